theorem NE0_mono {m : mx_M} {J Hl J' Hl' : Int} (h : NE0 m J Hl) (hJ : J + Hl ≤ J' + Hl') : NE0 m J' Hl' := by
  unfold NE0 at *; omega
theorem NE0_so {m : mx_M} {J Hl : Int} (h : NE0 m J Hl) (a b c d e f : Int32) : NE0 (mo_sendOff m a b c d e f) J Hl := NE0_f h (funext fun j => so_o2 _ _ _ _ _ _ _ (by decide)) (so_o2 _ _ _ _ _ _ _ (by decide)) (so_o2 _ _ _ _ _ _ _ (by decide))
theorem fromSub_n0 {m : mx_M} {J Hl : Int} (h : NE0 m J Hl) (h0 : 0 ≤ J ∧ 0 ≤ Hl) {D : Int} (hc : gC m D) (hi : iE m 1397) {t : Nat} (ht : t < 4) (k x y w : Int32) : NE0 (mo_fromSubscriber m (Int32.ofNat t) k x y w) (if k = 1 then J + 1 else J) Hl := by
  unfold mo_fromSubscriber
  split
  · rename_i h1
    have hi9 := iE_mono hi (show (1397 : Int) ≤ 1399 by decide)
    show NE0 (mo_join m (Int32.ofNat t)) _ _
    rw [mo_join_eq m ht hi]
    split
    · have g := gC_td hc hi9 ht
      exact NE0_jn (NE0_td h hi9 hc.1 ht) h0 (td_iE (by decide) hi ht) g.2.2.2.2 t
    · exact NE0_jn h h0 (iE_mono hi (by decide)) hc.2.2.2.2 t
  · split
    · exact h
    · split
      · split
        · exact NE0_td h (iE_mono hi (by decide)) hc.1 ht
        · split
          · split
            · exact NE0_so h _ _ _ _ _ _
            · split
              · exact NE0_so h _ _ _ _ _ _
              · split
                · exact NE0_so h _ _ _ _ _ _
                · split
                  · exact NE0_so h _ _ _ _ _ _
                  · exact h
          · exact h
      · exact h
theorem accDoes_n {m : mx_M} {J Hl : Int} (h : NE0 m (J - 1) Hl) (hi : iE m 1399) (hc : iC m) (kd x y : Int32) : NE0 (mo_accessDoes m kd x y) J Hl := by
  have hz (s : Nat) (hs : s < 4) (v : Int32) (i : Nat) : sum4 (nz (my_pi m 97 s v)) ≤ sum4 (nz m) + 1 := by
    have e := sum4_1 (f := nz m) (f' := nz (my_pi m 97 s v)) hs (fun s' hs' => by unfold nz; rw [qi_ne (by omega)])
    have := nz_r (my_pi m 97 s v) s
    have := nz_r m s
    omega
  unfold mo_accessDoes
  rw [mo_co_eq hc]
  split
  · rcases cof_cases (m.1 96) x with ⟨e, _⟩ | ⟨s, hs, e, e2, e3⟩
    · rw [e, if_pos neg1_lt]
      exact NE0_say h hi (by omega) _ _ _
    · rw [e, if_neg (of_nneg hs), of_cl s (by omega)]
      have := hz s hs y 0
      unfold NE0 at *
      have e1 : vpt (my_pi m 97 s y) 0 = vpt m 0 := by show ((my_pi m 97 s y).1 109 0).toInt = _; rw [qi_ne (by omega)]
      have e4 : vex (my_pi m 97 s y) 0 = vex m 0 := by show ((my_pi m 97 s y).1 110 0).toInt = _; rw [qi_ne (by omega)]
      dsimp only
      rw [e1, e4]
      omega
  · split
    · rcases cof_cases (m.1 96) x with ⟨e, _⟩ | ⟨s, hs, e, e2, e3⟩
      · rw [e, if_pos neg1_lt]; exact NE0_mono h (by omega)
      · rw [e, if_neg (of_nneg hs), of_cl s (by omega)]
        dsimp only
        refine NE0_so ?_ _ _ _ _ _ _
        have hr : sum4 (nz (my_pi (my_pi m 96 s 0) 97 s 0)) ≤ sum4 (nz m) := by
          have e := sum4_1 (f := nz m) (f' := nz (my_pi (my_pi m 96 s 0) 97 s 0)) hs (fun s' hs' => by unfold nz; rw [qi_ne (by omega), qi_ne (by omega)])
          have e2 : nz (my_pi (my_pi m 96 s 0) 97 s 0) s = 0 := by unfold nz; rw [qi_eq, if_pos rfl]
          have := nz_r m s
          omega
        unfold NE0 at *
        have e1 : vpt (my_pi (my_pi m 96 s 0) 97 s 0) 0 = vpt m 0 := by show ((my_pi (my_pi m 96 s 0) 97 s 0).1 109 0).toInt = _; rw [qi_ne (by omega), qi_ne (by omega)]
        have e4 : vex (my_pi (my_pi m 96 s 0) 97 s 0) 0 = vex m 0 := by show ((my_pi (my_pi m 96 s 0) 97 s 0).1 110 0).toInt = _; rw [qi_ne (by omega), qi_ne (by omega)]
        rw [e1, e4]
        omega
    · exact NE0_mono h (by omega)
theorem c340_n {m : mx_M} {J Hl : Int} (h : NE0 m J Hl) (hi : iE m 1397) (hc : iC m) (hx : 0 ≤ vex m 0 ∧ vex m 0 < 2147483647) (kd x y ch n kn : Int32) (hk : ch = m.1 106 0 → kn.toInt ≤ (m.1 108 0).toInt ∨ (m.1 108 0).toInt = (m.1 109 0).toInt) : NE0 (mo_control_34 1 m 0 kd x y ch n kn) J Hl := by
  rw [show mo_control_34 1 m 0 kd x y ch n kn = mo_control_34 1 m (Int32.ofNat 0) kd x y ch n kn from rfl, mo_c34_eq m (e := 0) (by decide)]
  have tr (M : mx_M) {J Hl : Int} (g : NE0 M J Hl) : NE0 (mo_transmit M (Int32.ofNat 0) (-1)) J Hl := NE0_f g (my_tr_o M (by decide) _ (by decide) (by decide)) (by rw [my_tr_o M (by decide) _ (by decide) (by decide)]) (by rw [my_tr_o M (by decide) _ (by decide) (by decide)])
  by_cases hch : ch = m.1 106 0
  · rw [if_pos hch]
    have so := (settle_f (e := 0) (by decide) hi kn).2
    have gi := settle_iE (e := 0) (by decide) (by decide) hi kn (hk hch)
    generalize mo_settle m 0 kn = M at *
    have g : NE0 M J Hl := NE0_f h (funext fun j => so 97 j (by decide) (by omega)) (so 109 0 (by decide) (by omega)) (so 110 0 (by decide) (by omega))
    have cM : iC M := iC_f hc (funext fun j => so 96 j (by decide) (by omega)) (funext fun j => so 97 j (by decide) (by omega))
    have xM : vex M 0 = vex m 0 := by show (M.1 110 0).toInt = _; rw [so 110 0 (by decide) (by omega)]
    split
    · exact g
    · split
      · refine tr _ ?_
        rw [if_pos rfl]
        refine accDoes_n ?_ (iE_mono (iE_w gi (by omega)) (by decide)) (iC_f cM (qi_row (by decide)) (qi_row (by decide))) _ _ _
        have vvM := vv M 0
        have e1 : vpt (my_pi M 110 0 (M.1 110 0 + 1)) 0 = vpt M 0 := by show ((my_pi M 110 0 (M.1 110 0 + 1)).1 109 0).toInt = _; rw [qi_ne (by omega)]
        have e2 : vex (my_pi M 110 0 (M.1 110 0 + 1)) 0 = vex M 0 + 1 := by show ((my_pi M 110 0 (M.1 110 0 + 1)).1 110 0).toInt = _; rw [qi_eq, i_p1 (by omega)]
        have e3 : nz (my_pi M 110 0 (M.1 110 0 + 1)) = nz M := nz_f (qi_row (by decide))
        unfold NE0 at *
        rw [e1, e2, e3]
        omega
      · exact tr _ g
  · rw [if_neg hch]; exact h
def NI7 (m : mx_M) (Hl tt : Int) : Prop := 0 ≤ (m.1 82 17).toInt ∧ 10 * Hl + (m.1 82 17).toInt ≤ tt
theorem tl_n {m : mx_M} {J Hl tt : Int} (h : NE0 m J Hl) (h7 : NI7 m Hl tt) (hH : 0 ≤ Hl) (htt : tt < 2147483646) (hi : iE m 1399) : ∃ a : Nat, NE0 (mo_tl m) J (Hl + a) ∧ NI7 (mo_tl m) (Hl + a) (tt + 1) := by
  have f0 (v : Int32) : NE0 (my_pi m 82 17 v) J Hl := NE0_f h (qi_row (by decide)) (qi_ne (by omega)) (qi_ne (by omega))
  have z7 (m' : mx_M) (hz : m'.1 82 17 = 0) : NI7 m' Hl (tt + 1) := by
    unfold NI7
    rw [hz, show (0 : Int32).toInt = 0 from rfl]
    have := h7.1; have := h7.2
    omega
  have e1 : (m.1 82 17 + 1).toInt = (m.1 82 17).toInt + 1 := i_p1 (by have := h7.1; have := h7.2; omega)
  unfold mo_tl
  split
  · split
    · split
      · rename_i h10
        refine ⟨1, NE0_f (NE0_say (f0 _) (iE_w hi (by omega)) (J' := J) (Hl' := Hl + 1) (by omega) 16 0 0) (qi_row (by decide)) (qi_ne (by omega)) (qi_ne (by omega)), ?_⟩
        unfold NI7
        rw [qi_eq, show (0 : Int32).toInt = 0 from rfl]
        rw [h10, show (10 : Int32).toInt = 10 from rfl] at e1
        have := h7.2
        omega
      · refine ⟨0, NE0_mono (f0 _) (by omega), ?_⟩
        unfold NI7
        rw [qi_eq, e1]
        have := h7.1; have := h7.2
        omega
    · refine ⟨0, NE0_mono (f0 _) (by omega), ?_⟩
      have := z7 (my_pi m 82 17 0) qi_eq
      unfold NI7 at *; omega
  · refine ⟨0, NE0_mono (f0 _) (by omega), ?_⟩
    have := z7 (my_pi m 82 17 0) qi_eq
    unfold NI7 at *; omega
theorem aT_n {m : mx_M} {D J Hl tt : Int} (h : NE0 m J Hl) (h7 : NI7 m Hl tt) (h0 : 0 ≤ J ∧ 0 ≤ Hl) (htt : tt < 2147483646) (hi : iE m 1399) (hc : gC m D) : ∃ a : Nat, NE0 (aT m) J (Hl + a) ∧ NI7 (aT m) (Hl + a) (tt + 1) := by
  unfold aT
  split
  · refine ⟨0, NE0_mono (NE0_f h (qi_row (by decide)) (qi_ne (by omega)) (qi_ne (by omega))) (by omega), ?_⟩
    unfold NI7 at *
    rw [qi_ne (by omega)]; omega
  · rw [mo_at_eq2]
    have hi' := iE_mono hi (show (1399 : Int) ≤ 1400 by decide)
    have hm := mo_et_0 hi' hc.1
    by_cases hb : mo_brk m 0
    · rw [hm.2 hb]
      unfold mo_bk0
      have cv := clear_v (my_pi m 112 0 (m.1 112 0 - 1)) (e := 0) (by decide) 0
      have cM : iC (mo_clear (my_pi m 112 0 (m.1 112 0 - 1)) 0 0) := bk0_iC hc.1
      have c17 : (mo_clear (my_pi m 112 0 (m.1 112 0 - 1)) 0 0).1 82 17 = m.1 82 17 := (clear_o (e := 0) _ (by decide) _ (by omega)).trans (qi_ne (by omega))
      have iM : iE (mo_clear (my_pi m 112 0 (m.1 112 0 - 1)) 0 0) 1399 := clear_iE (e := 0) (by decide) (by decide) (iE_w hi (i := 112) (k := 0) (v := m.1 112 0 - 1) (by omega)) 0
      have cv9 : (mo_clear (my_pi m 112 0 (m.1 112 0 - 1)) 0 0).1 109 0 = 0 := cv.2.2.2.1
      have cv10 : (mo_clear (my_pi m 112 0 (m.1 112 0 - 1)) 0 0).1 110 0 = 0 := cv.2.2.2.2
      generalize mo_clear (my_pi m 112 0 (m.1 112 0 - 1)) 0 0 = M at *
      have c0 := cl_iC cM (s := 0) (by decide)
      have c1 := cl_iC c0 (s := 1) (by decide)
      have c2 := cl_iC c1 (s := 2) (by decide)
      have z0 := (cl_z cM (s := 0) (by decide)).2
      have z1 := (cl_z c0 (s := 1) (by decide)).2
      have z2 := (cl_z c1 (s := 2) (by decide)).2
      have z3 := (cl_z c2 (s := 3) (by decide)).2
      have g : NE0 (mo_cl4 M) J Hl := by
        have e1 : vpt (mo_cl4 M) 0 = 0 := by show ((mo_cl4 M).1 109 0).toInt = _; rw [cl4_o (by omega), cv9]; rfl
        have e2 : vex (mo_cl4 M) 0 = 0 := by show ((mo_cl4 M).1 110 0).toInt = _; rw [cl4_o (by omega), cv10]; rfl
        have w0 : (mo_cl4 M).1 97 0 = 0 := (cl_o (m := mo_cl (mo_cl (mo_cl M 0) 1) 2) (s := 3) (by omega)).trans ((cl_o (m := mo_cl (mo_cl M 0) 1) (s := 2) (by omega)).trans ((cl_o (m := mo_cl M 0) (s := 1) (by omega)).trans z0))
        have w1 : (mo_cl4 M).1 97 1 = 0 := (cl_o (m := mo_cl (mo_cl (mo_cl M 0) 1) 2) (s := 3) (by omega)).trans ((cl_o (m := mo_cl (mo_cl M 0) 1) (s := 2) (by omega)).trans z1)
        have w2 : (mo_cl4 M).1 97 2 = 0 := (cl_o (m := mo_cl (mo_cl (mo_cl M 0) 1) 2) (s := 3) (by omega)).trans z2
        have w3 : (mo_cl4 M).1 97 3 = 0 := z3
        have n0 : nz (mo_cl4 M) 0 = 0 := if_pos w0
        have n1 : nz (mo_cl4 M) 1 = 0 := if_pos w1
        have n2 : nz (mo_cl4 M) 2 = 0 := if_pos w2
        have n3 : nz (mo_cl4 M) 3 = 0 := if_pos w3
        unfold NE0 sum4
        rw [e1, e2, n0, n1, n2, n3]
        omega
      refine tl_n g ?_ h0.2 htt (iE_f iM (fun i h1 h2 => funext fun j => cl4_o (by omega)))
      unfold NI7 at *
      rw [cl4_o (by omega), c17]; exact h7
    · rw [hm.1 hb]
      have oM (i j : Nat) (hij : ¬ (i = 85 ∨ ((i = 111 ∨ i = 112) ∧ j = 0))) : (mo_et0 m 0).1 i j = m.1 i j := et0_o (by decide) hi'.1 hij
      refine tl_n (NE0_f h (funext fun j => oM 97 j (by omega)) (oM 109 0 (by omega)) (oM 110 0 (by omega))) ?_ h0.2 htt (iE_f hi (fun i h1 h2 => funext fun j => oM i j (by omega)))
      unfold NI7 at *
      rw [oM 82 17 (by omega)]; exact h7
/-! the messages of the server -/
def NE1 (m : mx_M) (T R : Int) : Prop := vpt m 1 ≤ vex m 1 + T + R
theorem NE1_f {m m' : mx_M} {T R : Int} (h : NE1 m T R) (h9 : m'.1 109 1 = m.1 109 1) (h10 : m'.1 110 1 = m.1 110 1) : NE1 m' T R := by
  unfold NE1 at *
  have e1 : vpt m' 1 = vpt m 1 := by show (m'.1 109 1).toInt = _; rw [h9]
  have e2 : vex m' 1 = vex m 1 := by show (m'.1 110 1).toInt = _; rw [h10]
  rw [e1, e2]; exact h
theorem NE1_say {m : mx_M} {T R T' R' : Int} (h : NE1 m T R) (hi : iE m 1399) (hT : T + R + 1 ≤ T' + R') (k a b : Int32) : NE1 (mo_say m 1 k a b) T' R' := by
  have hp : vpt (mo_say m 1 k a b) 1 ≤ vpt m 1 + 1 := say_pt (e := 1) (by decide) hi k a b
  have hx : vex (mo_say m 1 k a b) 1 = vex m 1 := by
    show ((mo_say m (Int32.ofNat 1) k a b).1 110 1).toInt = _
    rw [say_o (e := 1) (by decide) hi.2 k a b (by omega)]
  unfold NE1 at *
  rw [hx]; omega
def scal (f : Nat → Int) : Nat → Int
  | 0 => 0
  | n + 1 => scal f n + f n
theorem scal_ext {f f' : Nat → Int} : ∀ n : Nat, (∀ j, j < n → f j = f' j) → scal f n = scal f' n := by
  intro n
  induction n with
  | zero => intro _; rfl
  | succ n ih =>
    intro h
    show scal f n + f n = scal f' n + f' n
    rw [ih (fun j hj => h j (by omega)), h n (by omega)]
theorem scal_nn {f : Nat → Int} : ∀ n : Nat, (∀ j, j < n → 0 ≤ f j) → 0 ≤ scal f n := by
  intro n
  induction n with
  | zero => intro _; exact Int.le_refl _
  | succ n ih =>
    intro h
    have := ih (fun j hj => h j (by omega))
    have := h n (by omega)
    show 0 ≤ scal f n + f n
    omega
theorem scal_up {f f' : Nat → Int} {k : Nat} : ∀ n : Nat, k < n → (∀ j, ¬ j = k → f' j = f j) → scal f' n = scal f n + f' k - f k := by
  intro n
  induction n with
  | zero => intro h _; omega
  | succ n ih =>
    intro h h2
    show scal f' n + f' n = scal f n + f n + f' k - f k
    by_cases hk : k = n
    · subst hk
      rw [scal_ext k (fun j hj => h2 j (by omega))]; omega
    · rw [ih (by omega) h2, h2 n (fun z => hk z.symm)]; omega
theorem scal_drop (f : Nat → Int) (k : Nat) : ∀ n : Nat, k ≤ n → scal (fun j => f (if k ≤ j then j + 1 else j)) n + f k = scal f (n + 1) := by
  intro n
  induction n with
  | zero =>
    intro h
    have : k = 0 := by omega
    subst this
    rfl
  | succ n ih =>
    intro h
    show scal (fun j => f (if k ≤ j then j + 1 else j)) n + f (if k ≤ n then n + 1 else n) + f k = scal f (n + 1) + f (n + 1)
    by_cases hk : k ≤ n
    · rw [if_pos hk]
      have := ih hk
      omega
    · have hkn : k = n + 1 := by omega
      rw [if_neg hk]
      have e : scal (fun j => f (if k ≤ j then j + 1 else j)) n = scal f n := scal_ext n (fun j hj => by rw [if_neg (by omega)])
      rw [e, hkn]
      rfl
def NC (m : mx_M) (T t2 : Int) : Prop := (∀ k : Nat, k < m.2.2.val → 0 ≤ (m.1 102 k).toInt) ∧ 12 * T + scal (fun k => (m.1 102 k).toInt) m.2.2.val ≤ t2
theorem NC_f {m m' : mx_M} {T t2 : Int} (h : NC m T t2) (h2 : m'.1 102 = m.1 102) (hs : m'.2.2 = m.2.2) : NC m' T t2 := by
  unfold NC; rw [h2, hs]; exact h
theorem NC_0 {m m' : mx_M} {T t2 : Int} (h : NC m T t2) (hs : m'.2.2.val = 0) : NC m' T t2 := by
  have := scal_nn (f := fun k => (m.1 102 k).toInt) m.2.2.val h.1
  refine ⟨fun k hk => by omega, ?_⟩
  rw [hs]
  show 12 * T + 0 ≤ t2
  have := h.2
  omega
theorem NC_rm {m : mx_M} {T t2 : Int} (h : NC m T t2) {k : Nat} (hk : k < m.2.2.val) : (∀ j : Nat, j < (mo_rm m k).2.2.val → 0 ≤ ((mo_rm m k).1 102 j).toInt) ∧ 12 * T + scal (fun j => ((mo_rm m k).1 102 j).toInt) (mo_rm m k).2.2.val + (m.1 102 k).toInt ≤ t2 := by
  have e (j : Nat) (hj : j + 1 < m.2.2.val) : (mo_rm m k).1 102 j = m.1 102 (if k ≤ j then j + 1 else j) := by
    show (if 98 ≤ 102 ∧ 102 < 103 ∧ k ≤ j ∧ j + 1 < m.2.2.val then m.1 102 (j + 1) else m.1 102 j) = _
    by_cases hz : k ≤ j
    · rw [if_pos ⟨by omega, by omega, hz, hj⟩, if_pos hz]
    · rw [if_neg (by omega), if_neg hz]
  rw [rm_cnt hk]
  obtain ⟨n, hn⟩ : ∃ n, m.2.2.val = n + 1 := ⟨m.2.2.val - 1, by omega⟩
  have h1 := h.1
  have h2 := h.2
  rw [hn] at h1 h2
  rw [hn, Nat.add_sub_cancel]
  refine ⟨fun j hj => ?_, ?_⟩
  · rw [e j (by omega)]
    split
    · exact h1 (j + 1) (by omega)
    · exact h1 j (by omega)
  · have es : scal (fun j => ((mo_rm m k).1 102 j).toInt) n = scal (fun j => (m.1 102 (if k ≤ j then j + 1 else j)).toInt) n := scal_ext n (fun j hj => by rw [e j (by omega)])
    have := scal_drop (fun j => (m.1 102 j).toInt) k n (by omega)
    rw [es]
    omega
theorem NC_end {m : mx_M} {T t2 : Int} (h : NC m T t2) {k : Nat} (hk : k < m.2.2.val) : NC (mo_endSession m (Int32.ofNat k)) T t2 := by
  rw [mo_endS_eq m hk]
  have g := NC_rm h hk
  have := h.1 k hk
  exact ⟨g.1, by omega⟩
theorem NE1_mono {m : mx_M} {T R T' R' : Int} (h : NE1 m T R) (hT : T + R ≤ T' + R') : NE1 m T' R' := by
  unfold NE1 at *; omega
theorem NC_mono {m : mx_M} {T t2 t2' : Int} (h : NC m T t2) (ht : t2 ≤ t2') : NC m T t2' := ⟨h.1, by have := h.2; omega⟩
/-- one calm is written -/
theorem NC_w {m : mx_M} {T t2 : Int} (h : NC m T t2) {k : Nat} (hk : k < m.2.2.val) {v : Int32} (hv : 0 ≤ v.toInt) : NC (my_pi m 102 k v) T (t2 + v.toInt - (m.1 102 k).toInt) := by
  have e := scal_up (f := fun j => (m.1 102 j).toInt) (f' := fun j => ((my_pi m 102 k v).1 102 j).toInt) (k := k) m.2.2.val hk (fun j hj => by rw [qi_ne (by omega)])
  have e2 : ((my_pi m 102 k v).1 102 k).toInt = v.toInt := by rw [qi_eq]
  refine ⟨fun j hj => ?_, ?_⟩
  · by_cases hjk : j = k
    · rw [hjk, e2]; exact hv
    · rw [qi_ne (by omega)]; exact h.1 j hj
  · show 12 * T + scal (fun j => ((my_pi m 102 k v).1 102 j).toInt) m.2.2.val ≤ _
    have := h.2
    rw [e]
    simp only [e2]
    omega
theorem login_n {m : mx_M} {T R t2 : Int} (h : NE1 m T R) (hc : NC m T t2) (hi : iE m 1399) {k : Nat} (hk : k < m.2.2.val) (u w : Int32) : ∃ r : Nat, r ≤ 1 ∧ NE1 (mo_login m (Int32.ofNat k) u w) T (R + r) ∧ NC (mo_login m (Int32.ofNat k) u w) T t2 := by
  have hb : m.2.2.val < 5 := m.2.2.isLt
  obtain ⟨l1, l2, l3, l4⟩ := mo_login_eq m (k := k) (by omega) u w
  by_cases s1 : m.1 100 k = 1
  · by_cases ok : lg_ok m u w
    · rw [l1 s1 ok]
      unfold lg_yes lg_ac
      exact ⟨0, by omega, NE1_mono (NE1_f h (by rw [my_send_o _ _ (by decide), qi_ne (by omega), qi_ne (by omega)]) (by rw [my_send_o _ _ (by decide), qi_ne (by omega), qi_ne (by omega)])) (by omega), NC_f hc (by rw [my_send_o _ _ (by decide), qi_row (by decide), qi_row (by decide)]) (by rw [my_send_s]; rfl)⟩
    · rw [l2 s1 ok]
      unfold lg_no
      have hk' : k < (my_send m (pk9 6 5 4 (m.1 99 k) 0 0 0 0 0)).2.2.val := by rw [my_send_s]; exact hk
      have eS := mo_endS_eq (my_send m (pk9 6 5 4 (m.1 99 k) 0 0 0 0 0)) hk'
      have c2 : NC (mo_endSession (my_send m (pk9 6 5 4 (m.1 99 k) 0 0 0 0 0)) (Int32.ofNat k)) T t2 := NC_end (NC_f hc (my_send_o _ _ (by decide)) (my_send_s _ _)) hk'
      have i2 : iE (mo_endSession (my_send m (pk9 6 5 4 (m.1 99 k) 0 0 0 0 0)) (Int32.ofNat k)) 1399 := by
        rw [eS]
        exact iE_f hi (fun i h1 h2 => by rw [rm_o (by omega), my_send_o _ _ (by omega)])
      have g : NE1 (mo_endSession (my_send m (pk9 6 5 4 (m.1 99 k) 0 0 0 0 0)) (Int32.ofNat k)) T R := by
        rw [eS]
        exact NE1_f h (by rw [rm_o (by omega), my_send_o _ _ (by decide)]) (by rw [rm_o (by omega), my_send_o _ _ (by decide)])
      refine ⟨1, by omega, NE1_say g i2 (by omega) _ _ _, NC_f c2 (funext fun j => ?_) (say_s (e := 1) (by decide) i2.2 15 (m.1 99 k) 0)⟩
      exact say_o (e := 1) (by decide) i2.2 15 (m.1 99 k) 0 (by omega)
  · by_cases s2 : m.1 100 k = 2
    · rw [l3 s2]
      unfold lg_ac
      exact ⟨0, by omega, NE1_mono (NE1_f h (by rw [my_send_o _ _ (by decide)]) (by rw [my_send_o _ _ (by decide)])) (by omega), NC_f hc (my_send_o _ _ (by decide)) (my_send_s _ _)⟩
    · rw [l4 s1 s2]; exact ⟨0, by omega, NE1_mono h (by omega), hc⟩
theorem toS_n {m : mx_M} {T R t2 : Int} (h : NE1 m T R) (hc : NC m T t2) (hi : iE m 1399) (hn : iNm m) (h0 : 0 ≤ (m.1 82 24).toInt) (kd n b w : Int32) : ∃ r : Nat, r ≤ 1 ∧ (r = 1 → kd = 4) ∧ NE1 (mo_toSession m kd n b w) T (R + r) ∧ NC (mo_toSession m kd n b w) T t2 := by
  have hb : m.2.2.val < 5 := m.2.2.isLt
  rcases mo_ixx hn n with ⟨k, hk, _, e⟩ | e
  · rw [mo_toS_eq m kd n b w h0 (k := k) (by omega) e]
    have g : NE1 (my_pi m 102 k 0) T R := NE1_f h (qi_ne (by omega)) (qi_ne (by omega))
    have c : NC (my_pi m 102 k 0) T t2 := NC_mono (NC_w hc hk (v := 0) (by decide)) (by rw [show (0 : Int32).toInt = 0 from rfl]; have := hc.1 k hk; omega)
    have fin (m' : mx_M) (h9 : m'.1 109 1 = (my_pi m 102 k 0).1 109 1) (h10 : m'.1 110 1 = (my_pi m 102 k 0).1 110 1) (h2 : m'.1 102 = (my_pi m 102 k 0).1 102) (hs : m'.2.2 = m.2.2) : ∃ r : Nat, r ≤ 1 ∧ (r = 1 → kd = 4) ∧ NE1 m' T (R + r) ∧ NC m' T t2 := ⟨0, by omega, fun z => by omega, NE1_mono (NE1_f g h9 h10) (by omega), NC_f c h2 hs⟩
    split
    · rename_i h4
      obtain ⟨r, r1, r2, r3⟩ := login_n g c (iE_w hi (by omega)) (k := k) hk b w
      exact ⟨r, r1, fun _ => h4, r2, r3⟩
    · split
      · exact fin _ (qi_ne (by omega)) (qi_ne (by omega)) (qi_row (by decide)) rfl
      · split
        · split
          · unfold cr_add
            exact fin _ (by rw [qi_ne (by omega), qi_ne (by omega), qi_ne (by omega)]) (by rw [qi_ne (by omega), qi_ne (by omega), qi_ne (by omega)]) (by rw [qi_row (by decide), qi_row (by decide), qi_row (by decide)]) rfl
          · exact fin _ (qi_ne (by omega)) (qi_ne (by omega)) (qi_row (by decide)) rfl
        · exact fin _ rfl rfl rfl rfl
  · have : mo_toSession m kd n b w = m := by
      unfold mo_toSession
      rw [e, if_pos neg1_lt]
    rw [this]
    exact ⟨0, by omega, fun z => by omega, NE1_mono h (by omega), hc⟩
theorem srvDoes_n {m : mx_M} {T R t2 : Int} (h : NE1 m (T - 1) R) (hc : NC m T t2) (hi : iE m 1399) (hn : iNm m) (kd x : Int32) : NE1 (mo_serverDoes m kd x) T R ∧ NC (mo_serverDoes m kd x) T t2 := by
  have hb : m.2.2.val < 5 := m.2.2.isLt
  have idn : NE1 m T R ∧ NC m T t2 := ⟨NE1_mono h (by omega), hc⟩
  unfold mo_serverDoes
  by_cases h15 : kd = 15
  · subst h15
    rw [if_pos rfl]
    simp only [show ¬ (15 : Int32) = 13 by decide, if_false]
    rcases mo_ixx hn x with ⟨k, hk, _, e⟩ | e
    · rw [e, if_neg (of_nneg (by omega))]
      refine ⟨?_, NC_end hc hk⟩
      rw [mo_endS_eq m hk]
      exact NE1_mono (NE1_f h (by rw [rm_o (by omega)]) (by rw [rm_o (by omega)])) (by omega)
    · rw [e, if_pos neg1_lt]; exact idn
  · rw [if_neg h15]
    split
    · split
      · exact ⟨NE1_say h hi (by omega) _ _ _, NC_f hc (funext fun j => say_o (e := 1) (by decide) hi.2 15 x 0 (by omega)) (say_s (e := 1) (by decide) hi.2 15 x 0)⟩
      · rename_i h4
        have h4' : ¬ m.2.2.val = 4 := fun z => h4 (by rw [z]; rfl)
        have e1 : Int32.ofNat m.2.2.val + 1 = Int32.ofNat (m.2.2.val + 1) := of_add _ 1
        simp only [show ∀ (q : mx_M) i k v, (my_pi q i k v).2 = q.2 from fun _ _ _ _ => rfl, of_cl m.2.2.val (show m.2.2.val < 2147483648 by omega), e1, qi_eq]
        generalize hM : my_ps (my_pi (my_pi (my_pi (my_pi (my_pi (my_pi m 82 29 (m.1 82 29 + 1)) 98 m.2.2.val (m.1 82 29 + 1)) 99 m.2.2.val x) 100 m.2.2.val 1) 101 m.2.2.val 0) 102 m.2.2.val 0) (Int32.ofNat (m.2.2.val + 1)) = M
        have Mo (i j : Nat) : M.1 i j = (my_pi (my_pi (my_pi (my_pi (my_pi (my_pi m 82 29 (m.1 82 29 + 1)) 98 m.2.2.val (m.1 82 29 + 1)) 99 m.2.2.val x) 100 m.2.2.val 1) 101 m.2.2.val 0) 102 m.2.2.val 0).1 i j := by rw [← hM]; rfl
        have Mc : M.2.2.val = m.2.2.val + 1 := by
          rw [← hM]
          show (Fin.ofNat 5 (Int32.ofNat (m.2.2.val + 1)).toNatClampNeg).val = _
          rw [of_cl _ (by omega)]
          simp [Fin.ofNat]; omega
        have M102 (j : Nat) : M.1 102 j = if j = m.2.2.val then 0 else m.1 102 j := by
          rw [Mo, qi_if]
          by_cases hj : j = m.2.2.val
          · rw [if_pos ⟨rfl, hj⟩, if_pos hj]
          · rw [if_neg (fun z => hj z.2), if_neg hj, qi_ne (by omega), qi_ne (by omega), qi_ne (by omega), qi_ne (by omega), qi_ne (by omega)]
        have Mx (i j : Nat) (hij : ¬ ((98 ≤ i ∧ i < 103) ∨ (i = 82 ∧ j = 29))) : M.1 i j = m.1 i j := by rw [Mo, qi_ne (by omega), qi_ne (by omega), qi_ne (by omega), qi_ne (by omega), qi_ne (by omega), qi_ne (by omega)]
        have hiM : iE M 1399 := iE_f hi (fun i h1 h2 => funext fun j => Mx i j (by omega))
        have cM : NC M T t2 := by
          refine ⟨fun j hj => ?_, ?_⟩
          · rw [Mc] at hj
            rw [M102]
            split
            · decide
            · exact hc.1 j (by omega)
          · rw [Mc]
            show 12 * T + (scal (fun j => (M.1 102 j).toInt) m.2.2.val + (M.1 102 m.2.2.val).toInt) ≤ t2
            have es : scal (fun j => (M.1 102 j).toInt) m.2.2.val = scal (fun j => (m.1 102 j).toInt) m.2.2.val := scal_ext _ (fun j hj => by rw [M102, if_neg (by omega)])
            rw [es, M102, if_pos rfl, show (0 : Int32).toInt = 0 from rfl]
            have := hc.2
            omega
        exact ⟨NE1_say (NE1_f h (Mx 109 1 (by omega)) (Mx 110 1 (by omega))) hiM (by omega) _ _ _, NC_f cM (funext fun j => say_o (e := 1) (by decide) hiM.2 14 x _ (by omega)) (say_s (e := 1) (by decide) hiM.2 14 x _)⟩
    · exact idn
theorem c341_n {m : mx_M} {T R t2 : Int} (h : NE1 m T R) (hc : NC m T t2) (hi : iE m 1397) (hn : iNm m) (hx : 0 ≤ vex m 1 ∧ vex m 1 < 2147483647) (kd x y ch n kn : Int32) (hk : ch = m.1 106 1 → kn.toInt ≤ (m.1 108 1).toInt ∨ (m.1 108 1).toInt = (m.1 109 1).toInt) : NE1 (mo_control_34 1 m 1 kd x y ch n kn) T R ∧ NC (mo_control_34 1 m 1 kd x y ch n kn) T t2 := by
  rw [show mo_control_34 1 m 1 kd x y ch n kn = mo_control_34 1 m (Int32.ofNat 1) kd x y ch n kn from rfl, mo_c34_eq m (e := 1) (by decide)]
  have tr (M : mx_M) (g : NE1 M T R ∧ NC M T t2) : NE1 (mo_transmit M (Int32.ofNat 1) (-1)) T R ∧ NC (mo_transmit M (Int32.ofNat 1) (-1)) T t2 :=
    ⟨NE1_f g.1 (by rw [my_tr_o M (by decide) _ (by decide) (by decide)]) (by rw [my_tr_o M (by decide) _ (by decide) (by decide)]), NC_f g.2 (my_tr_o M (by decide) _ (by decide) (by decide)) (by rw [mo_transmit_eq _ 1 (by decide) _ (by decide), my_send_s])⟩
  by_cases hch : ch = m.1 106 1
  · rw [if_pos hch]
    have so := settle_f (e := 1) (by decide) hi kn
    have gi := settle_iE (e := 1) (by decide) (by decide) hi kn (hk hch)
    obtain ⟨x1, x2, x3, x4, x5⟩ := exp_f (e := 1) (by decide) hi kn (hk hch)
    have nn := x3 hn
    generalize mo_settle m 1 kn = M at *
    have g : NE1 M T R ∧ NC M T t2 := ⟨NE1_f h (so.2 109 1 (by decide) (by omega)) (so.2 110 1 (by decide) (by omega)), NC_f hc (funext fun j => so.2 102 j (by decide) (by omega)) so.1⟩
    have xM : vex M 1 = vex m 1 := by show (M.1 110 1).toInt = _; rw [so.2 110 1 (by decide) (by omega)]
    split
    · exact g
    · split
      · refine tr _ ?_
        rw [if_neg (by decide)]
        refine srvDoes_n ?_ (NC_f g.2 (qi_row (by decide)) rfl) (iE_mono x1 (by decide)) nn _ _
        have vvM := vv M 1
        have e1 : vpt (my_pi M 110 1 (M.1 110 1 + 1)) 1 = vpt M 1 := by show ((my_pi M 110 1 (M.1 110 1 + 1)).1 109 1).toInt = _; rw [qi_ne (by omega)]
        have e2 : vex (my_pi M 110 1 (M.1 110 1 + 1)) 1 = vex M 1 + 1 := by show ((my_pi M 110 1 (M.1 110 1 + 1)).1 110 1).toInt = _; rw [qi_eq, i_p1 (by omega)]
        have g1 := g.1
        unfold NE1 at *
        rw [e1, e2]
        omega
      · exact tr _ g
  · rw [if_neg hch]; exact ⟨h, hc⟩
theorem stl_n {R : Int} : ∀ (n : Nat) (m : mx_M) (k : Nat) (T t2 : Int), NE1 m T R → NC m T t2 → 0 ≤ T → 0 ≤ R → t2 + ((m.2.2.val - k : Nat) : Int) < 2147483000 → k ≤ m.2.2.val → m.2.2.val - k < n → iE m (1399 - (m.2.2.val : Int)) → ∃ a : Nat, NE1 (mo_serverTimer_2 n m (Int32.ofNat k)) (T + a) R ∧ NC (mo_serverTimer_2 n m (Int32.ofNat k)) (T + a) (t2 + (m.2.2.val - k : Nat)) := by
  intro n
  induction n with
  | zero => intro m k T t2 h hc hT hR ht h1 h2 hi; omega
  | succ n ih =>
    intro m k T t2 h hc hT hR ht h1 h2 hi
    have hb : m.2.2.val < 5 := m.2.2.isLt
    by_cases hk : k < m.2.2.val
    · rw [mo_st_step n m hk]
      have c0 := hc.1 k hk
      have hsum := hc.2
      have hle : (m.1 102 k).toInt ≤ t2 := by
        have e := scal_up (f := fun j => (m.1 102 j).toInt) (f' := fun j => if j = k then 0 else (m.1 102 j).toInt) (k := k) m.2.2.val hk (fun j hj => by rw [if_neg hj])
        have nn := scal_nn (f := fun j => if j = k then 0 else (m.1 102 j).toInt) m.2.2.val (fun j hj => by split; omega; exact hc.1 j hj)
        simp only [if_true] at e
        omega
      have p1 : (m.1 102 k + 1).toInt = (m.1 102 k).toInt + 1 := i_p1 (by omega)
      by_cases h12 : m.1 102 k + 1 = 12
      · rw [if_pos h12]
        have b := iE_w hi (i := 102) (k := k) (v := m.1 102 k + 1) (by omega)
        have eS := mo_endS_eq (my_pi m 102 k (m.1 102 k + 1)) (a := k) hk
        have hE : iE (mo_endSession (my_pi m 102 k (m.1 102 k + 1)) (Int32.ofNat k)) 1399 := by
          rw [eS]
          exact iE_f (iE_mono b (by omega)) (fun i h1 h2 => rm_o (by omega))
        have gi := lgn_iE b (show 1399 - (m.2.2.val : Int) ≤ 1399 by omega) (k := k) hk (m.1 99 k)
        have t22 : (mo_say (mo_endSession (my_pi m 102 k (m.1 102 k + 1)) (Int32.ofNat k)) 1 15 (m.1 99 k) 0).2.2 = (mo_endSession (my_pi m 102 k (m.1 102 k + 1)) (Int32.ofNat k)).2.2 := say_s (e := 1) (by decide) hE.2 15 (m.1 99 k) 0
        have es : (mo_say (mo_endSession (my_pi m 102 k (m.1 102 k + 1)) (Int32.ofNat k)) 1 15 (m.1 99 k) 0).2.2.val = m.2.2.val - 1 := by
          rw [t22, eS]
          exact rm_cnt (m := my_pi m 102 k (m.1 102 k + 1)) hk
        have cw : NC (my_pi m 102 k (m.1 102 k + 1)) T (t2 + 1) := NC_mono (NC_w hc hk (v := m.1 102 k + 1) (by rw [p1]; omega)) (by rw [p1]; omega)
        have ce : NC (mo_endSession (my_pi m 102 k (m.1 102 k + 1)) (Int32.ofNat k)) (T + 1) (t2 + 1) := by
          rw [eS]
          have g := NC_rm cw (k := k) hk
          have e12 : ((my_pi m 102 k (m.1 102 k + 1)).1 102 k).toInt = 12 := by rw [qi_eq, h12]; rfl
          have g2 := g.2
          rw [e12] at g2
          exact ⟨g.1, by omega⟩
        have g1 : NE1 (mo_endSession (my_pi m 102 k (m.1 102 k + 1)) (Int32.ofNat k)) T R := by
          rw [eS]
          exact NE1_f h (by rw [rm_o (by omega), qi_ne (by omega)]) (by rw [rm_o (by omega), qi_ne (by omega)])
        have g2 := NE1_say g1 hE (T' := T + 1) (R' := R) (by omega) 15 (m.1 99 k) 0
        have c2 : NC (mo_say (mo_endSession (my_pi m 102 k (m.1 102 k + 1)) (Int32.ofNat k)) 1 15 (m.1 99 k) 0) (T + 1) (t2 + 1) := NC_f ce (funext fun j => say_o (e := 1) (by decide) hE.2 15 (m.1 99 k) 0 (by omega)) t22
        obtain ⟨a, r1, r2⟩ := ih _ k (T + 1) (t2 + 1) g2 c2 (by omega) hR (by rw [es]; omega) (by rw [es]; omega) (by rw [es]; omega) (by rw [es]; exact iE_mono gi (by omega))
        rw [es] at r2
        refine ⟨a + 1, ?_, ?_⟩
        · exact NE1_mono r1 (by omega)
        · have e1 : T + 1 + (a : Int) = T + ((a + 1 : Nat) : Int) := by omega
          rw [e1] at r2
          exact NC_mono r2 (by omega)
      · rw [if_neg h12]
        have ce : NC (mo_eat m k (m.1 102 k + 1)) T (t2 + 1) := by
          have cw : NC (my_pi m 102 k (m.1 102 k + 1)) T (t2 + 1) := NC_mono (NC_w hc hk (v := m.1 102 k + 1) (by rw [p1]; omega)) (by rw [p1]; omega)
          unfold mo_eat
          split
          · exact NC_f cw (my_send_o _ _ (by decide)) (my_send_s _ _)
          · split
            · exact NC_f cw (my_send_o _ _ (by decide)) (my_send_s _ _)
            · exact cw
        obtain ⟨a, r1, r2⟩ := ih (mo_eat m k (m.1 102 k + 1)) (k + 1) T (t2 + 1) (NE1_f h (eat_o (by omega)) (eat_o (by omega))) ce hT hR (by rw [eat_s]; omega) (by rw [eat_s]; omega) (by rw [eat_s]; omega) (by rw [eat_s]; exact iE_f hi (fun i h1 h2 => funext fun j => eat_o (by omega)))
        rw [eat_s] at r2
        exact ⟨a, r1, NC_mono r2 (by omega)⟩
    · rw [mo_serverTimer_2, if_neg (fun z => hk ((of_le (by omega) (by omega)).1 z))]
      have hi' := iE_mono hi (show 1399 - (m.2.2.val : Int) ≤ 1400 by omega)
      have hE := mo_endTimer_eq m (e := 1) (by decide) hi'.2
      show ∃ a : Nat, NE1 (mo_endTimer m 1) (T + a) R ∧ NC (mo_endTimer m 1) (T + a) _
      by_cases hbk : mo_brk m 1
      · have m1 : mo_endTimer m 1 = my_ps (mo_clear (my_pi m 112 1 (m.1 112 1 - 1)) 1 0) 0 := (hE.2 hbk).trans (if_neg (by decide))
        rw [m1]
        have cv := clear_v (my_pi m 112 1 (m.1 112 1 - 1)) (e := 1) (by decide) 0
        have c9 : (my_ps (mo_clear (my_pi m 112 1 (m.1 112 1 - 1)) 1 0) 0).1 109 1 = 0 := cv.2.2.2.1
        have c10 : (my_ps (mo_clear (my_pi m 112 1 (m.1 112 1 - 1)) 1 0) 0).1 110 1 = 0 := cv.2.2.2.2
        refine ⟨0, ?_, NC_mono (by rw [show T + ((0 : Nat) : Int) = T by omega]; exact NC_0 hc rfl) (by omega)⟩
        have e1 : vpt (my_ps (mo_clear (my_pi m 112 1 (m.1 112 1 - 1)) 1 0) 0) 1 = 0 := by show ((my_ps (mo_clear (my_pi m 112 1 (m.1 112 1 - 1)) 1 0) 0).1 109 1).toInt = _; rw [c9]; rfl
        have e2 : vex (my_ps (mo_clear (my_pi m 112 1 (m.1 112 1 - 1)) 1 0) 0) 1 = 0 := by show ((my_ps (mo_clear (my_pi m 112 1 (m.1 112 1 - 1)) 1 0) 0).1 110 1).toInt = _; rw [c10]; rfl
        unfold NE1
        rw [e1, e2]; omega
      · have m1 : mo_endTimer m 1 = mo_et0 m 1 := hE.1 hbk
        rw [m1]
        refine ⟨0, NE1_mono (NE1_f h (et0_o (by decide) hi'.2 (by omega)) (et0_o (by decide) hi'.2 (by omega))) (by omega), ?_⟩
        rw [show T + ((0 : Nat) : Int) = T by omega]
        exact NC_mono (NC_f hc (funext fun j => et0_o (by decide) hi'.2 (by omega)) (et0_s (by decide) hi'.2)) (by omega)
theorem vT_n {m : mx_M} {T R t2 : Int} (h : NE1 m T R) (hc : NC m T t2) (hT : 0 ≤ T) (hR : 0 ≤ R) (ht : t2 < 2147482000) (hi : iE m 1395) : ∃ a : Nat, NE1 (vT m) (T + a) R ∧ NC (vT m) (T + a) (t2 + 4) := by
  unfold vT
  split
  · refine ⟨0, NE1_mono (NE1_f h (qi_ne (by omega)) (qi_ne (by omega))) (by omega), ?_⟩
    rw [show T + ((0 : Nat) : Int) = T by omega]
    exact NC_mono (NC_f hc (qi_row (by decide)) rfl) (by omega)
  · have hb : m.2.2.val < 5 := m.2.2.isLt
    obtain ⟨a, r1, r2⟩ := stl_n (R := R) 6 m 0 T t2 h hc hT hR (by omega) (by omega) (by omega) (iE_mono hi (by omega))
    exact ⟨a, r1, NC_mono r2 (by omega)⟩
