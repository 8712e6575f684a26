def fz (m m' : mx_M) : Prop := m'.1 107 = m.1 107 ∧ m'.1 108 = m.1 108 ∧ m'.1 109 = m.1 109
theorem fz_rf (m : mx_M) : fz m m := ⟨rfl, rfl, rfl⟩
theorem fz_tr {a b c : mx_M} (h1 : fz a b) (h2 : fz b c) : fz a c := ⟨h2.1.trans h1.1, h2.2.1.trans h1.2.1, h2.2.2.trans h1.2.2⟩
theorem fz_fy {m m' : mx_M} (h : fy m m') : fz m m' := ⟨h.2 107 (by decide), h.2 108 (by decide), h.2 109 (by decide)⟩
theorem fz_pi (m : mx_M) (i k : Nat) (v : Int32) (h : ¬ i = 107 ∧ ¬ i = 108 ∧ ¬ i = 109) : fz m (my_pi m i k v) := ⟨mx_up_row _ _ _ _ (fun q => h.1 q.symm), mx_up_row _ _ _ _ (fun q => h.2.1 q.symm), mx_up_row _ _ _ _ (fun q => h.2.2 q.symm)⟩
theorem fz_ps (m : mx_M) (v : Int32) : fz m (my_ps m v) := ⟨rfl, rfl, rfl⟩
def mo_b (m : mx_M) (k : Int) : Prop := ∀ e : Nat, e < 2 → 0 ≤ (m.1 107 e).toInt ∧ (m.1 107 e).toInt ≤ (m.1 109 e).toInt ∧ 0 ≤ (m.1 108 e).toInt ∧ (m.1 109 e).toInt ≤ k
theorem mo_b_fz {m m' : mx_M} {k : Int} (hf : fz m m') (h : mo_b m k) : mo_b m' k := by
  intro e he
  rw [hf.1, hf.2.1, hf.2.2]
  exact h e he
theorem mo_b_mono {m : mx_M} {k k' : Int} (h : mo_b m k) (hk : k ≤ k') : mo_b m k' := by
  intro e he
  have := h e he
  omega
theorem mo_b_pi {m : mx_M} {k : Int} {i j : Nat} {v : Int32} (h : ¬ i = 107 ∧ ¬ i = 108 ∧ ¬ i = 109) (hb : mo_b m k) : mo_b (my_pi m i j v) k := mo_b_fz (fz_pi m i j v h) hb
theorem mo_e2 {e : Int32} (he : vp_in e 2) : e.toNatClampNeg < 2 := Nat.not_le.mp fun q => he (Or.inr q)
theorem mo_b_sy {m : mx_M} {k : Int} {e : Int32} (h : mo_b m k) (hk : k ≤ 1399) (he : vp_in e 2) : mo_sy m e := by
  have := h _ (mo_e2 he)
  exact ⟨he, by omega, by omega, by omega⟩
theorem mo_b_so {m : mx_M} {k : Int} {e : Int32} (h : mo_b m k) (hk : k ≤ 1400) (he : vp_in e 2) : mo_so m e := by
  have := h _ (mo_e2 he)
  exact ⟨he, by omega, by omega⟩
theorem mo_b_et {m : mx_M} {k : Int} {e : Int32} (h : mo_b m k) (hk : k ≤ 1399) (he : vp_in e 2) : mo_et m e := by
  have := h _ (mo_e2 he)
  exact ⟨he, by omega⟩
theorem mo_b_clear {m : mx_M} {k : Int} {e n : Int32} (h : mo_b m k) (hk : 0 ≤ k) : mo_b (mo_clear m e n) k := by
  intro e' he'
  have hb := h e' he'
  unfold mo_clear
  simp only [my_pi]
  by_cases hq : e' = e.toNatClampNeg
  · subst hq
    have z : (0 : Int32).toInt = 0 := rfl
    refine ⟨?_, ?_, ?_, ?_⟩ <;> (repeat (first | rw [mx_up_eq] | rw [mx_up_ne _ _ (by omega)])) <;> simp [z, hk]
  · refine ⟨?_, ?_, ?_, ?_⟩ <;> (repeat rw [mx_up_ne _ _ (by omega)]) <;> omega
theorem mo_b_sent {m : mx_M} {k : Int} {j : Nat} {v : Int32} (h : mo_b m k) (hv : 0 ≤ v.toInt) : mo_b (my_pi m 108 j v) k := by
  intro e he
  have hb := h e he
  simp only [my_pi]
  rw [mx_up_ne (a := 107) _ _ (by omega), mx_up_ne (a := 109) _ _ (by omega)]
  by_cases hq : e = j
  · subst hq; rw [mx_up_eq]; omega
  · rw [mx_up_ne (a := 108) _ _ (by omega)]; omega
theorem mo_b_soL (e : Int32) (he : vp_in e 2) (k : Int) (hk : k ≤ 1400) : ∀ (n : Nat) (m : mx_M), mo_b m k → mo_b (mo_sendOpen_0 n m e) k := by
  intro n
  induction n with
  | zero => intro m h; exact h
  | succ n ih =>
    intro m h
    unfold mo_sendOpen_0
    split
    · rename_i h1
      split
      · refine ih _ (mo_b_sent (mo_b_fz (fz_fy (fy_transmit _ _ _)) h) ?_)
        have hb := h _ (mo_e2 he)
        rw [i_lt] at h1
        rw [(fy_transmit m e (m.1 108 (Int32.toNatClampNeg e))).2 108 (by decide), i_add (show _ ≤ (m.1 108 e.toNatClampNeg).toInt + 1 by omega) (show (m.1 108 e.toNatClampNeg).toInt + 1 < _ by omega)]
        show 0 ≤ (m.1 108 e.toNatClampNeg).toInt + 1
        omega
      · exact h
    · exact h
theorem mo_sendOpen_eq (m : mx_M) (e : Int32) : mo_sendOpen m e = mo_sendOpen_0 1403 m e := rfl
theorem mo_b_sendOpen {m : mx_M} {k : Int} {e : Int32} (h : mo_b m k) (hk : k ≤ 1400) (he : vp_in e 2) : mo_b (mo_sendOpen m e) k := by
  rw [mo_sendOpen_eq]
  exact mo_b_soL e he k hk 1403 m h
theorem mo_b_put {m : mx_M} {k k' : Int} {j : Nat} {v : Int32} (h : mo_b m k) (hj : j < 2) (hv : v = m.1 109 j + 1) (hk : k + 1 ≤ k') (hk2 : k ≤ 1399) : mo_b (my_pi m 109 j v) k' := by
  intro e he
  have hb := h e he
  simp only [my_pi]
  rw [mx_up_ne (a := 107) _ _ (by omega), mx_up_ne (a := 108) _ _ (by omega)]
  by_cases hq : e = j
  · subst hq
    rw [mx_up_eq, hv, i_add (show _ ≤ (m.1 109 e).toInt + 1 by omega) (show (m.1 109 e).toInt + 1 < _ by omega)]
    show _ ∧ _ ≤ (m.1 109 e).toInt + 1 ∧ _ ∧ (m.1 109 e).toInt + 1 ≤ k'
    omega
  · rw [mx_up_ne (a := 109) _ _ (by omega)]; omega
theorem mo_b_say {m : mx_M} {k k' : Int} {e a b c : Int32} (h : mo_b m k) (hk : k + 1 ≤ k') (hk2 : k ≤ 1399) (he : vp_in e 2) : mo_b (mo_say m e a b c) k' := by
  have hk3 : k' ≤ 1400 ∨ 1400 < k' := by omega
  unfold mo_say
  split
  · exact mo_b_mono h (by omega)
  · dsimp only
    have h1 : ∀ (i : Nat), mo_b (my_pi (my_pi (my_pi m 113 i a) 114 i b) 115 i c) k := fun i => mo_b_pi (by decide) (mo_b_pi (by decide) (mo_b_pi (by decide) h))
    have h2 := fun i => mo_b_put (k' := k + 1) (h1 i) (mo_e2 he) rfl (Int.le_refl _) hk2
    split
    · exact mo_b_mono (mo_b_sendOpen (mo_b_pi (by decide) (mo_b_pi (by decide) (h2 _))) (by omega) he) hk
    · exact mo_b_mono (mo_b_sendOpen (h2 _) (by omega) he) hk
def mo_j (m : mx_M) (k : Int) (s : Int32) : Prop := vp_in s 4 ∧ mo_b m k
def mo_takeDown (m : mx_M) (a1 : Int32) : mx_M :=
  let m1 := my_pi m 96 (Int32.toNatClampNeg a1) 0
  let m2 := my_pi m1 97 (Int32.toNatClampNeg a1) 0
  if 0 < (m.1 97 (Int32.toNatClampNeg a1)) then
    let m3 := mo_say m2 0 15 (m.1 97 (Int32.toNatClampNeg a1)) 0
    m3
  else
    m2
def K_mo_takeDown : rx_K mx := k_RI (fun a0 a1 c m => (a0 = 82 ∧ mo_j m 1399 a1, (c, mo_takeDown m a1), none))
def L_mo_takeDown : List (rx_E mx) := [
  (0, .aload_n 0, 1, 0, 0, 0, [], kno),
  (1, .getfield 53, 3, 7, 1, 0, [], mgr 97),
  (4, .iload_n 1, 1, 0, 1, 0, [], kno),
  (5, .iaload, 1, 7, 2, 0, [], mai),
  (6, .istore_n 2, 1, 0, 2, 0, [], kno),
  (7, .aload_n 0, 1, 0, 0, 0, [], kno),
  (8, .getfield 50, 3, 7, 1, 0, [], mgr 96),
  (11, .iload_n 1, 1, 0, 1, 0, [], kno),
  (12, .iconst 0, 1, 0, 0, 0, [], kno),
  (13, .iastore, 1, 7, 3, 0, [], mpa),
  (14, .aload_n 0, 1, 0, 0, 0, [], kno),
  (15, .getfield 53, 3, 7, 1, 0, [], mgr 97),
  (18, .iload_n 1, 1, 0, 1, 0, [], kno),
  (19, .iconst 0, 1, 0, 0, 0, [], kno),
  (20, .iastore, 1, 7, 3, 0, [], mpa),
  (21, .iload_n 2, 1, 0, 2, 0, [], kno),
  (22, .ifCond .le 12, 3, 2, 23, 0, [], kno),
  (25, .aload_n 0, 1, 0, 0, 0, [], kno),
  (26, .iconst 0, 1, 0, 0, 0, [], kno),
  (27, .bipush 15, 2, 0, 0, 15, [], kno),
  (29, .iload_n 2, 1, 0, 2, 0, [], kno),
  (30, .iconst 0, 1, 0, 0, 0, [], kno),
  (31, .invokevirtual 149, 3, 7, 5, 0, [], K_mo_say),
  (34, .return_, 1, 6, 0, 0, [], kno)]
theorem E_mo_takeDown (c : mx_C) (m : mx_M) (a1 : Int32)  : rx_ev L_mo_takeDown [] 26 L_mo_takeDown (c, m) [some (.ref 82), some (.int a1), none] [] = ry_v c (mo_takeDown m a1) :=
  rx_ite2 (f := ry_v c) (fun h0 => rfl) (fun h0 => rfl)
theorem S_mo_takeDown (c : mx_C) (m : mx_M) (a1 : Int32) (hj : mo_j m 1399 a1) : rx_sf L_mo_takeDown [] 26 L_mo_takeDown (c, m) [some (.ref 82), some (.int a1), none] [] :=
  And.intro rfl (And.intro hj.1 (And.intro rfl (And.intro hj.1 (And.intro rfl (And.intro hj.1 (And.intro (fun h0 => And.intro (And.intro rfl (mo_b_sy (mo_b_pi (by decide) (mo_b_pi (by decide) hj.2)) (by decide) (i_in.mpr (by decide)))) (trivial)) (fun h0 => trivial)))))))

theorem cv_mo_say {p : Program} {l : Launch} {e : Env} {R : Room} {s : State} {m : MethodId} {args : Array Value} {below : List Frame} {meth : Method} {c : Code} {cc : ByteArray} {nL : Nat} {ad : Nat → Nat} {D : va_G} {g : Nat → ClassId} {B : Nat} {own : String} {idx : Nat} (X : ox_C p s m args c cc nL own D g ad B) (hV : rx_V l D g ad B ⟨"SubscriberLinesModel", "say", "(IIII)V"⟩ prog_12_method_8_code 6 none 3 73 K_mo_say) (hl : Cond.methodLink own idx ⟨"SubscriberLinesModel", "say", "(IIII)V"⟩ ∈ al) (hR : 3 + 1 ≤ R.frames ∧ 8 + (6 + 11) + 73 ≤ R.locals) : rx_OK p l e R s m args below meth c cc nL ad (mx_W D g ad B s.heap) mx_cs (.invokevirtual idx) 3 5 (K_mo_say) :=
  ox_callV (q := 9) (T := T_9) X hV (fun av x h => by obtain ⟨a0, a1, a2, a3, a4, rfl⟩ := k_RIIII_inv h; exact ⟨a0, _, rfl, by have h2 : a0 = 82 := h.1; rw [h2]; rfl⟩) (by decide) rfl hl (al_at 904 (by decide +kernel) rfl) (al_pr (y := (⟨"SubscriberLinesModel", "say", "(IIII)V"⟩, _)) 47 rfl) (al_at 12 (by decide +kernel) rfl) (al_at 905 (by decide +kernel) rfl) ⟨by decide, by decide, by decide +kernel⟩ hR
theorem ok_mo_takeDown : rx_okF prog_12_method_14_code 3 none L_mo_takeDown 0 L_mo_takeDown = true := by decide +kernel
theorem V_mo_takeDown {l : Launch} {D : va_G} {g : Nat → ClassId} {ad : Nat → Nat} {B : Nat} (had : mx_A ad B) : rx_V l D g ad B ⟨"SubscriberLinesModel", "takeDown", "(I)V"⟩ prog_12_method_14_code 3 none 4 98 K_mo_takeDown := by
  intro av x hp
  obtain ⟨a0, a1, rfl⟩ := k_RI_inv hp
  have hp : a0 = 82 ∧ mo_j x.2 1399 a1 := hp
  have h0 : a0 = 82 := hp.1
  subst h0
  exact rx_met (k := 1) had (by decide) (Nat.le_of_ble_eq_true rfl) ok_mo_takeDown rfl rfl 26 (fun p e s m args below meth c X => And.intro (og_mo_53_g X) (And.intro (oy_ai X) (And.intro (og_mo_50_g X) (And.intro (oy_pa X) (And.intro (og_mo_53_g X) (And.intro (oy_pa X) (And.intro (cv_mo_say X (V_mo_say had) (al_at 902 (by decide +kernel) rfl) ⟨by decide, by decide⟩) (trivial)))))))) (S_mo_takeDown x.1 x.2 a1 hp.2) (E_mo_takeDown x.1 x.2 a1)
theorem mo_b_takeDown {m : mx_M} {k k' : Int} {s : Int32} (h : mo_b m k) (hk : k + 1 ≤ k') (hk2 : k ≤ 1399) : mo_b (mo_takeDown m s) k' := by
  unfold mo_takeDown
  dsimp only
  split
  · exact mo_b_say (mo_b_pi (by decide) (mo_b_pi (by decide) h)) hk hk2 (i_in.mpr (by decide))
  · exact mo_b_mono (mo_b_pi (by decide) (mo_b_pi (by decide) h)) (by omega)
def mo_join (m : mx_M) (a1 : Int32) : mx_M :=
  if 0 < (m.1 96 (Int32.toNatClampNeg a1)) then
    let m1 := mo_takeDown m a1
    let m2 := my_pi m1 82 28 ((m1.1 82 28) + 1)
    let m3 := my_pi m2 96 (Int32.toNatClampNeg a1) (m2.1 82 28)
    let m4 := mo_sendOff m3 2 4 a1 (m3.1 82 28) 0 0
    if (m4.1 106 0) = 0 then
      let m5 := my_pi m4 82 30 ((m4.1 82 30) + 1)
      let m6 := mo_clear m5 0 (m5.1 82 30)
      let m7 := my_pi m6 82 17 0
      let m8 := mo_say m7 0 12 0 0
      let m9 := mo_say m8 0 13 (m8.1 96 (Int32.toNatClampNeg a1)) 0
      m9
    else
      let m10 := mo_say m4 0 13 (m4.1 96 (Int32.toNatClampNeg a1)) 0
      m10
  else
    let m11 := my_pi m 82 28 ((m.1 82 28) + 1)
    let m12 := my_pi m11 96 (Int32.toNatClampNeg a1) (m11.1 82 28)
    let m13 := mo_sendOff m12 2 4 a1 (m12.1 82 28) 0 0
    if (m13.1 106 0) = 0 then
      let m14 := my_pi m13 82 30 ((m13.1 82 30) + 1)
      let m15 := mo_clear m14 0 (m14.1 82 30)
      let m16 := my_pi m15 82 17 0
      let m17 := mo_say m16 0 12 0 0
      let m18 := mo_say m17 0 13 (m17.1 96 (Int32.toNatClampNeg a1)) 0
      m18
    else
      let m19 := mo_say m13 0 13 (m13.1 96 (Int32.toNatClampNeg a1)) 0
      m19
def K_mo_join : rx_K mx := k_RI (fun a0 a1 c m => (a0 = 82 ∧ mo_j m 1397 a1, (c, mo_join m a1), none))
def L_mo_join : List (rx_E mx) := [
  (0, .aload_n 0, 1, 0, 0, 0, [], kno),
  (1, .getfield 50, 3, 7, 1, 0, [], mgr 96),
  (4, .iload_n 1, 1, 0, 1, 0, [], kno),
  (5, .iaload, 1, 7, 2, 0, [], mai),
  (6, .ifCond .le 8, 3, 2, 8, 0, [], kno),
  (9, .aload_n 0, 1, 0, 0, 0, [], kno),
  (10, .iload_n 1, 1, 0, 1, 0, [], kno),
  (11, .invokevirtual 153, 3, 7, 2, 0, [], K_mo_takeDown),
  (14, .aload_n 0, 1, 0, 0, 0, [], kno),
  (15, .dup, 1, 0, 0, 0, [], kno),
  (16, .getfield 156, 3, 7, 1, 0, [], mgi 28),
  (19, .iconst 1, 1, 0, 0, 1, [], kno),
  (20, .iadd, 1, 0, 0, 0, [], kno),
  (21, .putfield 156, 3, 7, 2, 0, [], mpi 28),
  (24, .aload_n 0, 1, 0, 0, 0, [], kno),
  (25, .getfield 50, 3, 7, 1, 0, [], mgr 96),
  (28, .iload_n 1, 1, 0, 1, 0, [], kno),
  (29, .aload_n 0, 1, 0, 0, 0, [], kno),
  (30, .getfield 156, 3, 7, 1, 0, [], mgi 28),
  (33, .iastore, 1, 7, 3, 0, [], mpa),
  (34, .aload_n 0, 1, 0, 0, 0, [], kno),
  (35, .iconst 2, 1, 0, 0, 2, [], kno),
  (36, .iconst 4, 1, 0, 0, 4, [], kno),
  (37, .iload_n 1, 1, 0, 1, 0, [], kno),
  (38, .aload_n 0, 1, 0, 0, 0, [], kno),
  (39, .getfield 156, 3, 7, 1, 0, [], mgi 28),
  (42, .iconst 0, 1, 0, 0, 0, [], kno),
  (43, .iconst 0, 1, 0, 0, 0, [], kno),
  (44, .invokevirtual 138, 3, 7, 7, 0, [], K_mo_sendOff),
  (47, .aload_n 0, 1, 0, 0, 0, [], kno),
  (48, .getfield 80, 3, 7, 1, 0, [], mgr 106),
  (51, .iconst 0, 1, 0, 0, 0, [], kno),
  (52, .iaload, 1, 7, 2, 0, [], mai),
  (53, .ifCond .ne 36, 3, 2, 54, 0, [], kno),
  (56, .aload_n 0, 1, 0, 0, 0, [], kno),
  (57, .dup, 1, 0, 0, 0, [], kno),
  (58, .getfield 159, 3, 7, 1, 0, [], mgi 30),
  (61, .iconst 1, 1, 0, 0, 1, [], kno),
  (62, .iadd, 1, 0, 0, 0, [], kno),
  (63, .putfield 159, 3, 7, 2, 0, [], mpi 30),
  (66, .aload_n 0, 1, 0, 0, 0, [], kno),
  (67, .iconst 0, 1, 0, 0, 0, [], kno),
  (68, .aload_n 0, 1, 0, 0, 0, [], kno),
  (69, .getfield 159, 3, 7, 1, 0, [], mgi 30),
  (72, .invokevirtual 129, 3, 7, 3, 0, [], K_mo_clear),
  (75, .aload_n 0, 1, 0, 0, 0, [], kno),
  (76, .iconst 0, 1, 0, 0, 0, [], kno),
  (77, .putfield 162, 3, 7, 2, 0, [], mpi 17),
  (80, .aload_n 0, 1, 0, 0, 0, [], kno),
  (81, .iconst 0, 1, 0, 0, 0, [], kno),
  (82, .bipush 12, 2, 0, 0, 12, [], kno),
  (84, .iconst 0, 1, 0, 0, 0, [], kno),
  (85, .iconst 0, 1, 0, 0, 0, [], kno),
  (86, .invokevirtual 149, 3, 7, 5, 0, [], K_mo_say),
  (89, .aload_n 0, 1, 0, 0, 0, [], kno),
  (90, .iconst 0, 1, 0, 0, 0, [], kno),
  (91, .bipush 13, 2, 0, 0, 13, [], kno),
  (93, .aload_n 0, 1, 0, 0, 0, [], kno),
  (94, .getfield 50, 3, 7, 1, 0, [], mgr 96),
  (97, .iload_n 1, 1, 0, 1, 0, [], kno),
  (98, .iaload, 1, 7, 2, 0, [], mai),
  (99, .iconst 0, 1, 0, 0, 0, [], kno),
  (100, .invokevirtual 149, 3, 7, 5, 0, [], K_mo_say),
  (103, .return_, 1, 6, 0, 0, [], kno)]
theorem E_mo_join (c : mx_C) (m : mx_M) (a1 : Int32)  : rx_ev L_mo_join [] 66 L_mo_join (c, m) [some (.ref 82), some (.int a1)] [] = ry_v c (mo_join m a1) :=
  rx_ite2 (f := ry_v c) (fun h0 => rx_ite2 (f := ry_v c) (fun h1 => rfl) (fun h1 => rfl)) (fun h0 => rx_ite2 (f := ry_v c) (fun h1 => rfl) (fun h1 => rfl))
theorem S_mo_join (c : mx_C) (m : mx_M) (a1 : Int32) (hj : mo_j m 1397 a1) : rx_sf L_mo_join [] 66 L_mo_join (c, m) [some (.ref 82), some (.int a1)] [] :=
  And.intro rfl (And.intro hj.1 (And.intro (fun h0 => And.intro (And.intro rfl (And.intro hj.1 (mo_b_mono hj.2 (by decide)))) (And.intro rfl (And.intro rfl (And.intro rfl (And.intro rfl (And.intro hj.1 (And.intro rfl (And.intro rfl (And.intro rfl (And.intro (i_in.mpr (by decide)) (And.intro (fun h1 => And.intro rfl (And.intro rfl (And.intro rfl (And.intro (And.intro rfl (i_in.mpr (by decide))) (And.intro rfl (And.intro (And.intro rfl (mo_b_sy (k := 1398) (mo_b_pi (by decide) (mo_b_clear (mo_b_pi (by decide) (mo_b_fz (fz_fy (fy_sendOff _ _ _ _ _ _ _)) (mo_b_pi (by decide) (mo_b_pi (by decide) (mo_b_takeDown (k := 1397) (k' := 1398) hj.2 (by decide) (by decide)))))) (by decide))) (by decide) (i_in.mpr (by decide)))) (And.intro rfl (And.intro hj.1 (And.intro (And.intro rfl (mo_b_sy (k := 1399) (mo_b_say (k := 1398) (k' := 1399) (mo_b_pi (by decide) (mo_b_clear (mo_b_pi (by decide) (mo_b_fz (fz_fy (fy_sendOff _ _ _ _ _ _ _)) (mo_b_pi (by decide) (mo_b_pi (by decide) (mo_b_takeDown (k := 1397) (k' := 1398) hj.2 (by decide) (by decide)))))) (by decide))) (by decide) (by decide) (i_in.mpr (by decide))) (by decide) (i_in.mpr (by decide)))) (trivial)))))))))) (fun h1 => And.intro rfl (And.intro hj.1 (And.intro (And.intro rfl (mo_b_sy (k := 1398) (mo_b_fz (fz_fy (fy_sendOff _ _ _ _ _ _ _)) (mo_b_pi (by decide) (mo_b_pi (by decide) (mo_b_takeDown (k := 1397) (k' := 1398) hj.2 (by decide) (by decide))))) (by decide) (i_in.mpr (by decide)))) (trivial))))))))))))))) (fun h0 => And.intro rfl (And.intro rfl (And.intro rfl (And.intro rfl (And.intro hj.1 (And.intro rfl (And.intro rfl (And.intro rfl (And.intro (i_in.mpr (by decide)) (And.intro (fun h1 => And.intro rfl (And.intro rfl (And.intro rfl (And.intro (And.intro rfl (i_in.mpr (by decide))) (And.intro rfl (And.intro (And.intro rfl (mo_b_sy (k := 1397) (mo_b_pi (by decide) (mo_b_clear (mo_b_pi (by decide) (mo_b_fz (fz_fy (fy_sendOff _ _ _ _ _ _ _)) (mo_b_pi (by decide) (mo_b_pi (by decide) hj.2)))) (by decide))) (by decide) (i_in.mpr (by decide)))) (And.intro rfl (And.intro hj.1 (And.intro (And.intro rfl (mo_b_sy (k := 1398) (mo_b_say (k := 1397) (k' := 1398) (mo_b_pi (by decide) (mo_b_clear (mo_b_pi (by decide) (mo_b_fz (fz_fy (fy_sendOff _ _ _ _ _ _ _)) (mo_b_pi (by decide) (mo_b_pi (by decide) hj.2)))) (by decide))) (by decide) (by decide) (i_in.mpr (by decide))) (by decide) (i_in.mpr (by decide)))) (trivial)))))))))) (fun h1 => And.intro rfl (And.intro hj.1 (And.intro (And.intro rfl (mo_b_sy (k := 1397) (mo_b_fz (fz_fy (fy_sendOff _ _ _ _ _ _ _)) (mo_b_pi (by decide) (mo_b_pi (by decide) hj.2))) (by decide) (i_in.mpr (by decide)))) (trivial))))))))))))))))

theorem cv_mo_takeDown {p : Program} {l : Launch} {e : Env} {R : Room} {s : State} {m : MethodId} {args : Array Value} {below : List Frame} {meth : Method} {c : Code} {cc : ByteArray} {nL : Nat} {ad : Nat → Nat} {D : va_G} {g : Nat → ClassId} {B : Nat} {own : String} {idx : Nat} (X : ox_C p s m args c cc nL own D g ad B) (hV : rx_V l D g ad B ⟨"SubscriberLinesModel", "takeDown", "(I)V"⟩ prog_12_method_14_code 3 none 4 98 K_mo_takeDown) (hl : Cond.methodLink own idx ⟨"SubscriberLinesModel", "takeDown", "(I)V"⟩ ∈ al) (hR : 4 + 1 ≤ R.frames ∧ 8 + (3 + 11) + 98 ≤ R.locals) : rx_OK p l e R s m args below meth c cc nL ad (mx_W D g ad B s.heap) mx_cs (.invokevirtual idx) 3 2 (K_mo_takeDown) :=
  ox_callV (q := 9) (T := T_9) X hV (fun av x h => by obtain ⟨a0, a1, rfl⟩ := k_RI_inv h; exact ⟨a0, _, rfl, by have h2 : a0 = 82 := h.1; rw [h2]; rfl⟩) (by decide) rfl hl (al_at 943 (by decide +kernel) rfl) (al_pr (y := (⟨"SubscriberLinesModel", "takeDown", "(I)V"⟩, _)) 56 rfl) (al_at 12 (by decide +kernel) rfl) (al_at 944 (by decide +kernel) rfl) ⟨by decide, by decide, by decide +kernel⟩ hR
theorem og_mo_156_g {p : Program} {l : Launch} {e : Env} {R : Room} {s : State} {m : MethodId} {args : Array Value} {below : List Frame} {meth : Method} {c : Code} {cc : ByteArray} {nL : Nat} {ad : Nat → Nat} {D : va_G} {g : Nat → ClassId} {B : Nat} (X : ox_C p s m args c cc nL "SubscriberLinesModel" D g ad B) : rx_OK p l e R s m args below meth c cc nL ad (mx_W D g ad B s.heap) mx_cs (.getfield 156) 3 1 (mgi 28) := oy_gi X (by decide) rfl (al_at 739 (by decide +kernel) rfl)
theorem og_mo_156_p {p : Program} {l : Launch} {e : Env} {R : Room} {s : State} {m : MethodId} {args : Array Value} {below : List Frame} {meth : Method} {c : Code} {cc : ByteArray} {nL : Nat} {ad : Nat → Nat} {D : va_G} {g : Nat → ClassId} {B : Nat} (X : ox_C p s m args c cc nL "SubscriberLinesModel" D g ad B) : rx_OK p l e R s m args below meth c cc nL ad (mx_W D g ad B s.heap) mx_cs (.putfield 156) 3 2 (mpi 28) := oy_pi X (by decide) rfl rfl rfl (al_at 739 (by decide +kernel) rfl)
theorem og_mo_159_g {p : Program} {l : Launch} {e : Env} {R : Room} {s : State} {m : MethodId} {args : Array Value} {below : List Frame} {meth : Method} {c : Code} {cc : ByteArray} {nL : Nat} {ad : Nat → Nat} {D : va_G} {g : Nat → ClassId} {B : Nat} (X : ox_C p s m args c cc nL "SubscriberLinesModel" D g ad B) : rx_OK p l e R s m args below meth c cc nL ad (mx_W D g ad B s.heap) mx_cs (.getfield 159) 3 1 (mgi 30) := oy_gi X (by decide) rfl (al_at 741 (by decide +kernel) rfl)
theorem og_mo_159_p {p : Program} {l : Launch} {e : Env} {R : Room} {s : State} {m : MethodId} {args : Array Value} {below : List Frame} {meth : Method} {c : Code} {cc : ByteArray} {nL : Nat} {ad : Nat → Nat} {D : va_G} {g : Nat → ClassId} {B : Nat} (X : ox_C p s m args c cc nL "SubscriberLinesModel" D g ad B) : rx_OK p l e R s m args below meth c cc nL ad (mx_W D g ad B s.heap) mx_cs (.putfield 159) 3 2 (mpi 30) := oy_pi X (by decide) rfl rfl rfl (al_at 741 (by decide +kernel) rfl)
theorem og_mo_162_p {p : Program} {l : Launch} {e : Env} {R : Room} {s : State} {m : MethodId} {args : Array Value} {below : List Frame} {meth : Method} {c : Code} {cc : ByteArray} {nL : Nat} {ad : Nat → Nat} {D : va_G} {g : Nat → ClassId} {B : Nat} (X : ox_C p s m args c cc nL "SubscriberLinesModel" D g ad B) : rx_OK p l e R s m args below meth c cc nL ad (mx_W D g ad B s.heap) mx_cs (.putfield 162) 3 2 (mpi 17) := oy_pi X (by decide) rfl rfl rfl (al_at 728 (by decide +kernel) rfl)
theorem ok_mo_join : rx_okF prog_12_method_15_code 2 none L_mo_join 0 L_mo_join = true := by decide +kernel
theorem V_mo_join {l : Launch} {D : va_G} {g : Nat → ClassId} {ad : Nat → Nat} {B : Nat} (had : mx_A ad B) : rx_V l D g ad B ⟨"SubscriberLinesModel", "join", "(I)V"⟩ prog_12_method_15_code 2 none 5 120 K_mo_join := by
  intro av x hp
  obtain ⟨a0, a1, rfl⟩ := k_RI_inv hp
  have hp : a0 = 82 ∧ mo_j x.2 1397 a1 := hp
  have h0 : a0 = 82 := hp.1
  subst h0
  exact rx_met (k := 0) had (by decide) (Nat.le_of_ble_eq_true rfl) ok_mo_join rfl rfl 66 (fun p e s m args below meth c X => And.intro (og_mo_50_g X) (And.intro (oy_ai X) (And.intro (cv_mo_takeDown X (V_mo_takeDown had) (al_at 941 (by decide +kernel) rfl) ⟨by decide, by decide⟩) (And.intro (og_mo_156_g X) (And.intro (og_mo_156_p X) (And.intro (og_mo_50_g X) (And.intro (og_mo_156_g X) (And.intro (oy_pa X) (And.intro (og_mo_156_g X) (And.intro (cv_mo_sendOff X (V_mo_sendOff had) (al_at 858 (by decide +kernel) rfl) ⟨by decide, by decide⟩) (And.intro (og_mo_80_g X) (And.intro (oy_ai X) (And.intro (og_mo_159_g X) (And.intro (og_mo_159_p X) (And.intro (og_mo_159_g X) (And.intro (cv_mo_clear X (V_mo_clear had) (al_at 882 (by decide +kernel) rfl) ⟨by decide, by decide⟩) (And.intro (og_mo_162_p X) (And.intro (cv_mo_say X (V_mo_say had) (al_at 902 (by decide +kernel) rfl) ⟨by decide, by decide⟩) (And.intro (og_mo_50_g X) (And.intro (oy_ai X) (And.intro (cv_mo_say X (V_mo_say had) (al_at 902 (by decide +kernel) rfl) ⟨by decide, by decide⟩) (trivial)))))))))))))))))))))) (S_mo_join x.1 x.2 a1 hp.2) (E_mo_join x.1 x.2 a1)
def mo_off (m : mx_M) (a1 : Int32) : mx_M :=
  let m1 := my_pi m 86 (Int32.toNatClampNeg a1) 0
  let m2 := my_pi m1 87 (Int32.toNatClampNeg a1) 0
  let m3 := my_pi m2 90 (Int32.toNatClampNeg a1) 0
  m3
def K_mo_off : rx_K mx := k_RI (fun a0 a1 c m => (a0 = 82 ∧ vp_in a1 4, (c, mo_off m a1), none))
def L_mo_off : List (rx_E mx) := [
  (0, .aload_n 0, 1, 0, 0, 0, [], kno),
  (1, .getfield 20, 3, 7, 1, 0, [], mgr 86),
  (4, .iload_n 1, 1, 0, 1, 0, [], kno),
  (5, .iconst 0, 1, 0, 0, 0, [], kno),
  (6, .iastore, 1, 7, 3, 0, [], mpa),
  (7, .aload_n 0, 1, 0, 0, 0, [], kno),
  (8, .getfield 23, 3, 7, 1, 0, [], mgr 87),
  (11, .iload_n 1, 1, 0, 1, 0, [], kno),
  (12, .iconst 0, 1, 0, 0, 0, [], kno),
  (13, .iastore, 1, 7, 3, 0, [], mpa),
  (14, .aload_n 0, 1, 0, 0, 0, [], kno),
  (15, .getfield 32, 3, 7, 1, 0, [], mgr 90),
  (18, .iload_n 1, 1, 0, 1, 0, [], kno),
  (19, .iconst 0, 1, 0, 0, 0, [], kno),
  (20, .iastore, 1, 7, 3, 0, [], mpa),
  (21, .return_, 1, 6, 0, 0, [], kno)]
theorem E_mo_off (c : mx_C) (m : mx_M) (a1 : Int32)  : rx_ev L_mo_off [] 18 L_mo_off (c, m) [some (.ref 82), some (.int a1)] [] = ry_v c (mo_off m a1) :=
  rfl
theorem S_mo_off (c : mx_C) (m : mx_M) (a1 : Int32) (hs : vp_in a1 4) : rx_sf L_mo_off [] 18 L_mo_off (c, m) [some (.ref 82), some (.int a1)] [] :=
  And.intro rfl (And.intro hs (And.intro rfl (And.intro hs (And.intro rfl (And.intro hs (trivial))))))

theorem og_mo_20_g {p : Program} {l : Launch} {e : Env} {R : Room} {s : State} {m : MethodId} {args : Array Value} {below : List Frame} {meth : Method} {c : Code} {cc : ByteArray} {nL : Nat} {ad : Nat → Nat} {D : va_G} {g : Nat → ClassId} {B : Nat} (X : ox_C p s m args c cc nL "SubscriberLinesModel" D g ad B) : rx_OK p l e R s m args below meth c cc nL ad (mx_W D g ad B s.heap) mx_cs (.getfield 20) 3 1 (mgr 86) := oy_gr (k := 5) X (by decide) rfl (al_at 716 (by decide +kernel) rfl)
theorem og_mo_23_g {p : Program} {l : Launch} {e : Env} {R : Room} {s : State} {m : MethodId} {args : Array Value} {below : List Frame} {meth : Method} {c : Code} {cc : ByteArray} {nL : Nat} {ad : Nat → Nat} {D : va_G} {g : Nat → ClassId} {B : Nat} (X : ox_C p s m args c cc nL "SubscriberLinesModel" D g ad B) : rx_OK p l e R s m args below meth c cc nL ad (mx_W D g ad B s.heap) mx_cs (.getfield 23) 3 1 (mgr 87) := oy_gr (k := 6) X (by decide) rfl (al_at 717 (by decide +kernel) rfl)
theorem og_mo_32_g {p : Program} {l : Launch} {e : Env} {R : Room} {s : State} {m : MethodId} {args : Array Value} {below : List Frame} {meth : Method} {c : Code} {cc : ByteArray} {nL : Nat} {ad : Nat → Nat} {D : va_G} {g : Nat → ClassId} {B : Nat} (X : ox_C p s m args c cc nL "SubscriberLinesModel" D g ad B) : rx_OK p l e R s m args below meth c cc nL ad (mx_W D g ad B s.heap) mx_cs (.getfield 32) 3 1 (mgr 90) := oy_gr (k := 9) X (by decide) rfl (al_at 720 (by decide +kernel) rfl)
theorem ok_mo_off : rx_okF prog_12_method_27_code 2 none L_mo_off 0 L_mo_off = true := by decide +kernel
theorem V_mo_off {l : Launch} {D : va_G} {g : Nat → ClassId} {ad : Nat → Nat} {B : Nat} (had : mx_A ad B) : rx_V l D g ad B ⟨"SubscriberLinesModel", "off", "(I)V"⟩ prog_12_method_27_code 2 none 0 0 K_mo_off := by
  intro av x hp
  obtain ⟨a0, a1, rfl⟩ := k_RI_inv hp
  have hp : a0 = 82 ∧ vp_in a1 4 := hp
  have h0 : a0 = 82 := hp.1
  subst h0
  exact rx_met (k := 0) had (by decide) (Nat.le_of_ble_eq_true rfl) ok_mo_off rfl rfl 18 (fun p e s m args below meth c X => And.intro (og_mo_20_g X) (And.intro (oy_pa X) (And.intro (og_mo_23_g X) (And.intro (oy_pa X) (And.intro (og_mo_32_g X) (And.intro (oy_pa X) (trivial))))))) (S_mo_off x.1 x.2 a1 hp.2) (E_mo_off x.1 x.2 a1)
def mo_leave (m : mx_M) (a1 : Int32) : mx_M :=
  let m1 := mo_sendOff m 3 a1 4 (m.1 87 (Int32.toNatClampNeg a1)) 0 0
  let m2 := mo_off m1 a1
  m2
def K_mo_leave : rx_K mx := k_RI (fun a0 a1 c m => (a0 = 82 ∧ vp_in a1 4, (c, mo_leave m a1), none))
def L_mo_leave : List (rx_E mx) := [
  (0, .aload_n 0, 1, 0, 0, 0, [], kno),
  (1, .iconst 3, 1, 0, 0, 3, [], kno),
  (2, .iload_n 1, 1, 0, 1, 0, [], kno),
  (3, .iconst 4, 1, 0, 0, 4, [], kno),
  (4, .aload_n 0, 1, 0, 0, 0, [], kno),
  (5, .getfield 23, 3, 7, 1, 0, [], mgr 87),
  (8, .iload_n 1, 1, 0, 1, 0, [], kno),
  (9, .iaload, 1, 7, 2, 0, [], mai),
  (10, .iconst 0, 1, 0, 0, 0, [], kno),
  (11, .iconst 0, 1, 0, 0, 0, [], kno),
  (12, .invokevirtual 138, 3, 7, 7, 0, [], K_mo_sendOff),
  (15, .aload_n 0, 1, 0, 0, 0, [], kno),
  (16, .iload_n 1, 1, 0, 1, 0, [], kno),
  (17, .invokevirtual 201, 3, 7, 2, 0, [], K_mo_off),
  (20, .return_, 1, 6, 0, 0, [], kno)]
theorem E_mo_leave (c : mx_C) (m : mx_M) (a1 : Int32)  : rx_ev L_mo_leave [] 17 L_mo_leave (c, m) [some (.ref 82), some (.int a1)] [] = ry_v c (mo_leave m a1) :=
  rfl
theorem S_mo_leave (c : mx_C) (m : mx_M) (a1 : Int32) (hs : vp_in a1 4) : rx_sf L_mo_leave [] 17 L_mo_leave (c, m) [some (.ref 82), some (.int a1)] [] :=
  And.intro rfl (And.intro hs (And.intro rfl (And.intro (And.intro rfl hs) (trivial))))

theorem cv_mo_off {p : Program} {l : Launch} {e : Env} {R : Room} {s : State} {m : MethodId} {args : Array Value} {below : List Frame} {meth : Method} {c : Code} {cc : ByteArray} {nL : Nat} {ad : Nat → Nat} {D : va_G} {g : Nat → ClassId} {B : Nat} {own : String} {idx : Nat} (X : ox_C p s m args c cc nL own D g ad B) (hV : rx_V l D g ad B ⟨"SubscriberLinesModel", "off", "(I)V"⟩ prog_12_method_27_code 2 none 0 0 K_mo_off) (hl : Cond.methodLink own idx ⟨"SubscriberLinesModel", "off", "(I)V"⟩ ∈ al) (hR : 0 + 1 ≤ R.frames ∧ 8 + (2 + 11) + 0 ≤ R.locals) : rx_OK p l e R s m args below meth c cc nL ad (mx_W D g ad B s.heap) mx_cs (.invokevirtual idx) 3 2 (K_mo_off) :=
  ox_callV (q := 9) (T := T_9) X hV (fun av x h => by obtain ⟨a0, a1, rfl⟩ := k_RI_inv h; exact ⟨a0, _, rfl, by have h2 : a0 = 82 := h.1; rw [h2]; rfl⟩) (by decide) rfl hl (al_at 876 (by decide +kernel) rfl) (al_pr (y := (⟨"SubscriberLinesModel", "off", "(I)V"⟩, _)) 40 rfl) (al_at 12 (by decide +kernel) rfl) (al_at 877 (by decide +kernel) rfl) ⟨by decide, by decide, by decide +kernel⟩ hR
theorem ok_mo_leave : rx_okF prog_12_method_28_code 2 none L_mo_leave 0 L_mo_leave = true := by decide +kernel
theorem V_mo_leave {l : Launch} {D : va_G} {g : Nat → ClassId} {ad : Nat → Nat} {B : Nat} (had : mx_A ad B) : rx_V l D g ad B ⟨"SubscriberLinesModel", "leave", "(I)V"⟩ prog_12_method_28_code 2 none 2 54 K_mo_leave := by
  intro av x hp
  obtain ⟨a0, a1, rfl⟩ := k_RI_inv hp
  have hp : a0 = 82 ∧ vp_in a1 4 := hp
  have h0 : a0 = 82 := hp.1
  subst h0
  exact rx_met (k := 0) had (by decide) (Nat.le_of_ble_eq_true rfl) ok_mo_leave rfl rfl 17 (fun p e s m args below meth c X => And.intro (og_mo_23_g X) (And.intro (oy_ai X) (And.intro (cv_mo_sendOff X (V_mo_sendOff had) (al_at 858 (by decide +kernel) rfl) ⟨by decide, by decide⟩) (And.intro (cv_mo_off X (V_mo_off had) (al_at 874 (by decide +kernel) rfl) ⟨by decide, by decide⟩) (trivial))))) (S_mo_leave x.1 x.2 a1 hp.2) (E_mo_leave x.1 x.2 a1)
def mo_ask (m : mx_M) (a1 : Int32) : mx_M :=
  if (m.1 86 (Int32.toNatClampNeg a1)) = 1 then
    let m1 := mo_sendOff m 1 a1 4 0 0 0
    let m2 := my_pi m1 92 (Int32.toNatClampNeg a1) ((m1.1 92 (Int32.toNatClampNeg a1)) + 1)
    let m3 := my_pi m2 91 (Int32.toNatClampNeg a1) 0
    m3
  else
    let m4 := mo_sendOff m 4 a1 4 (m.1 87 (Int32.toNatClampNeg a1)) (m.1 88 (Int32.toNatClampNeg a1)) (m.1 89 (Int32.toNatClampNeg a1))
    let m5 := my_pi m4 92 (Int32.toNatClampNeg a1) ((m4.1 92 (Int32.toNatClampNeg a1)) + 1)
    let m6 := my_pi m5 91 (Int32.toNatClampNeg a1) 0
    m6
def K_mo_ask : rx_K mx := k_RI (fun a0 a1 c m => (a0 = 82 ∧ vp_in a1 4, (c, mo_ask m a1), none))
def L_mo_ask : List (rx_E mx) := [
  (0, .aload_n 0, 1, 0, 0, 0, [], kno),
  (1, .getfield 20, 3, 7, 1, 0, [], mgr 86),
  (4, .iload_n 1, 1, 0, 1, 0, [], kno),
  (5, .iaload, 1, 7, 2, 0, [], mai),
  (6, .iconst 1, 1, 0, 0, 1, [], kno),
  (7, .if_icmp .ne 16, 3, 2, 15, 0, [], kno),
  (10, .aload_n 0, 1, 0, 0, 0, [], kno),
  (11, .iconst 1, 1, 0, 0, 1, [], kno),
  (12, .iload_n 1, 1, 0, 1, 0, [], kno),
  (13, .iconst 4, 1, 0, 0, 4, [], kno),
  (14, .iconst 0, 1, 0, 0, 0, [], kno),
  (15, .iconst 0, 1, 0, 0, 0, [], kno),
  (16, .iconst 0, 1, 0, 0, 0, [], kno),
  (17, .invokevirtual 138, 3, 7, 7, 0, [], K_mo_sendOff),
  (20, .goto 28, 3, 1, 32, 0, [], kno),
  (23, .aload_n 0, 1, 0, 0, 0, [], kno),
  (24, .iconst 4, 1, 0, 0, 4, [], kno),
  (25, .iload_n 1, 1, 0, 1, 0, [], kno),
  (26, .iconst 4, 1, 0, 0, 4, [], kno),
  (27, .aload_n 0, 1, 0, 0, 0, [], kno),
  (28, .getfield 23, 3, 7, 1, 0, [], mgr 87),
  (31, .iload_n 1, 1, 0, 1, 0, [], kno),
  (32, .iaload, 1, 7, 2, 0, [], mai),
  (33, .aload_n 0, 1, 0, 0, 0, [], kno),
  (34, .getfield 26, 3, 7, 1, 0, [], mgr 88),
  (37, .iload_n 1, 1, 0, 1, 0, [], kno),
  (38, .iaload, 1, 7, 2, 0, [], mai),
  (39, .aload_n 0, 1, 0, 0, 0, [], kno),
  (40, .getfield 29, 3, 7, 1, 0, [], mgr 89),
  (43, .iload_n 1, 1, 0, 1, 0, [], kno),
  (44, .iaload, 1, 7, 2, 0, [], mai),
  (45, .invokevirtual 138, 3, 7, 7, 0, [], K_mo_sendOff),
  (48, .aload_n 0, 1, 0, 0, 0, [], kno),
  (49, .getfield 38, 3, 7, 1, 0, [], mgr 92),
  (52, .iload_n 1, 1, 0, 1, 0, [], kno),
  (53, .dup2, 1, 0, 0, 0, [], kno),
  (54, .iaload, 1, 7, 2, 0, [], mai),
  (55, .iconst 1, 1, 0, 0, 1, [], kno),
  (56, .iadd, 1, 0, 0, 0, [], kno),
  (57, .iastore, 1, 7, 3, 0, [], mpa),
  (58, .aload_n 0, 1, 0, 0, 0, [], kno),
  (59, .getfield 35, 3, 7, 1, 0, [], mgr 91),
  (62, .iload_n 1, 1, 0, 1, 0, [], kno),
  (63, .iconst 0, 1, 0, 0, 0, [], kno),
  (64, .iastore, 1, 7, 3, 0, [], mpa),
  (65, .return_, 1, 6, 0, 0, [], kno)]
theorem E_mo_ask (c : mx_C) (m : mx_M) (a1 : Int32)  : rx_ev L_mo_ask [] 48 L_mo_ask (c, m) [some (.ref 82), some (.int a1)] [] = ry_v c (mo_ask m a1) :=
  rx_ite2 (f := ry_v c) (fun h0 => rfl) (fun h0 => rfl)
theorem S_mo_ask (c : mx_C) (m : mx_M) (a1 : Int32) (hs : vp_in a1 4) : rx_sf L_mo_ask [] 48 L_mo_ask (c, m) [some (.ref 82), some (.int a1)] [] :=
  And.intro rfl (And.intro hs (And.intro (fun h0 => And.intro rfl (And.intro rfl (And.intro hs (And.intro hs (And.intro rfl (And.intro hs (trivial))))))) (fun h0 => And.intro rfl (And.intro hs (And.intro rfl (And.intro hs (And.intro rfl (And.intro hs (And.intro rfl (And.intro rfl (And.intro hs (And.intro hs (And.intro rfl (And.intro hs (trivial)))))))))))))))

theorem og_mo_26_g {p : Program} {l : Launch} {e : Env} {R : Room} {s : State} {m : MethodId} {args : Array Value} {below : List Frame} {meth : Method} {c : Code} {cc : ByteArray} {nL : Nat} {ad : Nat → Nat} {D : va_G} {g : Nat → ClassId} {B : Nat} (X : ox_C p s m args c cc nL "SubscriberLinesModel" D g ad B) : rx_OK p l e R s m args below meth c cc nL ad (mx_W D g ad B s.heap) mx_cs (.getfield 26) 3 1 (mgr 88) := oy_gr (k := 7) X (by decide) rfl (al_at 718 (by decide +kernel) rfl)
theorem og_mo_29_g {p : Program} {l : Launch} {e : Env} {R : Room} {s : State} {m : MethodId} {args : Array Value} {below : List Frame} {meth : Method} {c : Code} {cc : ByteArray} {nL : Nat} {ad : Nat → Nat} {D : va_G} {g : Nat → ClassId} {B : Nat} (X : ox_C p s m args c cc nL "SubscriberLinesModel" D g ad B) : rx_OK p l e R s m args below meth c cc nL ad (mx_W D g ad B s.heap) mx_cs (.getfield 29) 3 1 (mgr 89) := oy_gr (k := 8) X (by decide) rfl (al_at 719 (by decide +kernel) rfl)
theorem og_mo_38_g {p : Program} {l : Launch} {e : Env} {R : Room} {s : State} {m : MethodId} {args : Array Value} {below : List Frame} {meth : Method} {c : Code} {cc : ByteArray} {nL : Nat} {ad : Nat → Nat} {D : va_G} {g : Nat → ClassId} {B : Nat} (X : ox_C p s m args c cc nL "SubscriberLinesModel" D g ad B) : rx_OK p l e R s m args below meth c cc nL ad (mx_W D g ad B s.heap) mx_cs (.getfield 38) 3 1 (mgr 92) := oy_gr (k := 11) X (by decide) rfl (al_at 722 (by decide +kernel) rfl)
theorem og_mo_35_g {p : Program} {l : Launch} {e : Env} {R : Room} {s : State} {m : MethodId} {args : Array Value} {below : List Frame} {meth : Method} {c : Code} {cc : ByteArray} {nL : Nat} {ad : Nat → Nat} {D : va_G} {g : Nat → ClassId} {B : Nat} (X : ox_C p s m args c cc nL "SubscriberLinesModel" D g ad B) : rx_OK p l e R s m args below meth c cc nL ad (mx_W D g ad B s.heap) mx_cs (.getfield 35) 3 1 (mgr 91) := oy_gr (k := 10) X (by decide) rfl (al_at 721 (by decide +kernel) rfl)
theorem ok_mo_ask : rx_okF prog_12_method_29_code 2 none L_mo_ask 0 L_mo_ask = true := by decide +kernel
theorem V_mo_ask {l : Launch} {D : va_G} {g : Nat → ClassId} {ad : Nat → Nat} {B : Nat} (had : mx_A ad B) : rx_V l D g ad B ⟨"SubscriberLinesModel", "ask", "(I)V"⟩ prog_12_method_29_code 2 none 2 54 K_mo_ask := by
  intro av x hp
  obtain ⟨a0, a1, rfl⟩ := k_RI_inv hp
  have hp : a0 = 82 ∧ vp_in a1 4 := hp
  have h0 : a0 = 82 := hp.1
  subst h0
  exact rx_met (k := 0) had (by decide) (Nat.le_of_ble_eq_true rfl) ok_mo_ask rfl rfl 48 (fun p e s m args below meth c X => And.intro (og_mo_20_g X) (And.intro (oy_ai X) (And.intro (cv_mo_sendOff X (V_mo_sendOff had) (al_at 858 (by decide +kernel) rfl) ⟨by decide, by decide⟩) (And.intro (og_mo_23_g X) (And.intro (oy_ai X) (And.intro (og_mo_26_g X) (And.intro (oy_ai X) (And.intro (og_mo_29_g X) (And.intro (oy_ai X) (And.intro (cv_mo_sendOff X (V_mo_sendOff had) (al_at 858 (by decide +kernel) rfl) ⟨by decide, by decide⟩) (And.intro (og_mo_38_g X) (And.intro (oy_ai X) (And.intro (oy_pa X) (And.intro (og_mo_35_g X) (And.intro (oy_pa X) (trivial)))))))))))))))) (S_mo_ask x.1 x.2 a1 hp.2) (E_mo_ask x.1 x.2 a1)
def mo_accepted (m : mx_M) (a1 : Int32) (a2 : Int32) : mx_M :=
  if (m.1 86 (Int32.toNatClampNeg a1)) = 3 then
    if (m.1 90 (Int32.toNatClampNeg a1)) = a2 then
      let m1 := my_pi m 86 (Int32.toNatClampNeg a1) 3
      let m2 := my_pi m1 90 (Int32.toNatClampNeg a1) a2
      let m3 := my_pi m2 93 (Int32.toNatClampNeg a1) 0
      let m4 := mo_sendOff m3 7 a1 4 (m3.1 87 (Int32.toNatClampNeg a1)) 0 0
      m4
    else
      m
  else
    let m5 := my_pi m 86 (Int32.toNatClampNeg a1) 3
    let m6 := my_pi m5 90 (Int32.toNatClampNeg a1) a2
    let m7 := my_pi m6 93 (Int32.toNatClampNeg a1) 0
    let m8 := mo_sendOff m7 7 a1 4 (m7.1 87 (Int32.toNatClampNeg a1)) 0 0
    m8
def K_mo_accepted : rx_K mx := k_RII (fun a0 a1 a2 c m => (a0 = 82 ∧ vp_in a1 4, (c, mo_accepted m a1 a2), none))
def L_mo_accepted : List (rx_E mx) := [
  (0, .aload_n 0, 1, 0, 0, 0, [], kno),
  (1, .getfield 20, 3, 7, 1, 0, [], mgr 86),
  (4, .iload_n 1, 1, 0, 1, 0, [], kno),
  (5, .iaload, 1, 7, 2, 0, [], mai),
  (6, .iconst 3, 1, 0, 0, 3, [], kno),
  (7, .if_icmp .ne 14, 3, 2, 13, 0, [], kno),
  (10, .aload_n 0, 1, 0, 0, 0, [], kno),
  (11, .getfield 32, 3, 7, 1, 0, [], mgr 90),
  (14, .iload_n 1, 1, 0, 1, 0, [], kno),
  (15, .iaload, 1, 7, 2, 0, [], mai),
  (16, .iload_n 2, 1, 0, 2, 0, [], kno),
  (17, .if_icmp .eq 4, 3, 2, 13, 0, [], kno),
  (20, .return_, 1, 6, 0, 0, [], kno),
  (21, .aload_n 0, 1, 0, 0, 0, [], kno),
  (22, .getfield 20, 3, 7, 1, 0, [], mgr 86),
  (25, .iload_n 1, 1, 0, 1, 0, [], kno),
  (26, .iconst 3, 1, 0, 0, 3, [], kno),
  (27, .iastore, 1, 7, 3, 0, [], mpa),
  (28, .aload_n 0, 1, 0, 0, 0, [], kno),
  (29, .getfield 32, 3, 7, 1, 0, [], mgr 90),
  (32, .iload_n 1, 1, 0, 1, 0, [], kno),
  (33, .iload_n 2, 1, 0, 2, 0, [], kno),
  (34, .iastore, 1, 7, 3, 0, [], mpa),
  (35, .aload_n 0, 1, 0, 0, 0, [], kno),
  (36, .getfield 41, 3, 7, 1, 0, [], mgr 93),
  (39, .iload_n 1, 1, 0, 1, 0, [], kno),
  (40, .iconst 0, 1, 0, 0, 0, [], kno),
  (41, .iastore, 1, 7, 3, 0, [], mpa),
  (42, .aload_n 0, 1, 0, 0, 0, [], kno),
  (43, .bipush 7, 2, 0, 0, 7, [], kno),
  (45, .iload_n 1, 1, 0, 1, 0, [], kno),
  (46, .iconst 4, 1, 0, 0, 4, [], kno),
  (47, .aload_n 0, 1, 0, 0, 0, [], kno),
  (48, .getfield 23, 3, 7, 1, 0, [], mgr 87),
  (51, .iload_n 1, 1, 0, 1, 0, [], kno),
  (52, .iaload, 1, 7, 2, 0, [], mai),
  (53, .iconst 0, 1, 0, 0, 0, [], kno),
  (54, .iconst 0, 1, 0, 0, 0, [], kno),
  (55, .invokevirtual 138, 3, 7, 7, 0, [], K_mo_sendOff),
  (58, .return_, 1, 6, 0, 0, [], kno)]
theorem E_mo_accepted (c : mx_C) (m : mx_M) (a1 : Int32) (a2 : Int32)  : rx_ev L_mo_accepted [] 42 L_mo_accepted (c, m) [some (.ref 82), some (.int a1), some (.int a2)] [] = ry_v c (mo_accepted m a1 a2) :=
  rx_ite2 (f := ry_v c) (fun h0 => rx_ite2 (f := ry_v c) (fun h1 => rfl) (fun h1 => rfl)) (fun h0 => rfl)
theorem S_mo_accepted (c : mx_C) (m : mx_M) (a1 : Int32) (a2 : Int32) (hs : vp_in a1 4) : rx_sf L_mo_accepted [] 42 L_mo_accepted (c, m) [some (.ref 82), some (.int a1), some (.int a2)] [] :=
  And.intro rfl (And.intro hs (And.intro (fun h0 => And.intro rfl (And.intro hs (And.intro (fun h1 => And.intro rfl (And.intro hs (And.intro rfl (And.intro hs (And.intro rfl (And.intro hs (And.intro rfl (And.intro hs (And.intro rfl (trivial)))))))))) (fun h1 => trivial)))) (fun h0 => And.intro rfl (And.intro hs (And.intro rfl (And.intro hs (And.intro rfl (And.intro hs (And.intro rfl (And.intro hs (And.intro rfl (trivial))))))))))))

theorem og_mo_41_g {p : Program} {l : Launch} {e : Env} {R : Room} {s : State} {m : MethodId} {args : Array Value} {below : List Frame} {meth : Method} {c : Code} {cc : ByteArray} {nL : Nat} {ad : Nat → Nat} {D : va_G} {g : Nat → ClassId} {B : Nat} (X : ox_C p s m args c cc nL "SubscriberLinesModel" D g ad B) : rx_OK p l e R s m args below meth c cc nL ad (mx_W D g ad B s.heap) mx_cs (.getfield 41) 3 1 (mgr 93) := oy_gr (k := 12) X (by decide) rfl (al_at 723 (by decide +kernel) rfl)
theorem ok_mo_accepted : rx_okF prog_12_method_30_code 3 none L_mo_accepted 0 L_mo_accepted = true := by decide +kernel
theorem V_mo_accepted {l : Launch} {D : va_G} {g : Nat → ClassId} {ad : Nat → Nat} {B : Nat} (had : mx_A ad B) : rx_V l D g ad B ⟨"SubscriberLinesModel", "accepted", "(II)V"⟩ prog_12_method_30_code 3 none 2 54 K_mo_accepted := by
  intro av x hp
  obtain ⟨a0, a1, a2, rfl⟩ := k_RII_inv hp
  have hp : a0 = 82 ∧ vp_in a1 4 := hp
  have h0 : a0 = 82 := hp.1
  subst h0
  exact rx_met (k := 0) had (by decide) (Nat.le_of_ble_eq_true rfl) ok_mo_accepted rfl rfl 42 (fun p e s m args below meth c X => And.intro (og_mo_20_g X) (And.intro (oy_ai X) (And.intro (og_mo_32_g X) (And.intro (oy_ai X) (And.intro (og_mo_20_g X) (And.intro (oy_pa X) (And.intro (og_mo_32_g X) (And.intro (oy_pa X) (And.intro (og_mo_41_g X) (And.intro (oy_pa X) (And.intro (og_mo_23_g X) (And.intro (oy_ai X) (And.intro (cv_mo_sendOff X (V_mo_sendOff had) (al_at 858 (by decide +kernel) rfl) ⟨by decide, by decide⟩) (trivial)))))))))))))) (S_mo_accepted x.1 x.2 a1 a2 hp.2) (E_mo_accepted x.1 x.2 a1 a2)
def mo_subscriberTimer (m : mx_M) (a1 : Int32) : mx_M :=
  if (m.1 86 (Int32.toNatClampNeg a1)) = 3 then
    let m1 := my_pi m 93 (Int32.toNatClampNeg a1) ((m.1 93 (Int32.toNatClampNeg a1)) + 1)
    if (m1.1 93 (Int32.toNatClampNeg a1)) = 16 then
      let m2 := mo_leave m1 a1
      m2
    else
      m1
  else
    if (m.1 86 (Int32.toNatClampNeg a1)) = 0 then
      m
    else
      let m3 := my_pi m 91 (Int32.toNatClampNeg a1) ((m.1 91 (Int32.toNatClampNeg a1)) + 1)
      if (m3.1 91 (Int32.toNatClampNeg a1)) < 3 then
        m3
      else
        if (m3.1 92 (Int32.toNatClampNeg a1)) < 4 then
          let m4 := mo_ask m3 a1
          m4
        else
          if (m3.1 86 (Int32.toNatClampNeg a1)) = 2 then
            let m5 := mo_leave m3 a1
            m5
          else
            let m6 := mo_off m3 a1
            m6
def K_mo_subscriberTimer : rx_K mx := k_RI (fun a0 a1 c m => (a0 = 82 ∧ vp_in a1 4, (c, mo_subscriberTimer m a1), none))
def L_mo_subscriberTimer : List (rx_E mx) := [
  (0, .aload_n 0, 1, 0, 0, 0, [], kno),
  (1, .getfield 20, 3, 7, 1, 0, [], mgr 86),
  (4, .iload_n 1, 1, 0, 1, 0, [], kno),
  (5, .iaload, 1, 7, 2, 0, [], mai),
  (6, .iconst 3, 1, 0, 0, 3, [], kno),
  (7, .if_icmp .ne 30, 3, 2, 24, 0, [], kno),
  (10, .aload_n 0, 1, 0, 0, 0, [], kno),
  (11, .getfield 41, 3, 7, 1, 0, [], mgr 93),
  (14, .iload_n 1, 1, 0, 1, 0, [], kno),
  (15, .dup2, 1, 0, 0, 0, [], kno),
  (16, .iaload, 1, 7, 2, 0, [], mai),
  (17, .iconst 1, 1, 0, 0, 1, [], kno),
  (18, .iadd, 1, 0, 0, 0, [], kno),
  (19, .iastore, 1, 7, 3, 0, [], mpa),
  (20, .aload_n 0, 1, 0, 0, 0, [], kno),
  (21, .getfield 41, 3, 7, 1, 0, [], mgr 93),
  (24, .iload_n 1, 1, 0, 1, 0, [], kno),
  (25, .iaload, 1, 7, 2, 0, [], mai),
  (26, .bipush 16, 2, 0, 0, 16, [], kno),
  (28, .if_icmp .ne 8, 3, 2, 23, 0, [], kno),
  (31, .aload_n 0, 1, 0, 0, 0, [], kno),
  (32, .iload_n 1, 1, 0, 1, 0, [], kno),
  (33, .invokevirtual 210, 3, 7, 2, 0, [], K_mo_leave),
  (36, .return_, 1, 6, 0, 0, [], kno),
  (37, .aload_n 0, 1, 0, 0, 0, [], kno),
  (38, .getfield 20, 3, 7, 1, 0, [], mgr 86),
  (41, .iload_n 1, 1, 0, 1, 0, [], kno),
  (42, .iaload, 1, 7, 2, 0, [], mai),
  (43, .ifCond .ne 4, 3, 2, 30, 0, [], kno),
  (46, .return_, 1, 6, 0, 0, [], kno),
  (47, .aload_n 0, 1, 0, 0, 0, [], kno),
  (48, .getfield 35, 3, 7, 1, 0, [], mgr 91),
  (51, .iload_n 1, 1, 0, 1, 0, [], kno),
  (52, .dup2, 1, 0, 0, 0, [], kno),
  (53, .iaload, 1, 7, 2, 0, [], mai),
  (54, .iconst 1, 1, 0, 0, 1, [], kno),
  (55, .iadd, 1, 0, 0, 0, [], kno),
  (56, .iastore, 1, 7, 3, 0, [], mpa),
  (57, .aload_n 0, 1, 0, 0, 0, [], kno),
  (58, .getfield 35, 3, 7, 1, 0, [], mgr 91),
  (61, .iload_n 1, 1, 0, 1, 0, [], kno),
  (62, .iaload, 1, 7, 2, 0, [], mai),
  (63, .iconst 3, 1, 0, 0, 3, [], kno),
  (64, .if_icmp .ge 4, 3, 2, 45, 0, [], kno),
  (67, .return_, 1, 6, 0, 0, [], kno),
  (68, .aload_n 0, 1, 0, 0, 0, [], kno),
  (69, .getfield 38, 3, 7, 1, 0, [], mgr 92),
  (72, .iload_n 1, 1, 0, 1, 0, [], kno),
  (73, .iaload, 1, 7, 2, 0, [], mai),
  (74, .iconst 4, 1, 0, 0, 4, [], kno),
  (75, .if_icmp .ge 11, 3, 2, 55, 0, [], kno),
  (78, .aload_n 0, 1, 0, 0, 0, [], kno),
  (79, .iload_n 1, 1, 0, 1, 0, [], kno),
  (80, .invokevirtual 204, 3, 7, 2, 0, [], K_mo_ask),
  (83, .goto 26, 3, 1, 68, 0, [], kno),
  (86, .aload_n 0, 1, 0, 0, 0, [], kno),
  (87, .getfield 20, 3, 7, 1, 0, [], mgr 86),
  (90, .iload_n 1, 1, 0, 1, 0, [], kno),
  (91, .iaload, 1, 7, 2, 0, [], mai),
  (92, .iconst 2, 1, 0, 0, 2, [], kno),
  (93, .if_icmp .ne 11, 3, 2, 65, 0, [], kno),
  (96, .aload_n 0, 1, 0, 0, 0, [], kno),
  (97, .iload_n 1, 1, 0, 1, 0, [], kno),
  (98, .invokevirtual 210, 3, 7, 2, 0, [], K_mo_leave),
  (101, .goto 8, 3, 1, 68, 0, [], kno),
  (104, .aload_n 0, 1, 0, 0, 0, [], kno),
  (105, .iload_n 1, 1, 0, 1, 0, [], kno),
  (106, .invokevirtual 201, 3, 7, 2, 0, [], K_mo_off),
  (109, .return_, 1, 6, 0, 0, [], kno)]
theorem E_mo_subscriberTimer (c : mx_C) (m : mx_M) (a1 : Int32)  : rx_ev L_mo_subscriberTimer [] 71 L_mo_subscriberTimer (c, m) [some (.ref 82), some (.int a1)] [] = ry_v c (mo_subscriberTimer m a1) :=
  rx_ite2 (f := ry_v c) (fun h0 => rx_ite2 (f := ry_v c) (fun h1 => rfl) (fun h1 => rfl)) (fun h0 => rx_ite2 (f := ry_v c) (fun h1 => rfl) (fun h1 => rx_ite2 (f := ry_v c) (fun h2 => rfl) (fun h2 => rx_ite2 (f := ry_v c) (fun h3 => rfl) (fun h3 => rx_ite2 (f := ry_v c) (fun h4 => rfl) (fun h4 => rfl)))))
theorem S_mo_subscriberTimer (c : mx_C) (m : mx_M) (a1 : Int32) (hs : vp_in a1 4) : rx_sf L_mo_subscriberTimer [] 71 L_mo_subscriberTimer (c, m) [some (.ref 82), some (.int a1)] [] :=
  And.intro rfl (And.intro hs (And.intro (fun h0 => And.intro rfl (And.intro hs (And.intro hs (And.intro rfl (And.intro hs (And.intro (fun h1 => And.intro (And.intro rfl hs) (trivial)) (fun h1 => trivial))))))) (fun h0 => And.intro rfl (And.intro hs (And.intro (fun h1 => trivial) (fun h1 => And.intro rfl (And.intro hs (And.intro hs (And.intro rfl (And.intro hs (And.intro (fun h2 => trivial) (fun h2 => And.intro rfl (And.intro hs (And.intro (fun h3 => And.intro (And.intro rfl hs) (trivial)) (fun h3 => And.intro rfl (And.intro hs (And.intro (fun h4 => And.intro (And.intro rfl hs) (trivial)) (fun h4 => And.intro (And.intro rfl hs) (trivial)))))))))))))))))))

theorem cv_mo_leave {p : Program} {l : Launch} {e : Env} {R : Room} {s : State} {m : MethodId} {args : Array Value} {below : List Frame} {meth : Method} {c : Code} {cc : ByteArray} {nL : Nat} {ad : Nat → Nat} {D : va_G} {g : Nat → ClassId} {B : Nat} {own : String} {idx : Nat} (X : ox_C p s m args c cc nL own D g ad B) (hV : rx_V l D g ad B ⟨"SubscriberLinesModel", "leave", "(I)V"⟩ prog_12_method_28_code 2 none 2 54 K_mo_leave) (hl : Cond.methodLink own idx ⟨"SubscriberLinesModel", "leave", "(I)V"⟩ ∈ al) (hR : 2 + 1 ≤ R.frames ∧ 8 + (2 + 11) + 54 ≤ R.locals) : rx_OK p l e R s m args below meth c cc nL ad (mx_W D g ad B s.heap) mx_cs (.invokevirtual idx) 3 2 (K_mo_leave) :=
  ox_callV (q := 9) (T := T_9) X hV (fun av x h => by obtain ⟨a0, a1, rfl⟩ := k_RI_inv h; exact ⟨a0, _, rfl, by have h2 : a0 = 82 := h.1; rw [h2]; rfl⟩) (by decide) rfl hl (al_at 872 (by decide +kernel) rfl) (al_pr (y := (⟨"SubscriberLinesModel", "leave", "(I)V"⟩, _)) 39 rfl) (al_at 12 (by decide +kernel) rfl) (al_at 873 (by decide +kernel) rfl) ⟨by decide, by decide, by decide +kernel⟩ hR
theorem cv_mo_ask {p : Program} {l : Launch} {e : Env} {R : Room} {s : State} {m : MethodId} {args : Array Value} {below : List Frame} {meth : Method} {c : Code} {cc : ByteArray} {nL : Nat} {ad : Nat → Nat} {D : va_G} {g : Nat → ClassId} {B : Nat} {own : String} {idx : Nat} (X : ox_C p s m args c cc nL own D g ad B) (hV : rx_V l D g ad B ⟨"SubscriberLinesModel", "ask", "(I)V"⟩ prog_12_method_29_code 2 none 2 54 K_mo_ask) (hl : Cond.methodLink own idx ⟨"SubscriberLinesModel", "ask", "(I)V"⟩ ∈ al) (hR : 2 + 1 ≤ R.frames ∧ 8 + (2 + 11) + 54 ≤ R.locals) : rx_OK p l e R s m args below meth c cc nL ad (mx_W D g ad B s.heap) mx_cs (.invokevirtual idx) 3 2 (K_mo_ask) :=
  ox_callV (q := 9) (T := T_9) X hV (fun av x h => by obtain ⟨a0, a1, rfl⟩ := k_RI_inv h; exact ⟨a0, _, rfl, by have h2 : a0 = 82 := h.1; rw [h2]; rfl⟩) (by decide) rfl hl (al_at 856 (by decide +kernel) rfl) (al_pr (y := (⟨"SubscriberLinesModel", "ask", "(I)V"⟩, _)) 35 rfl) (al_at 12 (by decide +kernel) rfl) (al_at 857 (by decide +kernel) rfl) ⟨by decide, by decide, by decide +kernel⟩ hR
theorem ok_mo_subscriberTimer : rx_okF prog_12_method_32_code 2 none L_mo_subscriberTimer 0 L_mo_subscriberTimer = true := by decide +kernel
theorem V_mo_subscriberTimer {l : Launch} {D : va_G} {g : Nat → ClassId} {ad : Nat → Nat} {B : Nat} (had : mx_A ad B) : rx_V l D g ad B ⟨"SubscriberLinesModel", "subscriberTimer", "(I)V"⟩ prog_12_method_32_code 2 none 3 75 K_mo_subscriberTimer := by
  intro av x hp
  obtain ⟨a0, a1, rfl⟩ := k_RI_inv hp
  have hp : a0 = 82 ∧ vp_in a1 4 := hp
  have h0 : a0 = 82 := hp.1
  subst h0
  exact rx_met (k := 0) had (by decide) (Nat.le_of_ble_eq_true rfl) ok_mo_subscriberTimer rfl rfl 71 (fun p e s m args below meth c X => And.intro (og_mo_20_g X) (And.intro (oy_ai X) (And.intro (og_mo_41_g X) (And.intro (oy_ai X) (And.intro (oy_pa X) (And.intro (og_mo_41_g X) (And.intro (oy_ai X) (And.intro (cv_mo_leave X (V_mo_leave had) (al_at 870 (by decide +kernel) rfl) ⟨by decide, by decide⟩) (And.intro (og_mo_20_g X) (And.intro (oy_ai X) (And.intro (og_mo_35_g X) (And.intro (oy_ai X) (And.intro (oy_pa X) (And.intro (og_mo_35_g X) (And.intro (oy_ai X) (And.intro (og_mo_38_g X) (And.intro (oy_ai X) (And.intro (cv_mo_ask X (V_mo_ask had) (al_at 854 (by decide +kernel) rfl) ⟨by decide, by decide⟩) (And.intro (og_mo_20_g X) (And.intro (oy_ai X) (And.intro (cv_mo_leave X (V_mo_leave had) (al_at 870 (by decide +kernel) rfl) ⟨by decide, by decide⟩) (And.intro (cv_mo_off X (V_mo_off had) (al_at 874 (by decide +kernel) rfl) ⟨by decide, by decide⟩) (trivial))))))))))))))))))))))) (S_mo_subscriberTimer x.1 x.2 a1 hp.2) (E_mo_subscriberTimer x.1 x.2 a1)
