/-! an arrival: what is counted -/
def gPB (m : mx_M) : Prop := ∀ k : Nat, k < m.2.1.val → fp m k 0 = 14 → 0 ≤ (fp m k 4).toInt
def S1 : vS := fun k b => k = 14 → 0 ≤ b.toInt
theorem SP1 : SP S1 := fun k b _ _ h3 => h3
theorem ext_S {S S' : vS} {m m' : mx_M} (h : ext S m m') (hs : ∀ k b, S k b → S' k b) : ext S' m m' := ⟨h.1, h.2.1, fun k h1 h2 => hs _ _ (h.2.2 k h1 h2)⟩
theorem gPB_ext {m m' : mx_M} (h : gPB m) (he : ext S1 m m') : gPB m' := by
  intro k hk h14
  by_cases hz : k < m.2.1.val
  · rw [he.2.1 k 0 hz (by decide)] at h14
    rw [he.2.1 k 4 hz (by decide)]
    exact h k hz h14
  · exact he.2.2 k (by omega) hk h14
theorem gPB_tk {m : mx_M} (h : gPB m) {j : Nat} (h1 : j < m.2.1.val) : gPB (mo_tk m j) := by
  intro k hk h14
  rw [tk_cnt h1] at hk
  rw [tk_fp h1 k 0 hk (by decide)] at h14
  rw [tk_fp h1 k 4 hk (by decide)]
  exact h _ (by split <;> omega) h14
theorem gPB_swp {m : mx_M} (h : gPB m) {k : Nat} (hk : k + 1 < m.2.1.val) : gPB (mo_swp m k) := by
  intro j hj h14
  have hj' : j < m.2.1.val := hj
  rw [sw_fp j 0 (by decide)] at h14
  rw [sw_fp j 4 (by decide)]
  exact h _ (by split <;> (try split) <;> omega) h14
theorem S0S1 : ∀ k b, S0 k b → S1 k b := fun k b h => h.2.2
theorem ck0 {m m' : mx_M} (h : ext S0 m m') : ck m' 1 = ck m 1 ∧ ck m' 4 = ck m 4 := ⟨ck_ext h (fun b z => z.1 rfl), ck_ext h (fun b z => z.2.1 rfl)⟩
/-- kinds of what is sent by a subscriber's doings -/
theorem toSub_x {m : mx_M} (hm : gM m) {t : Nat} (ht : t < 4) (k x y w : Int32) (h0 : 0 ≤ (m.1 94 t).toInt) (h1 : (m.1 94 t).toInt < 2147483647) : XE S1 m (mo_toSubscriber m (Int32.ofNat t) k x y w) := by
  have r := XE_r (S := S1) hm
  have nk (k b : Int32) (hk : ¬ k = 14) : S1 k b := fun z => absurd z hk
  have ask (m' : mx_M) (h : XE S1 m m') : XE S1 m (mo_ask m' (Int32.ofNat t)) := by
    unfold mo_ask
    split
    · exact XE_w (XE_w (XE_so h (nk _ _ (by decide)) _ _ _ _) (by omega)) (by omega)
    · exact XE_w (XE_w (XE_so h (nk _ _ (by decide)) _ _ _ _) (by omega)) (by omega)
  rw [mo_toSub_eq m ht k x y w h0 h1]
  split
  · split
    · exact ask _ (XE_w (XE_w (XE_w r (by omega)) (by omega)) (by omega))
    · exact r
  · split
    · exact r
    · split
      · exact r
      · split
        · exact XE_off r _
        · split
          · exact XE_acc SP1 r _ _
          · split
            · exact XE_leave SP1 r _
            · split
              · exact XE_send (XE_w r (by omega)) _ (nk _ _ (show ¬ (9 : Int32) = 14 by decide))
              · split
                · exact XE_w (XE_w (XE_w r (by omega)) (by omega)) (by omega)
                · exact r
theorem subT_x {m m0 : mx_M} (h : XE S1 m0 m) (x : Int32) : XE S1 m0 (mo_subscriberTimer m x) := by
  have nk (k b : Int32) (hk : ¬ k = 14) : S1 k b := fun z => absurd z hk
  have ask (m' : mx_M) (h : XE S1 m0 m') : XE S1 m0 (mo_ask m' x) := by
    unfold mo_ask
    split
    · exact XE_w (XE_w (XE_so h (nk _ _ (by decide)) _ _ _ _) (by omega)) (by omega)
    · exact XE_w (XE_w (XE_so h (nk _ _ (by decide)) _ _ _ _) (by omega)) (by omega)
  unfold mo_subscriberTimer
  dsimp only
  split
  · split
    · exact XE_leave SP1 (XE_w h (by omega)) _
    · exact XE_w h (by omega)
  · split
    · exact h
    · split
      · exact XE_w h (by omega)
      · split
        · exact ask _ (XE_w h (by omega))
        · split
          · exact XE_leave SP1 (XE_w h (by omega)) _
          · exact XE_off (XE_w h (by omega)) _
/-- forwarding: one packet at most -/
theorem fromSub4 {m : mx_M} (t : Int32) {k : Int32} (h4 : k = 4) (x y w : Int32) (q : Int32) : ck (mo_fromSubscriber m t k x y w) q ≤ ck m q + (if (4 : Int32) = q then 1 else 0) := by
  subst h4
  have s (a b c d e f : Int32) : ck (mo_sendOff m 4 b c d e f) q ≤ ck m q + (if (4 : Int32) = q then 1 else 0) := by
    rw [mo_sendOff_eq]; exact ck_send m _ q
  have i : ck m q ≤ ck m q + (if (4 : Int32) = q then 1 else 0) := Nat.le_add_right _ _
  unfold mo_fromSubscriber
  rw [if_neg (by decide)]
  split
  · exact i
  · split
    · rw [if_neg (show ¬ (4 : Int32) = 3 by decide)]
      split
      · rw [if_pos rfl]; exact s 4 _ _ _ _ _
      · exact i
    · exact i
theorem jn_17 {m : mx_M} (hi : iE m 1398) (t : Nat) : (mo_jn m t).1 82 17 = m.1 82 17 ∨ (mo_jn m t).1 82 17 = 0 := by
  unfold mo_jn
  dsimp only
  have i4 := iE_snd (iE_w (iE_w hi (i := 82) (k := 28) (v := m.1 82 28 + 1) (by omega)) (i := 96) (k := t) (v := m.1 82 28 + 1) (by omega)) (pk9 2 4 (Int32.ofNat t) (m.1 82 28 + 1) 0 0 0 0 0)
  have o4 : (my_send (my_pi (my_pi m 82 28 (m.1 82 28 + 1)) 96 t (m.1 82 28 + 1)) (pk9 2 4 (Int32.ofNat t) (m.1 82 28 + 1) 0 0 0 0 0)).1 82 17 = m.1 82 17 := by
    rw [my_send_o _ _ (by decide), qi_ne (by omega), qi_ne (by omega)]
  generalize my_send (my_pi (my_pi m 82 28 (m.1 82 28 + 1)) 96 t (m.1 82 28 + 1)) (pk9 2 4 (Int32.ofNat t) (m.1 82 28 + 1) 0 0 0 0 0) = M at *
  split
  · have i7 := iE_w (clear_iE (e := 0) (by decide) (by decide) (iE_w i4 (i := 82) (k := 30) (v := m.1 82 30 + 1) (by omega)) (m.1 82 30 + 1)) (i := 82) (k := 17) (v := 0) (by omega)
    have i8 := say_iE (e := 0) (by decide) (by decide) i7 12 0 0
    have a := say_o (e := 0) (by decide) (iE_mono i8 (show (1398 + 1 : Int) ≤ 1399 by decide)).1 13 (m.1 82 28 + 1) 0 (i := 82) (j := 17) (by omega)
    have b := say_o (e := 0) (by decide) (iE_mono i7 (show (1398 : Int) ≤ 1399 by decide)).1 12 0 0 (i := 82) (j := 17) (by omega)
    exact Or.inr ((a.trans b).trans qi_eq)
  · have a := say_o (e := 0) (by decide) (iE_mono i4 (show (1398 : Int) ≤ 1399 by decide)).1 13 (m.1 82 28 + 1) 0 (i := 82) (j := 17) (by omega)
    exact Or.inl (a.trans o4)
theorem fromSub_17 {m : mx_M} (hi : iE m 1397) {t : Nat} (ht : t < 4) (k x y w : Int32) : (mo_fromSubscriber m (Int32.ofNat t) k x y w).1 82 17 = m.1 82 17 ∨ (mo_fromSubscriber m (Int32.ofNat t) k x y w).1 82 17 = 0 := by
  have hi9 := iE_mono hi (show (1397 : Int) ≤ 1399 by decide)
  have so (a b c d e f : Int32) : (mo_sendOff m a b c d e f).1 82 17 = m.1 82 17 ∨ (mo_sendOff m a b c d e f).1 82 17 = 0 := Or.inl (so_o2 _ _ _ _ _ _ _ (by decide))
  unfold mo_fromSubscriber
  split
  · show (mo_join m (Int32.ofNat t)).1 82 17 = _ ∨ (mo_join m (Int32.ofNat t)).1 82 17 = 0
    rw [mo_join_eq m ht hi]
    split
    · rcases jn_17 (td_iE (by decide) hi ht) t with e | e
      · exact Or.inl (e.trans (td_o hi9 ht (by omega)))
      · exact Or.inr e
    · exact jn_17 (iE_mono hi (by decide)) t
  · split
    · exact Or.inl rfl
    · split
      · split
        · exact Or.inl (td_o hi9 ht (by omega))
        · split
          · split
            · exact so _ _ _ _ _ _
            · split
              · exact so _ _ _ _ _ _
              · split
                · exact so _ _ _ _ _ _
                · split
                  · exact so _ _ _ _ _ _
                  · exact Or.inl rfl
          · exact Or.inl rfl
      · exact Or.inl rfl
def NX (m : mx_M) (d tau tt t2 J R Hl T : Int) : Prop := gM m ∧ gPB m ∧ NF m d tau (ck m 1 + J) (ck m 4 + R) ∧ NE0 m J Hl ∧ NE1 m T R ∧ NI7 m Hl tt ∧ NC m T t2 ∧ 0 ≤ J ∧ 0 ≤ R ∧ 0 ≤ Hl ∧ 0 ≤ T
/-- where ends, circuits, sessions and subscribers stay and something else is sent -/
theorem NX_S0 {m m' : mx_M} {d tau tt t2 J R Hl T : Int} (h : NX m d tau tt t2 J R Hl T) (hx : XE S0 m m') (o : ∀ i j, (i = 86 ∨ i = 91 ∨ i = 92 ∨ i = 97 ∨ i = 102 ∨ (i = 82 ∧ j = 17) ∨ i = 109 ∨ i = 110) → m'.1 i j = m.1 i j) (hs : m'.2.2 = m.2.2) : NX m' d tau tt t2 J R Hl T := by
  obtain ⟨a1, a2, a3, a4, a5, a6, a7, a8⟩ := h
  obtain ⟨c1, c4⟩ := ck0 hx.1
  refine ⟨hx.2, gPB_ext a2 (ext_S hx.1 S0S1), ?_, NE0_f a4 (funext fun j => o 97 j (by omega)) (o 109 0 (by omega)) (o 110 0 (by omega)), NE1_f a5 (o 109 1 (by omega)) (o 110 1 (by omega)), ?_, NC_f a7 (funext fun j => o 102 j (by omega)) hs, a8⟩
  · rw [c1, c4]
    exact NF_f a3 (funext fun j => o 86 j (by omega)) (funext fun j => o 91 j (by omega)) (funext fun j => o 92 j (by omega))
  · unfold NI7 at *
    rw [o 82 17 (by omega)]; exact a6
theorem NX_tk {m : mx_M} {d tau tt t2 J R Hl T : Int} (h : NX m d tau tt t2 J R Hl T) (h1 : 1 ≤ m.2.1.val) : gM (mo_tk m 0) ∧ gPB (mo_tk m 0) ∧ NF (mo_tk m 0) d tau (ck m 1 + J) (ck m 4 + R) ∧ NE0 (mo_tk m 0) J Hl ∧ NE1 (mo_tk m 0) T R ∧ NI7 (mo_tk m 0) Hl tt ∧ NC (mo_tk m 0) T t2 := by
  obtain ⟨a1, a2, a3, a4, a5, a6, a7, a8⟩ := h
  have o (i : Nat) (hi : ¬ i = 85) : (mo_tk m 0).1 i = m.1 i := tk_o hi
  refine ⟨gM_f a1 (o 109 (by decide)) (o 113 (by decide)) (o 115 (by decide)), gPB_tk a2 (by omega), NF_f a3 (o 86 (by decide)) (o 91 (by decide)) (o 92 (by decide)), NE0_f a4 (o 97 (by decide)) (by rw [o 109 (by decide)]) (by rw [o 110 (by decide)]), NE1_f a5 (by rw [o 109 (by decide)]) (by rw [o 110 (by decide)]), ?_, NC_f a7 (o 102 (by decide)) rfl⟩
  unfold NI7 at *
  rw [o 82 (by decide)]; exact a6
theorem NX_arrive {m : mx_M} {D d tau tt t2 J R Hl T : Int} (h : NX m d tau tt t2 J R Hl T) (hg : gA m D) (hD : D < 2147483000) (ok : arOK m) (hm : okM m) (hz0 : fp m 0 2 = 4 → ¬ fp m 0 0 < 12 → ¬ fp m 0 6 = 0) (hy : fp m 0 0 = 14 → 0 ≤ (fp m 0 4).toInt) (hx0 : 0 ≤ vex m 0 ∧ vex m 0 < 2147483647) (hx1 : 0 ≤ vex m 1 ∧ vex m 1 < 2147483647) : ∃ J' R' : Int, NX (mo_arrive m).1 d tau tt t2 J' R' Hl T := by
  obtain ⟨o1, oS, oW, oE, oC, oN, oI, oP, ⟨⟨t, ht, e2⟩, p1, p4, p40c, p5c⟩⟩ := ok
  obtain ⟨A1, A2, A3, A4, A5, A6⟩ := arrive_eq m o1 ht e2
  obtain ⟨b1, b2, b3, b4, b5, b6, b7⟩ := NX_tk h o1
  obtain ⟨-, -, -, -, -, -, -, j0, r0, h0, t0⟩ := h
  have k1 := ck_tk o1 1
  have k4 := ck_tk o1 4
  have o (i : Nat) (hi : ¬ i = 85) : (mo_tk m 0).1 i = m.1 i := tk_o hi
  have hE : iE (mo_tk m 0) 1397 := iE_f oE (fun i h1 h2 => o i (by omega))
  have g : gA (mo_tk m 0) D := gA_85 hg (fun i hi => o i hi) rfl
  obtain ⟨gs, gc, gn, gw, gi⟩ := g
  have hM : okM (mo_tk m 0) := okM_f hm (by rw [o 109 (by decide)]) (o 113 (by decide))
  have vx0 : vex (mo_tk m 0) 0 = vex m 0 := by show ((mo_tk m 0).1 110 0).toInt = _; rw [o 110 (by decide)]
  have vx1 : vex (mo_tk m 0) 1 = vex m 1 := by show ((mo_tk m 0).1 110 1).toInt = _; rw [o 110 (by decide)]
  have base (hl1 : ck (mo_tk m 0) 1 ≤ ck m 1) (hl4 : ck (mo_tk m 0) 4 ≤ ck m 4) : NX (mo_tk m 0) d tau tt t2 J R Hl T := ⟨b1, b2, NF_mono b3 (by omega) (by omega) (by omega) (by omega), b4, b5, b6, b7, j0, r0, h0, t0⟩
  have l1 : ck (mo_tk m 0) 1 ≤ ck m 1 := by omega
  have l4 : ck (mo_tk m 0) 4 ≤ ck m 4 := by omega
  by_cases t4 : t < 4
  · rw [A1 t4]
    dsimp only
    have w0 : 0 ≤ ((mo_tk m 0).1 94 t).toInt := (gw.1 t t4).1
    have w1 : ((mo_tk m 0).1 94 t).toInt < 2147483647 := by have := (gw.1 t t4).2; omega
    obtain ⟨s2, oo⟩ := toSub_o t4 (fp m 0 0) (fp m 0 3) (fp m 0 4) (fp m 0 5) w0 w1
    obtain ⟨a4, q1, q4, q5⟩ := toSub_n gs t4 (fp m 0 0) (fp m 0 3) (fp m 0 4) (fp m 0 5) w0 w1
    have x := toSub_x b1 t4 (fp m 0 0) (fp m 0 3) (fp m 0 4) (fp m 0 5) w0 w1
    refine ⟨J, R, x.2, gPB_ext b2 x.1, NF_mono (q5 _ _ _ _ b3) (by omega) (by omega) (by omega) (by omega), NE0_f b4 (funext fun j => oo 97 j (by omega)) (oo 109 0 (by omega)) (oo 110 0 (by omega)), NE1_f b5 (oo 109 1 (by omega)) (oo 110 1 (by omega)), ?_, NC_f b7 (funext fun j => oo 102 j (by omega)) s2, j0, r0, h0, t0⟩
    unfold NI7 at *
    rw [oo 82 17 (by omega)]; exact b6
  · by_cases hzz : 0 < m.1 105 (t - 4)
    · rw [A2 t4 hzz]; exact ⟨J, R, base l1 l4⟩
    · by_cases hk : fp m 0 0 < 12
      · have t45 : t = 4 ∨ t = 5 := by omega
        rcases t45 with rfl | rfl
        · rcases p4 e2 hk with ⟨z, _⟩ | ⟨u, hu, z, hkk⟩
          · rw [A5 rfl hzz hk (by rw [z]; decide)]
            dsimp only
            obtain ⟨s2, oo⟩ := fromSrv_o (mo_tk m 0) (fp m 0 0) (fp m 0 3) (fp m 0 4) (fp m 0 5)
            exact ⟨J, R, NX_S0 (base l1 l4) (XE_fromSrv SP0 (XE_r b1) _ _ _ _) (fun i j hij => oo i j (by omega)) s2⟩
          · rw [A4 rfl hzz hk (by rw [z]; exact (ofl4 (by omega)).2 hu), z]
            dsimp only
            obtain ⟨c1, s2, c3, c4, oo⟩ := fromSub_g gc (by omega) hE ⟨gi.2.2.1, by have := gi.2.2.2; omega⟩ hu (fp m 0 0) (fp m 0 3) (fp m 0 4) (fp m 0 5)
            have n0 := fromSub_n0 b4 ⟨j0, h0⟩ gc hE hu (fp m 0 0) (fp m 0 3) (fp m 0 4) (fp m 0 5)
            have x1 : XE S1 (mo_tk m 0) (mo_fromSubscriber (mo_tk m 0) (Int32.ofNat u) (fp m 0 0) (fp m 0 3) (fp m 0 4) (fp m 0 5)) := XE_fromSub SP1 (XE_r b1) hE hu (fun _ z14 => by rw [z14] at hk; exact absurd hk (by decide)) _ _
            have i7 : NI7 (mo_fromSubscriber (mo_tk m 0) (Int32.ofNat u) (fp m 0 0) (fp m 0 3) (fp m 0 4) (fp m 0 5)) Hl tt := by
              have key := fromSub_17 hE hu (fp m 0 0) (fp m 0 3) (fp m 0 4) (fp m 0 5)
              unfold NI7 at *
              rcases key with e | e
              · rw [e]; exact b6
              · rw [e, show (0 : Int32).toInt = 0 from rfl]; omega
            have ne1 := NE1_f b5 (oo 109 1 (by omega)) (oo 110 1 (by omega)) (m' := mo_fromSubscriber (mo_tk m 0) (Int32.ofNat u) (fp m 0 0) (fp m 0 3) (fp m 0 4) (fp m 0 5))
            have nc := NC_f b7 (funext fun j => oo 102 j (by omega)) s2
            have nf := NF_f b3 (funext fun j => oo 86 j (by omega)) (funext fun j => oo 91 j (by omega)) (funext fun j => oo 92 j (by omega)) (m' := mo_fromSubscriber (mo_tk m 0) (Int32.ofNat u) (fp m 0 0) (fp m 0 3) (fp m 0 4) (fp m 0 5))
            by_cases h1 : fp m 0 0 = 1
            · rw [if_pos h1] at n0 k1
              have xs : XE S0 (mo_tk m 0) (mo_fromSubscriber (mo_tk m 0) (Int32.ofNat u) (fp m 0 0) (fp m 0 3) (fp m 0 4) (fp m 0 5)) := XE_fromSub SP0 (XE_r b1) hE hu (fun q => absurd h1 q) _ _
              obtain ⟨e1, e4⟩ := ck0 xs.1
              exact ⟨J + 1, R, x1.2, gPB_ext b2 x1.1, NF_mono nf (by rw [e1]; omega) (by rw [e4]; omega) (by omega) (by omega), n0, ne1, i7, nc, by omega, r0, h0, t0⟩
            · rw [if_neg h1] at n0
              by_cases h4 : fp m 0 0 = 4
              · have f1 := fromSub4 (m := mo_tk m 0) (Int32.ofNat u) h4 (fp m 0 3) (fp m 0 4) (fp m 0 5) 1
                have f4 := fromSub4 (m := mo_tk m 0) (Int32.ofNat u) h4 (fp m 0 3) (fp m 0 4) (fp m 0 5) 4
                rw [if_neg (by decide)] at f1
                rw [if_pos rfl] at f4
                rw [if_pos h4] at k4
                exact ⟨J, R, x1.2, gPB_ext b2 x1.1, NF_mono nf (by omega) (by omega) (by omega) (by omega), n0, ne1, i7, nc, j0, r0, h0, t0⟩
              · have xs : XE S0 (mo_tk m 0) (mo_fromSubscriber (mo_tk m 0) (Int32.ofNat u) (fp m 0 0) (fp m 0 3) (fp m 0 4) (fp m 0 5)) := XE_fromSub SP0 (XE_r b1) hE hu (fun q => ⟨q, h4, fun z14 => by rw [z14] at hk; exact absurd hk (by decide)⟩) _ _
                obtain ⟨e1, e4⟩ := ck0 xs.1
                exact ⟨J, R, x1.2, gPB_ext b2 x1.1, NF_mono nf (by rw [e1]; omega) (by rw [e4]; omega) (by omega) (by omega), n0, ne1, i7, nc, j0, r0, h0, t0⟩
        · rw [A3 rfl hzz hk]
          dsimp only
          obtain ⟨c1, c2, c3, oo⟩ := toS_g gn (iE_mono hE (by decide)) ⟨gw.2.1, by have := gw.2.2; omega⟩ (fp m 0 0) (fp m 0 3) (fp m 0 4) (fp m 0 5)
          obtain ⟨r, q1, q2, q3, q4⟩ := toS_n b5 b7 (iE_mono hE (by decide)) gn.1 gw.2.1 (fp m 0 0) (fp m 0 3) (fp m 0 4) (fp m 0 5)
          have xs : XE S0 (mo_tk m 0) (mo_toSession (mo_tk m 0) (fp m 0 0) (fp m 0 3) (fp m 0 4) (fp m 0 5)) := XE_toS SP0 (XE_r b1) (iE_mono hE (by decide)) gn.1 gw.2.1 _ _ _ _
          obtain ⟨e1, e4⟩ := ck0 xs.1
          have nf := NF_f b3 (funext fun j => oo 86 j (by omega)) (funext fun j => oo 91 j (by omega)) (funext fun j => oo 92 j (by omega)) (m' := mo_toSession (mo_tk m 0) (fp m 0 0) (fp m 0 3) (fp m 0 4) (fp m 0 5))
          have hr : (ck (mo_tk m 0) 4 : Int) + r ≤ ck m 4 := by
            by_cases hr1 : r = 1
            · rw [if_pos (q2 hr1)] at k4; omega
            · omega
          refine ⟨J, R + r, xs.2, gPB_ext b2 (ext_S xs.1 S0S1), NF_mono nf (by rw [e1]; omega) (by rw [e4]; omega) (by omega) (by omega), NE0_f b4 (funext fun j => oo 97 j (by omega)) (oo 109 0 (by omega)) (oo 110 0 (by omega)), q3, ?_, q4, j0, by omega, h0, t0⟩
          unfold NI7 at *
          rw [oo 82 17 (by omega)]; exact b6
      · rw [A6 t4 hzz hk]
        dsimp only
        have t45 : t = 4 ∨ t = 5 := by omega
        rcases t45 with rfl | rfl
        · have e := ctl_0 (mo_tk m 0) (fp m 0 0) (fp m 0 3) (fp m 0 4) (fp m 0 6) (fp m 0 7) (fp m 0 8)
          rw [show mo_control (mo_tk m 0) (Int32.ofNat (4 - 4)) (fp m 0 0) (fp m 0 3) (fp m 0 4) (fp m 0 6) (fp m 0 7) (fp m 0 8) = mo_control (mo_tk m 0) 0 (fp m 0 0) (fp m 0 3) (fp m 0 4) (fp m 0 6) (fp m 0 7) (fp m 0 8) from rfl, e]
          have hk5 : fp m 0 6 = (mo_tk m 0).1 106 0 → (fp m 0 8).toInt ≤ ((mo_tk m 0).1 108 0).toInt ∨ ((mo_tk m 0).1 108 0).toInt = ((mo_tk m 0).1 109 0).toInt := by
            rw [o 106 (by decide), o 108 (by decide), o 109 (by decide)]; exact p40c e2 hk
          obtain ⟨c1, s2, oo⟩ := c340_g gc hE (fp m 0 0) (fp m 0 3) (fp m 0 4) (fp m 0 6) (fp m 0 7) (fp m 0 8) (fun z1 z2 => hz0 e2 hk (z1.trans z2)) hy hk5
          have n0 := c340_n b4 hE gc.1 (by rw [vx0]; exact hx0) (fp m 0 0) (fp m 0 3) (fp m 0 4) (fp m 0 6) (fp m 0 7) (fp m 0 8) hk5
          have xs : XE S0 (mo_tk m 0) (mo_control_34 1 (mo_tk m 0) 0 (fp m 0 0) (fp m 0 3) (fp m 0 4) (fp m 0 6) (fp m 0 7) (fp m 0 8)) := XE_c34 SP0 (XE_r b1) (e := 0) (by decide) hE gc.1 gn.1 ⟨gn.2.2.1, by have := gn.2.2.2; omega⟩ _ _ _ _ _ _ hk5
          obtain ⟨e1, e4⟩ := ck0 xs.1
          have nf := NF_f b3 (funext fun j => oo 86 j (by omega)) (funext fun j => oo 91 j (by omega)) (funext fun j => oo 92 j (by omega)) (m' := mo_control_34 1 (mo_tk m 0) 0 (fp m 0 0) (fp m 0 3) (fp m 0 4) (fp m 0 6) (fp m 0 7) (fp m 0 8))
          refine ⟨J, R, xs.2, gPB_ext b2 (ext_S xs.1 S0S1), NF_mono nf (by rw [e1]; omega) (by rw [e4]; omega) (by omega) (by omega), n0, NE1_f b5 (oo 109 1 (by omega)) (oo 110 1 (by omega)), ?_, NC_f b7 (funext fun j => oo 102 j (by omega)) s2, j0, r0, h0, t0⟩
          unfold NI7 at *
          rw [oo 82 17 (by omega)]; exact b6
        · have e := ctl_cases (mo_tk m 0) (fp m 0 0) (fp m 0 3) (fp m 0 4) (fp m 0 6) (fp m 0 7) (fp m 0 8)
          rw [show mo_control (mo_tk m 0) (Int32.ofNat (5 - 4)) (fp m 0 0) (fp m 0 3) (fp m 0 4) (fp m 0 6) (fp m 0 7) (fp m 0 8) = mo_control (mo_tk m 0) 1 (fp m 0 0) (fp m 0 3) (fp m 0 4) (fp m 0 6) (fp m 0 7) (fp m 0 8) from rfl, e]
          obtain ⟨c1, c2, c3, c4, c5, c6, c7, c8⟩ := ctl_m hE gc.1 gn.1 hM (fp m 0 0) (fp m 0 6) (fp m 0 8) (by rw [o 106 (by decide), o 108 (by decide), o 109 (by decide)]; exact p5c e2 hk)
          have mm : XE S0 (mo_tk m 0) (if fp m 0 0 = 12 ∧ (mo_tk m 0).1 106 1 < fp m 0 6 then mo_clear (my_ps (mo_tk m 0) 0) 1 (fp m 0 6) else mo_tk m 0) ∧ NE1 (if fp m 0 0 = 12 ∧ (mo_tk m 0).1 106 1 < fp m 0 6 then mo_clear (my_ps (mo_tk m 0) 0) 1 (fp m 0 6) else mo_tk m 0) T R ∧ NC (if fp m 0 0 = 12 ∧ (mo_tk m 0).1 106 1 < fp m 0 6 then mo_clear (my_ps (mo_tk m 0) 0) 1 (fp m 0 6) else mo_tk m 0) T t2 ∧ (0 ≤ vex (if fp m 0 0 = 12 ∧ (mo_tk m 0).1 106 1 < fp m 0 6 then mo_clear (my_ps (mo_tk m 0) 0) 1 (fp m 0 6) else mo_tk m 0) 1 ∧ vex (if fp m 0 0 = 12 ∧ (mo_tk m 0).1 106 1 < fp m 0 6 then mo_clear (my_ps (mo_tk m 0) 0) 1 (fp m 0 6) else mo_tk m 0) 1 < 2147483647) := by
            by_cases ho : fp m 0 0 = 12 ∧ (mo_tk m 0).1 106 1 < fp m 0 6
            · rw [if_pos ho]
              have cv := clear_v (my_ps (mo_tk m 0) 0) (e := 1) (by decide) (fp m 0 6)
              have v9 : vpt (mo_clear (my_ps (mo_tk m 0) 0) 1 (fp m 0 6)) 1 = 0 := by show ((mo_clear (my_ps (mo_tk m 0) 0) (Int32.ofNat 1) (fp m 0 6)).1 109 1).toInt = _; rw [cv.2.2.2.1]; rfl
              have v10 : vex (mo_clear (my_ps (mo_tk m 0) 0) 1 (fp m 0 6)) 1 = 0 := by show ((mo_clear (my_ps (mo_tk m 0) 0) (Int32.ofNat 1) (fp m 0 6)).1 110 1).toInt = _; rw [cv.2.2.2.2]; rfl
              refine ⟨XE_clear (m := my_ps (mo_tk m 0) 0) (XE_f (XE_r b1) rfl rfl rfl rfl rfl) (e := 1) (by decide) _, ?_, NC_0 b7 rfl, by rw [v10]; omega⟩
              unfold NE1
              rw [v9, v10]; omega
            · rw [if_neg ho]
              exact ⟨XE_r b1, b5, b7, by rw [vx1]; exact hx1⟩
          have n29 : 0 ≤ ((if fp m 0 0 = 12 ∧ (mo_tk m 0).1 106 1 < fp m 0 6 then mo_clear (my_ps (mo_tk m 0) 0) 1 (fp m 0 6) else mo_tk m 0).1 82 29).toInt ∧ ((if fp m 0 0 = 12 ∧ (mo_tk m 0).1 106 1 < fp m 0 6 then mo_clear (my_ps (mo_tk m 0) 0) 1 (fp m 0 6) else mo_tk m 0).1 82 29).toInt < 2147483647 := by
            rw [c6 82 29 (by omega)]; exact ⟨gn.2.2.1, by have := gn.2.2.2; omega⟩
          have gn2 : gN (if fp m 0 0 = 12 ∧ (mo_tk m 0).1 106 1 < fp m 0 6 then mo_clear (my_ps (mo_tk m 0) 0) 1 (fp m 0 6) else mo_tk m 0) D := by
            refine ⟨c3, fun k hk => ?_, ?_, ?_⟩
            · rw [c6 98 k (by omega), c6 82 29 (by omega)]; exact gn.2.1 k (by omega)
            · rw [c6 82 29 (by omega)]; exact gn.2.2.1
            · rw [c6 82 29 (by omega)]; exact gn.2.2.2
          generalize (if fp m 0 0 = 12 ∧ (mo_tk m 0).1 106 1 < fp m 0 6 then mo_clear (my_ps (mo_tk m 0) 0) 1 (fp m 0 6) else mo_tk m 0) = M at *
          obtain ⟨d1, oo'⟩ := c341_g gn2 (by omega) c1 (fp m 0 0) (fp m 0 3) (fp m 0 4) (fp m 0 6) (fp m 0 7) (fp m 0 8) c5
          have oo (i j : Nat) (hij : ¬ (i = 85 ∨ (98 ≤ i ∧ i < 103) ∨ (i = 82 ∧ j = 29) ∨ (106 ≤ i ∧ i < 113 ∧ j = 1) ∨ 113 ≤ i)) : (mo_control_34 1 M 1 (fp m 0 0) (fp m 0 3) (fp m 0 4) (fp m 0 6) (fp m 0 7) (fp m 0 8)).1 i j = (mo_tk m 0).1 i j := by rw [oo' i j (by omega), c6 i j (by omega)]
          obtain ⟨q1, q2⟩ := c341_n mm.2.1 mm.2.2.1 c1 c3 mm.2.2.2 (fp m 0 0) (fp m 0 3) (fp m 0 4) (fp m 0 6) (fp m 0 7) (fp m 0 8) c5
          have xs : XE S0 (mo_tk m 0) (mo_control_34 1 M 1 (fp m 0 0) (fp m 0 3) (fp m 0 4) (fp m 0 6) (fp m 0 7) (fp m 0 8)) := XE_c34 SP0 mm.1 (e := 1) (by decide) c1 c2 c3 n29 _ _ _ _ _ _ c5
          obtain ⟨e1, e4⟩ := ck0 xs.1
          have nf := NF_f b3 (funext fun j => oo 86 j (by omega)) (funext fun j => oo 91 j (by omega)) (funext fun j => oo 92 j (by omega)) (m' := mo_control_34 1 M 1 (fp m 0 0) (fp m 0 3) (fp m 0 4) (fp m 0 6) (fp m 0 7) (fp m 0 8))
          refine ⟨J, R, xs.2, gPB_ext b2 (ext_S xs.1 S0S1), NF_mono nf (by rw [e1]; omega) (by rw [e4]; omega) (by omega) (by omega), NE0_f b4 (funext fun j => oo 97 j (by omega)) (oo 109 0 (by omega)) (oo 110 0 (by omega)), q1, ?_, q2, j0, r0, h0, t0⟩
          unfold NI7 at *
          rw [oo 82 17 (by omega)]; exact b6
