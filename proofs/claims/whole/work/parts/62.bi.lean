theorem NX_subT {m : mx_M} {d tau tt t2 J R Hl T : Int} (h : NX m d tau tt t2 J R Hl T) (hs : gS m) {t : Nat} (ht : t < 4) : NX (mo_subscriberTimer m (Int32.ofNat t)) d (tau + 1) tt t2 J R Hl T := by
  obtain ⟨b1, b2, b3, b4, b5, b6, b7, b8⟩ := h
  obtain ⟨s2, oo⟩ := subT_o (m := m) ht
  obtain ⟨a1, a4, q1, q4, q5⟩ := subT_n hs ht
  have x := subT_x (XE_r (S := S1) b1) (Int32.ofNat t)
  refine ⟨x.2, gPB_ext b2 x.1, NF_mono (q5 _ _ _ _ b3) (by omega) (by omega) (by omega) (by omega), NE0_f b4 (funext fun j => oo 97 j (by omega)) (oo 109 0 (by omega)) (oo 110 0 (by omega)), NE1_f b5 (oo 109 1 (by omega)) (oo 110 1 (by omega)), ?_, NC_f b7 (funext fun j => oo 102 j (by omega)) s2, b8⟩
  unfold NI7 at *
  rw [oo 82 17 (by omega)]; exact b6
theorem NX_sT4 {m : mx_M} {D d tau tt t2 J R Hl T : Int} (h : NX m d tau tt t2 J R Hl T) (hg : gA m D) : NX (sT4 m) d (tau + 4) tt t2 J R Hl T := by
  have g0 := gA_subT hg (t := 0) (by decide)
  have g1 := gA_subT g0 (t := 1) (by decide)
  have g2 := gA_subT g1 (t := 2) (by decide)
  have h0 := NX_subT h hg.1 (t := 0) (by decide)
  have h1 := NX_subT h0 g0.1 (t := 1) (by decide)
  have h2 := NX_subT h1 g1.1 (t := 2) (by decide)
  have h3 := NX_subT h2 g2.1 (t := 3) (by decide)
  rw [show tau + 1 + 1 + 1 + 1 = tau + 4 by omega] at h3
  exact h3
theorem NX_aT {m : mx_M} {D d tau tt t2 J R Hl T : Int} (h : NX m d tau tt t2 J R Hl T) (hg : gA m D) (hi : iE m 1399) (htt : tt < 2147483646) : ∃ Hl' : Int, NX (aT m) d tau (tt + 1) t2 J R Hl' T := by
  obtain ⟨b1, b2, b3, b4, b5, b6, b7, j0, r0, h0, t0⟩ := h
  obtain ⟨a1, a2, a3, o⟩ := aT_g hg.2.1 hi hg.2.2.2.2.1.1
  obtain ⟨a, n0, n7⟩ := aT_n b4 b6 ⟨j0, h0⟩ htt hi hg.2.1
  have xs := XE_aT SP0 (XE_r (S := S0) b1) hi hg.2.1.1
  obtain ⟨e1, e4⟩ := ck0 xs.1
  refine ⟨Hl + a, xs.2, gPB_ext b2 (ext_S xs.1 S0S1), ?_, n0, NE1_f b5 (o 109 1 (by omega)) (o 110 1 (by omega)), n7, NC_f b7 (funext fun j => o 102 j (by omega)) a2, j0, r0, by omega, t0⟩
  rw [e1, e4]
  exact NF_f b3 (funext fun j => o 86 j (by omega)) (funext fun j => o 91 j (by omega)) (funext fun j => o 92 j (by omega))
theorem vT_o {m : mx_M} {D : Int} (h : gN m D) (hi : iE m 1395) : ∀ i j, ¬ (i = 85 ∨ (98 ≤ i ∧ i < 103) ∨ (i = 105 ∧ j = 1) ∨ (106 ≤ i ∧ i < 113 ∧ j = 1) ∨ 113 ≤ i) → (vT m).1 i j = m.1 i j := by
  intro i j hij
  unfold vT
  split
  · exact qi_ne (by omega)
  · have hb : m.2.2.val < 5 := m.2.2.isLt
    exact (stl_g 6 m 0 h (by omega) (by omega) (iE_mono hi (by omega))).2 i j (by omega)
theorem NX_vT {m : mx_M} {D d tau tt t2 J R Hl T : Int} (h : NX m d tau tt t2 J R Hl T) (hg : gA m D) (hi : iE m 1395) (ht2 : t2 < 2147482000) : ∃ T' : Int, NX (vT m) d tau tt (t2 + 4) J R Hl T' := by
  obtain ⟨b1, b2, b3, b4, b5, b6, b7, j0, r0, h0, t0⟩ := h
  have o := vT_o hg.2.2.1 hi
  obtain ⟨a, n1, nc⟩ := vT_n b5 b7 t0 r0 ht2 hi
  have xs := XE_vT SP0 (XE_r (S := S0) b1) hi
  obtain ⟨e1, e4⟩ := ck0 xs.1
  refine ⟨T + a, xs.2, gPB_ext b2 (ext_S xs.1 S0S1), ?_, NE0_f b4 (funext fun j => o 97 j (by omega)) (o 109 0 (by omega)) (o 110 0 (by omega)), n1, ?_, nc, j0, r0, h0, by omega⟩
  · rw [e1, e4]
    exact NF_f b3 (funext fun j => o 86 j (by omega)) (funext fun j => o 91 j (by omega)) (funext fun j => o 92 j (by omega))
  · unfold NI7 at *
    rw [o 82 17 (by omega)]; exact b6
/-! the whole invariant -/
def rA (t : Nat) : Int := ((3 * ((t + 1) / 2) : Nat) : Int)
def rS' (t : Nat) : Int := ((3 * (t / 2) : Nat) : Int)
def BI (m : mx_M) (t d : Nat) : Prop := ∃ J R Hl T lam : Int, NX m d (4 * (t : Int)) t (4 * (t : Int)) J R Hl T ∧ PC m 0 none false lam (rA t) (rS' t) (rA t) (rS' t) ∧ PW m 0 none ∧ gA m (40 * (t : Int)) ∧ iE m 1399
def DI (m : mx_M) (L t d : Nat) : Prop := ∃ J R Hl T lam D : Int, NX m d (4 * (t : Int)) t (4 * (t : Int)) J R Hl T ∧ PC m L none true lam (rA t) (rS' t) (rA (t + 1)) (rS' (t + 1)) ∧ PW m L none ∧ gA m D ∧ D + L ≤ 40 * ((t : Int) + 1) ∧ iE m 1399
theorem bd {m : mx_M} {t d : Nat} {tau tt t2 J R Hl T a' : Int} (h : NX m d tau tt t2 J R Hl T) (hs : gS m) (hx : vex m 0 ≤ a' ∧ vex m 1 ≤ a') (ht : tau ≤ 4 * (t : Int) + 4) (htt : tt ≤ (t : Int) + 1) (ht2 : t2 ≤ 4 * (t : Int) + 4) (ha : a' ≤ rA (t + 1)) (hd : d + t ≤ 511) : vpt m 0 ≤ 1390 ∧ vpt m 1 ≤ 1390 := by
  obtain ⟨b1, b2, b3, b4, b5, b6, b7, j0, r0, h0, t0⟩ := h
  have u (s : Nat) (hs4 : s < 4) := u_nn (hs s hs4)
  have u0 := u 0 (by decide)
  have u1 := u 1 (by decide)
  have u2 := u 2 (by decide)
  have u3 := u 3 (by decide)
  have z0 := nz_r m 0
  have z1 := nz_r m 1
  have z2 := nz_r m 2
  have z3 := nz_r m 3
  have sc := scal_nn (f := fun k => (m.1 102 k).toInt) m.2.2.val b7.1
  have b72 := b7.2
  obtain ⟨c1, c2, c3, c4⟩ := b3
  obtain ⟨i1, i2⟩ := b6
  unfold NE0 at b4
  unfold NE1 at b5
  unfold sum4 at *
  unfold rA at ha
  omega
theorem iE_b {m : mx_M} {B B' : Int} (h : iE m B) (h0 : vpt m 0 ≤ B') (h1 : vpt m 1 ≤ B') : iE m B' := ⟨⟨h.1.1, h.1.2.1, h0, h.1.2.2.2⟩, ⟨h.2.1, h.2.2.1, h1, h.2.2.2.2⟩⟩
theorem PC_okM {m : mx_M} {L : Nat} {H : vH} {dl : Bool} {lam a s a' s' : Int} (h : PC m L H dl lam a s a' s') : okM m := h.1.2.2.2.2.2.1
theorem DI_step {m : mx_M} {L t d : Nat} (h : DI m (L + 1) t d) (hd : d + t ≤ 511) : arOK m ∧ DI (mo_arrive m).1 L t d := by
  obtain ⟨J, R, Hl, T, lam, D, nx, pc, pw, ga, hD, ie⟩ := h
  have pr := pc.2.2.2.1
  have b := bd nx ga.1 ⟨pr.1, pr.2.1⟩ (by omega) (by omega) (by omega) (Int.le_refl _) hd
  have iE9 : iE m 1390 := iE_b ie b.1 b.2
  have fl : L + 1 ≤ m.2.1.val := pc.2.2.2.2.2
  have hD2 : D < 2147483000 := by omega
  obtain ⟨gs, gc, gn, gw, gi⟩ := ga
  have pk := PC_pk pc (iE_mono iE9 (by decide))
  have w0 := pw.1.1 0 (by omega)
  have ok : arOK m := by
    refine ⟨by omega, fun s hs => (gs s hs).1, ⟨fun s hs => ⟨(gw.1 s hs).1, by have := (gw.1 s hs).2; omega⟩, gw.2.1, by have := gw.2.2; omega⟩, iE_mono iE9 (by decide), gc.1, gn.1, gi.1, gi.2.1, ⟨w0.1, w0.2.1, w0.2.2, pk.1, pk.2⟩⟩
  have okm := PC_okM pc
  have vcs1 : vcs m < 2147483647 := by
    have := gi.2.2.2
    show (m.1 82 30).toInt < _
    omega
  have hz : fp m 0 2 = 4 → ¬ fp m 0 0 < 12 → ¬ fp m 0 6 = 0 := by
    intro _ hk hz
    have g := pc.2.1.1 0 (by omega) hk
    have := g.2.1.1
    rw [hz, show (0 : Int32).toInt = 0 from rfl] at this
    omega
  have hy : fp m 0 0 = 14 → 0 ≤ (fp m 0 4).toInt := fun z => nx.2.1 0 (by omega) z
  have e0 := pc.1.1
  have rt1 : rS' t + 3 ≤ rA (t + 1) := by unfold rS' rA; omega
  have rt2 : rA t ≤ rS' (t + 1) := by unfold rS' rA; omega
  have rt3 : 0 ≤ rS' (t + 1) := by unfold rS'; omega
  have rt4 : 1 ≤ rA (t + 1) := by unfold rA; omega
  have rt5 : rA (t + 1) < 2147483647 := by unfold rA; omega
  refine ⟨ok, ?_⟩
  obtain ⟨J', R', nx'⟩ := NX_arrive nx ⟨gs, gc, gn, gw, gi⟩ hD2 ok okm hz hy ⟨e0.2.2.2.2.1, by omega⟩ ⟨e0.2.2.2.2.2, by omega⟩
  exact ⟨J', R', Hl, T, lam, D + 1, nx', PC_arrive pc ok vcs1 rt1 rt2 rt3 rt4 rt5, PW_arrive pw ok okm, gA_arrive ⟨gs, gc, gn, gw, gi⟩ hD2 ok okm hz hy, by omega, iE_mono (iE_arrive (by decide) (by decide) iE9 ok) (by decide)⟩
theorem DI_end {m : mx_M} {t d : Nat} (h : DI m 0 t d) (hd : d + t ≤ 511) : tmr m ∧ BI (vT (aT (sT4 m))) (t + 1) d := by
  obtain ⟨J, R, Hl, T, lam, D, nx, pc, pw, ga, hD, ie⟩ := h
  have pr := pc.2.2.2.1
  have b := bd nx ga.1 ⟨pr.1, pr.2.1⟩ (by omega) (by omega) (by omega) (Int.le_refl _) hd
  have iE9 : iE m 1390 := iE_b ie b.1 b.2
  have rt3 : 0 ≤ rS' (t + 1) := by unfold rS'; omega
  have rt4 : 0 ≤ rA (t + 1) := by unfold rA; omega
  have pc0 := PC_end pc
  have g0 := gA_subT ga (t := 0) (by decide)
  have g1 := gA_subT g0 (t := 1) (by decide)
  have g2 := gA_subT g1 (t := 2) (by decide)
  have g4 := gA_sT4 ga
  have pc4 := PC_sT4 pc0
  have pw4 := PW_sT4 pw
  have i4 := iE_sT4 iE9
  have nx4 := NX_sT4 nx ga
  have i4' := iE_mono i4 (show (1390 : Int) ≤ 1399 by decide)
  have g5 := gA_aT g4 i4'
  have pc5 := PC_aT pc4 i4' g4.2.1.1 rt3 rt4
  have pw5 := PW_aT pw4 i4' g4.2.1.1
  have i5 : iE (aT (sT4 m)) 1391 := iE_mono (iE_aT i4 (by decide) (by decide) g4.2.1.1) (show (1390 + 1 : Int) ≤ 1391 by decide)
  have i5' := iE_mono i5 (show (1391 : Int) ≤ 1395 by decide)
  obtain ⟨Hl', nx5⟩ := NX_aT nx4 g4 i4' (by omega)
  have g6 := gA_vT g5 i5'
  have pc6 := PC_vT pc5 i5' rt3 rt4
  have pw6 := PW_vT pw5 (PC_okM pc5) i5'
  have i6 := iE_vT i5 (by decide) (by decide)
  obtain ⟨T', nx6⟩ := NX_vT nx5 g5 i5' (by omega)
  have ch4 : 0 ≤ ((sT4 m).1 106 0).toInt := pc4.1.1.1
  have s0 : sOK (mo_subscriberTimer m 0) := gS_sOK g0.1
  have s1 : sOK (mo_subscriberTimer (mo_subscriberTimer m 0) 1) := gS_sOK g1.1
  have s2 : sOK (mo_subscriberTimer (mo_subscriberTimer (mo_subscriberTimer m 0) 1) 2) := gS_sOK g2.1
  have mb : mo_b m 1394 := by
    intro e he
    obtain ⟨i1, i2, i3, i4, i5⟩ := iE_get iE9 he
    exact ⟨i1, i2, by omega, by omega⟩
  have c4 := g4.2.1.1
  have si4 := g4.2.2.2.2.1.1
  have si5 := g5.2.2.2.2.1.2
  have e1 : (4 * (t : Int) + 4) = 4 * ((t + 1 : Nat) : Int) := by omega
  have e2 : ((t : Int) + 1) = ((t + 1 : Nat) : Int) := by omega
  rw [e1, e2] at nx6
  have g6' := gA_mono g6 (show D ≤ 40 * ((t + 1 : Nat) : Int) by omega)
  have i6' := iE_mono i6 (show (1391 + 4 : Int) ≤ 1399 by decide)
  have tm : tmr m := by
    unfold tmr
    exact And.intro mb (And.intro (gS_sOK ga.1) (And.intro s0 (And.intro s1 (And.intro s2 (And.intro i4' (And.intro c4 (And.intro ch4 (And.intro si4 (And.intro i5' si5)))))))))
  refine And.intro tm ?_
  unfold BI
  exact Exists.intro J (Exists.intro R (Exists.intro Hl' (Exists.intro T' (Exists.intro lam (And.intro nx6 (And.intro pc6 (And.intro pw6 (And.intro g6' i6'))))))))
theorem BI_begin {m : mx_M} {t d : Nat} (h : BI m t d) : DI m m.2.1.val t d := by
  obtain ⟨J, R, Hl, T, lam, nx, pc, pw, ga, ie⟩ := h
  have hb : m.2.1.val < 41 := m.2.1.isLt
  have q1 : rA t ≤ rA (t + 1) := by unfold rA; omega
  have q2 : rS' t ≤ rS' (t + 1) := by unfold rS'; omega
  exact ⟨J, R, Hl, T, vcs m, 40 * (t : Int), nx, PC_begin pc q1 q2, PW_begin pw, ga, by omega, ie⟩
def arF : Nat → mx_M → mx_M
  | 0, m => vT (aT (sT4 m))
  | k + 1, m => arF k (mo_arrive m).1
theorem DI_all : ∀ (k : Nat) (m : mx_M) (t d : Nat), d + t ≤ 511 → DI m k t d → arA k m ∧ BI (arF k m) (t + 1) d := by
  intro k
  induction k with
  | zero => intro m t d hd h; exact DI_end h hd
  | succ k ih =>
    intro m t d hd h
    have s := DI_step h hd
    have r := ih _ t d hd s.2
    exact ⟨⟨s.1, r.1⟩, r.2⟩
theorem mo_t9 : ∀ (k : Nat) (m : mx_M) (n : Nat) (a : Int32) (i : Nat), k < n → k + i ≤ 40 → (mo_tick_9 n m (Int32.ofNat (k + i)) a (Int32.ofNat i)).1 = arF k m := by
  intro k
  induction k with
  | zero =>
    intro m n a i hn hi
    obtain ⟨n, rfl⟩ : ∃ x, n = x + 1 := ⟨n - 1, by omega⟩
    rw [mo_tick_9, if_neg (by rw [i_lt, i_of _ (by omega), i_of _ (by omega)]; omega), mo_t37]
    simp only [arF]
  | succ k ih =>
    intro m n a i hn hi
    obtain ⟨n, rfl⟩ : ∃ x, n = x + 1 := ⟨n - 1, by omega⟩
    rw [mo_tick_9, if_pos ((of_le (by omega) (by omega)).2 (by omega)), show Int32.ofNat i + 1 = Int32.ofNat (i + 1) from of_add i 1, show k + 1 + i = k + (i + 1) by omega]
    dsimp only
    split
    · exact ih _ n _ (i + 1) (by omega) (by omega)
    · exact ih _ n _ (i + 1) (by omega) (by omega)
theorem tick_arF (m : mx_M) : (mo_tick m).1 = arF m.2.1.val m := by
  have hb : m.2.1.val < 41 := m.2.1.isLt
  have := mo_t9 m.2.1.val m 42 0 0 (by omega) (by omega)
  unfold mo_tick
  exact this
theorem BI_tick {m : mx_M} {t d : Nat} (h : BI m t d) (hd : d + t ≤ 511) : arA m.2.1.val m ∧ BI (mo_tick m).1 (t + 1) d := by
  rw [tick_arF]
  exact DI_all _ m t d hd (BI_begin h)
/-! the calls keep the invariant -/
theorem BI_85 {m m' : mx_M} {t d : Nat} (h : BI m t d) (o : ∀ i, ¬ i = 85 → m'.1 i = m.1 i) (hs : m'.2.2 = m.2.2) (hp : ∀ lam a s a' s', PC m 0 none false lam a s a' s' → PC m' 0 none false lam a s a' s') (hw : PW m' 0 none) (hb : gPB m') (h1 : ck m' 1 ≤ ck m 1) (h4 : ck m' 4 ≤ ck m 4) : BI m' t d := by
  obtain ⟨J, R, Hl, T, lam, ⟨b1, b2, b3, b4, b5, b6, b7, b8⟩, pc, pw, ga, ie⟩ := h
  refine ⟨J, R, Hl, T, lam, ⟨gM_f b1 (o 109 (by decide)) (o 113 (by decide)) (o 115 (by decide)), hb, NF_mono (NF_f b3 (o 86 (by decide)) (o 91 (by decide)) (o 92 (by decide))) (by omega) (by omega) (by omega) (by omega), NE0_f b4 (o 97 (by decide)) (by rw [o 109 (by decide)]) (by rw [o 110 (by decide)]), NE1_f b5 (by rw [o 109 (by decide)]) (by rw [o 110 (by decide)]), ?_, NC_f b7 (o 102 (by decide)) hs, b8⟩, hp _ _ _ _ _ pc, hw, gA_85 ga o hs, iE_f ie (fun i h1 h2 => o i (by omega))⟩
  unfold NI7 at *
  rw [o 82 (by decide)]; exact b6
theorem BI_drop {m : mx_M} {t d : Nat} (h : BI m t d) (x : Int32) : BI (mo_drop m x).1 t d := by
  have hb : m.2.1.val < 41 := m.2.1.isLt
  unfold mo_drop
  rcases out_eq (c := (fun _ _ => 0, fun _ => 0, fun _ => 0, 0, 0)) (m := m) x m.2.1.val (by omega) with ⟨e, k, hk, rfl⟩ | ⟨e, _⟩
  · rw [e, if_pos rfl]
    show BI (mo_takeOut m (Int32.ofNat k)) t d
    rw [mo_take_eq m hk]
    have h' := h
    obtain ⟨J, R, Hl, T, lam, nx, pc, pw, ga, ie⟩ := h'
    exact BI_85 h (fun i hi => tk_o hi) rfl (fun _ _ _ _ _ p => PC_sub p (fun i hi => tk_o hi) (fun Q q => AllP_tkk q hk)) ⟨AllP_tkk pw.1 hk, Nat.zero_le _⟩ (gPB_tk nx.2.1 hk) (ck_drop hk 1) (ck_drop hk 4)
  · rw [e, if_neg (by decide)]; exact h
theorem BI_swap {m : mx_M} {t d : Nat} (h : BI m t d) (x : Int32) : BI (mo_swap m x).1 t d := by
  rcases mo_swap_cases m x with ⟨k, hk, rfl⟩ | ⟨e, _⟩
  · rw [mo_swap_eq m hk]
    have h' := h
    obtain ⟨J, R, Hl, T, lam, nx, pc, pw, ga, ie⟩ := h'
    exact BI_85 h (fun i hi => sw_o hi) rfl (fun _ _ _ _ _ p => PC_sub p (fun i hi => sw_o hi) (fun Q q => AllP_swp q hk)) ⟨AllP_swp pw.1 hk, Nat.zero_le _⟩ (gPB_swp nx.2.1 hk) (Nat.le_of_eq (ck_swp hk 1)) (Nat.le_of_eq (ck_swp hk 4))
  · rw [e]; exact h
/-- a call that only sends -/
theorem BI_snd {m : mx_M} {t d : Nat} (h : BI m t d) (q : Nat → Int32) (hq : q 0 < 12) (h1 : ¬ q 0 = 1) (h4 : ¬ q 0 = 4) (hw : PW (my_send m q) 0 none) : BI (my_send m q) t d := by
  have h' := h
  obtain ⟨J, R, Hl, T, lam, nx, pc, pw, ga, ie⟩ := h'
  have x := XE_send (XE_r (S := S1) nx.1) q (fun z => by rw [z] at hq; exact absurd hq (by decide))
  exact BI_85 h (fun i hi => my_send_o _ _ hi) (my_send_s _ _) (fun _ _ _ _ _ p => PC_send0 p q hq) hw (gPB_ext nx.2.1 x.1) (ck_sendn m q 1 h1) (ck_sendn m q 4 h4)
theorem BI_send {m : mx_M} {t d : Nat} (h : BI m t d) (x y z : Int32) : BI (mo_send m x y z).1 t d := by
  have h' := h
  obtain ⟨J, R, Hl, T, lam, nx, pc, pw, ga, ie⟩ := h'
  have w := PW_sendc pw x y z
  unfold mo_send at *
  split
  · rename_i ho
    rw [if_pos ho] at w
    split
    · rename_i h3
      rw [if_pos h3] at w
      dsimp only at w ⊢
      rw [mo_sendOff_eq] at w ⊢
      exact BI_snd h _ (by show (10 : Int32) < 12; decide) (by show ¬ (10 : Int32) = 1; decide) (by show ¬ (10 : Int32) = 4; decide) w
    · exact h
  · exact h
theorem BI_core2 {m : mx_M} {t d : Nat} (h : BI m t d) (x y : Int32) : ∀ (n : Nat) (i : Int32), BI (mo_core_2 n m x y i).1 t d := by
  have h' := h
  obtain ⟨J, R, Hl, T, lam, nx, pc, pw, ga, ie⟩ := h'
  intro n
  induction n with
  | zero => intro i; exact h
  | succ n ih =>
    intro i
    rw [mo_core_2]
    split
    · split
      · split
        · show BI (mo_sendOff _ _ _ _ _ _ _) t d
          rw [mo_sendOff_eq]
          exact BI_snd h _ (by show (11 : Int32) < 12; decide) (by show ¬ (11 : Int32) = 1; decide) (by show ¬ (11 : Int32) = 4; decide) (PW_54 pw (by decide) _ _ _)
        · exact ih _
      · exact ih _
    · exact h
theorem BI_allow {m : mx_M} {t d : Nat} (h : BI m t d) (x y : Int32) : BI (mo_allow m x y).1 t d := by
  have h' := h
  obtain ⟨J, R, Hl, T, lam, nx, pc, pw, ga, ie⟩ := h'
  have pcA := PC_allow pc x y
  unfold mo_allow at *
  split
  · rename_i ho
    rw [if_pos ho] at pcA
    dsimp only at pcA ⊢
    generalize x.toNatClampNeg = k at *
    have o (i j : Nat) (hi : ¬ (i = 83 ∨ i = 84)) : (my_pi (my_pi m 83 k 1) 84 k y).1 i j = m.1 i j := by rw [qi_ne (by omega), qi_ne (by omega)]
    have or (i : Nat) (hi : ¬ (i = 83 ∨ i = 84)) : (my_pi (my_pi m 83 k 1) 84 k y).1 i = m.1 i := funext fun j => o i j hi
    have c (q : Int32) : ck (my_pi (my_pi m 83 k 1) 84 k y) q = ck m q := by rw [ck_w _ (by decide), ck_w _ (by decide)]
    obtain ⟨b1, b2, b3, b4, b5, b6, b7, b8⟩ := nx
    refine ⟨J, R, Hl, T, lam, ⟨gM_f b1 (or 109 (by decide)) (or 113 (by decide)) (or 115 (by decide)), ?_, ?_, NE0_f b4 (or 97 (by decide)) (o 109 0 (by decide)) (o 110 0 (by decide)), NE1_f b5 (o 109 1 (by decide)) (o 110 1 (by decide)), ?_, NC_f b7 (or 102 (by decide)) rfl, b8⟩, pcA, PW_w (PW_w pw (by decide)) (by decide), ⟨gS_f ga.1 (or 86 (by decide)) (or 90 (by decide)) (or 91 (by decide)) (or 92 (by decide)), gC_f ga.2.1 (or 96 (by decide)) (or 97 (by decide)) (o 82 28 (by decide)) (o 106 0 (by decide)), gN_f ga.2.2.1 (or 98 (by decide)) (o 82 29 (by decide)) rfl, gW_f ga.2.2.2.1 (or 94 (by decide)) (o 82 24 (by decide)), gI_f ga.2.2.2.2 (or 105 (by decide)) (o 82 0 (by decide)) (o 82 30 (by decide))⟩, iE_w (iE_w ie (by omega)) (by omega)⟩
    · intro j hj h14
      unfold fp at *
      rw [or 85 (by decide)] at h14 ⊢
      exact b2 j hj h14
    · rw [c, c]
      exact NF_f b3 (or 86 (by decide)) (or 91 (by decide)) (or 92 (by decide))
    · unfold NI7 at *
      rw [o 82 17 (by decide)]; exact b6
  · exact h
/-- a call that changes a subscriber -/
theorem BI_sub {m m' : mx_M} {t d d' : Nat} (h : BI m t d) (hs : ∀ D, gA m D → gA m' D) (o : ∀ i j, ¬ (85 ≤ i ∧ i ≤ 93) → m'.1 i j = m.1 i j) (h2 : m'.2.2 = m.2.2) (hx : gM m → XE S1 m m') (hp : ∀ lam a s a' s', PC m 0 none false lam a s a' s' → PC m' 0 none false lam a s a' s') (hw : PW m 0 none → PW m' 0 none)
    (hn : ∀ J R tau : Int, gS m → NF m d tau (ck m 1 + J) (ck m 4 + R) → NF m' d' tau (ck m' 1 + J) (ck m' 4 + R)) : BI m' t d' := by
  obtain ⟨J, R, Hl, T, lam, ⟨b1, b2, b3, b4, b5, b6, b7, b8⟩, pc, pw, ga, ie⟩ := h
  have x := hx b1
  refine ⟨J, R, Hl, T, lam, ⟨x.2, gPB_ext b2 x.1, hn _ _ _ ga.1 b3, NE0_f b4 (funext fun j => o 97 j (by omega)) (o 109 0 (by omega)) (o 110 0 (by omega)), NE1_f b5 (o 109 1 (by omega)) (o 110 1 (by omega)), ?_, NC_f b7 (funext fun j => o 102 j (by omega)) h2, b8⟩, hp _ _ _ _ _ pc, hw pw, hs _ ga, iE_f ie (fun i h1 h2 => funext fun j => o i j (by omega))⟩
  unfold NI7 at *
  rw [o 82 17 (by omega)]; exact b6
theorem ask_s (m : mx_M) (x : Int32) : (mo_ask m x).2.2 = m.2.2 := by
  unfold mo_ask
  split
  · show (mo_sendOff _ _ _ _ _ _ _).2.2 = _; rw [mo_sendOff_eq, my_send_s]
  · show (mo_sendOff _ _ _ _ _ _ _).2.2 = _; rw [mo_sendOff_eq, my_send_s]
theorem BI_dial {m : mx_M} {t d : Nat} (h : BI m t d) (x y z : Int32) : BI (mo_dial m x y z).1 t (d + 1) := by
  have nk (k b : Int32) (hk : ¬ k = 14) : S1 k b := fun z => absurd z hk
  have fr : (mo_dial m x y z).1.2.2 = m.2.2 ∧ (∀ i j, ¬ (85 ≤ i ∧ i ≤ 93) → (mo_dial m x y z).1.1 i j = m.1 i j) ∧ (gM m → XE S1 m (mo_dial m x y z).1) := by
    rcases dial_eq m x y z with ⟨s, hs, _, h0, e⟩ | e
    · rw [e]
      refine ⟨ask_s _ _, fun i j hij => by rw [(ask_v _ hs).2.2 i j (by omega) (by omega), qi_ne (by omega), qi_ne (by omega), qi_ne (by omega), qi_ne (by omega)], fun hm => ?_⟩
      have r := XE_w (XE_w (XE_w (XE_w (XE_r (S := S1) hm) (i := 88) (k := s) (v := y) (by omega)) (i := 89) (k := s) (v := z) (by omega)) (i := 86) (k := s) (v := 1) (by omega)) (i := 92) (k := s) (v := 0) (by omega)
      unfold mo_ask
      split
      · exact XE_w (XE_w (XE_so r (nk _ _ (by decide)) _ _ _ _) (by omega)) (by omega)
      · exact XE_w (XE_w (XE_so r (nk _ _ (by decide)) _ _ _ _) (by omega)) (by omega)
    · rw [e]; exact ⟨rfl, fun _ _ _ => rfl, fun hm => XE_r hm⟩
  refine BI_sub h (fun D g => gA_subs g (gS_dial g.1 x y z) fr.2.1 fr.1) fr.2.1 fr.1 fr.2.2 (fun _ _ _ _ _ p => PC_dial p x y z) (fun w => PW_dial w x y z) (fun J R tau gs nf => ?_)
  obtain ⟨a1, q1, q4, q5⟩ := dial_n gs x y z
  have := q5 _ _ _ _ nf
  rw [show ((d : Int) + 1) = ((d + 1 : Nat) : Int) by omega] at this
  exact NF_mono this (by omega) (by omega) (by omega) (by omega)
theorem BI_hangup {m : mx_M} {t d : Nat} (h : BI m t d) (x : Int32) : BI (mo_hangup m x).1 t d := by
  have fr : (mo_hangup m x).1.2.2 = m.2.2 ∧ (∀ i j, ¬ (85 ≤ i ∧ i ≤ 93) → (mo_hangup m x).1.1 i j = m.1 i j) ∧ (gM m → XE S1 m (mo_hangup m x).1) := by
    rcases hang_eq m x with ⟨s, hs, e | e⟩ | e
    · rw [e]
      refine ⟨?_, fun i j hij => (leave_v m hs).2.2 i j (by omega) (by omega), fun hm => XE_leave SP1 (XE_r hm) _⟩
      show (mo_sendOff _ _ _ _ _ _ _).2.2 = _
      rw [mo_sendOff_eq, my_send_s]
    · rw [e]
      exact ⟨rfl, fun i j hij => (off_v m hs).2.2 i j (by omega), fun hm => XE_off (XE_r hm) _⟩
    · rw [e]; exact ⟨rfl, fun _ _ _ => rfl, fun hm => XE_r hm⟩
  refine BI_sub h (fun D g => gA_subs g (gS_hangup g.1 x) fr.2.1 fr.1) fr.2.1 fr.1 fr.2.2 (fun _ _ _ _ _ p => PC_hangup p x) (fun w => PW_hangup w x) (fun J R tau gs nf => ?_)
  obtain ⟨q1, q4, q5⟩ := hang_n gs x
  exact NF_mono (q5 _ _ _ _ nf) (by omega) (by omega) (by omega) (by omega)
def rst4 (m : mx_M) : mx_M := my_pi (my_pi (my_pi (my_pi (my_pi (my_pi (my_pi (my_pi (my_pi (my_pi (mo_clear m 0 0) 105 0 3) 82 17 0) 96 0 0) 97 0 0) 96 1 0) 97 1 0) 96 2 0) 97 2 0) 96 3 0) 97 3 0
def rst5 (m : mx_M) : mx_M := my_ps (my_pi (mo_clear m 1 0) 105 1 3) 0
theorem restart_eq (m : mx_M) (x : Int32) : (mo_restart m x).1 = rst4 m ∨ (mo_restart m x).1 = rst5 m ∨ (mo_restart m x).1 = m := by
  unfold mo_restart
  by_cases h4 : x = 4
  · subst h4
    rw [if_pos rfl]
    simp only [show ¬ (4 : Int32) = 5 by decide, if_false, show ((4 : Int32) - 4) = 0 from rfl, show (0 : Int32).toNatClampNeg = 0 from rfl]
    have st (n : Nat) (m : mx_M) (s : Nat) (hs : s < 4) : mo_restart_48 (n + 1) m 4 (Int32.ofNat s) = mo_restart_48 n (my_pi (my_pi m 96 s 0) 97 s 0) 4 (Int32.ofNat (s + 1)) := by
      rw [mo_restart_48, of_cl s (by omega), if_pos (by rw [i_lt, i_of s (by omega), show (4 : Int32).toInt = 4 from rfl]; omega)]
      rw [show Int32.ofNat (s + 1) = Int32.ofNat s + 1 from (of_add s 1).symm]
    have a0 := st 4 (my_pi (my_pi (mo_clear m 0 0) 105 0 3) 82 17 0) 0 (by decide)
    have a1 := st 3 (my_pi (my_pi (my_pi (my_pi (mo_clear m 0 0) 105 0 3) 82 17 0) 96 0 0) 97 0 0) 1 (by decide)
    have a2 := st 2 (my_pi (my_pi (my_pi (my_pi (my_pi (my_pi (mo_clear m 0 0) 105 0 3) 82 17 0) 96 0 0) 97 0 0) 96 1 0) 97 1 0) 2 (by decide)
    have a3 := st 1 (my_pi (my_pi (my_pi (my_pi (my_pi (my_pi (my_pi (my_pi (mo_clear m 0 0) 105 0 3) 82 17 0) 96 0 0) 97 0 0) 96 1 0) 97 1 0) 96 2 0) 97 2 0) 3 (by decide)
    have a4 : ∀ m : mx_M, mo_restart_48 1 m 4 (Int32.ofNat (3 + 1)) = (m, 1) := fun m => by rw [mo_restart_48, if_neg (by decide)]
    have aa := (a0.trans (a1.trans (a2.trans a3))).trans (a4 _)
    have aa' : mo_restart_48 5 (my_pi (my_pi (mo_clear m 0 0) 105 0 3) 82 17 0) 4 0 = (rst4 m, 1) := aa
    exact Or.inl (by rw [aa'])
  · rw [if_neg h4]
    by_cases h5 : x = 5
    · subst h5
      rw [if_pos rfl]
      exact Or.inr (Or.inl rfl)
    · rw [if_neg h5]; exact Or.inr (Or.inr rfl)
theorem BI_rst4 {m : mx_M} {t d : Nat} (h : BI m t d) (hp : ∀ lam a s a' s', 0 ≤ s' → 0 ≤ a' → PC m 0 none false lam a s a' s' → PC (rst4 m) 0 none false lam a s a' s') : BI (rst4 m) t d := by
  obtain ⟨J, R, Hl, T, lam, ⟨b1, b2, b3, b4, b5, b6, b7, b8⟩, pc, pw, ga, ie⟩ := h
  have rt3 : 0 ≤ rS' t := by unfold rS'; omega
  have rt4 : 0 ≤ rA t := by unfold rA; omega
  have cv := clear_v m (e := 0) (by decide) 0
  have z96 (s : Nat) (hs : s < 4) : (rst4 m).1 96 s = 0 := by
    unfold rst4
    simp only [qi_if]
    have : s = 0 ∨ s = 1 ∨ s = 2 ∨ s = 3 := by omega
    rcases this with rfl | rfl | rfl | rfl <;> simp
  have z97 (s : Nat) (hs : s < 4) : (rst4 m).1 97 s = 0 := by
    unfold rst4
    simp only [qi_if]
    have : s = 0 ∨ s = 1 ∨ s = 2 ∨ s = 3 := by omega
    rcases this with rfl | rfl | rfl | rfl <;> simp
  have oo (i j : Nat) (hij : ¬ (i = 96 ∨ i = 97 ∨ (i = 82 ∧ j = 17) ∨ (i = 105 ∧ j = 0))) : (rst4 m).1 i j = (mo_clear m 0 0).1 i j := by
    unfold rst4
    rw [qi_ne (by omega), qi_ne (by omega), qi_ne (by omega), qi_ne (by omega), qi_ne (by omega), qi_ne (by omega), qi_ne (by omega), qi_ne (by omega), qi_ne (by omega), qi_ne (by omega)]
  have o (i j : Nat) (hij : ¬ (i = 96 ∨ i = 97 ∨ (i = 82 ∧ j = 17) ∨ (i = 105 ∧ j = 0) ∨ (106 ≤ i ∧ i < 113 ∧ j = 0))) : (rst4 m).1 i j = m.1 i j := by
    rw [oo i j (by omega)]
    exact clear_o (e := 0) m (by decide) 0 (by omega)
  have v9 : (rst4 m).1 109 0 = 0 := (oo 109 0 (by omega)).trans cv.2.2.2.1
  have v10 : (rst4 m).1 110 0 = 0 := (oo 110 0 (by omega)).trans cv.2.2.2.2
  have v17 : (rst4 m).1 82 17 = 0 := by unfold rst4; simp only [qi_if]; simp
  have v105 : (rst4 m).1 105 0 = 3 := by unfold rst4; simp only [qi_if]; simp
  have hf : (rst4 m).2 = m.2 := rfl
  have x85 : (rst4 m).1 85 = m.1 85 := funext fun j => o 85 j (by omega)
  have iec : iE (mo_clear m 0 0) 1399 := clear_iE (e := 0) (by decide) (by decide) ie 0
  refine ⟨J, R, Hl, T, lam, ⟨?_, ?_, ?_, ?_, NE1_f b5 (o 109 1 (by omega)) (o 110 1 (by omega)), ?_, NC_f b7 (funext fun j => o 102 j (by omega)) rfl, b8⟩, hp _ _ _ _ _ rt3 rt4 pc, PW_f pw x85 rfl, ⟨gS_f ga.1 (funext fun j => o 86 j (by omega)) (funext fun j => o 90 j (by omega)) (funext fun j => o 91 j (by omega)) (funext fun j => o 92 j (by omega)), ?_, gN_f ga.2.2.1 (funext fun j => o 98 j (by omega)) (o 82 29 (by omega)) rfl, gW_f ga.2.2.2.1 (funext fun j => o 94 j (by omega)) (o 82 24 (by omega)), ⟨⟨?_, ?_⟩, ?_, ?_, ?_⟩⟩, iE_f iec (fun i h1 h2 => funext fun j => oo i j (by omega))⟩
  · intro e n he hn
    rw [o 113 _ (by omega), o 115 _ (by omega)]
    have h01 : e = 0 ∨ e = 1 := by omega
    rcases h01 with rfl | rfl
    · rw [v9, show (0 : Int32).toInt = 0 from rfl] at hn; omega
    · rw [o 109 1 (by omega)] at hn
      exact b1 1 n (by decide) hn
  · intro j hj h14
    unfold fp at *
    rw [x85] at h14 ⊢
    exact b2 j hj h14
  · have c (q : Int32) : ck (rst4 m) q = ck m q := ck_f x85 rfl q
    rw [c, c]
    exact NF_f b3 (funext fun j => o 86 j (by omega)) (funext fun j => o 91 j (by omega)) (funext fun j => o 92 j (by omega))
  · have e1 : vpt (rst4 m) 0 = 0 := by show ((rst4 m).1 109 0).toInt = _; rw [v9]; rfl
    have e2 : vex (rst4 m) 0 = 0 := by show ((rst4 m).1 110 0).toInt = _; rw [v10]; rfl
    have n0 : nz (rst4 m) 0 = 0 := if_pos (z97 0 (by decide))
    have n1 : nz (rst4 m) 1 = 0 := if_pos (z97 1 (by decide))
    have n2 : nz (rst4 m) 2 = 0 := if_pos (z97 2 (by decide))
    have n3 : nz (rst4 m) 3 = 0 := if_pos (z97 3 (by decide))
    unfold NE0 sum4
    rw [e1, e2, n0, n1, n2, n3]
    omega
  · unfold NI7 at *
    rw [v17, show (0 : Int32).toInt = 0 from rfl]
    omega
  · refine ⟨⟨fun s hs => ?_, fun s s' hs hs' hss hn => ?_⟩, fun s hs => ?_, ?_, ?_, fun _ s hs => z97 s hs⟩
    · rw [z96 s hs, z97 s hs]; decide
    · rw [z96 s hs] at hn; exact absurd rfl hn
    · rw [z96 s hs, o 82 28 (by omega)]; exact ga.2.1.2.2.1
    · rw [o 82 28 (by omega)]; exact ga.2.1.2.2.1
    · rw [o 82 28 (by omega)]; exact ga.2.1.2.2.2.1
  · rw [v105]; decide
  · rw [o 105 1 (by omega)]; exact ga.2.2.2.2.1.2
  · rw [o 82 0 (by omega)]; exact ga.2.2.2.2.2.1
  · rw [o 82 30 (by omega)]; exact ga.2.2.2.2.2.2.1
  · rw [o 82 30 (by omega)]; exact ga.2.2.2.2.2.2.2
theorem BI_rst5 {m : mx_M} {t d : Nat} (h : BI m t d) (hp : ∀ lam a s a' s', 0 ≤ s' → 0 ≤ a' → PC m 0 none false lam a s a' s' → PC (rst5 m) 0 none false lam a s a' s') : BI (rst5 m) t d := by
  obtain ⟨J, R, Hl, T, lam, ⟨b1, b2, b3, b4, b5, b6, b7, b8⟩, pc, pw, ga, ie⟩ := h
  have rt3 : 0 ≤ rS' t := by unfold rS'; omega
  have rt4 : 0 ≤ rA t := by unfold rA; omega
  have cv := clear_v m (e := 1) (by decide) 0
  have oo (i j : Nat) (hij : ¬ (i = 105 ∧ j = 1)) : (rst5 m).1 i j = (mo_clear m 1 0).1 i j := by
    show (my_pi (mo_clear m 1 0) 105 1 3).1 i j = _
    rw [qi_ne hij]
  have o (i j : Nat) (hij : ¬ ((i = 105 ∧ j = 1) ∨ (106 ≤ i ∧ i < 113 ∧ j = 1))) : (rst5 m).1 i j = m.1 i j := by
    rw [oo i j (by omega)]
    exact clear_o (e := 1) m (by decide) 0 (by omega)
  have v9 : (rst5 m).1 109 1 = 0 := (oo 109 1 (by omega)).trans cv.2.2.2.1
  have v10 : (rst5 m).1 110 1 = 0 := (oo 110 1 (by omega)).trans cv.2.2.2.2
  have v105 : (rst5 m).1 105 1 = 3 := by
    show (my_pi (mo_clear m 1 0) 105 1 3).1 105 1 = _
    rw [qi_eq]
  have x85 : (rst5 m).1 85 = m.1 85 := funext fun j => o 85 j (by omega)
  have iec : iE (mo_clear m 1 0) 1399 := clear_iE (e := 1) (by decide) (by decide) ie 0
  refine ⟨J, R, Hl, T, lam, ⟨?_, ?_, ?_, NE0_f b4 (funext fun j => o 97 j (by omega)) (o 109 0 (by omega)) (o 110 0 (by omega)), ?_, ?_, NC_0 b7 rfl, b8⟩, hp _ _ _ _ _ rt3 rt4 pc, PW_f pw x85 rfl, ⟨gS_f ga.1 (funext fun j => o 86 j (by omega)) (funext fun j => o 90 j (by omega)) (funext fun j => o 91 j (by omega)) (funext fun j => o 92 j (by omega)), gC_f ga.2.1 (funext fun j => o 96 j (by omega)) (funext fun j => o 97 j (by omega)) (o 82 28 (by omega)) (o 106 0 (by omega)), gN_0 (by rw [o 82 29 (by omega)]; exact ga.2.2.1.2.2) rfl, gW_f ga.2.2.2.1 (funext fun j => o 94 j (by omega)) (o 82 24 (by omega)), ⟨⟨?_, ?_⟩, ?_, ?_, ?_⟩⟩, iE_f iec (fun i h1 h2 => funext fun j => oo i j (by omega))⟩
  · intro e n he hn
    rw [o 113 _ (by omega), o 115 _ (by omega)]
    have h01 : e = 0 ∨ e = 1 := by omega
    rcases h01 with rfl | rfl
    · rw [o 109 0 (by omega)] at hn
      exact b1 0 n (by decide) hn
    · rw [v9, show (0 : Int32).toInt = 0 from rfl] at hn; omega
  · intro j hj h14
    unfold fp at *
    rw [x85] at h14 ⊢
    exact b2 j hj h14
  · have c (q : Int32) : ck (rst5 m) q = ck m q := ck_f x85 rfl q
    rw [c, c]
    exact NF_f b3 (funext fun j => o 86 j (by omega)) (funext fun j => o 91 j (by omega)) (funext fun j => o 92 j (by omega))
  · have e1 : vpt (rst5 m) 1 = 0 := by show ((rst5 m).1 109 1).toInt = _; rw [v9]; rfl
    have e2 : vex (rst5 m) 1 = 0 := by show ((rst5 m).1 110 1).toInt = _; rw [v10]; rfl
    unfold NE1
    rw [e1, e2]
    omega
  · unfold NI7 at *
    rw [o 82 17 (by omega)]; exact b6
  · rw [o 105 0 (by omega)]; exact ga.2.2.2.2.1.1
  · rw [v105]; decide
  · rw [o 82 0 (by omega)]; exact ga.2.2.2.2.2.1
  · rw [o 82 30 (by omega)]; exact ga.2.2.2.2.2.2.1
  · rw [o 82 30 (by omega)]; exact ga.2.2.2.2.2.2.2
theorem BI_restart {m : mx_M} {t d : Nat} (h : BI m t d) (x : Int32) : BI (mo_restart m x).1 t d := by
  rcases restart_eq m x with e | e | e
  · rw [e]
    refine BI_rst4 h (fun lam a s a' s' h1 h2 p => ?_)
    unfold rst4
    exact PC_w (PC_w (PC_w (PC_w (PC_w (PC_w (PC_w (PC_w (PC_w (PC_w (PC_clear0 p h1 h2) (by omega)) (by omega)) (by omega)) (by omega)) (by omega)) (by omega)) (by omega)) (by omega)) (by omega)) (by omega)
  · rw [e]
    refine BI_rst5 h (fun lam a s a' s' h1 h2 p => ?_)
    unfold rst5
    exact PC_ps (PC_w (PC_clear1 p h1 h2) (by omega)) _
  · rw [e]; exact h
