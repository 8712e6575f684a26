/-! a run of calls -/
def SI (c : mx_C) (m : mx_M) (k : Nat) : Prop := ∃ t d : Nat, rR c m ∧ BI m t d ∧ d + t ≤ k
theorem SI_w {c : mx_C} {m : mx_M} {k : Nat} (h : SI c m k) : SI c m (k + 1) := by
  obtain ⟨t, d, r, b, hk⟩ := h
  exact ⟨t, d, r, b, by omega⟩
theorem SI_facts {c : mx_C} {m : mx_M} {k : Nat} (h : SI c m k) : rR c m ∧ iSt m ∧ iAd m ∧ iE m 1400 ∧ (∀ s : Nat, s < 4 → 0 ≤ (m.1 94 s).toInt) ∧ 0 ≤ (m.1 82 24).toInt := by
  obtain ⟨t, d, r, ⟨J, R, Hl, T, lam, nx, pc, pw, ga, ie⟩, hk⟩ := h
  exact ⟨r, (gS_sOK ga.1).1, gS_ad ga.1, iE_mono ie (by decide), fun s hs => (ga.2.2.2.1.1 s hs).1, ga.2.2.2.1.2.1⟩
theorem SI_allow {c : mx_C} {m : mx_M} {k : Nat} (h : SI c m k) (a b : Int32) : SI (sl_allow c a b).1 (mo_allow m a b).1 (k + 1) ∧ (sl_allow c a b).2 = (mo_allow m a b).2 := by
  obtain ⟨t, d, r, b0, hk⟩ := h
  have x := x_allow r a b
  exact ⟨⟨t, d, x.1, BI_allow b0 a b, by omega⟩, x.2⟩
theorem SI_dial {c : mx_C} {m : mx_M} {k : Nat} (h : SI c m k) (a b e : Int32) : SI (sl_dial c a b e).1 (mo_dial m a b e).1 (k + 1) ∧ (sl_dial c a b e).2 = (mo_dial m a b e).2 := by
  obtain ⟨t, d, r, b0, hk⟩ := h
  have x := x_dial r a b e
  exact ⟨⟨t, d + 1, x.1, BI_dial b0 a b e, by omega⟩, x.2⟩
theorem SI_hangup {c : mx_C} {m : mx_M} {k : Nat} (h : SI c m k) (a : Int32) : SI (sl_hangup c a).1 (mo_hangup m a).1 (k + 1) ∧ (sl_hangup c a).2 = (mo_hangup m a).2 := by
  have f := SI_facts h
  obtain ⟨t, d, r, b0, hk⟩ := h
  have x := x_hangup r f.2.1 a
  exact ⟨⟨t, d, x.1, BI_hangup b0 a, by omega⟩, x.2⟩
theorem SI_send {c : mx_C} {m : mx_M} {k : Nat} (h : SI c m k) (a b e : Int32) : SI (sl_send c a b e).1 (mo_send m a b e).1 (k + 1) ∧ (sl_send c a b e).2 = (mo_send m a b e).2 := by
  obtain ⟨t, d, r, b0, hk⟩ := h
  have x := x_sendc r a b e
  exact ⟨⟨t, d, x.1, BI_send b0 a b e, by omega⟩, x.2⟩
theorem SI_core {c : mx_C} {m : mx_M} {k : Nat} (h : SI c m k) (a b : Int32) : SI (sl_core c a b).1 (mo_core m a b).1 (k + 1) ∧ (sl_core c a b).2 = (mo_core m a b).2 := by
  obtain ⟨t, d, r, b0, hk⟩ := h
  have x := x_corec r a b
  exact ⟨⟨t, d, x.1, BI_core2 b0 a b 5 0, by omega⟩, x.2⟩
theorem SI_restart {c : mx_C} {m : mx_M} {k : Nat} (h : SI c m k) (a : Int32) : SI (sl_restart c a).1 (mo_restart m a).1 (k + 1) ∧ (sl_restart c a).2 = (mo_restart m a).2 := by
  have f := SI_facts h
  obtain ⟨t, d, r, b0, hk⟩ := h
  have x := x_restart r f.2.2.2.1 a
  exact ⟨⟨t, d, x.1, BI_restart b0 a, by omega⟩, x.2⟩
theorem SI_tick {c : mx_C} {m : mx_M} {k : Nat} (h : SI c m k) (hk5 : k ≤ 511) : SI (sl_tick c).1 (mo_tick m).1 (k + 1) ∧ (sl_tick c).2 = (mo_tick m).2 ∧ tk1 c.2.2.2.1.val c ∧ tm1 m.2.1.val m := by
  obtain ⟨t, d, r, b0, hk⟩ := h
  have g := BI_tick b0 (by omega)
  have x := x_tick r g.1
  exact ⟨⟨t + 1, d, x.1, g.2, by omega⟩, x.2⟩
theorem SI_drop {c : mx_C} {m : mx_M} {k : Nat} (h : SI c m k) (a : Int32) : SI (sl_drop c a).1 (mo_drop m a).1 (k + 1) ∧ (sl_drop c a).2 = (mo_drop m a).2 := by
  obtain ⟨t, d, r, b0, hk⟩ := h
  have x := x_drop r a
  exact ⟨⟨t, d, x.1, BI_drop b0 a, by omega⟩, x.2⟩
theorem SI_swap {c : mx_C} {m : mx_M} {k : Nat} (h : SI c m k) (a : Int32) : SI (sl_swap c a).1 (mo_swap m a).1 (k + 1) ∧ (sl_swap c a).2 = (mo_swap m a).2 := by
  obtain ⟨t, d, r, b0, hk⟩ := h
  have x := x_swap r a
  exact ⟨⟨t, d, x.1, BI_swap b0 a, by omega⟩, x.2⟩
theorem run_ok (xs : Nat → Int32) (L : Nat) (hL : L ≤ 2049) : ∀ (n : Nat) (c : mx_C) (m : mx_M) (k : Nat), SI c m k → k ≤ 512 → 512 - k < n → lwQ xs L n c m (Int32.ofNat (1 + 4 * k)) ∧ (la_28 xs L n c m (Int32.ofNat (1 + 4 * k))).2 = 1 := by
  intro n
  induction n with
  | zero => intro c m k h hk hn; omega
  | succ n ih =>
    intro c m k h hk hn
    have hv : (Int32.ofNat (1 + 4 * k)).toInt = 1 + 4 * (k : Int) := by rw [i_of _ (by omega)]; omega
    have hL4 : (Int32.ofNat L - 4).toInt = (L : Int) - 4 := by
      rw [i_sub] <;> rw [i_of L (by omega), show (4 : Int32).toInt = 4 from rfl] <;> omega
    have e4 : Int32.ofNat (1 + 4 * k) + 4 = Int32.ofNat (1 + 4 * (k + 1)) := (of_add (1 + 4 * k) 4).trans (by rw [show 1 + 4 * k + 4 = 1 + 4 * (k + 1) by omega])
    by_cases hend : (Int32.ofNat L - 4) < Int32.ofNat (1 + 4 * k)
    · refine ⟨?_, ?_⟩
      · unfold lwQ
        exact ⟨by rw [hv]; omega, hL, fun z => absurd hend z⟩
      · unfold la_28
        rw [if_pos hend]
    · have hk5 : k ≤ 511 := by
        rw [i_lt, hv, hL4] at hend
        omega
      have ih' (c' : mx_C) (m' : mx_M) (g : SI c' m' (k + 1)) := ih c' m' (k + 1) g (by omega) (by omega)
      obtain ⟨f1, f2, f3, f4, f5, f6⟩ := SI_facts h
      have hw := SI_w h
      refine ⟨?_, ?_⟩
      · unfold lwQ
        refine ⟨by rw [hv]; omega, hL, fun _ => ?_⟩
        rw [e4]
        generalize xs (Int32.ofNat (1 + 4 * k)).toNatClampNeg &&& 31 = op
        generalize xs (Int32.ofNat (1 + 4 * k) + 1).toNatClampNeg = A1
        generalize xs (Int32.ofNat (1 + 4 * k) + 2).toNatClampNeg = A2
        generalize xs (Int32.ofNat (1 + 4 * k) + 3).toNatClampNeg = A3
        exact ⟨fun _ => ⟨⟨trivial, trivial⟩, fun _ => (ih' _ _ (SI_allow h A1 A2).1).1⟩,
          fun _ => ⟨⟨trivial, trivial⟩, fun _ => (ih' _ _ (SI_dial h A1 A2 A3).1).1⟩,
          fun _ => ⟨⟨trivial, trivial⟩, fun _ => (ih' _ _ (SI_hangup h A1).1).1⟩,
          fun _ => ⟨⟨trivial, trivial⟩, fun _ => (ih' _ _ (SI_send h A1 A2 A3).1).1⟩,
          fun _ => ⟨⟨trivial, trivial⟩, fun _ => (ih' _ _ (SI_core h A1 A2).1).1⟩,
          fun _ => ⟨⟨trivial, trivial⟩, fun _ => (ih' _ _ (SI_restart h A1).1).1⟩,
          fun _ => ⟨(SI_tick h hk5).2.2, fun _ => (ih' _ _ (SI_tick h hk5).1).1⟩,
          fun _ => ⟨⟨trivial, trivial⟩, fun _ => (ih' _ _ (SI_drop h A1).1).1⟩,
          fun _ => ⟨⟨trivial, trivial⟩, fun _ => (ih' _ _ (SI_swap h A1).1).1⟩,
          fun _ => ⟨⟨trivial, trivial⟩, fun _ => (ih' _ _ hw).1⟩,
          fun _ => ⟨⟨trivial, trivial⟩, fun _ => (ih' _ _ hw).1⟩,
          fun _ => ⟨⟨trivial, trivial⟩, fun _ => (ih' _ _ hw).1⟩,
          fun _ => ⟨⟨trivial, trivial⟩, fun _ => (ih' _ _ hw).1⟩,
          fun _ => ⟨⟨trivial, trivial⟩, fun _ => (ih' _ _ hw).1⟩,
          fun _ => ⟨⟨trivial, trivial⟩, fun _ => (ih' _ _ hw).1⟩,
          fun _ => ⟨⟨trivial, trivial⟩, fun _ => (ih' _ _ hw).1⟩,
          fun _ => ⟨⟨trivial, trivial⟩, fun _ => (ih' _ _ hw).1⟩,
          fun _ => ⟨⟨trivial, trivial⟩, fun _ => (ih' _ _ hw).1⟩,
          fun _ => ⟨⟨trivial, trivial⟩, fun _ => (ih' _ _ hw).1⟩,
          fun _ _ _ _ _ _ _ _ _ _ _ _ _ _ _ _ _ _ _ => (ih' _ _ hw).1⟩
      · unfold la_28
        rw [if_neg hend, e4]
        generalize xs (Int32.ofNat (1 + 4 * k)).toNatClampNeg &&& 31 = op
        generalize xs (Int32.ofNat (1 + 4 * k) + 1).toNatClampNeg = A1
        generalize xs (Int32.ofNat (1 + 4 * k) + 2).toNatClampNeg = A2
        generalize xs (Int32.ofNat (1 + 4 * k) + 3).toNatClampNeg = A3
        have hww := (ih' _ _ hw).2
        by_cases o0 : op = 0
        · rw [if_pos o0, if_pos (SI_allow h A1 A2).2]; exact (ih' _ _ (SI_allow h A1 A2).1).2
        rw [if_neg o0]
        by_cases o1 : op = 1
        · rw [if_pos o1, if_pos (SI_dial h A1 A2 A3).2]; exact (ih' _ _ (SI_dial h A1 A2 A3).1).2
        rw [if_neg o1]
        by_cases o2 : op = 2
        · rw [if_pos o2, if_pos (SI_hangup h A1).2]; exact (ih' _ _ (SI_hangup h A1).1).2
        rw [if_neg o2]
        by_cases o3 : op = 3
        · rw [if_pos o3, if_pos (SI_send h A1 A2 A3).2]; exact (ih' _ _ (SI_send h A1 A2 A3).1).2
        rw [if_neg o3]
        by_cases o4 : op = 4
        · rw [if_pos o4, if_pos (SI_core h A1 A2).2]; exact (ih' _ _ (SI_core h A1 A2).1).2
        rw [if_neg o4]
        by_cases o5 : op = 5
        · rw [if_pos o5, if_pos (SI_restart h A1).2]; exact (ih' _ _ (SI_restart h A1).1).2
        rw [if_neg o5]
        by_cases o6 : op = 6
        · rw [if_pos o6, if_pos (SI_tick h hk5).2.1]; exact (ih' _ _ (SI_tick h hk5).1).2
        rw [if_neg o6]
        by_cases o7 : op = 7
        · rw [if_pos o7, if_pos (SI_drop h A1).2]; exact (ih' _ _ (SI_drop h A1).1).2
        rw [if_neg o7]
        by_cases o8 : op = 8
        · rw [if_pos o8, if_pos (SI_swap h A1).2]; exact (ih' _ _ (SI_swap h A1).1).2
        rw [if_neg o8]
        by_cases o9 : op = 9
        · rw [if_pos o9, if_pos (q_flight f1)]; exact hww
        rw [if_neg o9]
        by_cases o10 : op = 10
        · rw [if_pos o10, if_pos (q_packet f1 A1 A2)]; exact hww
        rw [if_neg o10]
        by_cases o11 : op = 11
        · rw [if_pos o11, if_pos (q_state f1 A1)]; exact hww
        rw [if_neg o11]
        by_cases o12 : op = 12
        · rw [if_pos o12, if_pos (q_address f1 f3 A1)]; exact hww
        rw [if_neg o12]
        by_cases o13 : op = 13
        · rw [if_pos o13, if_pos (q_heard f1 f5 A1 A2)]; exact hww
        rw [if_neg o13]
        by_cases o14 : op = 14
        · rw [if_pos o14, if_pos (q_cored f1 f6 A1)]; exact hww
        rw [if_neg o14]
        by_cases o15 : op = 15
        · rw [if_pos o15, if_pos (q_source f1 f6 A1)]; exact hww
        rw [if_neg o15]
        by_cases o16 : op = 16
        · rw [if_pos o16, if_pos (q_circuit f1 A1 A2)]; exact hww
        rw [if_neg o16]
        by_cases o17 : op = 17
        · rw [if_pos o17, if_pos (q_session f1 A1 A2)]; exact hww
        rw [if_neg o17]
        by_cases o18 : op = 18
        · rw [if_pos o18, if_pos (q_channel f1 f4 A1 A2)]; exact hww
        rw [if_neg o18]
        exact hww
/-! the start -/
def c_k (i k : Nat) : Int32 :=
  if k = 1 ∧ i = 50 then 1 else if k = 1 ∧ i = 53 then 2 else if k = 1 ∧ i = 56 then 3 else if i = 62 ∧ k = 0 then 4 else if i = 62 ∧ k = 1 then 5 else if i = 74 ∧ k = 0 then 5 else if i = 74 ∧ k = 1 then 4 else 0
def m_0 (v : Int32) : mx_M := ((fun i k => if i = 82 ∧ k = 0 then v else 0), 0, 0)
def c_0 (v : Int32) : mx_C := ((fun i k => if i = 66 ∧ k = 3 then v else c_k i k), (fun k => Fin.ofNat 41 k), (fun k => Fin.ofNat 4 k), 0, 0)
theorem m_0z (v : Int32) {i k : Nat} (h : ¬ (i = 82 ∧ k = 0)) : (m_0 v).1 i k = 0 := if_neg h
theorem z0i : (0 : Int32).toInt = 0 := rfl
theorem ck_z : ∀ q ∈ tb4, (q.1 = (66, 3) ∧ q.2 = (82, 0)) ∨ (¬ q.1 = (66, 3) ∧ ¬ q.2 = (82, 0) ∧ c_k q.1.1 q.1.2 = 0) := by decide +kernel
theorem rR_0 (v : Int32) : rR (c_0 v) (m_0 v) := by
  refine ⟨⟨rfl, fun k f hk hf => absurd hk (Nat.not_lt_zero k), fun i j hi hj hij => ?_⟩, fun q hq => ?_, ⟨rfl, fun k j hk hj => absurd hk (Nat.not_lt_zero k), fun i j hi hj hij => ?_⟩, ⟨fun s hs k hk => ?_, fun k hk => ?_, fun k hk => ?_⟩, ⟨⟨fun z => absurd rfl z, fun n hn => ?_⟩, ⟨fun z => absurd rfl z, fun n hn => ?_⟩⟩, ⟨fun s hs => ?_, rfl, rfl, rfl, rfl⟩⟩
  · have h : (Fin.ofNat 41 i).val = (Fin.ofNat 41 j).val := congrArg Fin.val hij
    simp [Fin.ofNat] at h
    omega
  · rcases ck_z q hq with ⟨e1, e2⟩ | ⟨e1, e2, e3⟩
    · rw [e1, e2]; rfl
    · rw [m_0z v (fun z => e2 (Prod.ext z.1 z.2))]
      show (if q.1.1 = 66 ∧ q.1.2 = 3 then v else c_k q.1.1 q.1.2) = 0
      rw [if_neg (fun z => e1 (Prod.ext z.1 z.2))]; exact e3
  · have h : (Fin.ofNat 4 i).val = (Fin.ofNat 4 j).val := congrArg Fin.val hij
    simp [Fin.ofNat] at h
    omega
  · rw [m_0z v (by omega), z0i, if_neg (by omega)]
    show (if 49 + 3 * s = 66 ∧ k = 3 then v else c_k (49 + 3 * s) k) = 0
    rw [if_neg (by omega)]
    unfold c_k
    rw [if_neg (by omega), if_neg (by omega), if_neg (by omega), if_neg (by omega), if_neg (by omega), if_neg (by omega), if_neg (by omega)]
  · rw [m_0z v (by omega), z0i, if_neg (by omega)]
    show (if 71 = 66 ∧ k = 3 then v else c_k 71 k) = 0
    rw [if_neg (by omega)]
    unfold c_k
    rw [if_neg (by omega), if_neg (by omega), if_neg (by omega), if_neg (by omega), if_neg (by omega), if_neg (by omega), if_neg (by omega)]
  · rw [m_0z v (by omega), z0i, if_neg (by omega)]
    show (if 73 = 66 ∧ k = 3 then v else c_k 73 k) = 0
    rw [if_neg (by omega)]
    unfold c_k
    rw [if_neg (by omega), if_neg (by omega), if_neg (by omega), if_neg (by omega), if_neg (by omega), if_neg (by omega), if_neg (by omega)]
  · rw [m_0z v (by omega), z0i] at hn; omega
  · rw [m_0z v (by omega), z0i] at hn; omega
  · have : s = 0 ∨ s = 1 ∨ s = 2 ∨ s = 3 := by omega
    rcases this with rfl | rfl | rfl | rfl
    · exact ⟨rfl, rfl⟩
    · exact ⟨rfl, rfl⟩
    · exact ⟨rfl, rfl⟩
    · exact ⟨rfl, rfl⟩
theorem AllP_0 (v : Int32) (Q : vQ) : AllP (m_0 v) 0 none Q := ⟨fun k hk => absurd hk (Nat.not_lt_zero k), fun _ _ _ _ _ _ z => by cases z⟩
theorem iE_0 (v : Int32) : iE (m_0 v) 1399 := by
  have key : ∀ e, iEe (m_0 v) e 1399 := by
    intro e
    unfold iEe
    rw [m_0z v (i := 107) (by omega), m_0z v (i := 109) (by omega), m_0z v (i := 108) (by omega), z0i]
    exact ⟨by omega, by omega, by omega, Or.inl ⟨rfl, by omega⟩, fun _ => rfl⟩
  exact ⟨key 0, key 1⟩
theorem BI_0 (v : Int32) (hv : v.toInt ≤ 4) : BI (m_0 v) 0 0 := by
  have z (i k : Nat) (h : ¬ (i = 82 ∧ k = 0)) : ((m_0 v).1 i k).toInt = 0 := by rw [m_0z v h]; rfl
  have c0 : vch (m_0 v) 0 = 0 := z 106 0 (by omega)
  have c1 : vch (m_0 v) 1 = 0 := z 106 1 (by omega)
  have a0 : vak (m_0 v) 0 = 0 := z 107 0 (by omega)
  have a1 : vak (m_0 v) 1 = 0 := z 107 1 (by omega)
  have p0 : vpt (m_0 v) 0 = 0 := z 109 0 (by omega)
  have p1 : vpt (m_0 v) 1 = 0 := z 109 1 (by omega)
  have x0 : vex (m_0 v) 0 = 0 := z 110 0 (by omega)
  have x1 : vex (m_0 v) 1 = 0 := z 110 1 (by omega)
  have cs : vcs (m_0 v) = 0 := z 82 30 (by omega)
  have u (s : Nat) := u_0 (m := m_0 v) (s := s) (by rw [m_0z v (by omega)]; decide) (by rw [m_0z v (by omega)]; decide)
  have n (s : Nat) : nz (m_0 v) s = 0 := if_pos (m_0z v (by omega))
  have k1 : ck (m_0 v) 1 = 0 := rfl
  have k4 : ck (m_0 v) 4 = 0 := rfl
  refine ⟨0, 0, 0, 0, 0, ⟨?_, fun k hk => absurd hk (Nat.not_lt_zero k), ?_, ?_, ?_, ?_, ⟨fun k hk => absurd hk (Nat.not_lt_zero k), by show 12 * 0 + 0 ≤ 4 * ((0 : Nat) : Int); decide⟩, by decide, by decide, by decide, by decide⟩, ⟨?_, AllP_0 v _, fun x hx => Or.inl ⟨AllP_0 v _, fun q => by omega, fun q => by omega⟩, ?_, fun q => absurd q nft, Nat.zero_le _⟩, ⟨AllP_0 v _, Nat.zero_le _⟩, ⟨?_, ?_, ?_, ?_, ?_⟩, iE_0 v⟩
  · intro e n he hn
    rw [z 109 e (by omega)] at hn; omega
  · unfold NF sum4
    rw [k1, k4, (u 0).1, (u 1).1, (u 2).1, (u 3).1, (u 0).2.1, (u 1).2.1, (u 2).2.1, (u 3).2.1, (u 0).2.2.1, (u 1).2.2.1, (u 2).2.2.1, (u 3).2.2.1, (u 0).2.2.2, (u 1).2.2.2, (u 2).2.2.2, (u 3).2.2.2]
    decide
  · unfold NE0 sum4
    rw [p0, x0, n 0, n 1, n 2, n 3]; decide
  · unfold NE1
    rw [p1, x1]; decide
  · unfold NI7
    rw [z 82 17 (by omega)]; decide
  · unfold eC
    rw [c0, c1, cs, a0, x0, x1, p0, p1]
    exact ⟨⟨by omega, by omega, by omega, by omega, by omega, by omega⟩, fun _ q => absurd rfl q, fun q => absurd rfl q, fun q => absurd rfl q, fun n h1 h2 => by omega, fun n h1 => by omega, fun q => absurd rfl q⟩
  · rw [x0, x1, a0, a1]; decide
  · intro s hs
    exact gs_off (m := m_0 v) (m_0z v (by omega)) (m_0z v (by omega))
  · refine ⟨⟨fun s hs => ?_, fun s s' _ _ _ hn => absurd (m_0z v (by omega)) hn⟩, fun s hs => ?_, ?_, ?_, fun _ s hs => m_0z v (by omega)⟩
    · rw [m_0z v (by omega), m_0z v (by omega)]; decide
    · rw [z 96 s (by omega), z 82 28 (by omega)]; decide
    · rw [z 82 28 (by omega)]; decide
    · rw [z 82 28 (by omega)]; decide
  · refine ⟨fun i j hi => absurd hi (Nat.not_lt_zero i), fun k hk => absurd hk (Nat.not_lt_zero k), ?_, ?_⟩
    · rw [z 82 29 (by omega)]; decide
    · rw [z 82 29 (by omega)]; decide
  · refine ⟨fun s hs => ?_, ?_, ?_⟩
    · rw [z 94 s (by omega)]; decide
    · rw [z 82 24 (by omega)]; decide
    · rw [z 82 24 (by omega)]; decide
  · refine ⟨⟨?_, ?_⟩, ?_, ?_, ?_⟩
    · rw [z 105 0 (by omega)]; decide
    · rw [z 105 1 (by omega)]; decide
    · exact hv
    · rw [z 82 30 (by omega)]; decide
    · rw [z 82 30 (by omega)]; decide
/-- what the law's loop wants, from the start on -/
theorem run_0 (xs : Nat → Int32) (L : Nat) (hL : L ≤ 2049) (v : Int32) (hv : v.toInt ≤ 4) (n : Nat) (hn : 512 < n) : lwQ xs L n (c_0 v) (m_0 v) 1 ∧ (la_28 xs L n (c_0 v) (m_0 v) 1).2 = 1 :=
  run_ok xs L hL n (c_0 v) (m_0 v) 0 ⟨0, 0, rR_0 v, BI_0 v hv, Nat.le_refl _⟩ (by decide) (by omega)
