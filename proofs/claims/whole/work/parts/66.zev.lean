theorem v_in (pool : Int32) : jx_max 1 (jx_min 4 pool) ∈ [(1 : Int32), 2, 3, 4] := by
  have h1 : (1 : Int32).toInt = 1 := rfl
  have h2 : (2 : Int32).toInt = 2 := rfl
  have h3 : (3 : Int32).toInt = 3 := rfl
  have h4 : (4 : Int32).toInt = 4 := rfl
  have key : ∀ v : Int32, ¬ v.toInt < 1 → ¬ 4 < v.toInt → v ∈ [(1 : Int32), 2, 3, 4] := by
    intro v a b
    have : v.toInt = 1 ∨ v.toInt = 2 ∨ v.toInt = 3 ∨ v.toInt = 4 := by omega
    rcases this with h | h | h | h
    · rw [Int32.toInt_inj.mp (h.trans h1.symm)]; decide
    · rw [Int32.toInt_inj.mp (h.trans h2.symm)]; decide
    · rw [Int32.toInt_inj.mp (h.trans h3.symm)]; decide
    · rw [Int32.toInt_inj.mp (h.trans h4.symm)]; decide
  unfold jx_max jx_min
  by_cases a : pool < 4
  · rw [if_pos a]
    by_cases b : 1 < pool
    · rw [if_pos b]
      rw [Int32.lt_iff_toInt_lt] at a b
      exact key pool (by omega) (by omega)
    · rw [if_neg b]; decide
  · rw [if_neg a, if_pos (by decide)]; decide
theorem kzmin_e (R : Room) (n0 s0 : Nat) (a b : Int32) (es : zM) : kzmin R n0 s0 [.int a, .int b] es = cond (decide (es.length - n0 ≤ R.cells ∧ zs es - s0 ≤ R.slots)) (some (es, some (.int (jx_min a b)))) none := rfl
theorem kzmax_e (R : Room) (n0 s0 : Nat) (a b : Int32) (es : zM) : kzmax R n0 s0 [.int a, .int b] es = cond (decide (es.length - n0 ≤ R.cells ∧ zs es - s0 ≤ R.slots)) (some (es, some (.int (jx_max a b)))) none := rfl
theorem zk_run_e (L : Nat → Nat → List (zx_E zM)) (nL fuel mc ms t : Nat) (r : List Value) (es : zM) : zk_run L nL fuel mc ms (.ref t :: r) es = cond (Nat.ble (r.length + 1) nL) (match zx_run (L es.length (zs es)) fuel (L es.length (zs es)) es ((Value.ref t :: r).map some ++ List.replicate (nL - (r.length + 1)) none) [] with
    | some (es', none) => cond (decide (es'.length = es.length + mc ∧ zs es' = zs es + ms)) (some (es', none)) none
    | _ => none) none := rfl
theorem jx_lo {p : Int32} (a : p < 1) : jx_max 1 (jx_min 4 p) = 1 := by
  have h1 : (1 : Int32).toInt = 1 := rfl
  have h4 : (4 : Int32).toInt = 4 := rfl
  have a' := Int32.lt_iff_toInt_lt.mp a
  have e : jx_min 4 p = p := if_pos (Int32.lt_iff_toInt_lt.mpr (by omega))
  rw [e]
  exact if_neg (fun h => by have := Int32.lt_iff_toInt_lt.mp h; omega)
theorem jx_hi {p : Int32} (a : 4 < p) : jx_max 1 (jx_min 4 p) = 4 := by
  have h1 : (1 : Int32).toInt = 1 := rfl
  have h4 : (4 : Int32).toInt = 4 := rfl
  have a' := Int32.lt_iff_toInt_lt.mp a
  have e : jx_min 4 p = 4 := if_neg (fun h => by have := Int32.lt_iff_toInt_lt.mp h; omega)
  rw [e]
  rfl
theorem jx_md {p : Int32} (a : ¬ p < 1) (b : ¬ 4 < p) : jx_max 1 (jx_min 4 p) = p := by
  have h1 : (1 : Int32).toInt = 1 := rfl
  have h4 : (4 : Int32).toInt = 4 := rfl
  rw [Int32.lt_iff_toInt_lt] at a b
  have e : jx_min 4 p = p := by
    by_cases h : p < 4
    · exact if_pos h
    · rw [Int32.lt_iff_toInt_lt] at h
      have : p = 4 := Int32.toInt_inj.mp (by omega)
      rw [this]; rfl
  rw [e]
  by_cases h : 1 < p
  · exact if_pos h
  · rw [Int32.lt_iff_toInt_lt] at h
    have : p = 1 := Int32.toInt_inj.mp (by omega)
    rw [this]; rfl
theorem sl_2 (pool : Int32) : zx_nst (Lc_sl 1 5) 3 60 en_1 [some (.ref 0), some (.int pool), some (.int 4)] [.int 4, .int 1, .ref 1, .ref 66, .ref 66, .ref 0] = some (63, en_1, [some (.ref 0), some (.int pool), some (.int 4)], [.int (jx_max 1 (jx_min 4 pool)), .ref 1, .ref 66, .ref 66, .ref 0]) := by
  have d0 : (Lc_sl 1 5).drop 60 = (111, .iload_n 1, 1, 0, 1, 0, [], (fun _ _ => none)) :: (Lc_sl 1 5).drop 61 := rfl
  have d1 : (Lc_sl 1 5).drop 61 = (112, .invokestatic 42, 3, 7, 2, 0, [], kzmin R_sl 1 5) :: (Lc_sl 1 5).drop 62 := rfl
  have d2 : (Lc_sl 1 5).drop 62 = (115, .invokestatic 48, 3, 7, 2, 0, [], kzmax R_sl 1 5) :: (Lc_sl 1 5).drop 63 := rfl
  have e0 : zx_stp (Lc_sl 1 5) 60 en_1 [some (.ref 0), some (.int pool), some (.int 4)] [.int 4, .int 1, .ref 1, .ref 66, .ref 66, .ref 0] = some (61, en_1, [some (.ref 0), some (.int pool), some (.int 4)], [.int pool, .int 4, .int 1, .ref 1, .ref 66, .ref 66, .ref 0]) := by
    unfold zx_stp; rw [d0]; rfl
  have k1 : kzmin R_sl 1 5 [.int 4, .int pool] en_1 = some (en_1, some (.int (jx_min 4 pool))) := by
    rw [kzmin_e, en_1s]; rfl
  have k2 : ∀ w, kzmax R_sl 1 5 [.int 1, .int w] en_1 = some (en_1, some (.int (jx_max 1 w))) := by
    intro w
    rw [kzmax_e, en_1s]; rfl
  have e1 : zx_stp (Lc_sl 1 5) 61 en_1 [some (.ref 0), some (.int pool), some (.int 4)] [.int pool, .int 4, .int 1, .ref 1, .ref 66, .ref 66, .ref 0] = some (62, en_1, [some (.ref 0), some (.int pool), some (.int 4)], [.int (jx_min 4 pool), .int 1, .ref 1, .ref 66, .ref 66, .ref 0]) := by
    unfold zx_stp; rw [d1]
    simp only [List.length_cons, List.length_nil, List.take, List.reverse_cons, List.reverse_nil, List.nil_append, List.cons_append, k1]
    rfl
  have e2 : zx_stp (Lc_sl 1 5) 62 en_1 [some (.ref 0), some (.int pool), some (.int 4)] [.int (jx_min 4 pool), .int 1, .ref 1, .ref 66, .ref 66, .ref 0] = some (63, en_1, [some (.ref 0), some (.int pool), some (.int 4)], [.int (jx_max 1 (jx_min 4 pool)), .ref 1, .ref 66, .ref 66, .ref 0]) := by
    unfold zx_stp; rw [d2]
    simp only [List.length_cons, List.length_nil, List.take, List.reverse_cons, List.reverse_nil, List.nil_append, List.cons_append, k2]
    rfl
  simp only [zx_nst, e0, e1, e2]
theorem K_sl (pool : Int32) : Kc_sl [.ref 0, .int pool] en_0 = some (en_2 (jx_max 1 (jx_min 4 pool)), none) := by
  have hv := v_in pool
  have h2 := sl_2 pool
  generalize jx_max 1 (jx_min 4 pool) = v at hv h2 ⊢
  have a1 := (zx_nst_sl (q := 1) (x := some (.int pool)) 132 (by decide) sl_1 rfl).2
  have a3 := (zx_nst_sl (q := 1) (x := some (.int pool)) 8 (by decide) (sl_3 v hv) rfl).2
  have r1 := zx_run_nst 132 a1 (157 + 8 + 3)
  have r2 := zx_run_nst 3 h2 (157 + 8)
  have r3 := zx_run_nst 8 a3 157
  have r : zx_run (Lc_sl 1 5) 300 (Lc_sl 1 5) en_0 [some (.ref 0), some (.int pool), none] [] = some (en_2 v, none) := by
    refine r1.trans (r2.trans (r3.trans ?_))
    have d : (Lc_sl 1 5).drop 71 = [(134, .return_, 1, 6, 0, 0, [], (fun _ _ => none))] := rfl
    rw [d]
    rfl
  have e := zk_run_e Lc_sl 3 300 81 12896 0 [.int pool] en_0
  rw [show en_0.length = 1 from rfl, show zs en_0 = 5 from rfl] at e
  refine e.trans ?_
  have r' : zx_run (Lc_sl 1 5) 300 (Lc_sl 1 5) en_0 ((Value.ref 0 :: [Value.int pool]).map some ++ List.replicate (3 - ([Value.int pool].length + 1)) none) [] = some (en_2 v, none) := r
  rw [r']
  simp only [(en_2s v hv).1, (en_2s v hv).2]
  rfl
theorem mo_2 (pool : Int32) (mem : zM) : ∃ k, k ≤ 8 ∧ zx_nst (Lc_mo 83 12943) k 135 mem [some (.ref 82), some (.int pool)] [.ref 82] = some (146, mem, [some (.ref 82), some (.int pool)], [.int (jx_max 1 (jx_min 4 pool)), .ref 82]) := by
  have d0 : (Lc_mo 83 12943).drop 135 = (247, .iload_n 1, 1, 0, 1, 0, [], (fun _ _ => none)) :: (Lc_mo 83 12943).drop 136 := rfl
  have d1 : (Lc_mo 83 12943).drop 136 = (248, .iconst 1, 1, 0, 0, 1, [], (fun _ _ => none)) :: (Lc_mo 83 12943).drop 137 := rfl
  have d2 : (Lc_mo 83 12943).drop 137 = (249, .if_icmp .ge 7, 3, 2, 140, 0, [], (fun _ _ => none)) :: (Lc_mo 83 12943).drop 138 := rfl
  have d3 : (Lc_mo 83 12943).drop 138 = (252, .iconst 1, 1, 0, 0, 1, [], (fun _ _ => none)) :: (Lc_mo 83 12943).drop 139 := rfl
  have d4 : (Lc_mo 83 12943).drop 139 = (253, .goto 13, 3, 1, 146, 0, [], (fun _ _ => none)) :: (Lc_mo 83 12943).drop 140 := rfl
  have d5 : (Lc_mo 83 12943).drop 140 = (256, .iload_n 1, 1, 0, 1, 0, [], (fun _ _ => none)) :: (Lc_mo 83 12943).drop 141 := rfl
  have d6 : (Lc_mo 83 12943).drop 141 = (257, .iconst 4, 1, 0, 0, 4, [], (fun _ _ => none)) :: (Lc_mo 83 12943).drop 142 := rfl
  have d7 : (Lc_mo 83 12943).drop 142 = (258, .if_icmp .le 7, 3, 2, 145, 0, [], (fun _ _ => none)) :: (Lc_mo 83 12943).drop 143 := rfl
  have d8 : (Lc_mo 83 12943).drop 143 = (261, .iconst 4, 1, 0, 0, 4, [], (fun _ _ => none)) :: (Lc_mo 83 12943).drop 144 := rfl
  have d9 : (Lc_mo 83 12943).drop 144 = (262, .goto 4, 3, 1, 146, 0, [], (fun _ _ => none)) :: (Lc_mo 83 12943).drop 145 := rfl
  have d10 : (Lc_mo 83 12943).drop 145 = (265, .iload_n 1, 1, 0, 1, 0, [], (fun _ _ => none)) :: (Lc_mo 83 12943).drop 146 := rfl
  by_cases a : pool < 1
  · refine ⟨5, by decide, ?_⟩
    have e := jx_lo a
    rw [e]
    simp only [zx_nst, zx_stp, d0, d1, d2, d3, d4, rx_st, rx_at, rx_cmp, a, if_true]
  · by_cases b : 4 < pool
    · refine ⟨8, by decide, ?_⟩
      have e := jx_hi b
      rw [e]
      simp only [zx_nst, zx_stp, d0, d1, d2, d5, d6, d7, d8, d9, rx_st, rx_at, rx_cmp, a, b, if_true, if_false]
    · refine ⟨7, by decide, ?_⟩
      have e := jx_md a b
      rw [e]
      simp only [zx_nst, zx_stp, d0, d1, d2, d5, d6, d7, d10, rx_st, rx_at, rx_cmp, a, b, if_true, if_false]
theorem K_mo (pool : Int32) : Kc_mo [.ref 82, .int pool] (en_3 (jx_max 1 (jx_min 4 pool))) = some (en_5 (jx_max 1 (jx_min 4 pool)), none) := by
  have hv := v_in pool
  obtain ⟨k, hk, h2⟩ := mo_2 pool (en_4 (jx_max 1 (jx_min 4 pool)))
  generalize jx_max 1 (jx_min 4 pool) = v at hv h2 ⊢
  have a1 := (zx_nst_sl (q := 1) (x := some (.int pool)) 135 (by decide) (mo_1 v hv) rfl).2
  have a3 := (zx_nst_sl (q := 1) (x := some (.int pool)) 1 (by decide) (mo_3 v hv) rfl).2
  have r1 := zx_run_nst 135 a1 (264 - k + k + 1)
  have r2 := zx_run_nst k h2 (264 - k + 1)
  have r3 := zx_run_nst 1 a3 (264 - k)
  have hl : (en_3 v).length = 83 ∧ zs (en_3 v) = 12943 := by
    unfold en_3
    rw [zs_app, List.length_append, (en_2s v hv).1, (en_2s v hv).2]
    exact ⟨rfl, rfl⟩
  have r : zx_run (Lc_mo 83 12943) 400 (Lc_mo 83 12943) (en_3 v) [some (.ref 82), some (.int pool)] [] = some (en_5 v, none) := by
    rw [show 264 - k + k + 1 + 135 = 400 by omega] at r1
    rw [show 264 - k + 1 + k = 264 - k + k + 1 by omega] at r2
    refine r1.trans (r2.trans (r3.trans ?_))
    have d : (Lc_mo 83 12943).drop 147 = [(269, .return_, 1, 6, 0, 0, [], (fun _ _ => none))] := rfl
    rw [d]
    obtain ⟨q, hq⟩ : ∃ q, 264 - k = q + 1 := ⟨263 - k, by omega⟩
    rw [hq]
    rfl
  have e := zk_run_e Lc_mo 2 400 33 8880 82 [.int pool] (en_3 v)
  rw [hl.1, hl.2] at e
  refine e.trans ?_
  have r' : zx_run (Lc_mo 83 12943) 400 (Lc_mo 83 12943) (en_3 v) ((Value.ref 82 :: [Value.int pool]).map some ++ List.replicate (2 - ([Value.int pool].length + 1)) none) [] = some (en_5 v, none) := r
  rw [r']
  simp only [(en_5s v hv).1, (en_5s v hv).2]
  rfl
