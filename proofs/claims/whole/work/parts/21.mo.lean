def ry_p (c : mx_C) (m : mx_M) (r : Int32) : rx_R mx := ((c, m), some (.int r))
abbrev mo_at (a : Int32) : Prop := 0 ≤ a.toInt ∧ a.toInt ≤ 351
theorem mo_at_j {a j : Int32} (h : mo_at a) (hj : 0 ≤ j.toInt ∧ j.toInt ≤ 8) : vp_in (a + j) 360 := by
  rw [i_in, i_add (by omega) (by omega)]
  omega
theorem mo_at_0 {a : Int32} (h : mo_at a) : vp_in a 360 := by
  rw [i_in]
  omega
theorem mo_nine {q : Fin 41} : (9 * Int32.ofNat q.val).toInt = 9 * (q.val : Int) := by
  rw [i_mul, i_of _ (by omega)]
  · rfl
  · rw [i_of _ (by omega)]; show _ ≤ 9 * (q.val : Int); omega
  · rw [i_of _ (by omega)]; show 9 * (q.val : Int) < _; omega
theorem mo_fl {q : Fin 41} (h : Int32.ofNat q.val < 40) : mo_at (9 * Int32.ofNat q.val) ∧ vp_in (Int32.ofNat q.val + 1) 41 := by
  refine ⟨?_, (fl_in0 q h).2⟩
  rw [i_lt, i_of _ (by omega)] at h
  have h : (q.val : Int) < 40 := h
  unfold mo_at
  rw [mo_nine]
  omega
abbrev mo_fP (n : Nat) (v a : Int32) : Prop := 6 ≤ v.toInt ∧ v.toInt ≤ 9 ∧ 9 < (n : Int) + v.toInt ∧ mo_at a
theorem mo_fP1 {n : Nat} {v a : Int32} (h : v < 9) (hP : mo_fP (n + 1) v a) : vp_in (a + v) 360 ∧ mo_fP n (v + 1) a := by
  rw [i_lt] at h
  have h : v.toInt < 9 := h
  obtain ⟨p1, p2, p3, p4⟩ := hP
  have e : (v + 1).toInt = v.toInt + 1 := i_add (show _ ≤ v.toInt + 1 by omega) (show v.toInt + 1 < _ by omega)
  refine ⟨mo_at_j p4 (by omega), ?_⟩
  unfold mo_fP
  rw [e]
  omega
def mo_out (m : mx_M) (a1 : Int32) (a2 : Int32) : Int32 :=
  if a1 < 0 then
    1
  else
    if a1 < a2 then
      0
    else
      1
def K_mo_out : rx_K mx := k_II (fun a0 a1 c m => (True, (c, m), some (.int (mo_out m a0 a1))))
def L_mo_out : List (rx_E mx) := [
  (0, .iload_n 0, 1, 0, 0, 0, [], kno),
  (1, .ifCond .lt 8, 3, 2, 5, 0, [], kno),
  (4, .iload_n 0, 1, 0, 0, 0, [], kno),
  (5, .iload_n 1, 1, 0, 1, 0, [], kno),
  (6, .if_icmp .lt 7, 3, 2, 7, 0, [], kno),
  (9, .iconst 1, 1, 0, 0, 1, [], kno),
  (10, .goto 4, 3, 1, 8, 0, [], kno),
  (13, .iconst 0, 1, 0, 0, 0, [], kno),
  (14, .ireturn, 1, 5, 1, 0, [], kno)]
theorem E_mo_out (c : mx_C) (m : mx_M) (a1 : Int32) (a2 : Int32)  : rx_ev L_mo_out [] 11 L_mo_out (c, m) [some (.int a1), some (.int a2)] [] = ry_p c m (mo_out m a1 a2) :=
  rx_ite2 (f := ry_p c m) (fun _ => rfl) (fun _ => rx_ite2 (f := ry_p c m) (fun _ => rfl) (fun _ => rfl))
theorem S_mo_out (c : mx_C) (m : mx_M) (a1 : Int32) (a2 : Int32)  : rx_sf L_mo_out [] 11 L_mo_out (c, m) [some (.int a1), some (.int a2)] [] :=
  And.intro (fun h0 => Or.inr rfl) (fun h0 => And.intro (fun h1 => Or.inl rfl) (fun h1 => Or.inr rfl))

theorem ok_mo_out : rx_okF prog_12_method_2_code 2 (some .boolean) L_mo_out 0 L_mo_out = true := by decide +kernel
theorem V_mo_out {l : Launch} {D : va_G} {g : Nat → ClassId} {ad : Nat → Nat} {B : Nat} (had : mx_A ad B) : rx_V l D g ad B ⟨"SubscriberLinesModel", "out", "(II)Z"⟩ prog_12_method_2_code 2 (some .boolean) 0 0 K_mo_out := by
  intro av x hp
  obtain ⟨a0, a1, rfl⟩ := k_II_inv hp
  exact rx_met (k := 0) had (by decide) (Nat.le_of_ble_eq_true rfl) ok_mo_out rfl rfl 11 (fun p e s m args below meth c X => trivial) (S_mo_out x.1 x.2 a0 a1 ) (E_mo_out x.1 x.2 a0 a1)
def mo_fill_60 : Nat → mx_M → Int32 → Int32 → Int32 → Int32 → Int32 → Int32 → Int32 → Int32 → mx_M
  | 0, m, _, _, _, _, _, _, _, _ => m
  | n + 1, m, v1, v2, v3, v4, v5, v6, v7, v8 =>
    if v8 < 9 then
      let m1 := my_pi m 85 (Int32.toNatClampNeg (v1 + v8)) 0
      mo_fill_60 n m1 v1 v2 v3 v4 v5 v6 v7 (v8 + 1)
    else
      m
def mo_fill (m : mx_M) (a1 : Int32) (a2 : Int32) (a3 : Int32) (a4 : Int32) (a5 : Int32) (a6 : Int32) (a7 : Int32) : mx_M :=
  let m1 := my_pi m 85 (Int32.toNatClampNeg a1) a2
  let m2 := my_pi m1 85 (Int32.toNatClampNeg (a1 + 1)) a3
  let m3 := my_pi m2 85 (Int32.toNatClampNeg (a1 + 2)) a4
  let m4 := my_pi m3 85 (Int32.toNatClampNeg (a1 + 3)) a5
  let m5 := my_pi m4 85 (Int32.toNatClampNeg (a1 + 4)) a6
  let m6 := my_pi m5 85 (Int32.toNatClampNeg (a1 + 5)) a7
  mo_fill_60 (4) m6 a1 a2 a3 a4 a5 a6 a7 6
def K_mo_fill : rx_K mx := k_RIIIIIII (fun a0 a1 a2 a3 a4 a5 a6 a7 c m => (a0 = 82 ∧ mo_at a1, (c, mo_fill m a1 a2 a3 a4 a5 a6 a7), none))
def L_mo_fill : List (rx_E mx) := [
  (0, .aload_n 0, 1, 0, 0, 0, [], kno),
  (1, .getfield 17, 3, 7, 1, 0, [], mgr 85),
  (4, .iload_n 1, 1, 0, 1, 0, [], kno),
  (5, .iload_n 2, 1, 0, 2, 0, [], kno),
  (6, .iastore, 1, 7, 3, 0, [], mpa),
  (7, .aload_n 0, 1, 0, 0, 0, [], kno),
  (8, .getfield 17, 3, 7, 1, 0, [], mgr 85),
  (11, .iload_n 1, 1, 0, 1, 0, [], kno),
  (12, .iconst 1, 1, 0, 0, 1, [], kno),
  (13, .iadd, 1, 0, 0, 0, [], kno),
  (14, .iload_n 3, 1, 0, 3, 0, [], kno),
  (15, .iastore, 1, 7, 3, 0, [], mpa),
  (16, .aload_n 0, 1, 0, 0, 0, [], kno),
  (17, .getfield 17, 3, 7, 1, 0, [], mgr 85),
  (20, .iload_n 1, 1, 0, 1, 0, [], kno),
  (21, .iconst 2, 1, 0, 0, 2, [], kno),
  (22, .iadd, 1, 0, 0, 0, [], kno),
  (23, .iload 4, 2, 0, 4, 0, [], kno),
  (25, .iastore, 1, 7, 3, 0, [], mpa),
  (26, .aload_n 0, 1, 0, 0, 0, [], kno),
  (27, .getfield 17, 3, 7, 1, 0, [], mgr 85),
  (30, .iload_n 1, 1, 0, 1, 0, [], kno),
  (31, .iconst 3, 1, 0, 0, 3, [], kno),
  (32, .iadd, 1, 0, 0, 0, [], kno),
  (33, .iload 5, 2, 0, 5, 0, [], kno),
  (35, .iastore, 1, 7, 3, 0, [], mpa),
  (36, .aload_n 0, 1, 0, 0, 0, [], kno),
  (37, .getfield 17, 3, 7, 1, 0, [], mgr 85),
  (40, .iload_n 1, 1, 0, 1, 0, [], kno),
  (41, .iconst 4, 1, 0, 0, 4, [], kno),
  (42, .iadd, 1, 0, 0, 0, [], kno),
  (43, .iload 6, 2, 0, 6, 0, [], kno),
  (45, .iastore, 1, 7, 3, 0, [], mpa),
  (46, .aload_n 0, 1, 0, 0, 0, [], kno),
  (47, .getfield 17, 3, 7, 1, 0, [], mgr 85),
  (50, .iload_n 1, 1, 0, 1, 0, [], kno),
  (51, .iconst 5, 1, 0, 0, 5, [], kno),
  (52, .iadd, 1, 0, 0, 0, [], kno),
  (53, .iload 7, 2, 0, 7, 0, [], kno),
  (55, .iastore, 1, 7, 3, 0, [], mpa),
  (56, .bipush 6, 2, 0, 0, 6, [], kno),
  (58, .istore 8, 2, 0, 8, 0, [], kno),
  (60, .iload 8, 2, 0, 8, 0, [], kno),
  (62, .bipush 9, 2, 0, 0, 9, [], kno),
  (64, .if_icmp .ge 19, 3, 2, 54, 0, [], kno),
  (67, .aload_n 0, 1, 0, 0, 0, [], kno),
  (68, .getfield 17, 3, 7, 1, 0, [], mgr 85),
  (71, .iload_n 1, 1, 0, 1, 0, [], kno),
  (72, .iload 8, 2, 0, 8, 0, [], kno),
  (74, .iadd, 1, 0, 0, 0, [], kno),
  (75, .iconst 0, 1, 0, 0, 0, [], kno),
  (76, .iastore, 1, 7, 3, 0, [], mpa),
  (77, .iinc 8 1, 3, 0, 8, 1, [], kno),
  (80, .goto (-20), 3, 1, 42, 0, [], kno),
  (83, .return_, 1, 6, 0, 0, [], kno)]
def G_mo_fill (n : Nat) : rx_G := fun x ls st =>
  match ls, st with
  | [some (.ref r0), some (.int v1), some (.int v2), some (.int v3), some (.int v4), some (.int v5), some (.int v6), some (.int v7), some (.int v8)], [] => (r0 = 82 ∧ mo_fP n v8 v1, ry_v x.1 (mo_fill_60 n x.2 v1 v2 v3 v4 v5 v6 v7 v8))
  | _, _ => (False, (x, none))
theorem GI_mo_fill {n : Nat} {x : mx} {ls : rx_L} {st : List Value} (h : (G_mo_fill n x ls st).1) : ∃ (r0 : Nat) (v1 : Int32) (v2 : Int32) (v3 : Int32) (v4 : Int32) (v5 : Int32) (v6 : Int32) (v7 : Int32) (v8 : Int32), ls = [some (.ref r0), some (.int v1), some (.int v2), some (.int v3), some (.int v4), some (.int v5), some (.int v6), some (.int v7), some (.int v8)] ∧ st = [] ∧ r0 = 82 ∧ mo_fP n v8 v1 := by
  unfold G_mo_fill at h
  split at h
  · exact ⟨_, _, _, _, _, _, _, _, _, rfl, rfl, h⟩
  · exact False.elim h
theorem EH_mo_fill (n : Nat) (c : mx_C) (m : mx_M) (v1 : Int32) (v2 : Int32) (v3 : Int32) (v4 : Int32) (v5 : Int32) (v6 : Int32) (v7 : Int32) (v8 : Int32) : rx_ev L_mo_fill [(60, G_mo_fill n)] 57 (L_mo_fill.drop 42) (c, m) [some (.ref 82), some (.int v1), some (.int v2), some (.int v3), some (.int v4), some (.int v5), some (.int v6), some (.int v7), some (.int v8)] [] = ry_v c (mo_fill_60 (n + 1) m v1 v2 v3 v4 v5 v6 v7 v8) :=
  rx_ite2 (f := ry_v c) (fun _ => rfl) (fun _ => rfl)
theorem SH_mo_fill (n : Nat) (c : mx_C) (m : mx_M) (v1 : Int32) (v2 : Int32) (v3 : Int32) (v4 : Int32) (v5 : Int32) (v6 : Int32) (v7 : Int32) (v8 : Int32) (hP : mo_fP (n + 1) v8 v1) : rx_sf L_mo_fill [(60, G_mo_fill n)] 57 (L_mo_fill.drop 42) (c, m) [some (.ref 82), some (.int v1), some (.int v2), some (.int v3), some (.int v4), some (.int v5), some (.int v6), some (.int v7), some (.int v8)] [] :=
  And.intro (fun h0 => And.intro rfl (And.intro (mo_fP1 h0 hP).1 (And.intro rfl (mo_fP1 h0 hP).2))) (fun h0 => trivial)
theorem E_mo_fill (c : mx_C) (m : mx_M) (a1 : Int32) (a2 : Int32) (a3 : Int32) (a4 : Int32) (a5 : Int32) (a6 : Int32) (a7 : Int32)  : rx_ev L_mo_fill [(60, G_mo_fill (4))] 57 L_mo_fill (c, m) [some (.ref 82), some (.int a1), some (.int a2), some (.int a3), some (.int a4), some (.int a5), some (.int a6), some (.int a7), none] [] = ry_v c (mo_fill m a1 a2 a3 a4 a5 a6 a7) :=
  rfl
theorem S_mo_fill (c : mx_C) (m : mx_M) (a1 : Int32) (a2 : Int32) (a3 : Int32) (a4 : Int32) (a5 : Int32) (a6 : Int32) (a7 : Int32) (ha : mo_at a1) : rx_sf L_mo_fill [(60, G_mo_fill (4))] 57 L_mo_fill (c, m) [some (.ref 82), some (.int a1), some (.int a2), some (.int a3), some (.int a4), some (.int a5), some (.int a6), some (.int a7), none] [] :=
  And.intro rfl (And.intro (mo_at_0 ha) (And.intro rfl (And.intro (mo_at_j ha (by decide)) (And.intro rfl (And.intro (mo_at_j ha (by decide)) (And.intro rfl (And.intro (mo_at_j ha (by decide)) (And.intro rfl (And.intro (mo_at_j ha (by decide)) (And.intro rfl (And.intro (mo_at_j ha (by decide)) (And.intro rfl (And.intro (by decide) (And.intro (by decide) (And.intro (by decide) ha)))))))))))))))
theorem og_mo_17_g {p : Program} {l : Launch} {e : Env} {R : Room} {s : State} {m : MethodId} {args : Array Value} {below : List Frame} {meth : Method} {c : Code} {cc : ByteArray} {nL : Nat} {ad : Nat → Nat} {D : va_G} {g : Nat → ClassId} {B : Nat} (X : ox_C p s m args c cc nL "SubscriberLinesModel" D g ad B) : rx_OK p l e R s m args below meth c cc nL ad (mx_W D g ad B s.heap) mx_cs (.getfield 17) 3 1 (mgr 85) := oy_gr (k := 4) X (by decide) rfl (al_at 715 (by decide +kernel) rfl)
theorem ok_mo_fill : rx_okF prog_12_method_3_code 9 none L_mo_fill 0 L_mo_fill = true := by decide +kernel
theorem O_mo_fill {l : Launch} {D : va_G} {g : Nat → ClassId} {ad : Nat → Nat} {B : Nat} (had : mx_A ad B) {p : Program} {e : Env} {s : State} {m : MethodId} {args : Array Value} {below : List Frame} {meth : Method} {c : Code} (X : ox_C p s m args c prog_12_method_3_code 9 "SubscriberLinesModel" D g ad B) : rx_ops p l e ({ frames := 0, cells := 0, slots := 0, locals := 0 } : Room) s m args below meth c prog_12_method_3_code 9 ad (mx_W D g ad B s.heap) mx_cs L_mo_fill :=
  And.intro (og_mo_17_g X) (And.intro (oy_pa X) (And.intro (og_mo_17_g X) (And.intro (oy_pa X) (And.intro (og_mo_17_g X) (And.intro (oy_pa X) (And.intro (og_mo_17_g X) (And.intro (oy_pa X) (And.intro (og_mo_17_g X) (And.intro (oy_pa X) (And.intro (og_mo_17_g X) (And.intro (oy_pa X) (And.intro (og_mo_17_g X) (And.intro (oy_pa X) (trivial))))))))))))))
theorem V_mo_fill {l : Launch} {D : va_G} {g : Nat → ClassId} {ad : Nat → Nat} {B : Nat} (had : mx_A ad B) : rx_V l D g ad B ⟨"SubscriberLinesModel", "fill", "(IIIIIII)V"⟩ prog_12_method_3_code 9 none 0 0 K_mo_fill := by
  intro av x hp
  obtain ⟨a0, a1, a2, a3, a4, a5, a6, a7, rfl⟩ := k_RIIIIIII_inv hp
  have hp : a0 = 82 ∧ mo_at a1 := hp
  have h0 : a0 = 82 := hp.1
  subst h0
  refine rx_metX (k := 1) had (by decide) (Nat.le_of_ble_eq_true rfl) fun p e s m args below meth c X hr hlk => ?_
  refine rx_walk X hr hlk ok_mo_fill (O_mo_fill had X) (cut := [(60, G_mo_fill (4))]) (rx_cc ?_ rx_c0) 57 0 rfl (S_mo_fill x.1 x.2 a1 a2 a3 a4 a5 a6 a7 hp.2) (E_mo_fill x.1 x.2 a1 a2 a3 a4 a5 a6 a7 )
  refine rx_loop (G := G_mo_fill) X hr hlk ok_mo_fill (O_mo_fill had X) rx_c0 57 42 rfl (fun x ls st h => ?_) (fun n x ls st h => ?_) _
  · obtain ⟨r0, v1, v2, v3, v4, v5, v6, v7, v8, -, -, h3⟩ := GI_mo_fill h
    have h4 := h3.2
    omega
  · obtain ⟨r0, v1, v2, v3, v4, v5, v6, v7, v8, rfl, rfl, h3⟩ := GI_mo_fill h
    obtain ⟨rfl, hP⟩ := h3
    exact ⟨SH_mo_fill n x.1 x.2 v1 v2 v3 v4 v5 v6 v7 v8 hP, EH_mo_fill n x.1 x.2 v1 v2 v3 v4 v5 v6 v7 v8⟩
def mo_sendOff (m : mx_M) (a1 : Int32) (a2 : Int32) (a3 : Int32) (a4 : Int32) (a5 : Int32) (a6 : Int32) : mx_M :=
  if (Int32.ofNat m.2.1.val) < 40 then
    let m1 := mo_fill m (9 * (Int32.ofNat m.2.1.val)) a1 a2 a3 a4 a5 a6
    let m2 := my_pf m1 ((Int32.ofNat m1.2.1.val) + 1)
    m2
  else
    m
def K_mo_sendOff : rx_K mx := k_RIIIIII (fun a0 a1 a2 a3 a4 a5 a6 c m => (a0 = 82, (c, mo_sendOff m a1 a2 a3 a4 a5 a6), none))
def L_mo_sendOff : List (rx_E mx) := [
  (0, .aload_n 0, 1, 0, 0, 0, [], kno),
  (1, .getfield 114, 3, 7, 1, 0, [], mgf),
  (4, .bipush 40, 2, 0, 0, 40, [], kno),
  (6, .if_icmp .lt 4, 3, 2, 5, 0, [], kno),
  (9, .return_, 1, 6, 0, 0, [], kno),
  (10, .aload_n 0, 1, 0, 0, 0, [], kno),
  (11, .bipush 9, 2, 0, 0, 9, [], kno),
  (13, .aload_n 0, 1, 0, 0, 0, [], kno),
  (14, .getfield 114, 3, 7, 1, 0, [], mgf),
  (17, .imul, 1, 0, 0, 0, [], kno),
  (18, .iload_n 1, 1, 0, 1, 0, [], kno),
  (19, .iload_n 2, 1, 0, 2, 0, [], kno),
  (20, .iload_n 3, 1, 0, 3, 0, [], kno),
  (21, .iload 4, 2, 0, 4, 0, [], kno),
  (23, .iload 5, 2, 0, 5, 0, [], kno),
  (25, .iload 6, 2, 0, 6, 0, [], kno),
  (27, .invokevirtual 117, 3, 7, 8, 0, [], K_mo_fill),
  (30, .aload_n 0, 1, 0, 0, 0, [], kno),
  (31, .dup, 1, 0, 0, 0, [], kno),
  (32, .getfield 114, 3, 7, 1, 0, [], mgf),
  (35, .iconst 1, 1, 0, 0, 1, [], kno),
  (36, .iadd, 1, 0, 0, 0, [], kno),
  (37, .putfield 114, 3, 7, 2, 0, [], mpf),
  (40, .return_, 1, 6, 0, 0, [], kno)]
theorem E_mo_sendOff (c : mx_C) (m : mx_M) (a1 : Int32) (a2 : Int32) (a3 : Int32) (a4 : Int32) (a5 : Int32) (a6 : Int32)  : rx_ev L_mo_sendOff [] 26 L_mo_sendOff (c, m) [some (.ref 82), some (.int a1), some (.int a2), some (.int a3), some (.int a4), some (.int a5), some (.int a6)] [] = ry_v c (mo_sendOff m a1 a2 a3 a4 a5 a6) :=
  rx_ite2 (f := ry_v c) (fun _ => rfl) (fun _ => rfl)
theorem S_mo_sendOff (c : mx_C) (m : mx_M) (a1 : Int32) (a2 : Int32) (a3 : Int32) (a4 : Int32) (a5 : Int32) (a6 : Int32)  : rx_sf L_mo_sendOff [] 26 L_mo_sendOff (c, m) [some (.ref 82), some (.int a1), some (.int a2), some (.int a3), some (.int a4), some (.int a5), some (.int a6)] [] :=
  And.intro rfl (And.intro (fun h0 => And.intro rfl (And.intro (And.intro rfl (mo_fl h0).1) (And.intro rfl (And.intro (And.intro rfl (mo_fl h0).2) (trivial))))) (fun h0 => trivial))

theorem og_mo_114_g {p : Program} {l : Launch} {e : Env} {R : Room} {s : State} {m : MethodId} {args : Array Value} {below : List Frame} {meth : Method} {c : Code} {cc : ByteArray} {nL : Nat} {ad : Nat → Nat} {D : va_G} {g : Nat → ClassId} {B : Nat} (X : ox_C p s m args c cc nL "SubscriberLinesModel" D g ad B) : rx_OK p l e R s m args below meth c cc nL ad (mx_W D g ad B s.heap) mx_cs (.getfield 114) 3 1 (mgf) := oy_gf X (al_at 714 (by decide +kernel) rfl)
theorem cv_mo_fill {p : Program} {l : Launch} {e : Env} {R : Room} {s : State} {m : MethodId} {args : Array Value} {below : List Frame} {meth : Method} {c : Code} {cc : ByteArray} {nL : Nat} {ad : Nat → Nat} {D : va_G} {g : Nat → ClassId} {B : Nat} {own : String} {idx : Nat} (X : ox_C p s m args c cc nL own D g ad B) (hV : rx_V l D g ad B ⟨"SubscriberLinesModel", "fill", "(IIIIIII)V"⟩ prog_12_method_3_code 9 none 0 0 K_mo_fill) (hl : Cond.methodLink own idx ⟨"SubscriberLinesModel", "fill", "(IIIIIII)V"⟩ ∈ al) (hR : 0 + 1 ≤ R.frames ∧ 8 + (9 + 11) + 0 ≤ R.locals) : rx_OK p l e R s m args below meth c cc nL ad (mx_W D g ad B s.heap) mx_cs (.invokevirtual idx) 3 8 (K_mo_fill) :=
  ox_callV (q := 9) (T := T_9) X hV (fun av x h => by obtain ⟨a0, a1, a2, a3, a4, a5, a6, a7, rfl⟩ := k_RIIIIIII_inv h; exact ⟨a0, _, rfl, by have h2 : a0 = 82 := h.1; rw [h2]; rfl⟩) (by decide) rfl hl (al_at 864 (by decide +kernel) rfl) (al_pr (y := (⟨"SubscriberLinesModel", "fill", "(IIIIIII)V"⟩, _)) 37 rfl) (al_at 12 (by decide +kernel) rfl) (al_at 865 (by decide +kernel) rfl) ⟨by decide, by decide, by decide +kernel⟩ hR
theorem og_mo_114_p {p : Program} {l : Launch} {e : Env} {R : Room} {s : State} {m : MethodId} {args : Array Value} {below : List Frame} {meth : Method} {c : Code} {cc : ByteArray} {nL : Nat} {ad : Nat → Nat} {D : va_G} {g : Nat → ClassId} {B : Nat} (X : ox_C p s m args c cc nL "SubscriberLinesModel" D g ad B) : rx_OK p l e R s m args below meth c cc nL ad (mx_W D g ad B s.heap) mx_cs (.putfield 114) 3 2 (mpf) := oy_pf X (al_at 714 (by decide +kernel) rfl)
theorem ok_mo_sendOff : rx_okF prog_12_method_4_code 7 none L_mo_sendOff 0 L_mo_sendOff = true := by decide +kernel
theorem V_mo_sendOff {l : Launch} {D : va_G} {g : Nat → ClassId} {ad : Nat → Nat} {B : Nat} (had : mx_A ad B) : rx_V l D g ad B ⟨"SubscriberLinesModel", "sendOff", "(IIIIII)V"⟩ prog_12_method_4_code 7 none 1 28 K_mo_sendOff := by
  intro av x hp
  obtain ⟨a0, a1, a2, a3, a4, a5, a6, rfl⟩ := k_RIIIIII_inv hp
  have hp : a0 = 82 := hp
  have h0 : a0 = 82 := hp
  subst h0
  exact rx_met (k := 0) had (by decide) (Nat.le_of_ble_eq_true rfl) ok_mo_sendOff rfl rfl 26 (fun p e s m args below meth c X => And.intro (og_mo_114_g X) (And.intro (og_mo_114_g X) (And.intro (cv_mo_fill X (V_mo_fill had) (al_at 862 (by decide +kernel) rfl) ⟨by decide, by decide⟩) (And.intro (og_mo_114_g X) (And.intro (og_mo_114_p X) (trivial)))))) (S_mo_sendOff x.1 x.2 a1 a2 a3 a4 a5 a6 ) (E_mo_sendOff x.1 x.2 a1 a2 a3 a4 a5 a6)
def mo_trP (e n : Int32) : Prop := vp_in e 2 ∧ (¬ n < 0 → n.toInt < 1400)
theorem mo_ix {e n : Int32} (he : vp_in e 2) (h0 : 0 ≤ n.toInt) (h1 : n.toInt < 1400) : vp_in (1400 * e + n) 2800 := by
  rw [i_in] at he
  have he2 : e.toInt < 2 := he.2
  have e1 : (1400 * e).toInt = 1400 * e.toInt := i_mul (show _ ≤ 1400 * e.toInt by omega) (show 1400 * e.toInt < _ by omega)
  rw [i_in, i_add (by rw [e1]; omega) (by rw [e1]; omega), e1]
  omega
theorem mo_tr_ix {e n : Int32} (h : mo_trP e n) (hn : ¬ n < 0) : vp_in (1400 * e + n) 2800 := by
  have h1 := h.2 hn
  rw [i_lt, Int32.toInt_zero] at hn
  exact mo_ix h.1 (by omega) h1
def mo_transmit (m : mx_M) (a1 : Int32) (a2 : Int32) : mx_M :=
  if (Int32.ofNat m.2.1.val) < 40 then
    if a1 = 0 then
      if a2 < 0 then
        let m1 := mo_fill m (9 * (Int32.ofNat m.2.1.val)) 17 4 5 0 0 0
        let m2 := my_pi m1 85 (Int32.toNatClampNeg ((9 * (Int32.ofNat m1.2.1.val)) + 6)) (m1.1 106 (Int32.toNatClampNeg a1))
        if a2 < 0 then
          let m3 := my_pi m2 85 (Int32.toNatClampNeg ((9 * (Int32.ofNat m2.2.1.val)) + 7)) 0
          let m4 := my_pi m3 85 (Int32.toNatClampNeg ((9 * (Int32.ofNat m3.2.1.val)) + 8)) (m3.1 110 (Int32.toNatClampNeg a1))
          let m5 := my_pf m4 ((Int32.ofNat m4.2.1.val) + 1)
          m5
        else
          let m6 := my_pi m2 85 (Int32.toNatClampNeg ((9 * (Int32.ofNat m2.2.1.val)) + 7)) a2
          let m7 := my_pi m6 85 (Int32.toNatClampNeg ((9 * (Int32.ofNat m6.2.1.val)) + 8)) (m6.1 110 (Int32.toNatClampNeg a1))
          let m8 := my_pf m7 ((Int32.ofNat m7.2.1.val) + 1)
          m8
      else
        let m9 := mo_fill m (9 * (Int32.ofNat m.2.1.val)) (m.1 113 (Int32.toNatClampNeg ((1400 * a1) + a2))) 4 5 (m.1 114 (Int32.toNatClampNeg ((1400 * a1) + a2))) (m.1 115 (Int32.toNatClampNeg ((1400 * a1) + a2))) 0
        let m10 := my_pi m9 85 (Int32.toNatClampNeg ((9 * (Int32.ofNat m9.2.1.val)) + 6)) (m9.1 106 (Int32.toNatClampNeg a1))
        if a2 < 0 then
          let m11 := my_pi m10 85 (Int32.toNatClampNeg ((9 * (Int32.ofNat m10.2.1.val)) + 7)) 0
          let m12 := my_pi m11 85 (Int32.toNatClampNeg ((9 * (Int32.ofNat m11.2.1.val)) + 8)) (m11.1 110 (Int32.toNatClampNeg a1))
          let m13 := my_pf m12 ((Int32.ofNat m12.2.1.val) + 1)
          m13
        else
          let m14 := my_pi m10 85 (Int32.toNatClampNeg ((9 * (Int32.ofNat m10.2.1.val)) + 7)) a2
          let m15 := my_pi m14 85 (Int32.toNatClampNeg ((9 * (Int32.ofNat m14.2.1.val)) + 8)) (m14.1 110 (Int32.toNatClampNeg a1))
          let m16 := my_pf m15 ((Int32.ofNat m15.2.1.val) + 1)
          m16
    else
      if a2 < 0 then
        let m17 := mo_fill m (9 * (Int32.ofNat m.2.1.val)) 17 5 4 0 0 0
        let m18 := my_pi m17 85 (Int32.toNatClampNeg ((9 * (Int32.ofNat m17.2.1.val)) + 6)) (m17.1 106 (Int32.toNatClampNeg a1))
        if a2 < 0 then
          let m19 := my_pi m18 85 (Int32.toNatClampNeg ((9 * (Int32.ofNat m18.2.1.val)) + 7)) 0
          let m20 := my_pi m19 85 (Int32.toNatClampNeg ((9 * (Int32.ofNat m19.2.1.val)) + 8)) (m19.1 110 (Int32.toNatClampNeg a1))
          let m21 := my_pf m20 ((Int32.ofNat m20.2.1.val) + 1)
          m21
        else
          let m22 := my_pi m18 85 (Int32.toNatClampNeg ((9 * (Int32.ofNat m18.2.1.val)) + 7)) a2
          let m23 := my_pi m22 85 (Int32.toNatClampNeg ((9 * (Int32.ofNat m22.2.1.val)) + 8)) (m22.1 110 (Int32.toNatClampNeg a1))
          let m24 := my_pf m23 ((Int32.ofNat m23.2.1.val) + 1)
          m24
      else
        let m25 := mo_fill m (9 * (Int32.ofNat m.2.1.val)) (m.1 113 (Int32.toNatClampNeg ((1400 * a1) + a2))) 5 4 (m.1 114 (Int32.toNatClampNeg ((1400 * a1) + a2))) (m.1 115 (Int32.toNatClampNeg ((1400 * a1) + a2))) 0
        let m26 := my_pi m25 85 (Int32.toNatClampNeg ((9 * (Int32.ofNat m25.2.1.val)) + 6)) (m25.1 106 (Int32.toNatClampNeg a1))
        if a2 < 0 then
          let m27 := my_pi m26 85 (Int32.toNatClampNeg ((9 * (Int32.ofNat m26.2.1.val)) + 7)) 0
          let m28 := my_pi m27 85 (Int32.toNatClampNeg ((9 * (Int32.ofNat m27.2.1.val)) + 8)) (m27.1 110 (Int32.toNatClampNeg a1))
          let m29 := my_pf m28 ((Int32.ofNat m28.2.1.val) + 1)
          m29
        else
          let m30 := my_pi m26 85 (Int32.toNatClampNeg ((9 * (Int32.ofNat m26.2.1.val)) + 7)) a2
          let m31 := my_pi m30 85 (Int32.toNatClampNeg ((9 * (Int32.ofNat m30.2.1.val)) + 8)) (m30.1 110 (Int32.toNatClampNeg a1))
          let m32 := my_pf m31 ((Int32.ofNat m31.2.1.val) + 1)
          m32
  else
    m
def K_mo_transmit : rx_K mx := k_RII (fun a0 a1 a2 c m => (a0 = 82 ∧ mo_trP a1 a2, (c, mo_transmit m a1 a2), none))
def L_mo_transmit : List (rx_E mx) := [
  (0, .aload_n 0, 1, 0, 0, 0, [], kno),
  (1, .getfield 114, 3, 7, 1, 0, [], mgf),
  (4, .bipush 40, 2, 0, 0, 40, [], kno),
  (6, .if_icmp .lt 4, 3, 2, 5, 0, [], kno),
  (9, .return_, 1, 6, 0, 0, [], kno),
  (10, .sipush 1400, 3, 0, 0, 1400, [], kno),
  (13, .iload_n 1, 1, 0, 1, 0, [], kno),
  (14, .imul, 1, 0, 0, 0, [], kno),
  (15, .iload_n 2, 1, 0, 2, 0, [], kno),
  (16, .iadd, 1, 0, 0, 0, [], kno),
  (17, .istore_n 3, 1, 0, 3, 0, [], kno),
  (18, .iload_n 1, 1, 0, 1, 0, [], kno),
  (19, .ifCond .ne 7, 3, 2, 15, 0, [], kno),
  (22, .iconst 4, 1, 0, 0, 4, [], kno),
  (23, .goto 4, 3, 1, 16, 0, [], kno),
  (26, .iconst 5, 1, 0, 0, 5, [], kno),
  (27, .istore 4, 2, 0, 4, 0, [], kno),
  (29, .iload_n 2, 1, 0, 2, 0, [], kno),
  (30, .ifCond .ge 29, 3, 2, 34, 0, [], kno),
  (33, .aload_n 0, 1, 0, 0, 0, [], kno),
  (34, .bipush 9, 2, 0, 0, 9, [], kno),
  (36, .aload_n 0, 1, 0, 0, 0, [], kno),
  (37, .getfield 114, 3, 7, 1, 0, [], mgf),
  (40, .imul, 1, 0, 0, 0, [], kno),
  (41, .bipush 17, 2, 0, 0, 17, [], kno),
  (43, .iload 4, 2, 0, 4, 0, [], kno),
  (45, .bipush 9, 2, 0, 0, 9, [], kno),
  (47, .iload 4, 2, 0, 4, 0, [], kno),
  (49, .isub, 1, 0, 0, 0, [], kno),
  (50, .iconst 0, 1, 0, 0, 0, [], kno),
  (51, .iconst 0, 1, 0, 0, 0, [], kno),
  (52, .iconst 0, 1, 0, 0, 0, [], kno),
  (53, .invokevirtual 117, 3, 7, 8, 0, [], K_mo_fill),
  (56, .goto 40, 3, 1, 57, 0, [], kno),
  (59, .aload_n 0, 1, 0, 0, 0, [], kno),
  (60, .bipush 9, 2, 0, 0, 9, [], kno),
  (62, .aload_n 0, 1, 0, 0, 0, [], kno),
  (63, .getfield 114, 3, 7, 1, 0, [], mgf),
  (66, .imul, 1, 0, 0, 0, [], kno),
  (67, .aload_n 0, 1, 0, 0, 0, [], kno),
  (68, .getfield 101, 3, 7, 1, 0, [], mgr 113),
  (71, .iload_n 3, 1, 0, 3, 0, [], kno),
  (72, .iaload, 1, 7, 2, 0, [], mai),
  (73, .iload 4, 2, 0, 4, 0, [], kno),
  (75, .bipush 9, 2, 0, 0, 9, [], kno),
  (77, .iload 4, 2, 0, 4, 0, [], kno),
  (79, .isub, 1, 0, 0, 0, [], kno),
  (80, .aload_n 0, 1, 0, 0, 0, [], kno),
  (81, .getfield 104, 3, 7, 1, 0, [], mgr 114),
  (84, .iload_n 3, 1, 0, 3, 0, [], kno),
  (85, .iaload, 1, 7, 2, 0, [], mai),
  (86, .aload_n 0, 1, 0, 0, 0, [], kno),
  (87, .getfield 107, 3, 7, 1, 0, [], mgr 115),
  (90, .iload_n 3, 1, 0, 3, 0, [], kno),
  (91, .iaload, 1, 7, 2, 0, [], mai),
  (92, .iconst 0, 1, 0, 0, 0, [], kno),
  (93, .invokevirtual 117, 3, 7, 8, 0, [], K_mo_fill),
  (96, .aload_n 0, 1, 0, 0, 0, [], kno),
  (97, .getfield 17, 3, 7, 1, 0, [], mgr 85),
  (100, .bipush 9, 2, 0, 0, 9, [], kno),
  (102, .aload_n 0, 1, 0, 0, 0, [], kno),
  (103, .getfield 114, 3, 7, 1, 0, [], mgf),
  (106, .imul, 1, 0, 0, 0, [], kno),
  (107, .bipush 6, 2, 0, 0, 6, [], kno),
  (109, .iadd, 1, 0, 0, 0, [], kno),
  (110, .aload_n 0, 1, 0, 0, 0, [], kno),
  (111, .getfield 80, 3, 7, 1, 0, [], mgr 106),
  (114, .iload_n 1, 1, 0, 1, 0, [], kno),
  (115, .iaload, 1, 7, 2, 0, [], mai),
  (116, .iastore, 1, 7, 3, 0, [], mpa),
  (117, .aload_n 0, 1, 0, 0, 0, [], kno),
  (118, .getfield 17, 3, 7, 1, 0, [], mgr 85),
  (121, .bipush 9, 2, 0, 0, 9, [], kno),
  (123, .aload_n 0, 1, 0, 0, 0, [], kno),
  (124, .getfield 114, 3, 7, 1, 0, [], mgf),
  (127, .imul, 1, 0, 0, 0, [], kno),
  (128, .bipush 7, 2, 0, 0, 7, [], kno),
  (130, .iadd, 1, 0, 0, 0, [], kno),
  (131, .iload_n 2, 1, 0, 2, 0, [], kno),
  (132, .ifCond .ge 7, 3, 2, 82, 0, [], kno),
  (135, .iconst 0, 1, 0, 0, 0, [], kno),
  (136, .goto 4, 3, 1, 83, 0, [], kno),
  (139, .iload_n 2, 1, 0, 2, 0, [], kno),
  (140, .iastore, 1, 7, 3, 0, [], mpa),
  (141, .aload_n 0, 1, 0, 0, 0, [], kno),
  (142, .getfield 17, 3, 7, 1, 0, [], mgr 85),
  (145, .bipush 9, 2, 0, 0, 9, [], kno),
  (147, .aload_n 0, 1, 0, 0, 0, [], kno),
  (148, .getfield 114, 3, 7, 1, 0, [], mgf),
  (151, .imul, 1, 0, 0, 0, [], kno),
  (152, .bipush 8, 2, 0, 0, 8, [], kno),
  (154, .iadd, 1, 0, 0, 0, [], kno),
  (155, .aload_n 0, 1, 0, 0, 0, [], kno),
  (156, .getfield 92, 3, 7, 1, 0, [], mgr 110),
  (159, .iload_n 1, 1, 0, 1, 0, [], kno),
  (160, .iaload, 1, 7, 2, 0, [], mai),
  (161, .iastore, 1, 7, 3, 0, [], mpa),
  (162, .aload_n 0, 1, 0, 0, 0, [], kno),
  (163, .dup, 1, 0, 0, 0, [], kno),
  (164, .getfield 114, 3, 7, 1, 0, [], mgf),
  (167, .iconst 1, 1, 0, 0, 1, [], kno),
  (168, .iadd, 1, 0, 0, 0, [], kno),
  (169, .putfield 114, 3, 7, 2, 0, [], mpf),
  (172, .return_, 1, 6, 0, 0, [], kno)]
theorem E_mo_transmit (c : mx_C) (m : mx_M) (a1 : Int32) (a2 : Int32)  : rx_ev L_mo_transmit [] 106 L_mo_transmit (c, m) [some (.ref 82), some (.int a1), some (.int a2), none, none] [] = ry_v c (mo_transmit m a1 a2) :=
  rx_ite2 (f := ry_v c) (fun _ => rx_ite2 (f := ry_v c) (fun _ => rx_ite2 (f := ry_v c) (fun _ => rx_ite2 (f := ry_v c) (fun _ => rfl) (fun _ => rfl)) (fun _ => rx_ite2 (f := ry_v c) (fun _ => rfl) (fun _ => rfl))) (fun _ => rx_ite2 (f := ry_v c) (fun _ => rx_ite2 (f := ry_v c) (fun _ => rfl) (fun _ => rfl)) (fun _ => rx_ite2 (f := ry_v c) (fun _ => rfl) (fun _ => rfl)))) (fun _ => rfl)
theorem S_mo_transmit (c : mx_C) (m : mx_M) (a1 : Int32) (a2 : Int32) (ht2 : mo_trP a1 a2) : rx_sf L_mo_transmit [] 106 L_mo_transmit (c, m) [some (.ref 82), some (.int a1), some (.int a2), none, none] [] :=
  And.intro rfl (And.intro (fun h0 => And.intro (fun h1 => And.intro (fun h2 => And.intro rfl (And.intro (And.intro rfl (mo_fl h0).1) (And.intro rfl (And.intro rfl (And.intro rfl (And.intro ht2.1 (And.intro (mo_at_j (mo_fl h0).1 (by decide)) (And.intro rfl (And.intro rfl (And.intro (fun h3 => And.intro (mo_at_j (mo_fl h0).1 (by decide)) (And.intro rfl (And.intro rfl (And.intro rfl (And.intro ht2.1 (And.intro (mo_at_j (mo_fl h0).1 (by decide)) (And.intro rfl (And.intro (And.intro rfl (mo_fl h0).2) (trivial))))))))) (fun h3 => And.intro (mo_at_j (mo_fl h0).1 (by decide)) (And.intro rfl (And.intro rfl (And.intro rfl (And.intro ht2.1 (And.intro (mo_at_j (mo_fl h0).1 (by decide)) (And.intro rfl (And.intro (And.intro rfl (mo_fl h0).2) (trivial))))))))))))))))))) (fun h2 => And.intro rfl (And.intro rfl (And.intro (mo_tr_ix ht2 (by assumption)) (And.intro rfl (And.intro (mo_tr_ix ht2 (by assumption)) (And.intro rfl (And.intro (mo_tr_ix ht2 (by assumption)) (And.intro (And.intro rfl (mo_fl h0).1) (And.intro rfl (And.intro rfl (And.intro rfl (And.intro ht2.1 (And.intro (mo_at_j (mo_fl h0).1 (by decide)) (And.intro rfl (And.intro rfl (And.intro (fun h3 => And.intro (mo_at_j (mo_fl h0).1 (by decide)) (And.intro rfl (And.intro rfl (And.intro rfl (And.intro ht2.1 (And.intro (mo_at_j (mo_fl h0).1 (by decide)) (And.intro rfl (And.intro (And.intro rfl (mo_fl h0).2) (trivial))))))))) (fun h3 => And.intro (mo_at_j (mo_fl h0).1 (by decide)) (And.intro rfl (And.intro rfl (And.intro rfl (And.intro ht2.1 (And.intro (mo_at_j (mo_fl h0).1 (by decide)) (And.intro rfl (And.intro (And.intro rfl (mo_fl h0).2) (trivial)))))))))))))))))))))))))) (fun h1 => And.intro (fun h2 => And.intro rfl (And.intro (And.intro rfl (mo_fl h0).1) (And.intro rfl (And.intro rfl (And.intro rfl (And.intro ht2.1 (And.intro (mo_at_j (mo_fl h0).1 (by decide)) (And.intro rfl (And.intro rfl (And.intro (fun h3 => And.intro (mo_at_j (mo_fl h0).1 (by decide)) (And.intro rfl (And.intro rfl (And.intro rfl (And.intro ht2.1 (And.intro (mo_at_j (mo_fl h0).1 (by decide)) (And.intro rfl (And.intro (And.intro rfl (mo_fl h0).2) (trivial))))))))) (fun h3 => And.intro (mo_at_j (mo_fl h0).1 (by decide)) (And.intro rfl (And.intro rfl (And.intro rfl (And.intro ht2.1 (And.intro (mo_at_j (mo_fl h0).1 (by decide)) (And.intro rfl (And.intro (And.intro rfl (mo_fl h0).2) (trivial))))))))))))))))))) (fun h2 => And.intro rfl (And.intro rfl (And.intro (mo_tr_ix ht2 (by assumption)) (And.intro rfl (And.intro (mo_tr_ix ht2 (by assumption)) (And.intro rfl (And.intro (mo_tr_ix ht2 (by assumption)) (And.intro (And.intro rfl (mo_fl h0).1) (And.intro rfl (And.intro rfl (And.intro rfl (And.intro ht2.1 (And.intro (mo_at_j (mo_fl h0).1 (by decide)) (And.intro rfl (And.intro rfl (And.intro (fun h3 => And.intro (mo_at_j (mo_fl h0).1 (by decide)) (And.intro rfl (And.intro rfl (And.intro rfl (And.intro ht2.1 (And.intro (mo_at_j (mo_fl h0).1 (by decide)) (And.intro rfl (And.intro (And.intro rfl (mo_fl h0).2) (trivial))))))))) (fun h3 => And.intro (mo_at_j (mo_fl h0).1 (by decide)) (And.intro rfl (And.intro rfl (And.intro rfl (And.intro ht2.1 (And.intro (mo_at_j (mo_fl h0).1 (by decide)) (And.intro rfl (And.intro (And.intro rfl (mo_fl h0).2) (trivial))))))))))))))))))))))))))) (fun h0 => trivial))

theorem og_mo_101_g {p : Program} {l : Launch} {e : Env} {R : Room} {s : State} {m : MethodId} {args : Array Value} {below : List Frame} {meth : Method} {c : Code} {cc : ByteArray} {nL : Nat} {ad : Nat → Nat} {D : va_G} {g : Nat → ClassId} {B : Nat} (X : ox_C p s m args c cc nL "SubscriberLinesModel" D g ad B) : rx_OK p l e R s m args below meth c cc nL ad (mx_W D g ad B s.heap) mx_cs (.getfield 101) 3 1 (mgr 113) := oy_gr (k := 39) X (by decide) rfl (al_at 750 (by decide +kernel) rfl)
theorem og_mo_104_g {p : Program} {l : Launch} {e : Env} {R : Room} {s : State} {m : MethodId} {args : Array Value} {below : List Frame} {meth : Method} {c : Code} {cc : ByteArray} {nL : Nat} {ad : Nat → Nat} {D : va_G} {g : Nat → ClassId} {B : Nat} (X : ox_C p s m args c cc nL "SubscriberLinesModel" D g ad B) : rx_OK p l e R s m args below meth c cc nL ad (mx_W D g ad B s.heap) mx_cs (.getfield 104) 3 1 (mgr 114) := oy_gr (k := 40) X (by decide) rfl (al_at 751 (by decide +kernel) rfl)
theorem og_mo_107_g {p : Program} {l : Launch} {e : Env} {R : Room} {s : State} {m : MethodId} {args : Array Value} {below : List Frame} {meth : Method} {c : Code} {cc : ByteArray} {nL : Nat} {ad : Nat → Nat} {D : va_G} {g : Nat → ClassId} {B : Nat} (X : ox_C p s m args c cc nL "SubscriberLinesModel" D g ad B) : rx_OK p l e R s m args below meth c cc nL ad (mx_W D g ad B s.heap) mx_cs (.getfield 107) 3 1 (mgr 115) := oy_gr (k := 41) X (by decide) rfl (al_at 752 (by decide +kernel) rfl)
theorem og_mo_80_g {p : Program} {l : Launch} {e : Env} {R : Room} {s : State} {m : MethodId} {args : Array Value} {below : List Frame} {meth : Method} {c : Code} {cc : ByteArray} {nL : Nat} {ad : Nat → Nat} {D : va_G} {g : Nat → ClassId} {B : Nat} (X : ox_C p s m args c cc nL "SubscriberLinesModel" D g ad B) : rx_OK p l e R s m args below meth c cc nL ad (mx_W D g ad B s.heap) mx_cs (.getfield 80) 3 1 (mgr 106) := oy_gr (k := 32) X (by decide) rfl (al_at 743 (by decide +kernel) rfl)
theorem og_mo_92_g {p : Program} {l : Launch} {e : Env} {R : Room} {s : State} {m : MethodId} {args : Array Value} {below : List Frame} {meth : Method} {c : Code} {cc : ByteArray} {nL : Nat} {ad : Nat → Nat} {D : va_G} {g : Nat → ClassId} {B : Nat} (X : ox_C p s m args c cc nL "SubscriberLinesModel" D g ad B) : rx_OK p l e R s m args below meth c cc nL ad (mx_W D g ad B s.heap) mx_cs (.getfield 92) 3 1 (mgr 110) := oy_gr (k := 36) X (by decide) rfl (al_at 747 (by decide +kernel) rfl)
theorem ok_mo_transmit : rx_okF prog_12_method_5_code 5 none L_mo_transmit 0 L_mo_transmit = true := by decide +kernel
theorem V_mo_transmit {l : Launch} {D : va_G} {g : Nat → ClassId} {ad : Nat → Nat} {B : Nat} (had : mx_A ad B) : rx_V l D g ad B ⟨"SubscriberLinesModel", "transmit", "(II)V"⟩ prog_12_method_5_code 5 none 1 28 K_mo_transmit := by
  intro av x hp
  obtain ⟨a0, a1, a2, rfl⟩ := k_RII_inv hp
  have hp : a0 = 82 ∧ mo_trP a1 a2 := hp
  have h0 : a0 = 82 := hp.1
  subst h0
  exact rx_met (k := 2) had (by decide) (Nat.le_of_ble_eq_true rfl) ok_mo_transmit rfl rfl 106 (fun p e s m args below meth c X => And.intro (og_mo_114_g X) (And.intro (og_mo_114_g X) (And.intro (cv_mo_fill X (V_mo_fill had) (al_at 862 (by decide +kernel) rfl) ⟨by decide, by decide⟩) (And.intro (og_mo_114_g X) (And.intro (og_mo_101_g X) (And.intro (oy_ai X) (And.intro (og_mo_104_g X) (And.intro (oy_ai X) (And.intro (og_mo_107_g X) (And.intro (oy_ai X) (And.intro (cv_mo_fill X (V_mo_fill had) (al_at 862 (by decide +kernel) rfl) ⟨by decide, by decide⟩) (And.intro (og_mo_17_g X) (And.intro (og_mo_114_g X) (And.intro (og_mo_80_g X) (And.intro (oy_ai X) (And.intro (oy_pa X) (And.intro (og_mo_17_g X) (And.intro (og_mo_114_g X) (And.intro (oy_pa X) (And.intro (og_mo_17_g X) (And.intro (og_mo_114_g X) (And.intro (og_mo_92_g X) (And.intro (oy_ai X) (And.intro (oy_pa X) (And.intro (og_mo_114_g X) (And.intro (og_mo_114_p X) (trivial))))))))))))))))))))))))))) (S_mo_transmit x.1 x.2 a1 a2 hp.2) (E_mo_transmit x.1 x.2 a1 a2)
