theorem mo_b_ack {m : mx_M} {k : Int} {j : Nat} {v : Int32} (h : mo_b m k) (h1 : 0 ≤ v.toInt) (h2 : v.toInt ≤ (m.1 109 j).toInt) : mo_b (my_pi m 107 j v) k := by
  intro e he
  have hb := h e he
  simp only [my_pi]
  rw [mx_up_ne (a := 108) _ _ (by omega), mx_up_ne (a := 109) _ _ (by omega)]
  by_cases hq : e = j
  · subst hq; rw [mx_up_eq]; omega
  · rw [mx_up_ne (a := 107) _ _ (by omega)]; omega
theorem mo_b_ack1 {m : mx_M} {k : Int} {e v : Int32} (h : mo_b m k) (he : vp_in e 2) (h1 : m.1 107 e.toNatClampNeg < v) (h2 : v < m.1 109 e.toNatClampNeg) : mo_b (my_pi m 107 e.toNatClampNeg v) k := by
  rw [i_lt] at h1 h2
  have hb := h _ (mo_e2 he)
  exact mo_b_ack h (by omega) (by omega)
theorem mo_b_ack2 {m : mx_M} {k : Int} {e : Int32} (h : mo_b m k) (he : vp_in e 2) : mo_b (my_pi m 107 e.toNatClampNeg (m.1 109 e.toNatClampNeg)) k := by
  have hb := h _ (mo_e2 he)
  exact mo_b_ack h (by omega) (Int.le_refl _)
abbrev mo_cP (n : Nat) (m : mx_M) (e : Int32) : Prop := 0 < n ∧ vp_in e 2 ∧ mo_b m 1399
abbrev mo_cQ (n : Nat) (e : Int32) : Prop := 0 < n ∧ vp_in e 2
def mo_cC (m : mx_M) (e : Int32) : Prop := vp_in e 2 ∧ mo_b m 1399
def mo_control_153 : Nat → mx_M → Int32 → Int32 → Int32 → Int32 → Int32 → Int32 → Int32 → mx_M
  | 0, m, _, _, _, _, _, _, _ => m
  | n + 1, m, v1, v2, v3, v4, v5, v6, v7 =>
    let m1 := mo_transmit m v1 (-1)
    m1
def mo_control_104 : Nat → mx_M → Int32 → Int32 → Int32 → Int32 → Int32 → Int32 → Int32 → mx_M
  | 0, m, _, _, _, _, _, _, _ => m
  | n + 1, m, v1, v2, v3, v4, v5, v6, v7 =>
    if v2 = 17 then
      m
    else
      if v6 = (m.1 110 (Int32.toNatClampNeg v1)) then
        let m1 := my_pi m 110 (Int32.toNatClampNeg v1) ((m.1 110 (Int32.toNatClampNeg v1)) + 1)
        if v1 = 0 then
          let m2 := mo_accessDoes m1 v2 v3 v4
          mo_control_153 (1) m2 v1 v2 v3 v4 v5 v6 v7
        else
          let m3 := mo_serverDoes m1 v2 v3
          mo_control_153 (1) m3 v1 v2 v3 v4 v5 v6 v7
      else
        mo_control_153 (1) m v1 v2 v3 v4 v5 v6 v7
def mo_control_34 : Nat → mx_M → Int32 → Int32 → Int32 → Int32 → Int32 → Int32 → Int32 → mx_M
  | 0, m, _, _, _, _, _, _, _ => m
  | n + 1, m, v1, v2, v3, v4, v5, v6, v7 =>
    if v5 = (m.1 106 (Int32.toNatClampNeg v1)) then
      if (m.1 107 (Int32.toNatClampNeg v1)) < v7 then
        if v7 < (m.1 109 (Int32.toNatClampNeg v1)) then
          let m1 := my_pi m 107 (Int32.toNatClampNeg v1) v7
          let m2 := my_pi m1 111 (Int32.toNatClampNeg v1) 0
          let m3 := my_pi m2 112 (Int32.toNatClampNeg v1) 2
          let m4 := mo_sendOpen m3 v1
          mo_control_104 (1) m4 v1 v2 v3 v4 v5 v6 v7
        else
          let m5 := my_pi m 107 (Int32.toNatClampNeg v1) (m.1 109 (Int32.toNatClampNeg v1))
          let m6 := my_pi m5 111 (Int32.toNatClampNeg v1) 0
          let m7 := my_pi m6 112 (Int32.toNatClampNeg v1) 2
          let m8 := mo_sendOpen m7 v1
          mo_control_104 (1) m8 v1 v2 v3 v4 v5 v6 v7
      else
        mo_control_104 (1) m v1 v2 v3 v4 v5 v6 v7
    else
      m
def mo_control (m : mx_M) (a1 : Int32) (a2 : Int32) (a3 : Int32) (a4 : Int32) (a5 : Int32) (a6 : Int32) (a7 : Int32) : mx_M :=
  if a1 = 1 then
    if a2 = 12 then
      if (m.1 106 1) < a5 then
        let m1 := my_ps m 0
        let m2 := mo_clear m1 1 a5
        mo_control_34 (1) m2 a1 a2 a3 a4 a5 a6 a7
      else
        mo_control_34 (1) m a1 a2 a3 a4 a5 a6 a7
    else
      mo_control_34 (1) m a1 a2 a3 a4 a5 a6 a7
  else
    mo_control_34 (1) m a1 a2 a3 a4 a5 a6 a7
def K_mo_control : rx_K mx := k_RIIIIIII (fun a0 a1 a2 a3 a4 a5 a6 a7 c m => (a0 = 82 ∧ mo_cC m a1, (c, mo_control m a1 a2 a3 a4 a5 a6 a7), none))
def L_mo_control : List (rx_E mx) := [
  (0, .iload_n 1, 1, 0, 1, 0, [], kno),
  (1, .iconst 1, 1, 0, 0, 1, [], kno),
  (2, .if_icmp .ne 32, 3, 2, 19, 0, [], kno),
  (5, .iload_n 2, 1, 0, 2, 0, [], kno),
  (6, .bipush 12, 2, 0, 0, 12, [], kno),
  (8, .if_icmp .ne 26, 3, 2, 19, 0, [], kno),
  (11, .iload 5, 2, 0, 5, 0, [], kno),
  (13, .aload_n 0, 1, 0, 0, 0, [], kno),
  (14, .getfield 80, 3, 7, 1, 0, [], mgr 106),
  (17, .iconst 1, 1, 0, 0, 1, [], kno),
  (18, .iaload, 1, 7, 2, 0, [], mai),
  (19, .if_icmp .le 15, 3, 2, 19, 0, [], kno),
  (22, .aload_n 0, 1, 0, 0, 0, [], kno),
  (23, .iconst 0, 1, 0, 0, 0, [], kno),
  (24, .putfield 135, 3, 7, 2, 0, [], mps),
  (27, .aload_n 0, 1, 0, 0, 0, [], kno),
  (28, .iconst 1, 1, 0, 0, 1, [], kno),
  (29, .iload 5, 2, 0, 5, 0, [], kno),
  (31, .invokevirtual 129, 3, 7, 3, 0, [], K_mo_clear),
  (34, .iload 5, 2, 0, 5, 0, [], kno),
  (36, .aload_n 0, 1, 0, 0, 0, [], kno),
  (37, .getfield 80, 3, 7, 1, 0, [], mgr 106),
  (40, .iload_n 1, 1, 0, 1, 0, [], kno),
  (41, .iaload, 1, 7, 2, 0, [], mai),
  (42, .if_icmp .eq 4, 3, 2, 26, 0, [], kno),
  (45, .return_, 1, 6, 0, 0, [], kno),
  (46, .iload 7, 2, 0, 7, 0, [], kno),
  (48, .aload_n 0, 1, 0, 0, 0, [], kno),
  (49, .getfield 83, 3, 7, 1, 0, [], mgr 107),
  (52, .iload_n 1, 1, 0, 1, 0, [], kno),
  (53, .iaload, 1, 7, 2, 0, [], mai),
  (54, .if_icmp .le 50, 3, 2, 61, 0, [], kno),
  (57, .aload_n 0, 1, 0, 0, 0, [], kno),
  (58, .getfield 83, 3, 7, 1, 0, [], mgr 107),
  (61, .iload_n 1, 1, 0, 1, 0, [], kno),
  (62, .iload 7, 2, 0, 7, 0, [], kno),
  (64, .aload_n 0, 1, 0, 0, 0, [], kno),
  (65, .getfield 89, 3, 7, 1, 0, [], mgr 109),
  (68, .iload_n 1, 1, 0, 1, 0, [], kno),
  (69, .iaload, 1, 7, 2, 0, [], mai),
  (70, .if_icmp .ge 8, 3, 2, 43, 0, [], kno),
  (73, .iload 7, 2, 0, 7, 0, [], kno),
  (75, .goto 9, 3, 1, 47, 0, [], kno),
  (78, .aload_n 0, 1, 0, 0, 0, [], kno),
  (79, .getfield 89, 3, 7, 1, 0, [], mgr 109),
  (82, .iload_n 1, 1, 0, 1, 0, [], kno),
  (83, .iaload, 1, 7, 2, 0, [], mai),
  (84, .iastore, 1, 7, 3, 0, [], mpa),
  (85, .aload_n 0, 1, 0, 0, 0, [], kno),
  (86, .getfield 95, 3, 7, 1, 0, [], mgr 111),
  (89, .iload_n 1, 1, 0, 1, 0, [], kno),
  (90, .iconst 0, 1, 0, 0, 0, [], kno),
  (91, .iastore, 1, 7, 3, 0, [], mpa),
  (92, .aload_n 0, 1, 0, 0, 0, [], kno),
  (93, .getfield 98, 3, 7, 1, 0, [], mgr 112),
  (96, .iload_n 1, 1, 0, 1, 0, [], kno),
  (97, .iconst 2, 1, 0, 0, 2, [], kno),
  (98, .iastore, 1, 7, 3, 0, [], mpa),
  (99, .aload_n 0, 1, 0, 0, 0, [], kno),
  (100, .iload_n 1, 1, 0, 1, 0, [], kno),
  (101, .invokevirtual 121, 3, 7, 2, 0, [], K_mo_sendOpen),
  (104, .iload_n 2, 1, 0, 2, 0, [], kno),
  (105, .bipush 17, 2, 0, 0, 17, [], kno),
  (107, .if_icmp .ne 4, 3, 2, 65, 0, [], kno),
  (110, .return_, 1, 6, 0, 0, [], kno),
  (111, .iload 6, 2, 0, 6, 0, [], kno),
  (113, .aload_n 0, 1, 0, 0, 0, [], kno),
  (114, .getfield 92, 3, 7, 1, 0, [], mgr 110),
  (117, .iload_n 1, 1, 0, 1, 0, [], kno),
  (118, .iaload, 1, 7, 2, 0, [], mai),
  (119, .if_icmp .ne 34, 3, 2, 91, 0, [], kno),
  (122, .aload_n 0, 1, 0, 0, 0, [], kno),
  (123, .getfield 92, 3, 7, 1, 0, [], mgr 110),
  (126, .iload_n 1, 1, 0, 1, 0, [], kno),
  (127, .dup2, 1, 0, 0, 0, [], kno),
  (128, .iaload, 1, 7, 2, 0, [], mai),
  (129, .iconst 1, 1, 0, 0, 1, [], kno),
  (130, .iadd, 1, 0, 0, 0, [], kno),
  (131, .iastore, 1, 7, 3, 0, [], mpa),
  (132, .iload_n 1, 1, 0, 1, 0, [], kno),
  (133, .ifCond .ne 14, 3, 2, 87, 0, [], kno),
  (136, .aload_n 0, 1, 0, 0, 0, [], kno),
  (137, .iload_n 2, 1, 0, 2, 0, [], kno),
  (138, .iload_n 3, 1, 0, 3, 0, [], kno),
  (139, .iload 4, 2, 0, 4, 0, [], kno),
  (141, .invokevirtual 142, 3, 7, 4, 0, [], K_mo_accessDoes),
  (144, .goto 9, 3, 1, 91, 0, [], kno),
  (147, .aload_n 0, 1, 0, 0, 0, [], kno),
  (148, .iload_n 2, 1, 0, 2, 0, [], kno),
  (149, .iload_n 3, 1, 0, 3, 0, [], kno),
  (150, .invokevirtual 146, 3, 7, 3, 0, [], K_mo_serverDoes),
  (153, .aload_n 0, 1, 0, 0, 0, [], kno),
  (154, .iload_n 1, 1, 0, 1, 0, [], kno),
  (155, .iconst (-1), 1, 0, 0, (-1), [], kno),
  (156, .invokevirtual 125, 3, 7, 3, 0, [], K_mo_transmit),
  (159, .return_, 1, 6, 0, 0, [], kno)]
def G_mo_control_34 (n : Nat) : rx_G := fun x ls st =>
  match ls, st with
  | [some (.ref r0), some (.int v1), some (.int v2), some (.int v3), some (.int v4), some (.int v5), some (.int v6), some (.int v7)], [] => (r0 = 82 ∧ mo_cP n x.2 v1, ry_v x.1 (mo_control_34 n x.2 v1 v2 v3 v4 v5 v6 v7))
  | _, _ => (False, (x, none))
theorem GI_mo_control_34 {n : Nat} {x : mx} {ls : rx_L} {st : List Value} (h : (G_mo_control_34 n x ls st).1) : ∃ (r0 : Nat) (v1 : Int32) (v2 : Int32) (v3 : Int32) (v4 : Int32) (v5 : Int32) (v6 : Int32) (v7 : Int32), ls = [some (.ref r0), some (.int v1), some (.int v2), some (.int v3), some (.int v4), some (.int v5), some (.int v6), some (.int v7)] ∧ st = [] ∧ r0 = 82 ∧ mo_cP n x.2 v1 := by
  unfold G_mo_control_34 at h
  split at h
  · exact ⟨_, _, _, _, _, _, _, _, rfl, rfl, h⟩
  · exact False.elim h
def G_mo_control_104 (n : Nat) : rx_G := fun x ls st =>
  match ls, st with
  | [some (.ref r0), some (.int v1), some (.int v2), some (.int v3), some (.int v4), some (.int v5), some (.int v6), some (.int v7)], [] => (r0 = 82 ∧ mo_cP n x.2 v1, ry_v x.1 (mo_control_104 n x.2 v1 v2 v3 v4 v5 v6 v7))
  | _, _ => (False, (x, none))
theorem GI_mo_control_104 {n : Nat} {x : mx} {ls : rx_L} {st : List Value} (h : (G_mo_control_104 n x ls st).1) : ∃ (r0 : Nat) (v1 : Int32) (v2 : Int32) (v3 : Int32) (v4 : Int32) (v5 : Int32) (v6 : Int32) (v7 : Int32), ls = [some (.ref r0), some (.int v1), some (.int v2), some (.int v3), some (.int v4), some (.int v5), some (.int v6), some (.int v7)] ∧ st = [] ∧ r0 = 82 ∧ mo_cP n x.2 v1 := by
  unfold G_mo_control_104 at h
  split at h
  · exact ⟨_, _, _, _, _, _, _, _, rfl, rfl, h⟩
  · exact False.elim h
def G_mo_control_153 (n : Nat) : rx_G := fun x ls st =>
  match ls, st with
  | [some (.ref r0), some (.int v1), some (.int v2), some (.int v3), some (.int v4), some (.int v5), some (.int v6), some (.int v7)], [] => (r0 = 82 ∧ mo_cQ n v1, ry_v x.1 (mo_control_153 n x.2 v1 v2 v3 v4 v5 v6 v7))
  | _, _ => (False, (x, none))
theorem GI_mo_control_153 {n : Nat} {x : mx} {ls : rx_L} {st : List Value} (h : (G_mo_control_153 n x ls st).1) : ∃ (r0 : Nat) (v1 : Int32) (v2 : Int32) (v3 : Int32) (v4 : Int32) (v5 : Int32) (v6 : Int32) (v7 : Int32), ls = [some (.ref r0), some (.int v1), some (.int v2), some (.int v3), some (.int v4), some (.int v5), some (.int v6), some (.int v7)] ∧ st = [] ∧ r0 = 82 ∧ mo_cQ n v1 := by
  unfold G_mo_control_153 at h
  split at h
  · exact ⟨_, _, _, _, _, _, _, _, rfl, rfl, h⟩
  · exact False.elim h
theorem EH_mo_control_34 (n : Nat) (c : mx_C) (m : mx_M) (v1 : Int32) (v2 : Int32) (v3 : Int32) (v4 : Int32) (v5 : Int32) (v6 : Int32) (v7 : Int32) : rx_ev L_mo_control [(34, G_mo_control_34 n), (104, G_mo_control_104 (1)), (153, G_mo_control_153 (1))] 98 (L_mo_control.drop 19) (c, m) [some (.ref 82), some (.int v1), some (.int v2), some (.int v3), some (.int v4), some (.int v5), some (.int v6), some (.int v7)] [] = ry_v c (mo_control_34 (n + 1) m v1 v2 v3 v4 v5 v6 v7) :=
  rx_ite2 (f := ry_v c) (fun h0 => rx_ite2 (f := ry_v c) (fun h1 => rx_ite2 (f := ry_v c) (fun h2 => rfl) (fun h2 => rfl)) (fun h1 => rfl)) (fun h0 => rfl)
theorem SH_mo_control_34 (n : Nat) (c : mx_C) (m : mx_M) (v1 : Int32) (v2 : Int32) (v3 : Int32) (v4 : Int32) (v5 : Int32) (v6 : Int32) (v7 : Int32) (hP : mo_cP (n + 1) m v1) : rx_sf L_mo_control [(34, G_mo_control_34 n), (104, G_mo_control_104 (1)), (153, G_mo_control_153 (1))] 98 (L_mo_control.drop 19) (c, m) [some (.ref 82), some (.int v1), some (.int v2), some (.int v3), some (.int v4), some (.int v5), some (.int v6), some (.int v7)] [] :=
  And.intro rfl (And.intro hP.2.1 (And.intro (fun h0 => And.intro rfl (And.intro hP.2.1 (And.intro (fun h1 => And.intro rfl (And.intro rfl (And.intro hP.2.1 (And.intro (fun h2 => And.intro hP.2.1 (And.intro rfl (And.intro hP.2.1 (And.intro rfl (And.intro hP.2.1 (And.intro (And.intro rfl (mo_b_so (k := 1399) (mo_b_pi (by decide) (mo_b_pi (by decide) (mo_b_ack1 hP.2.2 hP.2.1 (by assumption) (by assumption)))) (by decide) hP.2.1)) (And.intro rfl (And.intro (by decide) (And.intro hP.2.1 (mo_b_sendOpen (mo_b_pi (by decide) (mo_b_pi (by decide) (mo_b_ack1 hP.2.2 hP.2.1 (by assumption) (by assumption)))) (by decide) hP.2.1)))))))))) (fun h2 => And.intro rfl (And.intro hP.2.1 (And.intro hP.2.1 (And.intro rfl (And.intro hP.2.1 (And.intro rfl (And.intro hP.2.1 (And.intro (And.intro rfl (mo_b_so (k := 1399) (mo_b_pi (by decide) (mo_b_pi (by decide) (mo_b_ack2 hP.2.2 hP.2.1))) (by decide) hP.2.1)) (And.intro rfl (And.intro (by decide) (And.intro hP.2.1 (mo_b_sendOpen (mo_b_pi (by decide) (mo_b_pi (by decide) (mo_b_ack2 hP.2.2 hP.2.1))) (by decide) hP.2.1)))))))))))))))) (fun h1 => And.intro rfl (And.intro (by decide) (And.intro hP.2.1 hP.2.2)))))) (fun h0 => trivial)))
theorem EH_mo_control_104 (n : Nat) (c : mx_C) (m : mx_M) (v1 : Int32) (v2 : Int32) (v3 : Int32) (v4 : Int32) (v5 : Int32) (v6 : Int32) (v7 : Int32) : rx_ev L_mo_control [(104, G_mo_control_104 n), (153, G_mo_control_153 (1))] 98 (L_mo_control.drop 61) (c, m) [some (.ref 82), some (.int v1), some (.int v2), some (.int v3), some (.int v4), some (.int v5), some (.int v6), some (.int v7)] [] = ry_v c (mo_control_104 (n + 1) m v1 v2 v3 v4 v5 v6 v7) :=
  rx_ite2 (f := ry_v c) (fun h0 => rfl) (fun h0 => rx_ite2 (f := ry_v c) (fun h1 => rx_ite2 (f := ry_v c) (fun h2 => rfl) (fun h2 => rfl)) (fun h1 => rfl))
theorem SH_mo_control_104 (n : Nat) (c : mx_C) (m : mx_M) (v1 : Int32) (v2 : Int32) (v3 : Int32) (v4 : Int32) (v5 : Int32) (v6 : Int32) (v7 : Int32) (hP : mo_cP (n + 1) m v1) : rx_sf L_mo_control [(104, G_mo_control_104 n), (153, G_mo_control_153 (1))] 98 (L_mo_control.drop 61) (c, m) [some (.ref 82), some (.int v1), some (.int v2), some (.int v3), some (.int v4), some (.int v5), some (.int v6), some (.int v7)] [] :=
  And.intro (fun h0 => trivial) (fun h0 => And.intro rfl (And.intro hP.2.1 (And.intro (fun h1 => And.intro rfl (And.intro hP.2.1 (And.intro hP.2.1 (And.intro (fun h2 => And.intro (And.intro rfl (mo_b_pi (by decide) hP.2.2)) (And.intro rfl (And.intro (by decide) hP.2.1))) (fun h2 => And.intro (And.intro rfl (mo_b_pi (by decide) hP.2.2)) (And.intro rfl (And.intro (by decide) hP.2.1))))))) (fun h1 => And.intro rfl (And.intro (by decide) hP.2.1)))))
theorem EH_mo_control_153 (n : Nat) (c : mx_C) (m : mx_M) (v1 : Int32) (v2 : Int32) (v3 : Int32) (v4 : Int32) (v5 : Int32) (v6 : Int32) (v7 : Int32) : rx_ev L_mo_control [(153, G_mo_control_153 n)] 98 (L_mo_control.drop 91) (c, m) [some (.ref 82), some (.int v1), some (.int v2), some (.int v3), some (.int v4), some (.int v5), some (.int v6), some (.int v7)] [] = ry_v c (mo_control_153 (n + 1) m v1 v2 v3 v4 v5 v6 v7) :=
  rfl
theorem SH_mo_control_153 (n : Nat) (c : mx_C) (m : mx_M) (v1 : Int32) (v2 : Int32) (v3 : Int32) (v4 : Int32) (v5 : Int32) (v6 : Int32) (v7 : Int32) (hP : mo_cQ (n + 1) v1) : rx_sf L_mo_control [(153, G_mo_control_153 n)] 98 (L_mo_control.drop 91) (c, m) [some (.ref 82), some (.int v1), some (.int v2), some (.int v3), some (.int v4), some (.int v5), some (.int v6), some (.int v7)] [] :=
  And.intro (And.intro rfl (And.intro hP.2 (fun h => absurd (by decide) h))) (trivial)
theorem E_mo_control (c : mx_C) (m : mx_M) (a1 : Int32) (a2 : Int32) (a3 : Int32) (a4 : Int32) (a5 : Int32) (a6 : Int32) (a7 : Int32)  : rx_ev L_mo_control [(34, G_mo_control_34 (1)), (104, G_mo_control_104 (1)), (153, G_mo_control_153 (1))] 98 L_mo_control (c, m) [some (.ref 82), some (.int a1), some (.int a2), some (.int a3), some (.int a4), some (.int a5), some (.int a6), some (.int a7)] [] = ry_v c (mo_control m a1 a2 a3 a4 a5 a6 a7) :=
  rx_ite2 (f := ry_v c) (fun h0 => rx_ite2 (f := ry_v c) (fun h1 => rx_ite2 (f := ry_v c) (fun h2 => rfl) (fun h2 => rfl)) (fun h1 => rfl)) (fun h0 => rfl)
theorem S_mo_control (c : mx_C) (m : mx_M) (a1 : Int32) (a2 : Int32) (a3 : Int32) (a4 : Int32) (a5 : Int32) (a6 : Int32) (a7 : Int32) (hc : mo_cC m a1) : rx_sf L_mo_control [(34, G_mo_control_34 (1)), (104, G_mo_control_104 (1)), (153, G_mo_control_153 (1))] 98 L_mo_control (c, m) [some (.ref 82), some (.int a1), some (.int a2), some (.int a3), some (.int a4), some (.int a5), some (.int a6), some (.int a7)] [] :=
  And.intro (fun h0 => And.intro (fun h1 => And.intro rfl (And.intro (i_in.mpr (by decide)) (And.intro (fun h2 => And.intro (And.intro rfl sc_z) (And.intro (And.intro rfl (i_in.mpr (by decide))) (And.intro rfl (And.intro (by decide) (And.intro hc.1 (mo_b_clear (mo_b_fz (fz_ps _ _) hc.2) (by decide))))))) (fun h2 => And.intro rfl (And.intro (by decide) (And.intro hc.1 hc.2)))))) (fun h1 => And.intro rfl (And.intro (by decide) (And.intro hc.1 hc.2)))) (fun h0 => And.intro rfl (And.intro (by decide) (And.intro hc.1 hc.2)))
theorem cv_mo_accessDoes {p : Program} {l : Launch} {e : Env} {R : Room} {s : State} {m : MethodId} {args : Array Value} {below : List Frame} {meth : Method} {c : Code} {cc : ByteArray} {nL : Nat} {ad : Nat → Nat} {D : va_G} {g : Nat → ClassId} {B : Nat} {own : String} {idx : Nat} (X : ox_C p s m args c cc nL own D g ad B) (hV : rx_V l D g ad B ⟨"SubscriberLinesModel", "accessDoes", "(III)V"⟩ prog_12_method_17_code 5 none 4 98 K_mo_accessDoes) (hl : Cond.methodLink own idx ⟨"SubscriberLinesModel", "accessDoes", "(III)V"⟩ ∈ al) (hR : 4 + 1 ≤ R.frames ∧ 8 + (5 + 11) + 98 ≤ R.locals) : rx_OK p l e R s m args below meth c cc nL ad (mx_W D g ad B s.heap) mx_cs (.invokevirtual idx) 3 4 (K_mo_accessDoes) :=
  ox_callV (q := 9) (T := T_9) X hV (fun av x h => by obtain ⟨a0, a1, a2, a3, rfl⟩ := k_RIII_inv h; exact ⟨a0, _, rfl, by have h2 : a0 = 82 := h.1; rw [h2]; rfl⟩) (by decide) rfl hl (al_at 896 (by decide +kernel) rfl) (al_pr (y := (⟨"SubscriberLinesModel", "accessDoes", "(III)V"⟩, _)) 45 rfl) (al_at 12 (by decide +kernel) rfl) (al_at 897 (by decide +kernel) rfl) ⟨by decide, by decide, by decide +kernel⟩ hR
theorem cv_mo_serverDoes {p : Program} {l : Launch} {e : Env} {R : Room} {s : State} {m : MethodId} {args : Array Value} {below : List Frame} {meth : Method} {c : Code} {cc : ByteArray} {nL : Nat} {ad : Nat → Nat} {D : va_G} {g : Nat → ClassId} {B : Nat} {own : String} {idx : Nat} (X : ox_C p s m args c cc nL own D g ad B) (hV : rx_V l D g ad B ⟨"SubscriberLinesModel", "serverDoes", "(II)V"⟩ prog_12_method_22_code 4 none 4 98 K_mo_serverDoes) (hl : Cond.methodLink own idx ⟨"SubscriberLinesModel", "serverDoes", "(II)V"⟩ ∈ al) (hR : 4 + 1 ≤ R.frames ∧ 8 + (4 + 11) + 98 ≤ R.locals) : rx_OK p l e R s m args below meth c cc nL ad (mx_W D g ad B s.heap) mx_cs (.invokevirtual idx) 3 3 (K_mo_serverDoes) :=
  ox_callV (q := 9) (T := T_9) X hV (fun av x h => by obtain ⟨a0, a1, a2, rfl⟩ := k_RII_inv h; exact ⟨a0, _, rfl, by have h2 : a0 = 82 := h.1; rw [h2]; rfl⟩) (by decide) rfl hl (al_at 908 (by decide +kernel) rfl) (al_pr (y := (⟨"SubscriberLinesModel", "serverDoes", "(II)V"⟩, _)) 48 rfl) (al_at 12 (by decide +kernel) rfl) (al_at 909 (by decide +kernel) rfl) ⟨by decide, by decide, by decide +kernel⟩ hR
theorem ok_mo_control : rx_okF prog_12_method_12_code 8 none L_mo_control 0 L_mo_control = true := by decide +kernel
theorem O_mo_control {l : Launch} {D : va_G} {g : Nat → ClassId} {ad : Nat → Nat} {B : Nat} (had : mx_A ad B) {p : Program} {e : Env} {s : State} {m : MethodId} {args : Array Value} {below : List Frame} {meth : Method} {c : Code} (X : ox_C p s m args c prog_12_method_12_code 8 "SubscriberLinesModel" D g ad B) : rx_ops p l e ({ frames := 5, cells := 0, slots := 0, locals := 122 } : Room) s m args below meth c prog_12_method_12_code 8 ad (mx_W D g ad B s.heap) mx_cs L_mo_control :=
  And.intro (og_mo_80_g X) (And.intro (oy_ai X) (And.intro (og_mo_135_p X) (And.intro (cv_mo_clear X (V_mo_clear had) (al_at 882 (by decide +kernel) rfl) ⟨by decide, by decide⟩) (And.intro (og_mo_80_g X) (And.intro (oy_ai X) (And.intro (og_mo_83_g X) (And.intro (oy_ai X) (And.intro (og_mo_83_g X) (And.intro (og_mo_89_g X) (And.intro (oy_ai X) (And.intro (og_mo_89_g X) (And.intro (oy_ai X) (And.intro (oy_pa X) (And.intro (og_mo_95_g X) (And.intro (oy_pa X) (And.intro (og_mo_98_g X) (And.intro (oy_pa X) (And.intro (cv_mo_sendOpen X (V_mo_sendOpen had) (al_at 886 (by decide +kernel) rfl) ⟨by decide, by decide⟩) (And.intro (og_mo_92_g X) (And.intro (oy_ai X) (And.intro (og_mo_92_g X) (And.intro (oy_ai X) (And.intro (oy_pa X) (And.intro (cv_mo_accessDoes X (V_mo_accessDoes had) (al_at 894 (by decide +kernel) rfl) ⟨by decide, by decide⟩) (And.intro (cv_mo_serverDoes X (V_mo_serverDoes had) (al_at 906 (by decide +kernel) rfl) ⟨by decide, by decide⟩) (And.intro (cv_mo_transmit X (V_mo_transmit had) (al_at 890 (by decide +kernel) rfl) ⟨by decide, by decide⟩) (trivial)))))))))))))))))))))))))))
theorem V_mo_control {l : Launch} {D : va_G} {g : Nat → ClassId} {ad : Nat → Nat} {B : Nat} (had : mx_A ad B) : rx_V l D g ad B ⟨"SubscriberLinesModel", "control", "(IIIIIII)V"⟩ prog_12_method_12_code 8 none 5 122 K_mo_control := by
  intro av x hp
  obtain ⟨a0, a1, a2, a3, a4, a5, a6, a7, rfl⟩ := k_RIIIIIII_inv hp
  have hp : a0 = 82 ∧ mo_cC x.2 a1 := hp
  have h0 : a0 = 82 := hp.1
  subst h0
  refine rx_metX (k := 0) had (by decide) (Nat.le_of_ble_eq_true rfl) fun p e s m args below meth c X hr hlk => ?_
  have lp153 := fun n => rx_loop (l := l) (e := e) (below := below) (res := (K_mo_control [.ref 82, .int a1, .int a2, .int a3, .int a4, .int a5, .int a6, .int a7] x).2) (G := G_mo_control_153) (cs0 := []) X hr hlk ok_mo_control (O_mo_control had X) rx_c0 98 91 rfl (fun x ls st h => by
    obtain ⟨r0, v1, v2, v3, v4, v5, v6, v7, -, -, h3⟩ := GI_mo_control_153 h
    have h4 := h3.2
    omega) (fun n x ls st h => by
    obtain ⟨r0, v1, v2, v3, v4, v5, v6, v7, rfl, rfl, h3⟩ := GI_mo_control_153 h
    obtain ⟨rfl, hP⟩ := h3
    exact ⟨SH_mo_control_153 n x.1 x.2 v1 v2 v3 v4 v5 v6 v7 hP, EH_mo_control_153 n x.1 x.2 v1 v2 v3 v4 v5 v6 v7⟩) n
  have lp104 := fun n => rx_loop (l := l) (e := e) (below := below) (res := (K_mo_control [.ref 82, .int a1, .int a2, .int a3, .int a4, .int a5, .int a6, .int a7] x).2) (G := G_mo_control_104) (cs0 := [(153, G_mo_control_153 (1))]) X hr hlk ok_mo_control (O_mo_control had X) (rx_cc (lp153 _) rx_c0) 98 61 rfl (fun x ls st h => by
    obtain ⟨r0, v1, v2, v3, v4, v5, v6, v7, -, -, h3⟩ := GI_mo_control_104 h
    have h4 := h3.2
    omega) (fun n x ls st h => by
    obtain ⟨r0, v1, v2, v3, v4, v5, v6, v7, rfl, rfl, h3⟩ := GI_mo_control_104 h
    obtain ⟨rfl, hP⟩ := h3
    exact ⟨SH_mo_control_104 n x.1 x.2 v1 v2 v3 v4 v5 v6 v7 hP, EH_mo_control_104 n x.1 x.2 v1 v2 v3 v4 v5 v6 v7⟩) n
  have lp34 := fun n => rx_loop (l := l) (e := e) (below := below) (res := (K_mo_control [.ref 82, .int a1, .int a2, .int a3, .int a4, .int a5, .int a6, .int a7] x).2) (G := G_mo_control_34) (cs0 := [(104, G_mo_control_104 (1)), (153, G_mo_control_153 (1))]) X hr hlk ok_mo_control (O_mo_control had X) (rx_cc (lp104 _) (rx_cc (lp153 _) rx_c0)) 98 19 rfl (fun x ls st h => by
    obtain ⟨r0, v1, v2, v3, v4, v5, v6, v7, -, -, h3⟩ := GI_mo_control_34 h
    have h4 := h3.2
    omega) (fun n x ls st h => by
    obtain ⟨r0, v1, v2, v3, v4, v5, v6, v7, rfl, rfl, h3⟩ := GI_mo_control_34 h
    obtain ⟨rfl, hP⟩ := h3
    exact ⟨SH_mo_control_34 n x.1 x.2 v1 v2 v3 v4 v5 v6 v7 hP, EH_mo_control_34 n x.1 x.2 v1 v2 v3 v4 v5 v6 v7⟩) n
  exact rx_walk X hr hlk ok_mo_control (O_mo_control had X) (cut := [(34, G_mo_control_34 (1)), (104, G_mo_control_104 (1)), (153, G_mo_control_153 (1))]) (rx_cc (lp34 _) (rx_cc (lp104 _) (rx_cc (lp153 _) rx_c0))) 98 0 rfl (S_mo_control x.1 x.2 a1 a2 a3 a4 a5 a6 a7 hp.2) (E_mo_control x.1 x.2 a1 a2 a3 a4 a5 a6 a7 )
