def mo_allow (m : mx_M) (a1 : Int32) (a2 : Int32) : mx_M × Int32 :=
  if (mo_out m a1 4) = 0 then
    let m1 := my_pi m 83 (Int32.toNatClampNeg a1) 1
    let m2 := my_pi m1 84 (Int32.toNatClampNeg a1) a2
    (m2, 1)
  else
    (m, 0)
def K_mo_allow : rx_K mx := k_RII (fun a0 a1 a2 c m => (a0 = 82, (c, (mo_allow m a1 a2).1), some (.int (mo_allow m a1 a2).2)))
def L_mo_allow : List (rx_E mx) := [
  (0, .iload_n 1, 1, 0, 1, 0, [], kno),
  (1, .iconst 4, 1, 0, 0, 4, [], kno),
  (2, .invokestatic 184, 3, 7, 2, 0, [], K_mo_out),
  (5, .ifCond .eq 5, 3, 2, 6, 0, [], kno),
  (8, .iconst 0, 1, 0, 0, 0, [], kno),
  (9, .ireturn, 1, 5, 1, 0, [], kno),
  (10, .aload_n 0, 1, 0, 0, 0, [], kno),
  (11, .getfield 7, 3, 7, 1, 0, [], mgr 83),
  (14, .iload_n 1, 1, 0, 1, 0, [], kno),
  (15, .iconst 1, 1, 0, 0, 1, [], kno),
  (16, .bastore, 1, 7, 3, 0, [], mpb),
  (17, .aload_n 0, 1, 0, 0, 0, [], kno),
  (18, .getfield 13, 3, 7, 1, 0, [], mgr 84),
  (21, .iload_n 1, 1, 0, 1, 0, [], kno),
  (22, .iload_n 2, 1, 0, 2, 0, [], kno),
  (23, .iastore, 1, 7, 3, 0, [], mpa),
  (24, .iconst 1, 1, 0, 0, 1, [], kno),
  (25, .ireturn, 1, 5, 1, 0, [], kno)]
theorem E_mo_allow (c : mx_C) (m : mx_M) (a1 : Int32) (a2 : Int32)  : rx_ev L_mo_allow [] 20 L_mo_allow (c, m) [some (.ref 82), some (.int a1), some (.int a2)] [] = ry_i c (mo_allow m a1 a2) :=
  rx_ite2 (f := ry_i c) (fun h0 => rfl) (fun h0 => rfl)
theorem S_mo_allow (c : mx_C) (m : mx_M) (a1 : Int32) (a2 : Int32)  : rx_sf L_mo_allow [] 20 L_mo_allow (c, m) [some (.ref 82), some (.int a1), some (.int a2)] [] :=
  And.intro trivial (And.intro (fun h0 => And.intro rfl (And.intro (And.intro (mo_out4 (by assumption)) rfl) (And.intro rfl (And.intro (mo_out4 (by assumption)) (Or.inr rfl))))) (fun h0 => Or.inl rfl))

theorem ok_mo_allow : rx_okF prog_12_method_35_code 3 (some .boolean) L_mo_allow 0 L_mo_allow = true := by decide +kernel
theorem V_mo_allow {l : Launch} {D : va_G} {g : Nat → ClassId} {ad : Nat → Nat} {B : Nat} (had : mx_A ad B) : rx_V l D g ad B ⟨"SubscriberLinesModel", "allow", "(II)Z"⟩ prog_12_method_35_code 3 (some .boolean) 1 21 K_mo_allow := by
  intro av x hp
  obtain ⟨a0, a1, a2, rfl⟩ := k_RII_inv hp
  have hp : a0 = 82 := hp
  have h0 : a0 = 82 := hp
  subst h0
  exact rx_met (k := 0) had (by decide) (Nat.le_of_ble_eq_true rfl) ok_mo_allow rfl rfl 20 (fun p e s m args below meth c X => And.intro (cv_mo_out X (V_mo_out had) (al_at 926 (by decide +kernel) rfl) ⟨by decide, by decide⟩) (And.intro (og_mo_7_g X) (And.intro (oy_pb X) (And.intro (og_mo_13_g X) (And.intro (oy_pa X) (trivial)))))) (S_mo_allow x.1 x.2 a1 a2 ) (E_mo_allow x.1 x.2 a1 a2)
def mo_dial (m : mx_M) (a1 : Int32) (a2 : Int32) (a3 : Int32) : mx_M × Int32 :=
  if (mo_out m a1 4) = 0 then
    if (m.1 86 (Int32.toNatClampNeg a1)) = 0 then
      let m1 := my_pi m 88 (Int32.toNatClampNeg a1) a2
      let m2 := my_pi m1 89 (Int32.toNatClampNeg a1) a3
      let m3 := my_pi m2 86 (Int32.toNatClampNeg a1) 1
      let m4 := my_pi m3 92 (Int32.toNatClampNeg a1) 0
      let m5 := mo_ask m4 a1
      (m5, 1)
    else
      (m, 0)
  else
    (m, 0)
def K_mo_dial : rx_K mx := k_RIII (fun a0 a1 a2 a3 c m => (a0 = 82, (c, (mo_dial m a1 a2 a3).1), some (.int (mo_dial m a1 a2 a3).2)))
def L_mo_dial : List (rx_E mx) := [
  (0, .iload_n 1, 1, 0, 1, 0, [], kno),
  (1, .iconst 4, 1, 0, 0, 4, [], kno),
  (2, .invokestatic 184, 3, 7, 2, 0, [], K_mo_out),
  (5, .ifCond .eq 5, 3, 2, 6, 0, [], kno),
  (8, .iconst 0, 1, 0, 0, 0, [], kno),
  (9, .ireturn, 1, 5, 1, 0, [], kno),
  (10, .aload_n 0, 1, 0, 0, 0, [], kno),
  (11, .getfield 20, 3, 7, 1, 0, [], mgr 86),
  (14, .iload_n 1, 1, 0, 1, 0, [], kno),
  (15, .iaload, 1, 7, 2, 0, [], mai),
  (16, .ifCond .eq 5, 3, 2, 13, 0, [], kno),
  (19, .iconst 0, 1, 0, 0, 0, [], kno),
  (20, .ireturn, 1, 5, 1, 0, [], kno),
  (21, .aload_n 0, 1, 0, 0, 0, [], kno),
  (22, .getfield 26, 3, 7, 1, 0, [], mgr 88),
  (25, .iload_n 1, 1, 0, 1, 0, [], kno),
  (26, .iload_n 2, 1, 0, 2, 0, [], kno),
  (27, .iastore, 1, 7, 3, 0, [], mpa),
  (28, .aload_n 0, 1, 0, 0, 0, [], kno),
  (29, .getfield 29, 3, 7, 1, 0, [], mgr 89),
  (32, .iload_n 1, 1, 0, 1, 0, [], kno),
  (33, .iload_n 3, 1, 0, 3, 0, [], kno),
  (34, .iastore, 1, 7, 3, 0, [], mpa),
  (35, .aload_n 0, 1, 0, 0, 0, [], kno),
  (36, .getfield 20, 3, 7, 1, 0, [], mgr 86),
  (39, .iload_n 1, 1, 0, 1, 0, [], kno),
  (40, .iconst 1, 1, 0, 0, 1, [], kno),
  (41, .iastore, 1, 7, 3, 0, [], mpa),
  (42, .aload_n 0, 1, 0, 0, 0, [], kno),
  (43, .getfield 38, 3, 7, 1, 0, [], mgr 92),
  (46, .iload_n 1, 1, 0, 1, 0, [], kno),
  (47, .iconst 0, 1, 0, 0, 0, [], kno),
  (48, .iastore, 1, 7, 3, 0, [], mpa),
  (49, .aload_n 0, 1, 0, 0, 0, [], kno),
  (50, .iload_n 1, 1, 0, 1, 0, [], kno),
  (51, .invokevirtual 204, 3, 7, 2, 0, [], K_mo_ask),
  (54, .iconst 1, 1, 0, 0, 1, [], kno),
  (55, .ireturn, 1, 5, 1, 0, [], kno)]
theorem E_mo_dial (c : mx_C) (m : mx_M) (a1 : Int32) (a2 : Int32) (a3 : Int32)  : rx_ev L_mo_dial [] 40 L_mo_dial (c, m) [some (.ref 82), some (.int a1), some (.int a2), some (.int a3)] [] = ry_i c (mo_dial m a1 a2 a3) :=
  rx_ite2 (f := ry_i c) (fun h0 => rx_ite2 (f := ry_i c) (fun h1 => rfl) (fun h1 => rfl)) (fun h0 => rfl)
theorem S_mo_dial (c : mx_C) (m : mx_M) (a1 : Int32) (a2 : Int32) (a3 : Int32)  : rx_sf L_mo_dial [] 40 L_mo_dial (c, m) [some (.ref 82), some (.int a1), some (.int a2), some (.int a3)] [] :=
  And.intro trivial (And.intro (fun h0 => And.intro rfl (And.intro (mo_out4 (by assumption)) (And.intro (fun h1 => And.intro rfl (And.intro (mo_out4 (by assumption)) (And.intro rfl (And.intro (mo_out4 (by assumption)) (And.intro rfl (And.intro (mo_out4 (by assumption)) (And.intro rfl (And.intro (mo_out4 (by assumption)) (And.intro (And.intro rfl (mo_out4 (by assumption))) (Or.inr rfl)))))))))) (fun h1 => Or.inl rfl)))) (fun h0 => Or.inl rfl))

theorem ok_mo_dial : rx_okF prog_12_method_36_code 4 (some .boolean) L_mo_dial 0 L_mo_dial = true := by decide +kernel
theorem V_mo_dial {l : Launch} {D : va_G} {g : Nat → ClassId} {ad : Nat → Nat} {B : Nat} (had : mx_A ad B) : rx_V l D g ad B ⟨"SubscriberLinesModel", "dial", "(III)Z"⟩ prog_12_method_36_code 4 (some .boolean) 3 75 K_mo_dial := by
  intro av x hp
  obtain ⟨a0, a1, a2, a3, rfl⟩ := k_RIII_inv hp
  have hp : a0 = 82 := hp
  have h0 : a0 = 82 := hp
  subst h0
  exact rx_met (k := 0) had (by decide) (Nat.le_of_ble_eq_true rfl) ok_mo_dial rfl rfl 40 (fun p e s m args below meth c X => And.intro (cv_mo_out X (V_mo_out had) (al_at 926 (by decide +kernel) rfl) ⟨by decide, by decide⟩) (And.intro (og_mo_20_g X) (And.intro (oy_ai X) (And.intro (og_mo_26_g X) (And.intro (oy_pa X) (And.intro (og_mo_29_g X) (And.intro (oy_pa X) (And.intro (og_mo_20_g X) (And.intro (oy_pa X) (And.intro (og_mo_38_g X) (And.intro (oy_pa X) (And.intro (cv_mo_ask X (V_mo_ask had) (al_at 854 (by decide +kernel) rfl) ⟨by decide, by decide⟩) (trivial))))))))))))) (S_mo_dial x.1 x.2 a1 a2 a3 ) (E_mo_dial x.1 x.2 a1 a2 a3)
def mo_hangup (m : mx_M) (a1 : Int32) : mx_M × Int32 :=
  if (mo_out m a1 4) = 0 then
    if (m.1 86 (Int32.toNatClampNeg a1)) = 0 then
      (m, 0)
    else
      if 1 < (m.1 86 (Int32.toNatClampNeg a1)) then
        let m1 := mo_leave m a1
        (m1, 1)
      else
        let m2 := mo_off m a1
        (m2, 1)
  else
    (m, 0)
def K_mo_hangup : rx_K mx := k_RI (fun a0 a1 c m => (a0 = 82, (c, (mo_hangup m a1).1), some (.int (mo_hangup m a1).2)))
def L_mo_hangup : List (rx_E mx) := [
  (0, .iload_n 1, 1, 0, 1, 0, [], kno),
  (1, .iconst 4, 1, 0, 0, 4, [], kno),
  (2, .invokestatic 184, 3, 7, 2, 0, [], K_mo_out),
  (5, .ifCond .eq 5, 3, 2, 6, 0, [], kno),
  (8, .iconst 0, 1, 0, 0, 0, [], kno),
  (9, .ireturn, 1, 5, 1, 0, [], kno),
  (10, .aload_n 0, 1, 0, 0, 0, [], kno),
  (11, .getfield 20, 3, 7, 1, 0, [], mgr 86),
  (14, .iload_n 1, 1, 0, 1, 0, [], kno),
  (15, .iaload, 1, 7, 2, 0, [], mai),
  (16, .ifCond .ne 5, 3, 2, 13, 0, [], kno),
  (19, .iconst 0, 1, 0, 0, 0, [], kno),
  (20, .ireturn, 1, 5, 1, 0, [], kno),
  (21, .aload_n 0, 1, 0, 0, 0, [], kno),
  (22, .getfield 20, 3, 7, 1, 0, [], mgr 86),
  (25, .iload_n 1, 1, 0, 1, 0, [], kno),
  (26, .iaload, 1, 7, 2, 0, [], mai),
  (27, .iconst 1, 1, 0, 0, 1, [], kno),
  (28, .if_icmp .le 11, 3, 2, 23, 0, [], kno),
  (31, .aload_n 0, 1, 0, 0, 0, [], kno),
  (32, .iload_n 1, 1, 0, 1, 0, [], kno),
  (33, .invokevirtual 210, 3, 7, 2, 0, [], K_mo_leave),
  (36, .goto 8, 3, 1, 26, 0, [], kno),
  (39, .aload_n 0, 1, 0, 0, 0, [], kno),
  (40, .iload_n 1, 1, 0, 1, 0, [], kno),
  (41, .invokevirtual 201, 3, 7, 2, 0, [], K_mo_off),
  (44, .iconst 1, 1, 0, 0, 1, [], kno),
  (45, .ireturn, 1, 5, 1, 0, [], kno)]
theorem E_mo_hangup (c : mx_C) (m : mx_M) (a1 : Int32)  : rx_ev L_mo_hangup [] 30 L_mo_hangup (c, m) [some (.ref 82), some (.int a1)] [] = ry_i c (mo_hangup m a1) :=
  rx_ite2 (f := ry_i c) (fun h0 => rx_ite2 (f := ry_i c) (fun h1 => rfl) (fun h1 => rx_ite2 (f := ry_i c) (fun h2 => rfl) (fun h2 => rfl))) (fun h0 => rfl)
theorem S_mo_hangup (c : mx_C) (m : mx_M) (a1 : Int32)  : rx_sf L_mo_hangup [] 30 L_mo_hangup (c, m) [some (.ref 82), some (.int a1)] [] :=
  And.intro trivial (And.intro (fun h0 => And.intro rfl (And.intro (mo_out4 (by assumption)) (And.intro (fun h1 => Or.inl rfl) (fun h1 => And.intro rfl (And.intro (mo_out4 (by assumption)) (And.intro (fun h2 => And.intro (And.intro rfl (mo_out4 (by assumption))) (Or.inr rfl)) (fun h2 => And.intro (And.intro rfl (mo_out4 (by assumption))) (Or.inr rfl)))))))) (fun h0 => Or.inl rfl))

theorem ok_mo_hangup : rx_okF prog_12_method_37_code 2 (some .boolean) L_mo_hangup 0 L_mo_hangup = true := by decide +kernel
theorem V_mo_hangup {l : Launch} {D : va_G} {g : Nat → ClassId} {ad : Nat → Nat} {B : Nat} (had : mx_A ad B) : rx_V l D g ad B ⟨"SubscriberLinesModel", "hangup", "(I)Z"⟩ prog_12_method_37_code 2 (some .boolean) 3 75 K_mo_hangup := by
  intro av x hp
  obtain ⟨a0, a1, rfl⟩ := k_RI_inv hp
  have hp : a0 = 82 := hp
  have h0 : a0 = 82 := hp
  subst h0
  exact rx_met (k := 0) had (by decide) (Nat.le_of_ble_eq_true rfl) ok_mo_hangup rfl rfl 30 (fun p e s m args below meth c X => And.intro (cv_mo_out X (V_mo_out had) (al_at 926 (by decide +kernel) rfl) ⟨by decide, by decide⟩) (And.intro (og_mo_20_g X) (And.intro (oy_ai X) (And.intro (og_mo_20_g X) (And.intro (oy_ai X) (And.intro (cv_mo_leave X (V_mo_leave had) (al_at 870 (by decide +kernel) rfl) ⟨by decide, by decide⟩) (And.intro (cv_mo_off X (V_mo_off had) (al_at 874 (by decide +kernel) rfl) ⟨by decide, by decide⟩) (trivial)))))))) (S_mo_hangup x.1 x.2 a1 ) (E_mo_hangup x.1 x.2 a1)
def mo_send (m : mx_M) (a1 : Int32) (a2 : Int32) (a3 : Int32) : mx_M × Int32 :=
  if (mo_out m a1 4) = 0 then
    if (m.1 86 (Int32.toNatClampNeg a1)) = 3 then
      let m1 := mo_sendOff m 10 a1 4 (m.1 87 (Int32.toNatClampNeg a1)) a2 a3
      (m1, 1)
    else
      (m, 0)
  else
    (m, 0)
def K_mo_send : rx_K mx := k_RIII (fun a0 a1 a2 a3 c m => (a0 = 82, (c, (mo_send m a1 a2 a3).1), some (.int (mo_send m a1 a2 a3).2)))
def L_mo_send : List (rx_E mx) := [
  (0, .iload_n 1, 1, 0, 1, 0, [], kno),
  (1, .iconst 4, 1, 0, 0, 4, [], kno),
  (2, .invokestatic 184, 3, 7, 2, 0, [], K_mo_out),
  (5, .ifCond .eq 5, 3, 2, 6, 0, [], kno),
  (8, .iconst 0, 1, 0, 0, 0, [], kno),
  (9, .ireturn, 1, 5, 1, 0, [], kno),
  (10, .aload_n 0, 1, 0, 0, 0, [], kno),
  (11, .getfield 20, 3, 7, 1, 0, [], mgr 86),
  (14, .iload_n 1, 1, 0, 1, 0, [], kno),
  (15, .iaload, 1, 7, 2, 0, [], mai),
  (16, .iconst 3, 1, 0, 0, 3, [], kno),
  (17, .if_icmp .eq 5, 3, 2, 14, 0, [], kno),
  (20, .iconst 0, 1, 0, 0, 0, [], kno),
  (21, .ireturn, 1, 5, 1, 0, [], kno),
  (22, .aload_n 0, 1, 0, 0, 0, [], kno),
  (23, .bipush 10, 2, 0, 0, 10, [], kno),
  (25, .iload_n 1, 1, 0, 1, 0, [], kno),
  (26, .iconst 4, 1, 0, 0, 4, [], kno),
  (27, .aload_n 0, 1, 0, 0, 0, [], kno),
  (28, .getfield 23, 3, 7, 1, 0, [], mgr 87),
  (31, .iload_n 1, 1, 0, 1, 0, [], kno),
  (32, .iaload, 1, 7, 2, 0, [], mai),
  (33, .iload_n 2, 1, 0, 2, 0, [], kno),
  (34, .iload_n 3, 1, 0, 3, 0, [], kno),
  (35, .invokevirtual 138, 3, 7, 7, 0, [], K_mo_sendOff),
  (38, .iconst 1, 1, 0, 0, 1, [], kno),
  (39, .ireturn, 1, 5, 1, 0, [], kno)]
theorem E_mo_send (c : mx_C) (m : mx_M) (a1 : Int32) (a2 : Int32) (a3 : Int32)  : rx_ev L_mo_send [] 29 L_mo_send (c, m) [some (.ref 82), some (.int a1), some (.int a2), some (.int a3)] [] = ry_i c (mo_send m a1 a2 a3) :=
  rx_ite2 (f := ry_i c) (fun h0 => rx_ite2 (f := ry_i c) (fun h1 => rfl) (fun h1 => rfl)) (fun h0 => rfl)
theorem S_mo_send (c : mx_C) (m : mx_M) (a1 : Int32) (a2 : Int32) (a3 : Int32)  : rx_sf L_mo_send [] 29 L_mo_send (c, m) [some (.ref 82), some (.int a1), some (.int a2), some (.int a3)] [] :=
  And.intro trivial (And.intro (fun h0 => And.intro rfl (And.intro (mo_out4 (by assumption)) (And.intro (fun h1 => And.intro rfl (And.intro (mo_out4 (by assumption)) (And.intro rfl (Or.inr rfl)))) (fun h1 => Or.inl rfl)))) (fun h0 => Or.inl rfl))

theorem ok_mo_send : rx_okF prog_12_method_38_code 4 (some .boolean) L_mo_send 0 L_mo_send = true := by decide +kernel
theorem V_mo_send {l : Launch} {D : va_G} {g : Nat → ClassId} {ad : Nat → Nat} {B : Nat} (had : mx_A ad B) : rx_V l D g ad B ⟨"SubscriberLinesModel", "send", "(III)Z"⟩ prog_12_method_38_code 4 (some .boolean) 2 54 K_mo_send := by
  intro av x hp
  obtain ⟨a0, a1, a2, a3, rfl⟩ := k_RIII_inv hp
  have hp : a0 = 82 := hp
  have h0 : a0 = 82 := hp
  subst h0
  exact rx_met (k := 0) had (by decide) (Nat.le_of_ble_eq_true rfl) ok_mo_send rfl rfl 29 (fun p e s m args below meth c X => And.intro (cv_mo_out X (V_mo_out had) (al_at 926 (by decide +kernel) rfl) ⟨by decide, by decide⟩) (And.intro (og_mo_20_g X) (And.intro (oy_ai X) (And.intro (og_mo_23_g X) (And.intro (oy_ai X) (And.intro (cv_mo_sendOff X (V_mo_sendOff had) (al_at 858 (by decide +kernel) rfl) ⟨by decide, by decide⟩) (trivial))))))) (S_mo_send x.1 x.2 a1 a2 a3 ) (E_mo_send x.1 x.2 a1 a2 a3)
def mo_flight (m : mx_M)  : Int32 :=
  (Int32.ofNat m.2.1.val)
def K_mo_flight : rx_K mx := k_R (fun a0 c m => (a0 = 82, (c, m), some (.int (mo_flight m))))
def L_mo_flight : List (rx_E mx) := [
  (0, .aload_n 0, 1, 0, 0, 0, [], kno),
  (1, .getfield 114, 3, 7, 1, 0, [], mgf),
  (4, .ireturn, 1, 5, 0, 0, [], kno)]
theorem E_mo_flight (c : mx_C) (m : mx_M)   : rx_ev L_mo_flight [] 5 L_mo_flight (c, m) [some (.ref 82)] [] = ry_p c m (mo_flight m) :=
  rfl
theorem S_mo_flight (c : mx_C) (m : mx_M)   : rx_sf L_mo_flight [] 5 L_mo_flight (c, m) [some (.ref 82)] [] :=
  And.intro rfl (trivial)

theorem ok_mo_flight : rx_okF prog_12_method_43_code 1 (some .int) L_mo_flight 0 L_mo_flight = true := by decide +kernel
theorem V_mo_flight {l : Launch} {D : va_G} {g : Nat → ClassId} {ad : Nat → Nat} {B : Nat} (had : mx_A ad B) : rx_V l D g ad B ⟨"SubscriberLinesModel", "flight", "()I"⟩ prog_12_method_43_code 1 (some .int) 0 0 K_mo_flight := by
  intro av x hp
  obtain ⟨a0, rfl⟩ := k_R_inv hp
  have hp : a0 = 82 := hp
  have h0 : a0 = 82 := hp
  subst h0
  exact rx_met (k := 0) had (by decide) (Nat.le_of_ble_eq_true rfl) ok_mo_flight rfl rfl 5 (fun p e s m args below meth c X => And.intro (og_mo_114_g X) (trivial)) (S_mo_flight x.1 x.2  ) (E_mo_flight x.1 x.2 )
def mo_state (m : mx_M) (a1 : Int32) : Int32 :=
  if (mo_out m a1 4) = 0 then
    (m.1 86 (Int32.toNatClampNeg a1))
  else
    (-1)
def K_mo_state : rx_K mx := k_RI (fun a0 a1 c m => (a0 = 82, (c, m), some (.int (mo_state m a1))))
def L_mo_state : List (rx_E mx) := [
  (0, .iload_n 1, 1, 0, 1, 0, [], kno),
  (1, .iconst 4, 1, 0, 0, 4, [], kno),
  (2, .invokestatic 184, 3, 7, 2, 0, [], K_mo_out),
  (5, .ifCond .eq 7, 3, 2, 6, 0, [], kno),
  (8, .iconst (-1), 1, 0, 0, (-1), [], kno),
  (9, .goto 9, 3, 1, 10, 0, [], kno),
  (12, .aload_n 0, 1, 0, 0, 0, [], kno),
  (13, .getfield 20, 3, 7, 1, 0, [], mgr 86),
  (16, .iload_n 1, 1, 0, 1, 0, [], kno),
  (17, .iaload, 1, 7, 2, 0, [], mai),
  (18, .ireturn, 1, 5, 0, 0, [], kno)]
theorem E_mo_state (c : mx_C) (m : mx_M) (a1 : Int32)  : rx_ev L_mo_state [] 13 L_mo_state (c, m) [some (.ref 82), some (.int a1)] [] = ry_p c m (mo_state m a1) :=
  rx_ite2 (f := ry_p c m) (fun h0 => rfl) (fun h0 => rfl)
theorem S_mo_state (c : mx_C) (m : mx_M) (a1 : Int32)  : rx_sf L_mo_state [] 13 L_mo_state (c, m) [some (.ref 82), some (.int a1)] [] :=
  And.intro trivial (And.intro (fun h0 => And.intro rfl (And.intro (mo_out4 (by assumption)) (trivial))) (fun h0 => trivial))

theorem ok_mo_state : rx_okF prog_12_method_45_code 2 (some .int) L_mo_state 0 L_mo_state = true := by decide +kernel
theorem V_mo_state {l : Launch} {D : va_G} {g : Nat → ClassId} {ad : Nat → Nat} {B : Nat} (had : mx_A ad B) : rx_V l D g ad B ⟨"SubscriberLinesModel", "state", "(I)I"⟩ prog_12_method_45_code 2 (some .int) 1 21 K_mo_state := by
  intro av x hp
  obtain ⟨a0, a1, rfl⟩ := k_RI_inv hp
  have hp : a0 = 82 := hp
  have h0 : a0 = 82 := hp
  subst h0
  exact rx_met (k := 0) had (by decide) (Nat.le_of_ble_eq_true rfl) ok_mo_state rfl rfl 13 (fun p e s m args below meth c X => And.intro (cv_mo_out X (V_mo_out had) (al_at 926 (by decide +kernel) rfl) ⟨by decide, by decide⟩) (And.intro (og_mo_20_g X) (And.intro (oy_ai X) (trivial)))) (S_mo_state x.1 x.2 a1 ) (E_mo_state x.1 x.2 a1)
def mo_address (m : mx_M) (a1 : Int32) : Int32 :=
  if (mo_out m a1 4) = 0 then
    if (m.1 86 (Int32.toNatClampNeg a1)) = 3 then
      (m.1 90 (Int32.toNatClampNeg a1))
    else
      0
  else
    0
def K_mo_address : rx_K mx := k_RI (fun a0 a1 c m => (a0 = 82, (c, m), some (.int (mo_address m a1))))
def L_mo_address : List (rx_E mx) := [
  (0, .iload_n 1, 1, 0, 1, 0, [], kno),
  (1, .iconst 4, 1, 0, 0, 4, [], kno),
  (2, .invokestatic 184, 3, 7, 2, 0, [], K_mo_out),
  (5, .ifCond .eq 5, 3, 2, 6, 0, [], kno),
  (8, .iconst 0, 1, 0, 0, 0, [], kno),
  (9, .ireturn, 1, 5, 0, 0, [], kno),
  (10, .aload_n 0, 1, 0, 0, 0, [], kno),
  (11, .getfield 20, 3, 7, 1, 0, [], mgr 86),
  (14, .iload_n 1, 1, 0, 1, 0, [], kno),
  (15, .iaload, 1, 7, 2, 0, [], mai),
  (16, .iconst 3, 1, 0, 0, 3, [], kno),
  (17, .if_icmp .ne 12, 3, 2, 17, 0, [], kno),
  (20, .aload_n 0, 1, 0, 0, 0, [], kno),
  (21, .getfield 32, 3, 7, 1, 0, [], mgr 90),
  (24, .iload_n 1, 1, 0, 1, 0, [], kno),
  (25, .iaload, 1, 7, 2, 0, [], mai),
  (26, .goto 4, 3, 1, 18, 0, [], kno),
  (29, .iconst 0, 1, 0, 0, 0, [], kno),
  (30, .ireturn, 1, 5, 0, 0, [], kno)]
theorem E_mo_address (c : mx_C) (m : mx_M) (a1 : Int32)  : rx_ev L_mo_address [] 21 L_mo_address (c, m) [some (.ref 82), some (.int a1)] [] = ry_p c m (mo_address m a1) :=
  rx_ite2 (f := ry_p c m) (fun h0 => rx_ite2 (f := ry_p c m) (fun h1 => rfl) (fun h1 => rfl)) (fun h0 => rfl)
theorem S_mo_address (c : mx_C) (m : mx_M) (a1 : Int32)  : rx_sf L_mo_address [] 21 L_mo_address (c, m) [some (.ref 82), some (.int a1)] [] :=
  And.intro trivial (And.intro (fun h0 => And.intro rfl (And.intro (mo_out4 (by assumption)) (And.intro (fun h1 => And.intro rfl (And.intro (mo_out4 (by assumption)) (trivial))) (fun h1 => trivial)))) (fun h0 => trivial))

theorem ok_mo_address : rx_okF prog_12_method_46_code 2 (some .int) L_mo_address 0 L_mo_address = true := by decide +kernel
theorem V_mo_address {l : Launch} {D : va_G} {g : Nat → ClassId} {ad : Nat → Nat} {B : Nat} (had : mx_A ad B) : rx_V l D g ad B ⟨"SubscriberLinesModel", "address", "(I)I"⟩ prog_12_method_46_code 2 (some .int) 1 21 K_mo_address := by
  intro av x hp
  obtain ⟨a0, a1, rfl⟩ := k_RI_inv hp
  have hp : a0 = 82 := hp
  have h0 : a0 = 82 := hp
  subst h0
  exact rx_met (k := 0) had (by decide) (Nat.le_of_ble_eq_true rfl) ok_mo_address rfl rfl 21 (fun p e s m args below meth c X => And.intro (cv_mo_out X (V_mo_out had) (al_at 926 (by decide +kernel) rfl) ⟨by decide, by decide⟩) (And.intro (og_mo_20_g X) (And.intro (oy_ai X) (And.intro (og_mo_32_g X) (And.intro (oy_ai X) (trivial)))))) (S_mo_address x.1 x.2 a1 ) (E_mo_address x.1 x.2 a1)
def mo_circuit (m : mx_M) (a1 : Int32) (a2 : Int32) : Int32 :=
  if (mo_out m a1 4) = 0 then
    if (mo_out m a2 2) = 0 then
      if a2 = 0 then
        (m.1 96 (Int32.toNatClampNeg a1))
      else
        (m.1 97 (Int32.toNatClampNeg a1))
    else
      0
  else
    0
def K_mo_circuit : rx_K mx := k_RII (fun a0 a1 a2 c m => (a0 = 82, (c, m), some (.int (mo_circuit m a1 a2))))
def L_mo_circuit : List (rx_E mx) := [
  (0, .iload_n 1, 1, 0, 1, 0, [], kno),
  (1, .iconst 4, 1, 0, 0, 4, [], kno),
  (2, .invokestatic 184, 3, 7, 2, 0, [], K_mo_out),
  (5, .ifCond .ne 11, 3, 2, 8, 0, [], kno),
  (8, .iload_n 2, 1, 0, 2, 0, [], kno),
  (9, .iconst 2, 1, 0, 0, 2, [], kno),
  (10, .invokestatic 184, 3, 7, 2, 0, [], K_mo_out),
  (13, .ifCond .eq 5, 3, 2, 10, 0, [], kno),
  (16, .iconst 0, 1, 0, 0, 0, [], kno),
  (17, .ireturn, 1, 5, 0, 0, [], kno),
  (18, .iload_n 2, 1, 0, 2, 0, [], kno),
  (19, .ifCond .ne 12, 3, 2, 17, 0, [], kno),
  (22, .aload_n 0, 1, 0, 0, 0, [], kno),
  (23, .getfield 50, 3, 7, 1, 0, [], mgr 96),
  (26, .iload_n 1, 1, 0, 1, 0, [], kno),
  (27, .iaload, 1, 7, 2, 0, [], mai),
  (28, .goto 9, 3, 1, 21, 0, [], kno),
  (31, .aload_n 0, 1, 0, 0, 0, [], kno),
  (32, .getfield 53, 3, 7, 1, 0, [], mgr 97),
  (35, .iload_n 1, 1, 0, 1, 0, [], kno),
  (36, .iaload, 1, 7, 2, 0, [], mai),
  (37, .ireturn, 1, 5, 0, 0, [], kno)]
theorem E_mo_circuit (c : mx_C) (m : mx_M) (a1 : Int32) (a2 : Int32)  : rx_ev L_mo_circuit [] 24 L_mo_circuit (c, m) [some (.ref 82), some (.int a1), some (.int a2)] [] = ry_p c m (mo_circuit m a1 a2) :=
  rx_ite2 (f := ry_p c m) (fun h0 => rx_ite2 (f := ry_p c m) (fun h1 => rx_ite2 (f := ry_p c m) (fun h2 => rfl) (fun h2 => rfl)) (fun h1 => rfl)) (fun h0 => rfl)
theorem S_mo_circuit (c : mx_C) (m : mx_M) (a1 : Int32) (a2 : Int32)  : rx_sf L_mo_circuit [] 24 L_mo_circuit (c, m) [some (.ref 82), some (.int a1), some (.int a2)] [] :=
  And.intro trivial (And.intro (fun h0 => And.intro trivial (And.intro (fun h1 => And.intro (fun h2 => And.intro rfl (And.intro (mo_out4 (by assumption)) (trivial))) (fun h2 => And.intro rfl (And.intro (mo_out4 (by assumption)) (trivial)))) (fun h1 => trivial))) (fun h0 => trivial))

theorem ok_mo_circuit : rx_okF prog_12_method_50_code 3 (some .int) L_mo_circuit 0 L_mo_circuit = true := by decide +kernel
theorem V_mo_circuit {l : Launch} {D : va_G} {g : Nat → ClassId} {ad : Nat → Nat} {B : Nat} (had : mx_A ad B) : rx_V l D g ad B ⟨"SubscriberLinesModel", "circuit", "(II)I"⟩ prog_12_method_50_code 3 (some .int) 1 21 K_mo_circuit := by
  intro av x hp
  obtain ⟨a0, a1, a2, rfl⟩ := k_RII_inv hp
  have hp : a0 = 82 := hp
  have h0 : a0 = 82 := hp
  subst h0
  exact rx_met (k := 0) had (by decide) (Nat.le_of_ble_eq_true rfl) ok_mo_circuit rfl rfl 24 (fun p e s m args below meth c X => And.intro (cv_mo_out X (V_mo_out had) (al_at 926 (by decide +kernel) rfl) ⟨by decide, by decide⟩) (And.intro (cv_mo_out X (V_mo_out had) (al_at 926 (by decide +kernel) rfl) ⟨by decide, by decide⟩) (And.intro (og_mo_50_g X) (And.intro (oy_ai X) (And.intro (og_mo_53_g X) (And.intro (oy_ai X) (trivial))))))) (S_mo_circuit x.1 x.2 a1 a2 ) (E_mo_circuit x.1 x.2 a1 a2)
def mo_channel (m : mx_M) (a1 : Int32) (a2 : Int32) : Int32 :=
  if a1 = 4 then
    if a2 = 0 then
      (m.1 106 (Int32.toNatClampNeg (a1 - 4)))
    else
      if a2 = 1 then
        ((m.1 109 (Int32.toNatClampNeg (a1 - 4))) - (m.1 107 (Int32.toNatClampNeg (a1 - 4))))
      else
        if a2 = 2 then
          (m.1 110 (Int32.toNatClampNeg (a1 - 4)))
        else
          if a2 = 3 then
            if 0 < ((m.1 109 (Int32.toNatClampNeg (a1 - 4))) - (m.1 107 (Int32.toNatClampNeg (a1 - 4)))) then
              (m.1 111 (Int32.toNatClampNeg (a1 - 4)))
            else
              0
          else
            if a2 = 4 then
              if 0 < ((m.1 109 (Int32.toNatClampNeg (a1 - 4))) - (m.1 107 (Int32.toNatClampNeg (a1 - 4)))) then
                (m.1 112 (Int32.toNatClampNeg (a1 - 4)))
              else
                0
            else
              0
  else
    if a1 = 5 then
      if a2 = 0 then
        (m.1 106 (Int32.toNatClampNeg (a1 - 4)))
      else
        if a2 = 1 then
          ((m.1 109 (Int32.toNatClampNeg (a1 - 4))) - (m.1 107 (Int32.toNatClampNeg (a1 - 4))))
        else
          if a2 = 2 then
            (m.1 110 (Int32.toNatClampNeg (a1 - 4)))
          else
            if a2 = 3 then
              if 0 < ((m.1 109 (Int32.toNatClampNeg (a1 - 4))) - (m.1 107 (Int32.toNatClampNeg (a1 - 4)))) then
                (m.1 111 (Int32.toNatClampNeg (a1 - 4)))
              else
                0
            else
              if a2 = 4 then
                if 0 < ((m.1 109 (Int32.toNatClampNeg (a1 - 4))) - (m.1 107 (Int32.toNatClampNeg (a1 - 4)))) then
                  (m.1 112 (Int32.toNatClampNeg (a1 - 4)))
                else
                  0
              else
                0
    else
      0
def K_mo_channel : rx_K mx := k_RII (fun a0 a1 a2 c m => (a0 = 82, (c, m), some (.int (mo_channel m a1 a2))))
def L_mo_channel : List (rx_E mx) := [
  (0, .iload_n 1, 1, 0, 1, 0, [], kno),
  (1, .iconst 4, 1, 0, 0, 4, [], kno),
  (2, .if_icmp .eq 10, 3, 2, 8, 0, [], kno),
  (5, .iload_n 1, 1, 0, 1, 0, [], kno),
  (6, .iconst 5, 1, 0, 0, 5, [], kno),
  (7, .if_icmp .eq 5, 3, 2, 8, 0, [], kno),
  (10, .iconst 0, 1, 0, 0, 0, [], kno),
  (11, .ireturn, 1, 5, 0, 0, [], kno),
  (12, .iload_n 1, 1, 0, 1, 0, [], kno),
  (13, .iconst 4, 1, 0, 0, 4, [], kno),
  (14, .isub, 1, 0, 0, 0, [], kno),
  (15, .istore_n 3, 1, 0, 3, 0, [], kno),
  (16, .aload_n 0, 1, 0, 0, 0, [], kno),
  (17, .getfield 89, 3, 7, 1, 0, [], mgr 109),
  (20, .iload_n 3, 1, 0, 3, 0, [], kno),
  (21, .iaload, 1, 7, 2, 0, [], mai),
  (22, .aload_n 0, 1, 0, 0, 0, [], kno),
  (23, .getfield 83, 3, 7, 1, 0, [], mgr 107),
  (26, .iload_n 3, 1, 0, 3, 0, [], kno),
  (27, .iaload, 1, 7, 2, 0, [], mai),
  (28, .isub, 1, 0, 0, 0, [], kno),
  (29, .istore 4, 2, 0, 4, 0, [], kno),
  (31, .iload_n 2, 1, 0, 2, 0, [], kno),
  (32, .tableswitch 85 0 4 #[36, 43, 46, 53, 69], 36, 4, 54, 0, [(0, 24), (1, 29), (2, 31), (3, 36), (4, 45)], kno),
  (68, .aload_n 0, 1, 0, 0, 0, [], kno),
  (69, .getfield 80, 3, 7, 1, 0, [], mgr 106),
  (72, .iload_n 3, 1, 0, 3, 0, [], kno),
  (73, .iaload, 1, 7, 2, 0, [], mai),
  (74, .ireturn, 1, 5, 0, 0, [], kno),
  (75, .iload 4, 2, 0, 4, 0, [], kno),
  (77, .ireturn, 1, 5, 0, 0, [], kno),
  (78, .aload_n 0, 1, 0, 0, 0, [], kno),
  (79, .getfield 92, 3, 7, 1, 0, [], mgr 110),
  (82, .iload_n 3, 1, 0, 3, 0, [], kno),
  (83, .iaload, 1, 7, 2, 0, [], mai),
  (84, .ireturn, 1, 5, 0, 0, [], kno),
  (85, .iload 4, 2, 0, 4, 0, [], kno),
  (87, .ifCond .le 12, 3, 2, 43, 0, [], kno),
  (90, .aload_n 0, 1, 0, 0, 0, [], kno),
  (91, .getfield 95, 3, 7, 1, 0, [], mgr 111),
  (94, .iload_n 3, 1, 0, 3, 0, [], kno),
  (95, .iaload, 1, 7, 2, 0, [], mai),
  (96, .goto 4, 3, 1, 44, 0, [], kno),
  (99, .iconst 0, 1, 0, 0, 0, [], kno),
  (100, .ireturn, 1, 5, 0, 0, [], kno),
  (101, .iload 4, 2, 0, 4, 0, [], kno),
  (103, .ifCond .le 12, 3, 2, 52, 0, [], kno),
  (106, .aload_n 0, 1, 0, 0, 0, [], kno),
  (107, .getfield 98, 3, 7, 1, 0, [], mgr 112),
  (110, .iload_n 3, 1, 0, 3, 0, [], kno),
  (111, .iaload, 1, 7, 2, 0, [], mai),
  (112, .goto 4, 3, 1, 53, 0, [], kno),
  (115, .iconst 0, 1, 0, 0, 0, [], kno),
  (116, .ireturn, 1, 5, 0, 0, [], kno),
  (117, .iconst 0, 1, 0, 0, 0, [], kno),
  (118, .ireturn, 1, 5, 0, 0, [], kno)]
theorem E_mo_channel (c : mx_C) (m : mx_M) (a1 : Int32) (a2 : Int32)  : rx_ev L_mo_channel [] 58 L_mo_channel (c, m) [some (.ref 82), some (.int a1), some (.int a2), none, none] [] = ry_p c m (mo_channel m a1 a2) :=
  rx_ite2 (f := ry_p c m) (fun h0 => rx_ite2 (f := ry_p c m) (fun h1 => rfl) (fun h1 => rx_ite2 (f := ry_p c m) (fun h2 => rfl) (fun h2 => rx_ite2 (f := ry_p c m) (fun h3 => rfl) (fun h3 => rx_ite2 (f := ry_p c m) (fun h4 => rx_ite2 (f := ry_p c m) (fun h5 => rfl) (fun h5 => rfl)) (fun h4 => rx_ite2 (f := ry_p c m) (fun h5 => rx_ite2 (f := ry_p c m) (fun h6 => rfl) (fun h6 => rfl)) (fun h5 => rfl)))))) (fun h0 => rx_ite2 (f := ry_p c m) (fun h1 => rx_ite2 (f := ry_p c m) (fun h2 => rfl) (fun h2 => rx_ite2 (f := ry_p c m) (fun h3 => rfl) (fun h3 => rx_ite2 (f := ry_p c m) (fun h4 => rfl) (fun h4 => rx_ite2 (f := ry_p c m) (fun h5 => rx_ite2 (f := ry_p c m) (fun h6 => rfl) (fun h6 => rfl)) (fun h5 => rx_ite2 (f := ry_p c m) (fun h6 => rx_ite2 (f := ry_p c m) (fun h7 => rfl) (fun h7 => rfl)) (fun h6 => rfl)))))) (fun h1 => rfl))
theorem S_mo_channel (c : mx_C) (m : mx_M) (a1 : Int32) (a2 : Int32)  : rx_sf L_mo_channel [] 58 L_mo_channel (c, m) [some (.ref 82), some (.int a1), some (.int a2), none, none] [] :=
  And.intro (fun h0 => And.intro rfl (And.intro (by first | exact mo_re4 (by assumption) | exact mo_re5 (by assumption)) (And.intro rfl (And.intro (by first | exact mo_re4 (by assumption) | exact mo_re5 (by assumption)) (And.intro (fun h1 => And.intro rfl (And.intro (by first | exact mo_re4 (by assumption) | exact mo_re5 (by assumption)) (trivial))) (fun h1 => And.intro (fun h2 => trivial) (fun h2 => And.intro (fun h3 => And.intro rfl (And.intro (by first | exact mo_re4 (by assumption) | exact mo_re5 (by assumption)) (trivial))) (fun h3 => And.intro (fun h4 => And.intro (fun h5 => And.intro rfl (And.intro (by first | exact mo_re4 (by assumption) | exact mo_re5 (by assumption)) (trivial))) (fun h5 => trivial)) (fun h4 => And.intro (fun h5 => And.intro (fun h6 => And.intro rfl (And.intro (by first | exact mo_re4 (by assumption) | exact mo_re5 (by assumption)) (trivial))) (fun h6 => trivial)) (fun h5 => trivial)))))))))) (fun h0 => And.intro (fun h1 => And.intro rfl (And.intro (by first | exact mo_re4 (by assumption) | exact mo_re5 (by assumption)) (And.intro rfl (And.intro (by first | exact mo_re4 (by assumption) | exact mo_re5 (by assumption)) (And.intro (fun h2 => And.intro rfl (And.intro (by first | exact mo_re4 (by assumption) | exact mo_re5 (by assumption)) (trivial))) (fun h2 => And.intro (fun h3 => trivial) (fun h3 => And.intro (fun h4 => And.intro rfl (And.intro (by first | exact mo_re4 (by assumption) | exact mo_re5 (by assumption)) (trivial))) (fun h4 => And.intro (fun h5 => And.intro (fun h6 => And.intro rfl (And.intro (by first | exact mo_re4 (by assumption) | exact mo_re5 (by assumption)) (trivial))) (fun h6 => trivial)) (fun h5 => And.intro (fun h6 => And.intro (fun h7 => And.intro rfl (And.intro (by first | exact mo_re4 (by assumption) | exact mo_re5 (by assumption)) (trivial))) (fun h7 => trivial)) (fun h6 => trivial)))))))))) (fun h1 => trivial))

theorem ok_mo_channel : rx_okF prog_12_method_52_code 5 (some .int) L_mo_channel 0 L_mo_channel = true := by decide +kernel
theorem V_mo_channel {l : Launch} {D : va_G} {g : Nat → ClassId} {ad : Nat → Nat} {B : Nat} (had : mx_A ad B) : rx_V l D g ad B ⟨"SubscriberLinesModel", "channel", "(II)I"⟩ prog_12_method_52_code 5 (some .int) 0 0 K_mo_channel := by
  intro av x hp
  obtain ⟨a0, a1, a2, rfl⟩ := k_RII_inv hp
  have hp : a0 = 82 := hp
  have h0 : a0 = 82 := hp
  subst h0
  exact rx_met (k := 2) had (by decide) (Nat.le_of_ble_eq_true rfl) ok_mo_channel rfl rfl 58 (fun p e s m args below meth c X => And.intro (og_mo_89_g X) (And.intro (oy_ai X) (And.intro (og_mo_83_g X) (And.intro (oy_ai X) (And.intro (og_mo_80_g X) (And.intro (oy_ai X) (And.intro (og_mo_92_g X) (And.intro (oy_ai X) (And.intro (og_mo_95_g X) (And.intro (oy_ai X) (And.intro (og_mo_98_g X) (And.intro (oy_ai X) (trivial))))))))))))) (S_mo_channel x.1 x.2 a1 a2 ) (E_mo_channel x.1 x.2 a1 a2)
theorem mo_ofl (q : Fin 41) : (Int32.ofNat q.val).toInt = (q.val : Int) := i_of _ (by omega)
theorem mo_ofs (q : Fin 5) : (Int32.ofNat q.val).toInt = (q.val : Int) := i_of _ (by omega)
theorem mo_drop_in {m : mx_M} {k : Int32} (h : mo_out m k (Int32.ofNat m.2.1.val) = 0) : mo_toP m k := by
  have := mo_out_in h
  rw [mo_ofl] at this
  exact this
theorem mo_ses_in {m : mx_M} {k : Int32} (h : mo_out m k (Int32.ofNat m.2.2.val) = 0) : vp_in k 4 := by
  have := mo_out_in h
  have hq := m.2.2.isLt
  rw [mo_ofs] at this
  rw [i_in]
  omega
theorem mo_pk_in {m : mx_M} {k w : Int32} (h : mo_out m k (Int32.ofNat m.2.1.val) = 0) (h2 : mo_out m w 9 = 0) : vp_in (9 * k + w) 360 := by
  have a1 := mo_out_in h
  have a2 := mo_out_in h2
  have hq := m.2.1.isLt
  rw [mo_ofl] at a1
  have a2 : 0 ≤ w.toInt ∧ w.toInt < 9 := a2
  have e : (9 * k).toInt = 9 * k.toInt := i_mul (show _ ≤ 9 * k.toInt by omega) (show 9 * k.toInt < _ by omega)
  rw [i_in, i_add (by rw [e]; omega) (by rw [e]; omega), e]
  omega
theorem mo_back {w k : Int32} (h0 : 0 ≤ k.toInt) (h : k < w) : 0 ≤ ((w - 1) - k).toInt := by
  rw [i_lt] at h
  have hr := i_rng w
  have e : (w - 1).toInt = w.toInt - 1 := i_sub (show _ ≤ w.toInt - 1 by omega) (show w.toInt - 1 < _ by omega)
  rw [i_sub (by rw [e]; omega) (by rw [e]; omega), e]
  omega
theorem mo_hd {m : mx_M} {s k w : Int32} (hs : mo_out m s 4 = 0) (h1 : mo_out m k 4 = 0) (h2 : k < w) : vp_in (4 * s + (((w - 1) - k) - ((w - 1) - k) / 4 * 4)) 16 := mo_w16 (mo_out4 hs) (mo_back (mo_out_in h1).1 h2)
theorem mo_cr {m : mx_M} {k w : Int32} (h1 : mo_out m k 8 = 0) (h2 : k < w) : vp_in (((w - 1) - k) - ((w - 1) - k) / 8 * 8) 8 := by
  have h := mo_back (mo_out_in h1).1 h2
  rw [i_in, i_rem h (by decide)]
  show 0 ≤ _ % (8 : Int) ∧ _ % (8 : Int) < 8
  omega
abbrev mo_sw (n : Nat) (k v : Int32) : Prop := 0 ≤ k.toInt ∧ k.toInt ≤ 38 ∧ 9 * k.toInt ≤ v.toInt ∧ v.toInt ≤ 9 * k.toInt + 9 ∧ 9 * k.toInt + 9 < (n : Int) + v.toInt
theorem mo_sw1 {n : Nat} {k v : Int32} (h : v < 9 * k + 9) (hP : mo_sw (n + 1) k v) : (vp_in v 360 ∧ vp_in (v + 9) 360) ∧ mo_sw n k (v + 1) := by
  obtain ⟨p1, p2, p3, p4, p5⟩ := hP
  have e : (9 * k).toInt = 9 * k.toInt := i_mul (show _ ≤ 9 * k.toInt by omega) (show 9 * k.toInt < _ by omega)
  have e2 : (9 * k + 9).toInt = 9 * k.toInt + 9 := by
    rw [i_add (by rw [e]; show _ ≤ 9 * k.toInt + 9; omega) (by rw [e]; show 9 * k.toInt + 9 < _; omega), e]
    rfl
  rw [i_lt, e2] at h
  have e3 : (v + 1).toInt = v.toInt + 1 := i_add (show _ ≤ v.toInt + 1 by omega) (show v.toInt + 1 < _ by omega)
  have e9 : (v + 9).toInt = v.toInt + 9 := i_add (show _ ≤ v.toInt + 9 by omega) (show v.toInt + 9 < _ by omega)
  refine ⟨⟨by rw [i_in]; omega, by rw [i_in, e9]; omega⟩, ?_⟩
  unfold mo_sw
  rw [e3]
  omega
theorem mo_sw0 {m : mx_M} {k : Int32} (h : mo_out m k (Int32.ofNat m.2.1.val - 1) = 0) : mo_sw 11 k (9 * k) := by
  have a := mo_out_in h
  have hq := m.2.1.isLt
  have e : (Int32.ofNat m.2.1.val - 1).toInt = (m.2.1.val : Int) - 1 := by
    rw [i_sub, mo_ofl]
    · rfl
    · rw [mo_ofl]; show _ ≤ (m.2.1.val : Int) - 1; omega
    · rw [mo_ofl]; show (m.2.1.val : Int) - 1 < _; omega
  rw [e] at a
  have e2 : (9 * k).toInt = 9 * k.toInt := i_mul (show _ ≤ 9 * k.toInt by omega) (show 9 * k.toInt < _ by omega)
  unfold mo_sw
  rw [e2]
  omega
def mo_drop (m : mx_M) (a1 : Int32) : mx_M × Int32 :=
  if (mo_out m a1 (Int32.ofNat m.2.1.val)) = 0 then
    let m1 := mo_takeOut m a1
    (m1, 1)
  else
    (m, 0)
def K_mo_drop : rx_K mx := k_RI (fun a0 a1 c m => (a0 = 82, (c, (mo_drop m a1).1), some (.int (mo_drop m a1).2)))
def L_mo_drop : List (rx_E mx) := [
  (0, .iload_n 1, 1, 0, 1, 0, [], kno),
  (1, .aload_n 0, 1, 0, 0, 0, [], kno),
  (2, .getfield 114, 3, 7, 1, 0, [], mgf),
  (5, .invokestatic 184, 3, 7, 2, 0, [], K_mo_out),
  (8, .ifCond .eq 5, 3, 2, 7, 0, [], kno),
  (11, .iconst 0, 1, 0, 0, 0, [], kno),
  (12, .ireturn, 1, 5, 1, 0, [], kno),
  (13, .aload_n 0, 1, 0, 0, 0, [], kno),
  (14, .iload_n 1, 1, 0, 1, 0, [], kno),
  (15, .invokevirtual 213, 3, 7, 2, 0, [], K_mo_takeOut),
  (18, .iconst 1, 1, 0, 0, 1, [], kno),
  (19, .ireturn, 1, 5, 1, 0, [], kno)]
theorem E_mo_drop (c : mx_C) (m : mx_M) (a1 : Int32)  : rx_ev L_mo_drop [] 14 L_mo_drop (c, m) [some (.ref 82), some (.int a1)] [] = ry_i c (mo_drop m a1) :=
  rx_ite2 (f := ry_i c) (fun h0 => rfl) (fun h0 => rfl)
theorem S_mo_drop (c : mx_C) (m : mx_M) (a1 : Int32)  : rx_sf L_mo_drop [] 14 L_mo_drop (c, m) [some (.ref 82), some (.int a1)] [] :=
  And.intro rfl (And.intro trivial (And.intro (fun h0 => And.intro (And.intro rfl (mo_drop_in (by assumption))) (Or.inr rfl)) (fun h0 => Or.inl rfl)))

theorem ok_mo_drop : rx_okF prog_12_method_41_code 2 (some .boolean) L_mo_drop 0 L_mo_drop = true := by decide +kernel
theorem V_mo_drop {l : Launch} {D : va_G} {g : Nat → ClassId} {ad : Nat → Nat} {B : Nat} (had : mx_A ad B) : rx_V l D g ad B ⟨"SubscriberLinesModel", "drop", "(I)Z"⟩ prog_12_method_41_code 2 (some .boolean) 1 22 K_mo_drop := by
  intro av x hp
  obtain ⟨a0, a1, rfl⟩ := k_RI_inv hp
  have hp : a0 = 82 := hp
  have h0 : a0 = 82 := hp
  subst h0
  exact rx_met (k := 0) had (by decide) (Nat.le_of_ble_eq_true rfl) ok_mo_drop rfl rfl 14 (fun p e s m args below meth c X => And.intro (og_mo_114_g X) (And.intro (cv_mo_out X (V_mo_out had) (al_at 926 (by decide +kernel) rfl) ⟨by decide, by decide⟩) (And.intro (cv_mo_takeOut X (V_mo_takeOut had) (al_at 846 (by decide +kernel) rfl) ⟨by decide, by decide⟩) (trivial)))) (S_mo_drop x.1 x.2 a1 ) (E_mo_drop x.1 x.2 a1)
def mo_packet (m : mx_M) (a1 : Int32) (a2 : Int32) : Int32 :=
  if (mo_out m a1 (Int32.ofNat m.2.1.val)) = 0 then
    if (mo_out m a2 9) = 0 then
      (m.1 85 (Int32.toNatClampNeg ((9 * a1) + a2)))
    else
      0
  else
    0
def K_mo_packet : rx_K mx := k_RII (fun a0 a1 a2 c m => (a0 = 82, (c, m), some (.int (mo_packet m a1 a2))))
def L_mo_packet : List (rx_E mx) := [
  (0, .iload_n 1, 1, 0, 1, 0, [], kno),
  (1, .aload_n 0, 1, 0, 0, 0, [], kno),
  (2, .getfield 114, 3, 7, 1, 0, [], mgf),
  (5, .invokestatic 184, 3, 7, 2, 0, [], K_mo_out),
  (8, .ifCond .ne 12, 3, 2, 9, 0, [], kno),
  (11, .iload_n 2, 1, 0, 2, 0, [], kno),
  (12, .bipush 9, 2, 0, 0, 9, [], kno),
  (14, .invokestatic 184, 3, 7, 2, 0, [], K_mo_out),
  (17, .ifCond .eq 7, 3, 2, 11, 0, [], kno),
  (20, .iconst 0, 1, 0, 0, 0, [], kno),
  (21, .goto 14, 3, 1, 19, 0, [], kno),
  (24, .aload_n 0, 1, 0, 0, 0, [], kno),
  (25, .getfield 17, 3, 7, 1, 0, [], mgr 85),
  (28, .bipush 9, 2, 0, 0, 9, [], kno),
  (30, .iload_n 1, 1, 0, 1, 0, [], kno),
  (31, .imul, 1, 0, 0, 0, [], kno),
  (32, .iload_n 2, 1, 0, 2, 0, [], kno),
  (33, .iadd, 1, 0, 0, 0, [], kno),
  (34, .iaload, 1, 7, 2, 0, [], mai),
  (35, .ireturn, 1, 5, 0, 0, [], kno)]
theorem E_mo_packet (c : mx_C) (m : mx_M) (a1 : Int32) (a2 : Int32)  : rx_ev L_mo_packet [] 22 L_mo_packet (c, m) [some (.ref 82), some (.int a1), some (.int a2)] [] = ry_p c m (mo_packet m a1 a2) :=
  rx_ite2 (f := ry_p c m) (fun h0 => rx_ite2 (f := ry_p c m) (fun h1 => rfl) (fun h1 => rfl)) (fun h0 => rfl)
theorem S_mo_packet (c : mx_C) (m : mx_M) (a1 : Int32) (a2 : Int32)  : rx_sf L_mo_packet [] 22 L_mo_packet (c, m) [some (.ref 82), some (.int a1), some (.int a2)] [] :=
  And.intro rfl (And.intro trivial (And.intro (fun h0 => And.intro trivial (And.intro (fun h1 => And.intro rfl (And.intro (mo_pk_in (by assumption) (by assumption)) (trivial))) (fun h1 => trivial))) (fun h0 => trivial)))

theorem ok_mo_packet : rx_okF prog_12_method_44_code 3 (some .int) L_mo_packet 0 L_mo_packet = true := by decide +kernel
theorem V_mo_packet {l : Launch} {D : va_G} {g : Nat → ClassId} {ad : Nat → Nat} {B : Nat} (had : mx_A ad B) : rx_V l D g ad B ⟨"SubscriberLinesModel", "packet", "(II)I"⟩ prog_12_method_44_code 3 (some .int) 1 21 K_mo_packet := by
  intro av x hp
  obtain ⟨a0, a1, a2, rfl⟩ := k_RII_inv hp
  have hp : a0 = 82 := hp
  have h0 : a0 = 82 := hp
  subst h0
  exact rx_met (k := 0) had (by decide) (Nat.le_of_ble_eq_true rfl) ok_mo_packet rfl rfl 22 (fun p e s m args below meth c X => And.intro (og_mo_114_g X) (And.intro (cv_mo_out X (V_mo_out had) (al_at 926 (by decide +kernel) rfl) ⟨by decide, by decide⟩) (And.intro (cv_mo_out X (V_mo_out had) (al_at 926 (by decide +kernel) rfl) ⟨by decide, by decide⟩) (And.intro (og_mo_17_g X) (And.intro (oy_ai X) (trivial)))))) (S_mo_packet x.1 x.2 a1 a2 ) (E_mo_packet x.1 x.2 a1 a2)
def mo_session (m : mx_M) (a1 : Int32) (a2 : Int32) : Int32 :=
  if (mo_out m a1 (Int32.ofNat m.2.2.val)) = 0 then
    if a2 = 0 then
      (m.1 98 (Int32.toNatClampNeg a1))
    else
      if a2 = 1 then
        (m.1 99 (Int32.toNatClampNeg a1))
      else
        if a2 = 2 then
          (m.1 100 (Int32.toNatClampNeg a1))
        else
          if a2 = 3 then
            (m.1 101 (Int32.toNatClampNeg a1))
          else
            if a2 = 4 then
              (m.1 102 (Int32.toNatClampNeg a1))
            else
              0
  else
    0
def K_mo_session : rx_K mx := k_RII (fun a0 a1 a2 c m => (a0 = 82, (c, m), some (.int (mo_session m a1 a2))))
def L_mo_session : List (rx_E mx) := [
  (0, .iload_n 1, 1, 0, 1, 0, [], kno),
  (1, .aload_n 0, 1, 0, 0, 0, [], kno),
  (2, .getfield 135, 3, 7, 1, 0, [], mgs),
  (5, .invokestatic 184, 3, 7, 2, 0, [], K_mo_out),
  (8, .ifCond .eq 5, 3, 2, 7, 0, [], kno),
  (11, .iconst 0, 1, 0, 0, 0, [], kno),
  (12, .ireturn, 1, 5, 0, 0, [], kno),
  (13, .iload_n 2, 1, 0, 2, 0, [], kno),
  (14, .tableswitch 69 0 4 #[34, 41, 48, 55, 62], 34, 4, 34, 0, [(0, 9), (1, 14), (2, 19), (3, 24), (4, 29)], kno),
  (48, .aload_n 0, 1, 0, 0, 0, [], kno),
  (49, .getfield 56, 3, 7, 1, 0, [], mgr 98),
  (52, .iload_n 1, 1, 0, 1, 0, [], kno),
  (53, .iaload, 1, 7, 2, 0, [], mai),
  (54, .ireturn, 1, 5, 0, 0, [], kno),
  (55, .aload_n 0, 1, 0, 0, 0, [], kno),
  (56, .getfield 59, 3, 7, 1, 0, [], mgr 99),
  (59, .iload_n 1, 1, 0, 1, 0, [], kno),
  (60, .iaload, 1, 7, 2, 0, [], mai),
  (61, .ireturn, 1, 5, 0, 0, [], kno),
  (62, .aload_n 0, 1, 0, 0, 0, [], kno),
  (63, .getfield 62, 3, 7, 1, 0, [], mgr 100),
  (66, .iload_n 1, 1, 0, 1, 0, [], kno),
  (67, .iaload, 1, 7, 2, 0, [], mai),
  (68, .ireturn, 1, 5, 0, 0, [], kno),
  (69, .aload_n 0, 1, 0, 0, 0, [], kno),
  (70, .getfield 65, 3, 7, 1, 0, [], mgr 101),
  (73, .iload_n 1, 1, 0, 1, 0, [], kno),
  (74, .iaload, 1, 7, 2, 0, [], mai),
  (75, .ireturn, 1, 5, 0, 0, [], kno),
  (76, .aload_n 0, 1, 0, 0, 0, [], kno),
  (77, .getfield 68, 3, 7, 1, 0, [], mgr 102),
  (80, .iload_n 1, 1, 0, 1, 0, [], kno),
  (81, .iaload, 1, 7, 2, 0, [], mai),
  (82, .ireturn, 1, 5, 0, 0, [], kno),
  (83, .iconst 0, 1, 0, 0, 0, [], kno),
  (84, .ireturn, 1, 5, 0, 0, [], kno)]
theorem E_mo_session (c : mx_C) (m : mx_M) (a1 : Int32) (a2 : Int32)  : rx_ev L_mo_session [] 38 L_mo_session (c, m) [some (.ref 82), some (.int a1), some (.int a2)] [] = ry_p c m (mo_session m a1 a2) :=
  rx_ite2 (f := ry_p c m) (fun h0 => rx_ite2 (f := ry_p c m) (fun h1 => rfl) (fun h1 => rx_ite2 (f := ry_p c m) (fun h2 => rfl) (fun h2 => rx_ite2 (f := ry_p c m) (fun h3 => rfl) (fun h3 => rx_ite2 (f := ry_p c m) (fun h4 => rfl) (fun h4 => rx_ite2 (f := ry_p c m) (fun h5 => rfl) (fun h5 => rfl)))))) (fun h0 => rfl)
theorem S_mo_session (c : mx_C) (m : mx_M) (a1 : Int32) (a2 : Int32)  : rx_sf L_mo_session [] 38 L_mo_session (c, m) [some (.ref 82), some (.int a1), some (.int a2)] [] :=
  And.intro rfl (And.intro trivial (And.intro (fun h0 => And.intro (fun h1 => And.intro rfl (And.intro (mo_ses_in (by assumption)) (trivial))) (fun h1 => And.intro (fun h2 => And.intro rfl (And.intro (mo_ses_in (by assumption)) (trivial))) (fun h2 => And.intro (fun h3 => And.intro rfl (And.intro (mo_ses_in (by assumption)) (trivial))) (fun h3 => And.intro (fun h4 => And.intro rfl (And.intro (mo_ses_in (by assumption)) (trivial))) (fun h4 => And.intro (fun h5 => And.intro rfl (And.intro (mo_ses_in (by assumption)) (trivial))) (fun h5 => trivial)))))) (fun h0 => trivial)))

theorem ok_mo_session : rx_okF prog_12_method_51_code 3 (some .int) L_mo_session 0 L_mo_session = true := by decide +kernel
theorem V_mo_session {l : Launch} {D : va_G} {g : Nat → ClassId} {ad : Nat → Nat} {B : Nat} (had : mx_A ad B) : rx_V l D g ad B ⟨"SubscriberLinesModel", "session", "(II)I"⟩ prog_12_method_51_code 3 (some .int) 1 21 K_mo_session := by
  intro av x hp
  obtain ⟨a0, a1, a2, rfl⟩ := k_RII_inv hp
  have hp : a0 = 82 := hp
  have h0 : a0 = 82 := hp
  subst h0
  exact rx_met (k := 0) had (by decide) (Nat.le_of_ble_eq_true rfl) ok_mo_session rfl rfl 38 (fun p e s m args below meth c X => And.intro (og_mo_135_g X) (And.intro (cv_mo_out X (V_mo_out had) (al_at 926 (by decide +kernel) rfl) ⟨by decide, by decide⟩) (And.intro (og_mo_56_g X) (And.intro (oy_ai X) (And.intro (og_mo_59_g X) (And.intro (oy_ai X) (And.intro (og_mo_62_g X) (And.intro (oy_ai X) (And.intro (og_mo_65_g X) (And.intro (oy_ai X) (And.intro (og_mo_68_g X) (And.intro (oy_ai X) (trivial))))))))))))) (S_mo_session x.1 x.2 a1 a2 ) (E_mo_session x.1 x.2 a1 a2)
def mo_heard (m : mx_M) (a1 : Int32) (a2 : Int32) : Int32 :=
  if (mo_out m a1 4) = 0 then
    if a2 = (-1) then
      (m.1 94 (Int32.toNatClampNeg a1))
    else
      if (mo_out m a2 4) = 0 then
        if a2 < (m.1 94 (Int32.toNatClampNeg a1)) then
          (m.1 95 (Int32.toNatClampNeg ((4 * a1) + ((((m.1 94 (Int32.toNatClampNeg a1)) - 1) - a2) - (((m.1 94 (Int32.toNatClampNeg a1)) - 1) - a2) / 4 * 4))))
        else
          0
      else
        0
  else
    0
def K_mo_heard : rx_K mx := k_RII (fun a0 a1 a2 c m => (a0 = 82, (c, m), some (.int (mo_heard m a1 a2))))
def L_mo_heard : List (rx_E mx) := [
  (0, .iload_n 1, 1, 0, 1, 0, [], kno),
  (1, .iconst 4, 1, 0, 0, 4, [], kno),
  (2, .invokestatic 184, 3, 7, 2, 0, [], K_mo_out),
  (5, .ifCond .eq 5, 3, 2, 6, 0, [], kno),
  (8, .iconst 0, 1, 0, 0, 0, [], kno),
  (9, .ireturn, 1, 5, 0, 0, [], kno),
  (10, .iload_n 2, 1, 0, 2, 0, [], kno),
  (11, .iconst (-1), 1, 0, 0, (-1), [], kno),
  (12, .if_icmp .ne 10, 3, 2, 14, 0, [], kno),
  (15, .aload_n 0, 1, 0, 0, 0, [], kno),
  (16, .getfield 44, 3, 7, 1, 0, [], mgr 94),
  (19, .iload_n 1, 1, 0, 1, 0, [], kno),
  (20, .iaload, 1, 7, 2, 0, [], mai),
  (21, .ireturn, 1, 5, 0, 0, [], kno),
  (22, .iload_n 2, 1, 0, 2, 0, [], kno),
  (23, .iconst 4, 1, 0, 0, 4, [], kno),
  (24, .invokestatic 184, 3, 7, 2, 0, [], K_mo_out),
  (27, .ifCond .ne 13, 3, 2, 24, 0, [], kno),
  (30, .iload_n 2, 1, 0, 2, 0, [], kno),
  (31, .aload_n 0, 1, 0, 0, 0, [], kno),
  (32, .getfield 44, 3, 7, 1, 0, [], mgr 94),
  (35, .iload_n 1, 1, 0, 1, 0, [], kno),
  (36, .iaload, 1, 7, 2, 0, [], mai),
  (37, .if_icmp .lt 5, 3, 2, 26, 0, [], kno),
  (40, .iconst 0, 1, 0, 0, 0, [], kno),
  (41, .ireturn, 1, 5, 0, 0, [], kno),
  (42, .aload_n 0, 1, 0, 0, 0, [], kno),
  (43, .getfield 47, 3, 7, 1, 0, [], mgr 95),
  (46, .iconst 4, 1, 0, 0, 4, [], kno),
  (47, .iload_n 1, 1, 0, 1, 0, [], kno),
  (48, .imul, 1, 0, 0, 0, [], kno),
  (49, .aload_n 0, 1, 0, 0, 0, [], kno),
  (50, .getfield 44, 3, 7, 1, 0, [], mgr 94),
  (53, .iload_n 1, 1, 0, 1, 0, [], kno),
  (54, .iaload, 1, 7, 2, 0, [], mai),
  (55, .iconst 1, 1, 0, 0, 1, [], kno),
  (56, .isub, 1, 0, 0, 0, [], kno),
  (57, .iload_n 2, 1, 0, 2, 0, [], kno),
  (58, .isub, 1, 0, 0, 0, [], kno),
  (59, .iconst 4, 1, 0, 0, 4, [], kno),
  (60, .irem, 1, 0, 0, 0, [], kno),
  (61, .iadd, 1, 0, 0, 0, [], kno),
  (62, .iaload, 1, 7, 2, 0, [], mai),
  (63, .ireturn, 1, 5, 0, 0, [], kno)]
theorem E_mo_heard (c : mx_C) (m : mx_M) (a1 : Int32) (a2 : Int32)  : rx_ev L_mo_heard [] 46 L_mo_heard (c, m) [some (.ref 82), some (.int a1), some (.int a2)] [] = ry_p c m (mo_heard m a1 a2) :=
  rx_ite2 (f := ry_p c m) (fun h0 => rx_ite2 (f := ry_p c m) (fun h1 => rfl) (fun h1 => rx_ite2 (f := ry_p c m) (fun h2 => rx_ite2 (f := ry_p c m) (fun h3 => rfl) (fun h3 => rfl)) (fun h2 => rfl))) (fun h0 => rfl)
theorem S_mo_heard (c : mx_C) (m : mx_M) (a1 : Int32) (a2 : Int32)  : rx_sf L_mo_heard [] 46 L_mo_heard (c, m) [some (.ref 82), some (.int a1), some (.int a2)] [] :=
  And.intro trivial (And.intro (fun h0 => And.intro (fun h1 => And.intro rfl (And.intro (mo_out4 (by assumption)) (trivial))) (fun h1 => And.intro trivial (And.intro (fun h2 => And.intro rfl (And.intro (mo_out4 (by assumption)) (And.intro (fun h3 => And.intro rfl (And.intro rfl (And.intro (mo_out4 (by assumption)) (And.intro (mo_hd (by assumption) (by assumption) (by assumption)) (trivial))))) (fun h3 => trivial)))) (fun h2 => trivial)))) (fun h0 => trivial))

theorem ok_mo_heard : rx_okF prog_12_method_47_code 3 (some .int) L_mo_heard 0 L_mo_heard = true := by decide +kernel
theorem V_mo_heard {l : Launch} {D : va_G} {g : Nat → ClassId} {ad : Nat → Nat} {B : Nat} (had : mx_A ad B) : rx_V l D g ad B ⟨"SubscriberLinesModel", "heard", "(II)I"⟩ prog_12_method_47_code 3 (some .int) 1 21 K_mo_heard := by
  intro av x hp
  obtain ⟨a0, a1, a2, rfl⟩ := k_RII_inv hp
  have hp : a0 = 82 := hp
  have h0 : a0 = 82 := hp
  subst h0
  exact rx_met (k := 0) had (by decide) (Nat.le_of_ble_eq_true rfl) ok_mo_heard rfl rfl 46 (fun p e s m args below meth c X => And.intro (cv_mo_out X (V_mo_out had) (al_at 926 (by decide +kernel) rfl) ⟨by decide, by decide⟩) (And.intro (og_mo_44_g X) (And.intro (oy_ai X) (And.intro (cv_mo_out X (V_mo_out had) (al_at 926 (by decide +kernel) rfl) ⟨by decide, by decide⟩) (And.intro (og_mo_44_g X) (And.intro (oy_ai X) (And.intro (og_mo_47_g X) (And.intro (og_mo_44_g X) (And.intro (oy_ai X) (And.intro (oy_ai X) (trivial))))))))))) (S_mo_heard x.1 x.2 a1 a2 ) (E_mo_heard x.1 x.2 a1 a2)
def mo_cored (m : mx_M) (a1 : Int32) : Int32 :=
  if a1 = (-1) then
    (m.1 82 24)
  else
    if a1 = (-2) then
      (m.1 82 25)
    else
      if (mo_out m a1 8) = 0 then
        if a1 < (m.1 82 24) then
          (m.1 103 (Int32.toNatClampNeg ((((m.1 82 24) - 1) - a1) - (((m.1 82 24) - 1) - a1) / 8 * 8)))
        else
          0
      else
        0
def K_mo_cored : rx_K mx := k_RI (fun a0 a1 c m => (a0 = 82, (c, m), some (.int (mo_cored m a1))))
def L_mo_cored : List (rx_E mx) := [
  (0, .iload_n 1, 1, 0, 1, 0, [], kno),
  (1, .iconst (-1), 1, 0, 0, (-1), [], kno),
  (2, .if_icmp .ne 8, 3, 2, 6, 0, [], kno),
  (5, .aload_n 0, 1, 0, 0, 0, [], kno),
  (6, .getfield 198, 3, 7, 1, 0, [], mgi 24),
  (9, .ireturn, 1, 5, 0, 0, [], kno),
  (10, .iload_n 1, 1, 0, 1, 0, [], kno),
  (11, .bipush (-2), 2, 0, 0, (-2), [], kno),
  (13, .if_icmp .ne 8, 3, 2, 12, 0, [], kno),
  (16, .aload_n 0, 1, 0, 0, 0, [], kno),
  (17, .getfield 195, 3, 7, 1, 0, [], mgi 25),
  (20, .ireturn, 1, 5, 0, 0, [], kno),
  (21, .iload_n 1, 1, 0, 1, 0, [], kno),
  (22, .bipush 8, 2, 0, 0, 8, [], kno),
  (24, .invokestatic 184, 3, 7, 2, 0, [], K_mo_out),
  (27, .ifCond .ne 11, 3, 2, 20, 0, [], kno),
  (30, .iload_n 1, 1, 0, 1, 0, [], kno),
  (31, .aload_n 0, 1, 0, 0, 0, [], kno),
  (32, .getfield 198, 3, 7, 1, 0, [], mgi 24),
  (35, .if_icmp .lt 7, 3, 2, 22, 0, [], kno),
  (38, .iconst 0, 1, 0, 0, 0, [], kno),
  (39, .goto 19, 3, 1, 33, 0, [], kno),
  (42, .aload_n 0, 1, 0, 0, 0, [], kno),
  (43, .getfield 71, 3, 7, 1, 0, [], mgr 103),
  (46, .aload_n 0, 1, 0, 0, 0, [], kno),
  (47, .getfield 198, 3, 7, 1, 0, [], mgi 24),
  (50, .iconst 1, 1, 0, 0, 1, [], kno),
  (51, .isub, 1, 0, 0, 0, [], kno),
  (52, .iload_n 1, 1, 0, 1, 0, [], kno),
  (53, .isub, 1, 0, 0, 0, [], kno),
  (54, .bipush 8, 2, 0, 0, 8, [], kno),
  (56, .irem, 1, 0, 0, 0, [], kno),
  (57, .iaload, 1, 7, 2, 0, [], mai),
  (58, .ireturn, 1, 5, 0, 0, [], kno)]
theorem E_mo_cored (c : mx_C) (m : mx_M) (a1 : Int32)  : rx_ev L_mo_cored [] 36 L_mo_cored (c, m) [some (.ref 82), some (.int a1)] [] = ry_p c m (mo_cored m a1) :=
  rx_ite2 (f := ry_p c m) (fun h0 => rfl) (fun h0 => rx_ite2 (f := ry_p c m) (fun h1 => rfl) (fun h1 => rx_ite2 (f := ry_p c m) (fun h2 => rx_ite2 (f := ry_p c m) (fun h3 => rfl) (fun h3 => rfl)) (fun h2 => rfl)))
theorem S_mo_cored (c : mx_C) (m : mx_M) (a1 : Int32)  : rx_sf L_mo_cored [] 36 L_mo_cored (c, m) [some (.ref 82), some (.int a1)] [] :=
  And.intro (fun h0 => And.intro rfl (trivial)) (fun h0 => And.intro (fun h1 => And.intro rfl (trivial)) (fun h1 => And.intro trivial (And.intro (fun h2 => And.intro rfl (And.intro (fun h3 => And.intro rfl (And.intro rfl (And.intro (mo_cr (by assumption) (by assumption)) (trivial)))) (fun h3 => trivial))) (fun h2 => trivial))))

theorem ok_mo_cored : rx_okF prog_12_method_48_code 2 (some .int) L_mo_cored 0 L_mo_cored = true := by decide +kernel
theorem V_mo_cored {l : Launch} {D : va_G} {g : Nat → ClassId} {ad : Nat → Nat} {B : Nat} (had : mx_A ad B) : rx_V l D g ad B ⟨"SubscriberLinesModel", "cored", "(I)I"⟩ prog_12_method_48_code 2 (some .int) 1 21 K_mo_cored := by
  intro av x hp
  obtain ⟨a0, a1, rfl⟩ := k_RI_inv hp
  have hp : a0 = 82 := hp
  have h0 : a0 = 82 := hp
  subst h0
  exact rx_met (k := 0) had (by decide) (Nat.le_of_ble_eq_true rfl) ok_mo_cored rfl rfl 36 (fun p e s m args below meth c X => And.intro (og_mo_198_g X) (And.intro (og_mo_195_g X) (And.intro (cv_mo_out X (V_mo_out had) (al_at 926 (by decide +kernel) rfl) ⟨by decide, by decide⟩) (And.intro (og_mo_198_g X) (And.intro (og_mo_71_g X) (And.intro (og_mo_198_g X) (And.intro (oy_ai X) (trivial)))))))) (S_mo_cored x.1 x.2 a1 ) (E_mo_cored x.1 x.2 a1)
def mo_source (m : mx_M) (a1 : Int32) : Int32 :=
  if (mo_out m a1 8) = 0 then
    if a1 < (m.1 82 24) then
      (m.1 104 (Int32.toNatClampNeg ((((m.1 82 24) - 1) - a1) - (((m.1 82 24) - 1) - a1) / 8 * 8)))
    else
      0
  else
    0
def K_mo_source : rx_K mx := k_RI (fun a0 a1 c m => (a0 = 82, (c, m), some (.int (mo_source m a1))))
def L_mo_source : List (rx_E mx) := [
  (0, .iload_n 1, 1, 0, 1, 0, [], kno),
  (1, .bipush 8, 2, 0, 0, 8, [], kno),
  (3, .invokestatic 184, 3, 7, 2, 0, [], K_mo_out),
  (6, .ifCond .ne 11, 3, 2, 8, 0, [], kno),
  (9, .iload_n 1, 1, 0, 1, 0, [], kno),
  (10, .aload_n 0, 1, 0, 0, 0, [], kno),
  (11, .getfield 198, 3, 7, 1, 0, [], mgi 24),
  (14, .if_icmp .lt 7, 3, 2, 10, 0, [], kno),
  (17, .iconst 0, 1, 0, 0, 0, [], kno),
  (18, .goto 19, 3, 1, 21, 0, [], kno),
  (21, .aload_n 0, 1, 0, 0, 0, [], kno),
  (22, .getfield 74, 3, 7, 1, 0, [], mgr 104),
  (25, .aload_n 0, 1, 0, 0, 0, [], kno),
  (26, .getfield 198, 3, 7, 1, 0, [], mgi 24),
  (29, .iconst 1, 1, 0, 0, 1, [], kno),
  (30, .isub, 1, 0, 0, 0, [], kno),
  (31, .iload_n 1, 1, 0, 1, 0, [], kno),
  (32, .isub, 1, 0, 0, 0, [], kno),
  (33, .bipush 8, 2, 0, 0, 8, [], kno),
  (35, .irem, 1, 0, 0, 0, [], kno),
  (36, .iaload, 1, 7, 2, 0, [], mai),
  (37, .ireturn, 1, 5, 0, 0, [], kno)]
theorem E_mo_source (c : mx_C) (m : mx_M) (a1 : Int32)  : rx_ev L_mo_source [] 24 L_mo_source (c, m) [some (.ref 82), some (.int a1)] [] = ry_p c m (mo_source m a1) :=
  rx_ite2 (f := ry_p c m) (fun h0 => rx_ite2 (f := ry_p c m) (fun h1 => rfl) (fun h1 => rfl)) (fun h0 => rfl)
theorem S_mo_source (c : mx_C) (m : mx_M) (a1 : Int32)  : rx_sf L_mo_source [] 24 L_mo_source (c, m) [some (.ref 82), some (.int a1)] [] :=
  And.intro trivial (And.intro (fun h0 => And.intro rfl (And.intro (fun h1 => And.intro rfl (And.intro rfl (And.intro (mo_cr (by assumption) (by assumption)) (trivial)))) (fun h1 => trivial))) (fun h0 => trivial))

theorem ok_mo_source : rx_okF prog_12_method_49_code 2 (some .int) L_mo_source 0 L_mo_source = true := by decide +kernel
theorem V_mo_source {l : Launch} {D : va_G} {g : Nat → ClassId} {ad : Nat → Nat} {B : Nat} (had : mx_A ad B) : rx_V l D g ad B ⟨"SubscriberLinesModel", "source", "(I)I"⟩ prog_12_method_49_code 2 (some .int) 1 21 K_mo_source := by
  intro av x hp
  obtain ⟨a0, a1, rfl⟩ := k_RI_inv hp
  have hp : a0 = 82 := hp
  have h0 : a0 = 82 := hp
  subst h0
  exact rx_met (k := 0) had (by decide) (Nat.le_of_ble_eq_true rfl) ok_mo_source rfl rfl 24 (fun p e s m args below meth c X => And.intro (cv_mo_out X (V_mo_out had) (al_at 926 (by decide +kernel) rfl) ⟨by decide, by decide⟩) (And.intro (og_mo_198_g X) (And.intro (og_mo_74_g X) (And.intro (og_mo_198_g X) (And.intro (oy_ai X) (trivial)))))) (S_mo_source x.1 x.2 a1 ) (E_mo_source x.1 x.2 a1)
def mo_swap_20 : Nat → mx_M → Int32 → Int32 → mx_M × Int32
  | 0, m, _, _ => (m, 0)
  | n + 1, m, v1, v2 =>
    if v2 < ((9 * v1) + 9) then
      let m1 := my_pi m 85 (Int32.toNatClampNeg v2) (m.1 85 (Int32.toNatClampNeg (v2 + 9)))
      let m2 := my_pi m1 85 (Int32.toNatClampNeg (v2 + 9)) (m.1 85 (Int32.toNatClampNeg v2))
      mo_swap_20 n m2 v1 (v2 + 1)
    else
      (m, 1)
def mo_swap (m : mx_M) (a1 : Int32) : mx_M × Int32 :=
  if (mo_out m a1 ((Int32.ofNat m.2.1.val) - 1)) = 0 then
    mo_swap_20 (11) m a1 (9 * a1)
  else
    (m, 0)
def K_mo_swap : rx_K mx := k_RI (fun a0 a1 c m => (a0 = 82, (c, (mo_swap m a1).1), some (.int (mo_swap m a1).2)))
def L_mo_swap : List (rx_E mx) := [
  (0, .iload_n 1, 1, 0, 1, 0, [], kno),
  (1, .aload_n 0, 1, 0, 0, 0, [], kno),
  (2, .getfield 114, 3, 7, 1, 0, [], mgf),
  (5, .iconst 1, 1, 0, 0, 1, [], kno),
  (6, .isub, 1, 0, 0, 0, [], kno),
  (7, .invokestatic 184, 3, 7, 2, 0, [], K_mo_out),
  (10, .ifCond .eq 5, 3, 2, 9, 0, [], kno),
  (13, .iconst 0, 1, 0, 0, 0, [], kno),
  (14, .ireturn, 1, 5, 1, 0, [], kno),
  (15, .bipush 9, 2, 0, 0, 9, [], kno),
  (17, .iload_n 1, 1, 0, 1, 0, [], kno),
  (18, .imul, 1, 0, 0, 0, [], kno),
  (19, .istore_n 2, 1, 0, 2, 0, [], kno),
  (20, .iload_n 2, 1, 0, 2, 0, [], kno),
  (21, .bipush 9, 2, 0, 0, 9, [], kno),
  (23, .iload_n 1, 1, 0, 1, 0, [], kno),
  (24, .imul, 1, 0, 0, 0, [], kno),
  (25, .bipush 9, 2, 0, 0, 9, [], kno),
  (27, .iadd, 1, 0, 0, 0, [], kno),
  (28, .if_icmp .ge 41, 3, 2, 44, 0, [], kno),
  (31, .aload_n 0, 1, 0, 0, 0, [], kno),
  (32, .getfield 17, 3, 7, 1, 0, [], mgr 85),
  (35, .iload_n 2, 1, 0, 2, 0, [], kno),
  (36, .iaload, 1, 7, 2, 0, [], mai),
  (37, .istore_n 3, 1, 0, 3, 0, [], kno),
  (38, .aload_n 0, 1, 0, 0, 0, [], kno),
  (39, .getfield 17, 3, 7, 1, 0, [], mgr 85),
  (42, .iload_n 2, 1, 0, 2, 0, [], kno),
  (43, .aload_n 0, 1, 0, 0, 0, [], kno),
  (44, .getfield 17, 3, 7, 1, 0, [], mgr 85),
  (47, .iload_n 2, 1, 0, 2, 0, [], kno),
  (48, .bipush 9, 2, 0, 0, 9, [], kno),
  (50, .iadd, 1, 0, 0, 0, [], kno),
  (51, .iaload, 1, 7, 2, 0, [], mai),
  (52, .iastore, 1, 7, 3, 0, [], mpa),
  (53, .aload_n 0, 1, 0, 0, 0, [], kno),
  (54, .getfield 17, 3, 7, 1, 0, [], mgr 85),
  (57, .iload_n 2, 1, 0, 2, 0, [], kno),
  (58, .bipush 9, 2, 0, 0, 9, [], kno),
  (60, .iadd, 1, 0, 0, 0, [], kno),
  (61, .iload_n 3, 1, 0, 3, 0, [], kno),
  (62, .iastore, 1, 7, 3, 0, [], mpa),
  (63, .iinc 2 1, 3, 0, 2, 1, [], kno),
  (66, .goto (-46), 3, 1, 13, 0, [], kno),
  (69, .iconst 1, 1, 0, 0, 1, [], kno),
  (70, .ireturn, 1, 5, 1, 0, [], kno)]
def G_mo_swap (n : Nat) : rx_G := fun x ls st =>
  match ls, st with
  | [some (.ref r0), some (.int v1), some (.int v2), o3], [] => (r0 = 82 ∧ mo_sw n v1 v2, ry_i x.1 (mo_swap_20 n x.2 v1 v2))
  | _, _ => (False, (x, none))
theorem GI_mo_swap {n : Nat} {x : mx} {ls : rx_L} {st : List Value} (h : (G_mo_swap n x ls st).1) : ∃ (r0 : Nat) (v1 : Int32) (v2 : Int32) (o3 : Option Value), ls = [some (.ref r0), some (.int v1), some (.int v2), o3] ∧ st = [] ∧ r0 = 82 ∧ mo_sw n v1 v2 := by
  unfold G_mo_swap at h
  split at h
  · exact ⟨_, _, _, _, rfl, rfl, h⟩
  · exact False.elim h
theorem EH_mo_swap (n : Nat) (c : mx_C) (m : mx_M) (v1 : Int32) (v2 : Int32) (o3 : Option Value) : rx_ev L_mo_swap [(20, G_mo_swap n)] 48 (L_mo_swap.drop 13) (c, m) [some (.ref 82), some (.int v1), some (.int v2), o3] [] = ry_i c (mo_swap_20 (n + 1) m v1 v2) :=
  rx_ite2 (f := ry_i c) (fun h0 => rfl) (fun h0 => rfl)
theorem SH_mo_swap (n : Nat) (c : mx_C) (m : mx_M) (v1 : Int32) (v2 : Int32) (o3 : Option Value) (hP : mo_sw (n + 1) v1 v2) : rx_sf L_mo_swap [(20, G_mo_swap n)] 48 (L_mo_swap.drop 13) (c, m) [some (.ref 82), some (.int v1), some (.int v2), o3] [] :=
  And.intro (fun h0 => And.intro rfl (And.intro (mo_sw1 h0 hP).1.1 (And.intro rfl (And.intro rfl (And.intro (mo_sw1 h0 hP).1.2 (And.intro (mo_sw1 h0 hP).1.1 (And.intro rfl (And.intro (mo_sw1 h0 hP).1.2 (And.intro rfl (mo_sw1 h0 hP).2))))))))) (fun h0 => Or.inr rfl)
theorem E_mo_swap (c : mx_C) (m : mx_M) (a1 : Int32)  : rx_ev L_mo_swap [(20, G_mo_swap (11))] 48 L_mo_swap (c, m) [some (.ref 82), some (.int a1), none, none] [] = ry_i c (mo_swap m a1) :=
  rx_ite2 (f := ry_i c) (fun h0 => rfl) (fun h0 => rfl)
theorem S_mo_swap (c : mx_C) (m : mx_M) (a1 : Int32)  : rx_sf L_mo_swap [(20, G_mo_swap (11))] 48 L_mo_swap (c, m) [some (.ref 82), some (.int a1), none, none] [] :=
  And.intro rfl (And.intro trivial (And.intro (fun h0 => And.intro rfl (mo_sw0 (by assumption))) (fun h0 => Or.inl rfl)))
theorem ok_mo_swap : rx_okF prog_12_method_42_code 4 (some .boolean) L_mo_swap 0 L_mo_swap = true := by decide +kernel
theorem O_mo_swap {l : Launch} {D : va_G} {g : Nat → ClassId} {ad : Nat → Nat} {B : Nat} (had : mx_A ad B) {p : Program} {e : Env} {s : State} {m : MethodId} {args : Array Value} {below : List Frame} {meth : Method} {c : Code} (X : ox_C p s m args c prog_12_method_42_code 4 "SubscriberLinesModel" D g ad B) : rx_ops p l e ({ frames := 1, cells := 0, slots := 0, locals := 21 } : Room) s m args below meth c prog_12_method_42_code 4 ad (mx_W D g ad B s.heap) mx_cs L_mo_swap :=
  And.intro (og_mo_114_g X) (And.intro (cv_mo_out X (V_mo_out had) (al_at 926 (by decide +kernel) rfl) ⟨by decide, by decide⟩) (And.intro (og_mo_17_g X) (And.intro (oy_ai X) (And.intro (og_mo_17_g X) (And.intro (og_mo_17_g X) (And.intro (oy_ai X) (And.intro (oy_pa X) (And.intro (og_mo_17_g X) (And.intro (oy_pa X) (trivial))))))))))
theorem V_mo_swap {l : Launch} {D : va_G} {g : Nat → ClassId} {ad : Nat → Nat} {B : Nat} (had : mx_A ad B) : rx_V l D g ad B ⟨"SubscriberLinesModel", "swap", "(I)Z"⟩ prog_12_method_42_code 4 (some .boolean) 1 21 K_mo_swap := by
  intro av x hp
  obtain ⟨a0, a1, rfl⟩ := k_RI_inv hp
  have hp : a0 = 82 := hp
  have h0 : a0 = 82 := hp
  subst h0
  refine rx_metX (k := 2) had (by decide) (Nat.le_of_ble_eq_true rfl) fun p e s m args below meth c X hr hlk => ?_
  refine rx_walk X hr hlk ok_mo_swap (O_mo_swap had X) (cut := [(20, G_mo_swap (11))]) (rx_cc ?_ rx_c0) 48 0 rfl (S_mo_swap x.1 x.2 a1 ) (E_mo_swap x.1 x.2 a1 )
  refine rx_loop (G := G_mo_swap) X hr hlk ok_mo_swap (O_mo_swap had X) rx_c0 48 13 rfl (fun x ls st h => ?_) (fun n x ls st h => ?_) _
  · obtain ⟨r0, v1, v2, o3, -, -, h3⟩ := GI_mo_swap h
    have h4 := h3.2
    omega
  · obtain ⟨r0, v1, v2, o3, rfl, rfl, h3⟩ := GI_mo_swap h
    obtain ⟨rfl, hP⟩ := h3
    exact ⟨SH_mo_swap n x.1 x.2 v1 v2 o3 hP, EH_mo_swap n x.1 x.2 v1 v2 o3⟩
