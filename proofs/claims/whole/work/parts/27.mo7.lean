theorem i_rem {w k : Int32} (hw : 0 ≤ w.toInt) (hk : 0 < k.toInt) : (w - w / k * k).toInt = w.toInt % k.toInt := by
  have hne : k ≠ -1 := fun h => by rw [h] at hk; exact absurd hk (by decide)
  have hr := i_rng w
  have e1 : (w / k).toInt = w.toInt / k.toInt := by
    rw [Int32.toInt_div_of_ne_right _ _ hne]
    exact Int.tdiv_eq_ediv_of_nonneg hw
  have h1 : 0 ≤ w.toInt / k.toInt * k.toInt := Int.mul_nonneg (Int.ediv_nonneg hw (Int.le_of_lt hk)) (Int.le_of_lt hk)
  have h2 : w.toInt / k.toInt * k.toInt ≤ w.toInt := Int.ediv_mul_le _ (by omega)
  have e2 : (w / k * k).toInt = w.toInt / k.toInt * k.toInt := by
    rw [i_mul (by rw [e1]; omega) (by rw [e1]; omega), e1]
  rw [i_sub (by rw [e2]; omega) (by rw [e2]; omega), e2, Int.emod_def, Int.mul_comm k.toInt]
theorem mo_c8 {m : mx_M} {w : Int32} (h : 0 ≤ (m.1 82 24).toInt) (hw : w = m.1 82 24) : vp_in (w - w / 8 * 8) 8 := by
  subst hw
  rw [i_in, i_rem h (by decide)]
  show 0 ≤ (m.1 82 24).toInt % 8 ∧ (m.1 82 24).toInt % 8 < 8
  omega
def mo_wd (m : mx_M) (s : Int32) : Prop := vp_in s 4 ∧ 0 ≤ (m.1 94 s.toNatClampNeg).toInt
theorem mo_w16 {s w : Int32} (hs : vp_in s 4) (h : 0 ≤ w.toInt) : vp_in (4 * s + (w - w / 4 * 4)) 16 := by
  rw [i_in] at hs
  have hs2 : s.toInt < 4 := hs.2
  have e1 : (4 * s).toInt = 4 * s.toInt := i_mul (show _ ≤ 4 * s.toInt by omega) (show 4 * s.toInt < _ by omega)
  have e2 : (w - w / 4 * 4).toInt = w.toInt % 4 := i_rem h (by decide)
  rw [i_in, i_add (by rw [e1, e2]; omega) (by rw [e1, e2]; omega), e1, e2]
  omega
theorem mo_wi {m : mx_M} {s w : Int32} (h : mo_wd m s) (hw : w = m.1 94 s.toNatClampNeg) : vp_in (4 * s + (w - w / 4 * 4)) 16 := by
  subst hw
  exact mo_w16 h.1 h.2
theorem mo_out_in {m : mx_M} {k n : Int32} (h : mo_out m k n = 0) : 0 ≤ k.toInt ∧ k.toInt < n.toInt := by
  unfold mo_out at h
  split at h
  · exact absurd h (by decide)
  · rename_i h0
    rw [i_lt, Int32.toInt_zero] at h0
    split at h
    · rename_i h1
      rw [i_lt] at h1
      omega
    · exact absurd h (by decide)
theorem mo_out4 {m : mx_M} {k : Int32} (h : mo_out m k 4 = 0) : vp_in k 4 := i_in.mpr (mo_out_in h)
theorem mo_es_fy {m m' : mx_M} {k : Int32} (hf : fy m m') (h : mo_es m k) : mo_es m' k := by
  unfold mo_es
  rw [hf.1]
  exact h
def mo_lg (m : mx_M) (k : Int32) : Prop := mo_es m k ∧ mo_b m 1399 ∧ mo_pl m
theorem mo_pl_pi {m : mx_M} {i j : Nat} {v : Int32} (h : ¬ 82 = i) (hp : mo_pl m) : mo_pl (my_pi m i j v) := by
  show (mx_up m.1 i j v 82 0).toInt ≤ 4
  rw [mx_up_row _ _ _ _ h]
  exact hp
def mo_ts (m : mx_M) : Prop := mo_b m 1399 ∧ mo_pl m ∧ 0 ≤ (m.1 82 24).toInt
def mo_login (m : mx_M) (a1 : Int32) (a2 : Int32) (a3 : Int32) : mx_M :=
  if (m.1 100 (Int32.toNatClampNeg a1)) = 1 then
    if (mo_out m a2 4) = 0 then
      if (m.1 83 (Int32.toNatClampNeg a2)) = 0 then
        let m1 := mo_sendOff m 6 5 4 (m.1 99 (Int32.toNatClampNeg a1)) 0 0
        let m2 := mo_endSession m1 a1
        let m3 := mo_say m2 1 15 (m.1 99 (Int32.toNatClampNeg a1)) 0
        m3
      else
        if (m.1 84 (Int32.toNatClampNeg a2)) = a3 then
          if (mo_freeAddress m) = 0 then
            let m4 := mo_sendOff m 6 5 4 (m.1 99 (Int32.toNatClampNeg a1)) 0 0
            let m5 := mo_endSession m4 a1
            let m6 := mo_say m5 1 15 (m.1 99 (Int32.toNatClampNeg a1)) 0
            m6
          else
            let m7 := my_pi m 100 (Int32.toNatClampNeg a1) 2
            let m8 := my_pi m7 101 (Int32.toNatClampNeg a1) (mo_freeAddress m)
            if (m8.1 100 (Int32.toNatClampNeg a1)) = 2 then
              let m9 := mo_sendOff m8 5 5 4 (m8.1 99 (Int32.toNatClampNeg a1)) (m8.1 101 (Int32.toNatClampNeg a1)) 0
              m9
            else
              m8
        else
          let m10 := mo_sendOff m 6 5 4 (m.1 99 (Int32.toNatClampNeg a1)) 0 0
          let m11 := mo_endSession m10 a1
          let m12 := mo_say m11 1 15 (m.1 99 (Int32.toNatClampNeg a1)) 0
          m12
    else
      let m13 := mo_sendOff m 6 5 4 (m.1 99 (Int32.toNatClampNeg a1)) 0 0
      let m14 := mo_endSession m13 a1
      let m15 := mo_say m14 1 15 (m.1 99 (Int32.toNatClampNeg a1)) 0
      m15
  else
    if (m.1 100 (Int32.toNatClampNeg a1)) = 2 then
      let m16 := mo_sendOff m 5 5 4 (m.1 99 (Int32.toNatClampNeg a1)) (m.1 101 (Int32.toNatClampNeg a1)) 0
      m16
    else
      m
def K_mo_login : rx_K mx := k_RIII (fun a0 a1 a2 a3 c m => (a0 = 82 ∧ mo_lg m a1, (c, mo_login m a1 a2 a3), none))
def L_mo_login : List (rx_E mx) := [
  (0, .aload_n 0, 1, 0, 0, 0, [], kno),
  (1, .getfield 62, 3, 7, 1, 0, [], mgr 100),
  (4, .iload_n 1, 1, 0, 1, 0, [], kno),
  (5, .iaload, 1, 7, 2, 0, [], mai),
  (6, .iconst 1, 1, 0, 0, 1, [], kno),
  (7, .if_icmp .ne 108, 3, 2, 67, 0, [], kno),
  (10, .iload_n 2, 1, 0, 2, 0, [], kno),
  (11, .iconst 4, 1, 0, 0, 4, [], kno),
  (12, .invokestatic 184, 3, 7, 2, 0, [], K_mo_out),
  (15, .ifCond .ne 26, 3, 2, 23, 0, [], kno),
  (18, .aload_n 0, 1, 0, 0, 0, [], kno),
  (19, .getfield 7, 3, 7, 1, 0, [], mgr 83),
  (22, .iload_n 2, 1, 0, 2, 0, [], kno),
  (23, .baload, 1, 7, 2, 0, [], mab),
  (24, .ifCond .eq 17, 3, 2, 23, 0, [], kno),
  (27, .aload_n 0, 1, 0, 0, 0, [], kno),
  (28, .getfield 13, 3, 7, 1, 0, [], mgr 84),
  (31, .iload_n 2, 1, 0, 2, 0, [], kno),
  (32, .iaload, 1, 7, 2, 0, [], mai),
  (33, .iload_n 3, 1, 0, 3, 0, [], kno),
  (34, .if_icmp .ne 7, 3, 2, 23, 0, [], kno),
  (37, .iconst 1, 1, 0, 0, 1, [], kno),
  (38, .goto 4, 3, 1, 24, 0, [], kno),
  (41, .iconst 0, 1, 0, 0, 0, [], kno),
  (42, .istore 4, 2, 0, 4, 0, [], kno),
  (44, .iload 4, 2, 0, 4, 0, [], kno),
  (46, .ifCond .eq 10, 3, 2, 30, 0, [], kno),
  (49, .aload_n 0, 1, 0, 0, 0, [], kno),
  (50, .invokevirtual 188, 3, 7, 1, 0, [], K_mo_freeAddress),
  (53, .goto 4, 3, 1, 31, 0, [], kno),
  (56, .iconst 0, 1, 0, 0, 0, [], kno),
  (57, .istore 5, 2, 0, 5, 0, [], kno),
  (59, .aload_n 0, 1, 0, 0, 0, [], kno),
  (60, .getfield 59, 3, 7, 1, 0, [], mgr 99),
  (63, .iload_n 1, 1, 0, 1, 0, [], kno),
  (64, .iaload, 1, 7, 2, 0, [], mai),
  (65, .istore 6, 2, 0, 6, 0, [], kno),
  (67, .iload 5, 2, 0, 5, 0, [], kno),
  (69, .ifCond .ne 31, 3, 2, 57, 0, [], kno),
  (72, .aload_n 0, 1, 0, 0, 0, [], kno),
  (73, .bipush 6, 2, 0, 0, 6, [], kno),
  (75, .iconst 5, 1, 0, 0, 5, [], kno),
  (76, .iconst 4, 1, 0, 0, 4, [], kno),
  (77, .iload 6, 2, 0, 6, 0, [], kno),
  (79, .iconst 0, 1, 0, 0, 0, [], kno),
  (80, .iconst 0, 1, 0, 0, 0, [], kno),
  (81, .invokevirtual 138, 3, 7, 7, 0, [], K_mo_sendOff),
  (84, .aload_n 0, 1, 0, 0, 0, [], kno),
  (85, .iload_n 1, 1, 0, 1, 0, [], kno),
  (86, .invokevirtual 178, 3, 7, 2, 0, [], K_mo_endSession),
  (89, .aload_n 0, 1, 0, 0, 0, [], kno),
  (90, .iconst 1, 1, 0, 0, 1, [], kno),
  (91, .bipush 15, 2, 0, 0, 15, [], kno),
  (93, .iload 6, 2, 0, 6, 0, [], kno),
  (95, .iconst 0, 1, 0, 0, 0, [], kno),
  (96, .invokevirtual 149, 3, 7, 5, 0, [], K_mo_say),
  (99, .return_, 1, 6, 0, 0, [], kno),
  (100, .aload_n 0, 1, 0, 0, 0, [], kno),
  (101, .getfield 62, 3, 7, 1, 0, [], mgr 100),
  (104, .iload_n 1, 1, 0, 1, 0, [], kno),
  (105, .iconst 2, 1, 0, 0, 2, [], kno),
  (106, .iastore, 1, 7, 3, 0, [], mpa),
  (107, .aload_n 0, 1, 0, 0, 0, [], kno),
  (108, .getfield 65, 3, 7, 1, 0, [], mgr 101),
  (111, .iload_n 1, 1, 0, 1, 0, [], kno),
  (112, .iload 5, 2, 0, 5, 0, [], kno),
  (114, .iastore, 1, 7, 3, 0, [], mpa),
  (115, .aload_n 0, 1, 0, 0, 0, [], kno),
  (116, .getfield 62, 3, 7, 1, 0, [], mgr 100),
  (119, .iload_n 1, 1, 0, 1, 0, [], kno),
  (120, .iaload, 1, 7, 2, 0, [], mai),
  (121, .iconst 2, 1, 0, 0, 2, [], kno),
  (122, .if_icmp .ne 23, 3, 2, 87, 0, [], kno),
  (125, .aload_n 0, 1, 0, 0, 0, [], kno),
  (126, .iconst 5, 1, 0, 0, 5, [], kno),
  (127, .iconst 5, 1, 0, 0, 5, [], kno),
  (128, .iconst 4, 1, 0, 0, 4, [], kno),
  (129, .aload_n 0, 1, 0, 0, 0, [], kno),
  (130, .getfield 59, 3, 7, 1, 0, [], mgr 99),
  (133, .iload_n 1, 1, 0, 1, 0, [], kno),
  (134, .iaload, 1, 7, 2, 0, [], mai),
  (135, .aload_n 0, 1, 0, 0, 0, [], kno),
  (136, .getfield 65, 3, 7, 1, 0, [], mgr 101),
  (139, .iload_n 1, 1, 0, 1, 0, [], kno),
  (140, .iaload, 1, 7, 2, 0, [], mai),
  (141, .iconst 0, 1, 0, 0, 0, [], kno),
  (142, .invokevirtual 138, 3, 7, 7, 0, [], K_mo_sendOff),
  (145, .return_, 1, 6, 0, 0, [], kno)]
theorem E_mo_login (c : mx_C) (m : mx_M) (a1 : Int32) (a2 : Int32) (a3 : Int32)  : rx_ev L_mo_login [] 90 L_mo_login (c, m) [some (.ref 82), some (.int a1), some (.int a2), some (.int a3), none, none, none] [] = ry_v c (mo_login m a1 a2 a3) :=
  rx_ite2 (f := ry_v c) (fun h0 => rx_ite2 (f := ry_v c) (fun h1 => rx_ite2 (f := ry_v c) (fun h2 => rfl) (fun h2 => rx_ite2 (f := ry_v c) (fun h3 => rx_ite2 (f := ry_v c) (fun h4 => rfl) (fun h4 => rx_ite2 (f := ry_v c) (fun h5 => rfl) (fun h5 => rfl))) (fun h3 => rfl))) (fun h1 => rfl)) (fun h0 => rx_ite2 (f := ry_v c) (fun h1 => rfl) (fun h1 => rfl))
theorem S_mo_login (c : mx_C) (m : mx_M) (a1 : Int32) (a2 : Int32) (a3 : Int32) (hl : mo_lg m a1) : rx_sf L_mo_login [] 90 L_mo_login (c, m) [some (.ref 82), some (.int a1), some (.int a2), some (.int a3), none, none, none] [] :=
  And.intro rfl (And.intro (mo_es_in hl.1) (And.intro (fun h0 => And.intro trivial (And.intro (fun h1 => And.intro rfl (And.intro (mo_out4 (by assumption)) (And.intro (fun h2 => And.intro (fun _ => And.intro rfl (And.intro (mo_es_in hl.1) (And.intro (fun _ => And.intro rfl (And.intro (And.intro rfl (mo_es_fy (fy_sendOff _ _ _ _ _ _ _) hl.1)) (And.intro (And.intro rfl (mo_b_sy (k := 1399) (mo_b_fz (fz_endSession _ _) (mo_b_fz (fz_fy (fy_sendOff _ _ _ _ _ _ _)) hl.2.1)) (by decide) (i_in.mpr (by decide)))) (trivial)))) (fun h => absurd (by decide : ((0 : Int32) = 0)) h)))) (fun h => absurd (by decide : ((0 : Int32) = 0)) h)) (fun h2 => And.intro rfl (And.intro (mo_out4 (by assumption)) (And.intro (fun h3 => And.intro (fun h => absurd h (by decide : ¬ ((1 : Int32) = 0))) (fun _ => And.intro (And.intro rfl hl.2.2) (And.intro rfl (And.intro (mo_es_in hl.1) (And.intro (fun h4 => And.intro rfl (And.intro (And.intro rfl (mo_es_fy (fy_sendOff _ _ _ _ _ _ _) hl.1)) (And.intro (And.intro rfl (mo_b_sy (k := 1399) (mo_b_fz (fz_endSession _ _) (mo_b_fz (fz_fy (fy_sendOff _ _ _ _ _ _ _)) hl.2.1)) (by decide) (i_in.mpr (by decide)))) (trivial)))) (fun h4 => And.intro rfl (And.intro (mo_es_in hl.1) (And.intro rfl (And.intro (mo_es_in hl.1) (And.intro rfl (And.intro (mo_es_in hl.1) (And.intro (fun h5 => And.intro rfl (And.intro (mo_es_in hl.1) (And.intro rfl (And.intro (mo_es_in hl.1) (And.intro rfl (trivial)))))) (fun h5 => trivial))))))))))))) (fun h3 => And.intro (fun _ => And.intro rfl (And.intro (mo_es_in hl.1) (And.intro (fun _ => And.intro rfl (And.intro (And.intro rfl (mo_es_fy (fy_sendOff _ _ _ _ _ _ _) hl.1)) (And.intro (And.intro rfl (mo_b_sy (k := 1399) (mo_b_fz (fz_endSession _ _) (mo_b_fz (fz_fy (fy_sendOff _ _ _ _ _ _ _)) hl.2.1)) (by decide) (i_in.mpr (by decide)))) (trivial)))) (fun h => absurd (by decide : ((0 : Int32) = 0)) h)))) (fun h => absurd (by decide : ((0 : Int32) = 0)) h)))))))) (fun h1 => And.intro (fun _ => And.intro rfl (And.intro (mo_es_in hl.1) (And.intro (fun _ => And.intro rfl (And.intro (And.intro rfl (mo_es_fy (fy_sendOff _ _ _ _ _ _ _) hl.1)) (And.intro (And.intro rfl (mo_b_sy (k := 1399) (mo_b_fz (fz_endSession _ _) (mo_b_fz (fz_fy (fy_sendOff _ _ _ _ _ _ _)) hl.2.1)) (by decide) (i_in.mpr (by decide)))) (trivial)))) (fun h => absurd (by decide : ((0 : Int32) = 0)) h)))) (fun h => absurd (by decide : ((0 : Int32) = 0)) h)))) (fun h0 => And.intro rfl (And.intro (mo_es_in hl.1) (And.intro (fun h1 => And.intro rfl (And.intro (mo_es_in hl.1) (And.intro rfl (And.intro (mo_es_in hl.1) (And.intro rfl (trivial)))))) (fun h1 => trivial))))))

theorem cv_mo_out {p : Program} {l : Launch} {e : Env} {R : Room} {s : State} {m : MethodId} {args : Array Value} {below : List Frame} {meth : Method} {c : Code} {cc : ByteArray} {nL : Nat} {ad : Nat → Nat} {D : va_G} {g : Nat → ClassId} {B : Nat} {idx : Nat} (X : ox_C p s m args c cc nL "SubscriberLinesModel" D g ad B) (hV : rx_V l D g ad B ⟨"SubscriberLinesModel", "out", "(II)Z"⟩ prog_12_method_2_code 2 (some .boolean) 0 0 K_mo_out) (hl : Cond.methodLink "SubscriberLinesModel" idx ⟨"SubscriberLinesModel", "out", "(II)Z"⟩ ∈ al) (hR : 0 + 1 ≤ R.frames ∧ 8 + (2 + 11) + 0 ≤ R.locals) : rx_OK p l e R s m args below meth c cc nL ad (mx_W D g ad B s.heap) mx_cs (.invokestatic idx) 3 2 (K_mo_out) :=
  ox_callS X hV hl (al_at 927 (by decide +kernel) rfl) (al_at 12 (by decide +kernel) rfl) (al_at 928 (by decide +kernel) rfl) ⟨rfl, by decide, by decide, by decide +kernel⟩ hR
theorem og_mo_7_g {p : Program} {l : Launch} {e : Env} {R : Room} {s : State} {m : MethodId} {args : Array Value} {below : List Frame} {meth : Method} {c : Code} {cc : ByteArray} {nL : Nat} {ad : Nat → Nat} {D : va_G} {g : Nat → ClassId} {B : Nat} (X : ox_C p s m args c cc nL "SubscriberLinesModel" D g ad B) : rx_OK p l e R s m args below meth c cc nL ad (mx_W D g ad B s.heap) mx_cs (.getfield 7) 3 1 (mgr 83) := oy_gr (k := 1) X (by decide) rfl (al_at 712 (by decide +kernel) rfl)
theorem og_mo_13_g {p : Program} {l : Launch} {e : Env} {R : Room} {s : State} {m : MethodId} {args : Array Value} {below : List Frame} {meth : Method} {c : Code} {cc : ByteArray} {nL : Nat} {ad : Nat → Nat} {D : va_G} {g : Nat → ClassId} {B : Nat} (X : ox_C p s m args c cc nL "SubscriberLinesModel" D g ad B) : rx_OK p l e R s m args below meth c cc nL ad (mx_W D g ad B s.heap) mx_cs (.getfield 13) 3 1 (mgr 84) := oy_gr (k := 2) X (by decide) rfl (al_at 713 (by decide +kernel) rfl)
theorem cv_mo_freeAddress {p : Program} {l : Launch} {e : Env} {R : Room} {s : State} {m : MethodId} {args : Array Value} {below : List Frame} {meth : Method} {c : Code} {cc : ByteArray} {nL : Nat} {ad : Nat → Nat} {D : va_G} {g : Nat → ClassId} {B : Nat} {own : String} {idx : Nat} (X : ox_C p s m args c cc nL own D g ad B) (hV : rx_V l D g ad B ⟨"SubscriberLinesModel", "freeAddress", "()I"⟩ prog_12_method_23_code 4 (some .int) 0 0 K_mo_freeAddress) (hl : Cond.methodLink own idx ⟨"SubscriberLinesModel", "freeAddress", "()I"⟩ ∈ al) (hR : 0 + 1 ≤ R.frames ∧ 8 + (4 + 11) + 0 ≤ R.locals) : rx_OK p l e R s m args below meth c cc nL ad (mx_W D g ad B s.heap) mx_cs (.invokevirtual idx) 3 1 (K_mo_freeAddress) :=
  ox_callV (q := 9) (T := T_9) X hV (fun av x h => by obtain ⟨a0, rfl⟩ := k_R_inv h; exact ⟨a0, _, rfl, by have h2 : a0 = 82 := h.1; rw [h2]; rfl⟩) (by decide) rfl hl (al_at 931 (by decide +kernel) rfl) (al_pr (y := (⟨"SubscriberLinesModel", "freeAddress", "()I"⟩, _)) 53 rfl) (al_at 12 (by decide +kernel) rfl) (al_at 932 (by decide +kernel) rfl) ⟨by decide, by decide, by decide +kernel⟩ hR
theorem ok_mo_login : rx_okF prog_12_method_24_code 7 none L_mo_login 0 L_mo_login = true := by decide +kernel
theorem V_mo_login {l : Launch} {D : va_G} {g : Nat → ClassId} {ad : Nat → Nat} {B : Nat} (had : mx_A ad B) : rx_V l D g ad B ⟨"SubscriberLinesModel", "login", "(III)V"⟩ prog_12_method_24_code 7 none 4 98 K_mo_login := by
  intro av x hp
  obtain ⟨a0, a1, a2, a3, rfl⟩ := k_RIII_inv hp
  have hp : a0 = 82 ∧ mo_lg x.2 a1 := hp
  have h0 : a0 = 82 := hp.1
  subst h0
  exact rx_met (k := 3) had (by decide) (Nat.le_of_ble_eq_true rfl) ok_mo_login rfl rfl 90 (fun p e s m args below meth c X => And.intro (og_mo_62_g X) (And.intro (oy_ai X) (And.intro (cv_mo_out X (V_mo_out had) (al_at 926 (by decide +kernel) rfl) ⟨by decide, by decide⟩) (And.intro (og_mo_7_g X) (And.intro (oy_ab X) (And.intro (og_mo_13_g X) (And.intro (oy_ai X) (And.intro (cv_mo_freeAddress X (V_mo_freeAddress had) (al_at 929 (by decide +kernel) rfl) ⟨by decide, by decide⟩) (And.intro (og_mo_59_g X) (And.intro (oy_ai X) (And.intro (cv_mo_sendOff X (V_mo_sendOff had) (al_at 858 (by decide +kernel) rfl) ⟨by decide, by decide⟩) (And.intro (cv_mo_endSession X (V_mo_endSession had) (al_at 914 (by decide +kernel) rfl) ⟨by decide, by decide⟩) (And.intro (cv_mo_say X (V_mo_say had) (al_at 902 (by decide +kernel) rfl) ⟨by decide, by decide⟩) (And.intro (og_mo_62_g X) (And.intro (oy_pa X) (And.intro (og_mo_65_g X) (And.intro (oy_pa X) (And.intro (og_mo_62_g X) (And.intro (oy_ai X) (And.intro (og_mo_59_g X) (And.intro (oy_ai X) (And.intro (og_mo_65_g X) (And.intro (oy_ai X) (And.intro (cv_mo_sendOff X (V_mo_sendOff had) (al_at 858 (by decide +kernel) rfl) ⟨by decide, by decide⟩) (trivial))))))))))))))))))))))))) (S_mo_login x.1 x.2 a1 a2 a3 hp.2) (E_mo_login x.1 x.2 a1 a2 a3)
def mo_toSession (m : mx_M) (a1 : Int32) (a2 : Int32) (a3 : Int32) (a4 : Int32) : mx_M :=
  if (mo_sessionOf m a2) < 0 then
    m
  else
    let m1 := my_pi m 102 (Int32.toNatClampNeg (mo_sessionOf m a2)) 0
    if a1 = 4 then
      let m2 := mo_login m1 (mo_sessionOf m a2) a3 a4
      m2
    else
      if a1 = 7 then
        if (m1.1 100 (Int32.toNatClampNeg (mo_sessionOf m a2))) = 2 then
          let m3 := my_pi m1 100 (Int32.toNatClampNeg (mo_sessionOf m a2)) 3
          m3
        else
          if a1 = 10 then
            if (m1.1 100 (Int32.toNatClampNeg (mo_sessionOf m a2))) = 3 then
              if (m1.1 101 (Int32.toNatClampNeg (mo_sessionOf m a2))) = a3 then
                let m4 := my_pi m1 103 (Int32.toNatClampNeg ((m1.1 82 24) - (m1.1 82 24) / 8 * 8)) a4
                let m5 := my_pi m4 104 (Int32.toNatClampNeg ((m4.1 82 24) - (m4.1 82 24) / 8 * 8)) a3
                let m6 := my_pi m5 82 24 ((m5.1 82 24) + 1)
                m6
              else
                let m7 := my_pi m1 82 25 ((m1.1 82 25) + 1)
                m7
            else
              let m8 := my_pi m1 82 25 ((m1.1 82 25) + 1)
              m8
          else
            m1
      else
        if a1 = 10 then
          if (m1.1 100 (Int32.toNatClampNeg (mo_sessionOf m a2))) = 3 then
            if (m1.1 101 (Int32.toNatClampNeg (mo_sessionOf m a2))) = a3 then
              let m9 := my_pi m1 103 (Int32.toNatClampNeg ((m1.1 82 24) - (m1.1 82 24) / 8 * 8)) a4
              let m10 := my_pi m9 104 (Int32.toNatClampNeg ((m9.1 82 24) - (m9.1 82 24) / 8 * 8)) a3
              let m11 := my_pi m10 82 24 ((m10.1 82 24) + 1)
              m11
            else
              let m12 := my_pi m1 82 25 ((m1.1 82 25) + 1)
              m12
          else
            let m13 := my_pi m1 82 25 ((m1.1 82 25) + 1)
            m13
        else
          m1
def K_mo_toSession : rx_K mx := k_RIIII (fun a0 a1 a2 a3 a4 c m => (a0 = 82 ∧ mo_ts m, (c, mo_toSession m a1 a2 a3 a4), none))
def L_mo_toSession : List (rx_E mx) := [
  (0, .aload_n 0, 1, 0, 0, 0, [], kno),
  (1, .iload_n 2, 1, 0, 2, 0, [], kno),
  (2, .invokevirtual 175, 3, 7, 2, 0, [], K_mo_sessionOf),
  (5, .istore 5, 2, 0, 5, 0, [], kno),
  (7, .iload 5, 2, 0, 5, 0, [], kno),
  (9, .ifCond .ge 4, 3, 2, 7, 0, [], kno),
  (12, .return_, 1, 6, 0, 0, [], kno),
  (13, .aload_n 0, 1, 0, 0, 0, [], kno),
  (14, .getfield 68, 3, 7, 1, 0, [], mgr 102),
  (17, .iload 5, 2, 0, 5, 0, [], kno),
  (19, .iconst 0, 1, 0, 0, 0, [], kno),
  (20, .iastore, 1, 7, 3, 0, [], mpa),
  (21, .iload_n 1, 1, 0, 1, 0, [], kno),
  (22, .iconst 4, 1, 0, 0, 4, [], kno),
  (23, .if_icmp .ne 15, 3, 2, 21, 0, [], kno),
  (26, .aload_n 0, 1, 0, 0, 0, [], kno),
  (27, .iload 5, 2, 0, 5, 0, [], kno),
  (29, .iload_n 3, 1, 0, 3, 0, [], kno),
  (30, .iload 4, 2, 0, 4, 0, [], kno),
  (32, .invokevirtual 192, 3, 7, 4, 0, [], K_mo_login),
  (35, .goto 115, 3, 1, 83, 0, [], kno),
  (38, .iload_n 1, 1, 0, 1, 0, [], kno),
  (39, .bipush 7, 2, 0, 0, 7, [], kno),
  (41, .if_icmp .ne 25, 3, 2, 36, 0, [], kno),
  (44, .aload_n 0, 1, 0, 0, 0, [], kno),
  (45, .getfield 62, 3, 7, 1, 0, [], mgr 100),
  (48, .iload 5, 2, 0, 5, 0, [], kno),
  (50, .iaload, 1, 7, 2, 0, [], mai),
  (51, .iconst 2, 1, 0, 0, 2, [], kno),
  (52, .if_icmp .ne 14, 3, 2, 36, 0, [], kno),
  (55, .aload_n 0, 1, 0, 0, 0, [], kno),
  (56, .getfield 62, 3, 7, 1, 0, [], mgr 100),
  (59, .iload 5, 2, 0, 5, 0, [], kno),
  (61, .iconst 3, 1, 0, 0, 3, [], kno),
  (62, .iastore, 1, 7, 3, 0, [], mpa),
  (63, .goto 87, 3, 1, 83, 0, [], kno),
  (66, .iload_n 1, 1, 0, 1, 0, [], kno),
  (67, .bipush 10, 2, 0, 0, 10, [], kno),
  (69, .if_icmp .ne 38, 3, 2, 58, 0, [], kno),
  (72, .aload_n 0, 1, 0, 0, 0, [], kno),
  (73, .getfield 62, 3, 7, 1, 0, [], mgr 100),
  (76, .iload 5, 2, 0, 5, 0, [], kno),
  (78, .iaload, 1, 7, 2, 0, [], mai),
  (79, .iconst 3, 1, 0, 0, 3, [], kno),
  (80, .if_icmp .ne 14, 3, 2, 51, 0, [], kno),
  (83, .aload_n 0, 1, 0, 0, 0, [], kno),
  (84, .getfield 65, 3, 7, 1, 0, [], mgr 101),
  (87, .iload 5, 2, 0, 5, 0, [], kno),
  (89, .iaload, 1, 7, 2, 0, [], mai),
  (90, .iload_n 3, 1, 0, 3, 0, [], kno),
  (91, .if_icmp .eq 16, 3, 2, 58, 0, [], kno),
  (94, .aload_n 0, 1, 0, 0, 0, [], kno),
  (95, .dup, 1, 0, 0, 0, [], kno),
  (96, .getfield 195, 3, 7, 1, 0, [], mgi 25),
  (99, .iconst 1, 1, 0, 0, 1, [], kno),
  (100, .iadd, 1, 0, 0, 0, [], kno),
  (101, .putfield 195, 3, 7, 2, 0, [], mpi 25),
  (104, .goto 46, 3, 1, 83, 0, [], kno),
  (107, .iload_n 1, 1, 0, 1, 0, [], kno),
  (108, .bipush 10, 2, 0, 0, 10, [], kno),
  (110, .if_icmp .ne 40, 3, 2, 83, 0, [], kno),
  (113, .aload_n 0, 1, 0, 0, 0, [], kno),
  (114, .getfield 71, 3, 7, 1, 0, [], mgr 103),
  (117, .aload_n 0, 1, 0, 0, 0, [], kno),
  (118, .getfield 198, 3, 7, 1, 0, [], mgi 24),
  (121, .bipush 8, 2, 0, 0, 8, [], kno),
  (123, .irem, 1, 0, 0, 0, [], kno),
  (124, .iload 4, 2, 0, 4, 0, [], kno),
  (126, .iastore, 1, 7, 3, 0, [], mpa),
  (127, .aload_n 0, 1, 0, 0, 0, [], kno),
  (128, .getfield 74, 3, 7, 1, 0, [], mgr 104),
  (131, .aload_n 0, 1, 0, 0, 0, [], kno),
  (132, .getfield 198, 3, 7, 1, 0, [], mgi 24),
  (135, .bipush 8, 2, 0, 0, 8, [], kno),
  (137, .irem, 1, 0, 0, 0, [], kno),
  (138, .iload_n 3, 1, 0, 3, 0, [], kno),
  (139, .iastore, 1, 7, 3, 0, [], mpa),
  (140, .aload_n 0, 1, 0, 0, 0, [], kno),
  (141, .dup, 1, 0, 0, 0, [], kno),
  (142, .getfield 198, 3, 7, 1, 0, [], mgi 24),
  (145, .iconst 1, 1, 0, 0, 1, [], kno),
  (146, .iadd, 1, 0, 0, 0, [], kno),
  (147, .putfield 198, 3, 7, 2, 0, [], mpi 24),
  (150, .return_, 1, 6, 0, 0, [], kno)]
theorem E_mo_toSession (c : mx_C) (m : mx_M) (a1 : Int32) (a2 : Int32) (a3 : Int32) (a4 : Int32)  : rx_ev L_mo_toSession [] 86 L_mo_toSession (c, m) [some (.ref 82), some (.int a1), some (.int a2), some (.int a3), some (.int a4), none] [] = ry_v c (mo_toSession m a1 a2 a3 a4) :=
  rx_ite2 (f := ry_v c) (fun h0 => rfl) (fun h0 => rx_ite2 (f := ry_v c) (fun h1 => rfl) (fun h1 => rx_ite2 (f := ry_v c) (fun h2 => rx_ite2 (f := ry_v c) (fun h3 => rfl) (fun h3 => rx_ite2 (f := ry_v c) (fun h4 => rx_ite2 (f := ry_v c) (fun h5 => rx_ite2 (f := ry_v c) (fun h6 => rx_litT h4 (rfl)) (fun h6 => rfl)) (fun h5 => rfl)) (fun h4 => rx_litF h4 (rfl)))) (fun h2 => rx_ite2 (f := ry_v c) (fun h3 => rx_ite2 (f := ry_v c) (fun h4 => rx_ite2 (f := ry_v c) (fun h5 => rx_litT h3 (rfl)) (fun h5 => rfl)) (fun h4 => rfl)) (fun h3 => rx_litF h3 (rfl)))))
theorem S_mo_toSession (c : mx_C) (m : mx_M) (a1 : Int32) (a2 : Int32) (a3 : Int32) (a4 : Int32) (ht : mo_ts m) : rx_sf L_mo_toSession [] 86 L_mo_toSession (c, m) [some (.ref 82), some (.int a1), some (.int a2), some (.int a3), some (.int a4), none] [] :=
  And.intro rfl (And.intro (fun h0 => trivial) (fun h0 => And.intro rfl (And.intro (mo_es_in (mo_sess_in (by assumption))) (And.intro (fun h1 => And.intro (And.intro rfl (And.intro (mo_sess_in (by assumption)) (And.intro (mo_b_pi (by decide) ht.1) (mo_pl_pi (by decide) ht.2.1)))) (trivial)) (fun h1 => And.intro (fun h2 => And.intro rfl (And.intro (mo_es_in (mo_sess_in (by assumption))) (And.intro (fun h3 => And.intro rfl (And.intro (mo_es_in (mo_sess_in (by assumption))) (trivial))) (fun h3 => And.intro (fun h4 => And.intro rfl (And.intro (mo_es_in (mo_sess_in (by assumption))) (And.intro (fun h5 => And.intro rfl (And.intro (mo_es_in (mo_sess_in (by assumption))) (And.intro (fun h6 => And.intro (fun _ => And.intro rfl (And.intro rfl (And.intro (mo_c8 ht.2.2 (by simp only [my_pi]; repeat (first | rw [mx_up_eq] | rw [mx_up_ne _ _ (by omega)]))) (And.intro rfl (And.intro rfl (And.intro (mo_c8 ht.2.2 (by simp only [my_pi]; repeat (first | rw [mx_up_eq] | rw [mx_up_ne _ _ (by omega)]))) (And.intro rfl (And.intro rfl (trivial))))))))) (fun h => absurd h4 h)) (fun h6 => And.intro rfl (And.intro rfl (trivial)))))) (fun h5 => And.intro rfl (And.intro rfl (trivial)))))) (fun h4 => And.intro (fun h => absurd h h4) (fun _ => trivial)))))) (fun h2 => And.intro (fun h3 => And.intro rfl (And.intro (mo_es_in (mo_sess_in (by assumption))) (And.intro (fun h4 => And.intro rfl (And.intro (mo_es_in (mo_sess_in (by assumption))) (And.intro (fun h5 => And.intro (fun _ => And.intro rfl (And.intro rfl (And.intro (mo_c8 ht.2.2 (by simp only [my_pi]; repeat (first | rw [mx_up_eq] | rw [mx_up_ne _ _ (by omega)]))) (And.intro rfl (And.intro rfl (And.intro (mo_c8 ht.2.2 (by simp only [my_pi]; repeat (first | rw [mx_up_eq] | rw [mx_up_ne _ _ (by omega)]))) (And.intro rfl (And.intro rfl (trivial))))))))) (fun h => absurd h3 h)) (fun h5 => And.intro rfl (And.intro rfl (trivial)))))) (fun h4 => And.intro rfl (And.intro rfl (trivial)))))) (fun h3 => And.intro (fun h => absurd h h3) (fun _ => trivial))))))))

theorem cv_mo_login {p : Program} {l : Launch} {e : Env} {R : Room} {s : State} {m : MethodId} {args : Array Value} {below : List Frame} {meth : Method} {c : Code} {cc : ByteArray} {nL : Nat} {ad : Nat → Nat} {D : va_G} {g : Nat → ClassId} {B : Nat} {own : String} {idx : Nat} (X : ox_C p s m args c cc nL own D g ad B) (hV : rx_V l D g ad B ⟨"SubscriberLinesModel", "login", "(III)V"⟩ prog_12_method_24_code 7 none 4 98 K_mo_login) (hl : Cond.methodLink own idx ⟨"SubscriberLinesModel", "login", "(III)V"⟩ ∈ al) (hR : 4 + 1 ≤ R.frames ∧ 8 + (7 + 11) + 98 ≤ R.locals) : rx_OK p l e R s m args below meth c cc nL ad (mx_W D g ad B s.heap) mx_cs (.invokevirtual idx) 3 4 (K_mo_login) :=
  ox_callV (q := 9) (T := T_9) X hV (fun av x h => by obtain ⟨a0, a1, a2, a3, rfl⟩ := k_RIII_inv h; exact ⟨a0, _, rfl, by have h2 : a0 = 82 := h.1; rw [h2]; rfl⟩) (by decide) rfl hl (al_at 924 (by decide +kernel) rfl) (al_pr (y := (⟨"SubscriberLinesModel", "login", "(III)V"⟩, _)) 52 rfl) (al_at 12 (by decide +kernel) rfl) (al_at 925 (by decide +kernel) rfl) ⟨by decide, by decide, by decide +kernel⟩ hR
theorem og_mo_195_g {p : Program} {l : Launch} {e : Env} {R : Room} {s : State} {m : MethodId} {args : Array Value} {below : List Frame} {meth : Method} {c : Code} {cc : ByteArray} {nL : Nat} {ad : Nat → Nat} {D : va_G} {g : Nat → ClassId} {B : Nat} (X : ox_C p s m args c cc nL "SubscriberLinesModel" D g ad B) : rx_OK p l e R s m args below meth c cc nL ad (mx_W D g ad B s.heap) mx_cs (.getfield 195) 3 1 (mgi 25) := oy_gi X (by decide) rfl (al_at 736 (by decide +kernel) rfl)
theorem og_mo_195_p {p : Program} {l : Launch} {e : Env} {R : Room} {s : State} {m : MethodId} {args : Array Value} {below : List Frame} {meth : Method} {c : Code} {cc : ByteArray} {nL : Nat} {ad : Nat → Nat} {D : va_G} {g : Nat → ClassId} {B : Nat} (X : ox_C p s m args c cc nL "SubscriberLinesModel" D g ad B) : rx_OK p l e R s m args below meth c cc nL ad (mx_W D g ad B s.heap) mx_cs (.putfield 195) 3 2 (mpi 25) := oy_pi X (by decide) rfl rfl rfl (al_at 736 (by decide +kernel) rfl)
theorem og_mo_71_g {p : Program} {l : Launch} {e : Env} {R : Room} {s : State} {m : MethodId} {args : Array Value} {below : List Frame} {meth : Method} {c : Code} {cc : ByteArray} {nL : Nat} {ad : Nat → Nat} {D : va_G} {g : Nat → ClassId} {B : Nat} (X : ox_C p s m args c cc nL "SubscriberLinesModel" D g ad B) : rx_OK p l e R s m args below meth c cc nL ad (mx_W D g ad B s.heap) mx_cs (.getfield 71) 3 1 (mgr 103) := oy_gr (k := 26) X (by decide) rfl (al_at 737 (by decide +kernel) rfl)
theorem og_mo_198_g {p : Program} {l : Launch} {e : Env} {R : Room} {s : State} {m : MethodId} {args : Array Value} {below : List Frame} {meth : Method} {c : Code} {cc : ByteArray} {nL : Nat} {ad : Nat → Nat} {D : va_G} {g : Nat → ClassId} {B : Nat} (X : ox_C p s m args c cc nL "SubscriberLinesModel" D g ad B) : rx_OK p l e R s m args below meth c cc nL ad (mx_W D g ad B s.heap) mx_cs (.getfield 198) 3 1 (mgi 24) := oy_gi X (by decide) rfl (al_at 735 (by decide +kernel) rfl)
theorem og_mo_74_g {p : Program} {l : Launch} {e : Env} {R : Room} {s : State} {m : MethodId} {args : Array Value} {below : List Frame} {meth : Method} {c : Code} {cc : ByteArray} {nL : Nat} {ad : Nat → Nat} {D : va_G} {g : Nat → ClassId} {B : Nat} (X : ox_C p s m args c cc nL "SubscriberLinesModel" D g ad B) : rx_OK p l e R s m args below meth c cc nL ad (mx_W D g ad B s.heap) mx_cs (.getfield 74) 3 1 (mgr 104) := oy_gr (k := 27) X (by decide) rfl (al_at 738 (by decide +kernel) rfl)
theorem og_mo_198_p {p : Program} {l : Launch} {e : Env} {R : Room} {s : State} {m : MethodId} {args : Array Value} {below : List Frame} {meth : Method} {c : Code} {cc : ByteArray} {nL : Nat} {ad : Nat → Nat} {D : va_G} {g : Nat → ClassId} {B : Nat} (X : ox_C p s m args c cc nL "SubscriberLinesModel" D g ad B) : rx_OK p l e R s m args below meth c cc nL ad (mx_W D g ad B s.heap) mx_cs (.putfield 198) 3 2 (mpi 24) := oy_pi X (by decide) rfl rfl rfl (al_at 735 (by decide +kernel) rfl)
theorem ok_mo_toSession : rx_okF prog_12_method_25_code 6 none L_mo_toSession 0 L_mo_toSession = true := by decide +kernel
theorem V_mo_toSession {l : Launch} {D : va_G} {g : Nat → ClassId} {ad : Nat → Nat} {B : Nat} (had : mx_A ad B) : rx_V l D g ad B ⟨"SubscriberLinesModel", "toSession", "(IIII)V"⟩ prog_12_method_25_code 6 none 5 124 K_mo_toSession := by
  intro av x hp
  obtain ⟨a0, a1, a2, a3, a4, rfl⟩ := k_RIIII_inv hp
  have hp : a0 = 82 ∧ mo_ts x.2 := hp
  have h0 : a0 = 82 := hp.1
  subst h0
  exact rx_met (k := 1) had (by decide) (Nat.le_of_ble_eq_true rfl) ok_mo_toSession rfl rfl 86 (fun p e s m args below meth c X => And.intro (cv_mo_sessionOf X (V_mo_sessionOf had) (al_at 910 (by decide +kernel) rfl) ⟨by decide, by decide⟩) (And.intro (og_mo_68_g X) (And.intro (oy_pa X) (And.intro (cv_mo_login X (V_mo_login had) (al_at 922 (by decide +kernel) rfl) ⟨by decide, by decide⟩) (And.intro (og_mo_62_g X) (And.intro (oy_ai X) (And.intro (og_mo_62_g X) (And.intro (oy_pa X) (And.intro (og_mo_62_g X) (And.intro (oy_ai X) (And.intro (og_mo_65_g X) (And.intro (oy_ai X) (And.intro (og_mo_195_g X) (And.intro (og_mo_195_p X) (And.intro (og_mo_71_g X) (And.intro (og_mo_198_g X) (And.intro (oy_pa X) (And.intro (og_mo_74_g X) (And.intro (og_mo_198_g X) (And.intro (oy_pa X) (And.intro (og_mo_198_g X) (And.intro (og_mo_198_p X) (trivial))))))))))))))))))))))) (S_mo_toSession x.1 x.2 a1 a2 a3 a4 hp.2) (E_mo_toSession x.1 x.2 a1 a2 a3 a4)
def mo_toSubscriber (m : mx_M) (a1 : Int32) (a2 : Int32) (a3 : Int32) (a4 : Int32) (a5 : Int32) : mx_M :=
  if a2 = 2 then
    if (m.1 86 (Int32.toNatClampNeg a1)) = 1 then
      let m1 := my_pi m 87 (Int32.toNatClampNeg a1) a3
      let m2 := my_pi m1 86 (Int32.toNatClampNeg a1) 2
      let m3 := my_pi m2 92 (Int32.toNatClampNeg a1) 0
      let m4 := mo_ask m3 a1
      m4
    else
      m
  else
    if (m.1 86 (Int32.toNatClampNeg a1)) < 2 then
      m
    else
      if (m.1 87 (Int32.toNatClampNeg a1)) = a3 then
        if a2 = 5 then
          let m5 := mo_accepted m a1 a4
          m5
        else
          if a2 = 6 then
            if (m.1 86 (Int32.toNatClampNeg a1)) = 2 then
              let m6 := mo_leave m a1
              m6
            else
              if a2 = 8 then
                if (m.1 86 (Int32.toNatClampNeg a1)) = 3 then
                  let m7 := my_pi m 93 (Int32.toNatClampNeg a1) 0
                  let m8 := mo_sendOff m7 9 a1 4 a3 0 0
                  m8
                else
                  if a2 = 11 then
                    if a2 = 3 then
                      let m9 := mo_off m a1
                      m9
                    else
                      m
                  else
                    if a2 = 3 then
                      let m10 := mo_off m a1
                      m10
                    else
                      m
              else
                if a2 = 11 then
                  if (m.1 86 (Int32.toNatClampNeg a1)) = 3 then
                    if (m.1 90 (Int32.toNatClampNeg a1)) = a4 then
                      let m11 := my_pi m 93 (Int32.toNatClampNeg a1) 0
                      let m12 := my_pi m11 95 (Int32.toNatClampNeg ((4 * a1) + ((m11.1 94 (Int32.toNatClampNeg a1)) - (m11.1 94 (Int32.toNatClampNeg a1)) / 4 * 4))) a5
                      let m13 := my_pi m12 94 (Int32.toNatClampNeg a1) ((m12.1 94 (Int32.toNatClampNeg a1)) + 1)
                      m13
                    else
                      if a2 = 3 then
                        let m14 := mo_off m a1
                        m14
                      else
                        m
                  else
                    if a2 = 3 then
                      let m15 := mo_off m a1
                      m15
                    else
                      m
                else
                  if a2 = 3 then
                    let m16 := mo_off m a1
                    m16
                  else
                    m
          else
            if a2 = 8 then
              if (m.1 86 (Int32.toNatClampNeg a1)) = 3 then
                let m17 := my_pi m 93 (Int32.toNatClampNeg a1) 0
                let m18 := mo_sendOff m17 9 a1 4 a3 0 0
                m18
              else
                if a2 = 11 then
                  if a2 = 3 then
                    let m19 := mo_off m a1
                    m19
                  else
                    m
                else
                  if a2 = 3 then
                    let m20 := mo_off m a1
                    m20
                  else
                    m
            else
              if a2 = 11 then
                if (m.1 86 (Int32.toNatClampNeg a1)) = 3 then
                  if (m.1 90 (Int32.toNatClampNeg a1)) = a4 then
                    let m21 := my_pi m 93 (Int32.toNatClampNeg a1) 0
                    let m22 := my_pi m21 95 (Int32.toNatClampNeg ((4 * a1) + ((m21.1 94 (Int32.toNatClampNeg a1)) - (m21.1 94 (Int32.toNatClampNeg a1)) / 4 * 4))) a5
                    let m23 := my_pi m22 94 (Int32.toNatClampNeg a1) ((m22.1 94 (Int32.toNatClampNeg a1)) + 1)
                    m23
                  else
                    if a2 = 3 then
                      let m24 := mo_off m a1
                      m24
                    else
                      m
                else
                  if a2 = 3 then
                    let m25 := mo_off m a1
                    m25
                  else
                    m
              else
                if a2 = 3 then
                  let m26 := mo_off m a1
                  m26
                else
                  m
      else
        m
def K_mo_toSubscriber : rx_K mx := k_RIIIII (fun a0 a1 a2 a3 a4 a5 c m => (a0 = 82 ∧ mo_wd m a1, (c, mo_toSubscriber m a1 a2 a3 a4 a5), none))
def L_mo_toSubscriber : List (rx_E mx) := [
  (0, .iload_n 2, 1, 0, 2, 0, [], kno),
  (1, .iconst 2, 1, 0, 0, 2, [], kno),
  (2, .if_icmp .ne 39, 3, 2, 27, 0, [], kno),
  (5, .aload_n 0, 1, 0, 0, 0, [], kno),
  (6, .getfield 20, 3, 7, 1, 0, [], mgr 86),
  (9, .iload_n 1, 1, 0, 1, 0, [], kno),
  (10, .iaload, 1, 7, 2, 0, [], mai),
  (11, .iconst 1, 1, 0, 0, 1, [], kno),
  (12, .if_icmp .ne 29, 3, 2, 27, 0, [], kno),
  (15, .aload_n 0, 1, 0, 0, 0, [], kno),
  (16, .getfield 23, 3, 7, 1, 0, [], mgr 87),
  (19, .iload_n 1, 1, 0, 1, 0, [], kno),
  (20, .iload_n 3, 1, 0, 3, 0, [], kno),
  (21, .iastore, 1, 7, 3, 0, [], mpa),
  (22, .aload_n 0, 1, 0, 0, 0, [], kno),
  (23, .getfield 20, 3, 7, 1, 0, [], mgr 86),
  (26, .iload_n 1, 1, 0, 1, 0, [], kno),
  (27, .iconst 2, 1, 0, 0, 2, [], kno),
  (28, .iastore, 1, 7, 3, 0, [], mpa),
  (29, .aload_n 0, 1, 0, 0, 0, [], kno),
  (30, .getfield 38, 3, 7, 1, 0, [], mgr 92),
  (33, .iload_n 1, 1, 0, 1, 0, [], kno),
  (34, .iconst 0, 1, 0, 0, 0, [], kno),
  (35, .iastore, 1, 7, 3, 0, [], mpa),
  (36, .aload_n 0, 1, 0, 0, 0, [], kno),
  (37, .iload_n 1, 1, 0, 1, 0, [], kno),
  (38, .invokevirtual 204, 3, 7, 2, 0, [], K_mo_ask),
  (41, .iload_n 2, 1, 0, 2, 0, [], kno),
  (42, .iconst 2, 1, 0, 0, 2, [], kno),
  (43, .if_icmp .eq 23, 3, 2, 42, 0, [], kno),
  (46, .aload_n 0, 1, 0, 0, 0, [], kno),
  (47, .getfield 20, 3, 7, 1, 0, [], mgr 86),
  (50, .iload_n 1, 1, 0, 1, 0, [], kno),
  (51, .iaload, 1, 7, 2, 0, [], mai),
  (52, .iconst 2, 1, 0, 0, 2, [], kno),
  (53, .if_icmp .lt 13, 3, 2, 42, 0, [], kno),
  (56, .aload_n 0, 1, 0, 0, 0, [], kno),
  (57, .getfield 23, 3, 7, 1, 0, [], mgr 87),
  (60, .iload_n 1, 1, 0, 1, 0, [], kno),
  (61, .iaload, 1, 7, 2, 0, [], mai),
  (62, .iload_n 3, 1, 0, 3, 0, [], kno),
  (63, .if_icmp .eq 4, 3, 2, 43, 0, [], kno),
  (66, .return_, 1, 6, 0, 0, [], kno),
  (67, .iload_n 2, 1, 0, 2, 0, [], kno),
  (68, .iconst 5, 1, 0, 0, 5, [], kno),
  (69, .if_icmp .ne 13, 3, 2, 51, 0, [], kno),
  (72, .aload_n 0, 1, 0, 0, 0, [], kno),
  (73, .iload_n 1, 1, 0, 1, 0, [], kno),
  (74, .iload 4, 2, 0, 4, 0, [], kno),
  (76, .invokevirtual 207, 3, 7, 3, 0, [], K_mo_accepted),
  (79, .goto 140, 3, 1, 136, 0, [], kno),
  (82, .iload_n 2, 1, 0, 2, 0, [], kno),
  (83, .bipush 6, 2, 0, 0, 6, [], kno),
  (85, .if_icmp .ne 21, 3, 2, 64, 0, [], kno),
  (88, .aload_n 0, 1, 0, 0, 0, [], kno),
  (89, .getfield 20, 3, 7, 1, 0, [], mgr 86),
  (92, .iload_n 1, 1, 0, 1, 0, [], kno),
  (93, .iaload, 1, 7, 2, 0, [], mai),
  (94, .iconst 2, 1, 0, 0, 2, [], kno),
  (95, .if_icmp .ne 11, 3, 2, 64, 0, [], kno),
  (98, .aload_n 0, 1, 0, 0, 0, [], kno),
  (99, .iload_n 1, 1, 0, 1, 0, [], kno),
  (100, .invokevirtual 210, 3, 7, 2, 0, [], K_mo_leave),
  (103, .goto 116, 3, 1, 136, 0, [], kno),
  (106, .iload_n 2, 1, 0, 2, 0, [], kno),
  (107, .bipush 8, 2, 0, 0, 8, [], kno),
  (109, .if_icmp .ne 34, 3, 2, 87, 0, [], kno),
  (112, .aload_n 0, 1, 0, 0, 0, [], kno),
  (113, .getfield 20, 3, 7, 1, 0, [], mgr 86),
  (116, .iload_n 1, 1, 0, 1, 0, [], kno),
  (117, .iaload, 1, 7, 2, 0, [], mai),
  (118, .iconst 3, 1, 0, 0, 3, [], kno),
  (119, .if_icmp .ne 24, 3, 2, 87, 0, [], kno),
  (122, .aload_n 0, 1, 0, 0, 0, [], kno),
  (123, .getfield 41, 3, 7, 1, 0, [], mgr 93),
  (126, .iload_n 1, 1, 0, 1, 0, [], kno),
  (127, .iconst 0, 1, 0, 0, 0, [], kno),
  (128, .iastore, 1, 7, 3, 0, [], mpa),
  (129, .aload_n 0, 1, 0, 0, 0, [], kno),
  (130, .bipush 9, 2, 0, 0, 9, [], kno),
  (132, .iload_n 1, 1, 0, 1, 0, [], kno),
  (133, .iconst 4, 1, 0, 0, 4, [], kno),
  (134, .iload_n 3, 1, 0, 3, 0, [], kno),
  (135, .iconst 0, 1, 0, 0, 0, [], kno),
  (136, .iconst 0, 1, 0, 0, 0, [], kno),
  (137, .invokevirtual 138, 3, 7, 7, 0, [], K_mo_sendOff),
  (140, .goto 79, 3, 1, 136, 0, [], kno),
  (143, .iload_n 2, 1, 0, 2, 0, [], kno),
  (144, .bipush 11, 2, 0, 0, 11, [], kno),
  (146, .if_icmp .ne 63, 3, 2, 130, 0, [], kno),
  (149, .aload_n 0, 1, 0, 0, 0, [], kno),
  (150, .getfield 20, 3, 7, 1, 0, [], mgr 86),
  (153, .iload_n 1, 1, 0, 1, 0, [], kno),
  (154, .iaload, 1, 7, 2, 0, [], mai),
  (155, .iconst 3, 1, 0, 0, 3, [], kno),
  (156, .if_icmp .ne 53, 3, 2, 130, 0, [], kno),
  (159, .aload_n 0, 1, 0, 0, 0, [], kno),
  (160, .getfield 32, 3, 7, 1, 0, [], mgr 90),
  (163, .iload_n 1, 1, 0, 1, 0, [], kno),
  (164, .iaload, 1, 7, 2, 0, [], mai),
  (165, .iload 4, 2, 0, 4, 0, [], kno),
  (167, .if_icmp .ne 42, 3, 2, 130, 0, [], kno),
  (170, .aload_n 0, 1, 0, 0, 0, [], kno),
  (171, .getfield 41, 3, 7, 1, 0, [], mgr 93),
  (174, .iload_n 1, 1, 0, 1, 0, [], kno),
  (175, .iconst 0, 1, 0, 0, 0, [], kno),
  (176, .iastore, 1, 7, 3, 0, [], mpa),
  (177, .aload_n 0, 1, 0, 0, 0, [], kno),
  (178, .getfield 47, 3, 7, 1, 0, [], mgr 95),
  (181, .iconst 4, 1, 0, 0, 4, [], kno),
  (182, .iload_n 1, 1, 0, 1, 0, [], kno),
  (183, .imul, 1, 0, 0, 0, [], kno),
  (184, .aload_n 0, 1, 0, 0, 0, [], kno),
  (185, .getfield 44, 3, 7, 1, 0, [], mgr 94),
  (188, .iload_n 1, 1, 0, 1, 0, [], kno),
  (189, .iaload, 1, 7, 2, 0, [], mai),
  (190, .iconst 4, 1, 0, 0, 4, [], kno),
  (191, .irem, 1, 0, 0, 0, [], kno),
  (192, .iadd, 1, 0, 0, 0, [], kno),
  (193, .iload 5, 2, 0, 5, 0, [], kno),
  (195, .iastore, 1, 7, 3, 0, [], mpa),
  (196, .aload_n 0, 1, 0, 0, 0, [], kno),
  (197, .getfield 44, 3, 7, 1, 0, [], mgr 94),
  (200, .iload_n 1, 1, 0, 1, 0, [], kno),
  (201, .dup2, 1, 0, 0, 0, [], kno),
  (202, .iaload, 1, 7, 2, 0, [], mai),
  (203, .iconst 1, 1, 0, 0, 1, [], kno),
  (204, .iadd, 1, 0, 0, 0, [], kno),
  (205, .iastore, 1, 7, 3, 0, [], mpa),
  (206, .goto 13, 3, 1, 136, 0, [], kno),
  (209, .iload_n 2, 1, 0, 2, 0, [], kno),
  (210, .iconst 3, 1, 0, 0, 3, [], kno),
  (211, .if_icmp .ne 8, 3, 2, 136, 0, [], kno),
  (214, .aload_n 0, 1, 0, 0, 0, [], kno),
  (215, .iload_n 1, 1, 0, 1, 0, [], kno),
  (216, .invokevirtual 201, 3, 7, 2, 0, [], K_mo_off),
  (219, .return_, 1, 6, 0, 0, [], kno)]
theorem E_mo_toSubscriber (c : mx_C) (m : mx_M) (a1 : Int32) (a2 : Int32) (a3 : Int32) (a4 : Int32) (a5 : Int32)  : rx_ev L_mo_toSubscriber [] 139 L_mo_toSubscriber (c, m) [some (.ref 82), some (.int a1), some (.int a2), some (.int a3), some (.int a4), some (.int a5)] [] = ry_v c (mo_toSubscriber m a1 a2 a3 a4 a5) :=
  rx_ite2 (f := ry_v c) (fun h0 => rx_ite2 (f := ry_v c) (fun h1 => rx_litT h0 (rfl)) (fun h1 => rx_litT h0 (rfl))) (fun h0 => rx_litF h0 (rx_ite2 (f := ry_v c) (fun h1 => rfl) (fun h1 => rx_ite2 (f := ry_v c) (fun h2 => rx_ite2 (f := ry_v c) (fun h3 => rfl) (fun h3 => rx_ite2 (f := ry_v c) (fun h4 => rx_ite2 (f := ry_v c) (fun h5 => rfl) (fun h5 => rx_ite2 (f := ry_v c) (fun h6 => rx_ite2 (f := ry_v c) (fun h7 => rfl) (fun h7 => rx_ite2 (f := ry_v c) (fun h8 => rx_litF h7 (rx_ite2 (f := ry_v c) (fun h9 => rfl) (fun h9 => rfl))) (fun h8 => rx_ite2 (f := ry_v c) (fun h9 => rfl) (fun h9 => rfl)))) (fun h6 => rx_ite2 (f := ry_v c) (fun h7 => rx_ite2 (f := ry_v c) (fun h8 => rx_ite2 (f := ry_v c) (fun h9 => rfl) (fun h9 => rx_ite2 (f := ry_v c) (fun h10 => rfl) (fun h10 => rfl))) (fun h8 => rx_ite2 (f := ry_v c) (fun h9 => rfl) (fun h9 => rfl))) (fun h7 => rx_ite2 (f := ry_v c) (fun h8 => rfl) (fun h8 => rfl))))) (fun h4 => rx_ite2 (f := ry_v c) (fun h5 => rx_ite2 (f := ry_v c) (fun h6 => rfl) (fun h6 => rx_ite2 (f := ry_v c) (fun h7 => rx_litF h6 (rx_ite2 (f := ry_v c) (fun h8 => rfl) (fun h8 => rfl))) (fun h7 => rx_ite2 (f := ry_v c) (fun h8 => rfl) (fun h8 => rfl)))) (fun h5 => rx_ite2 (f := ry_v c) (fun h6 => rx_ite2 (f := ry_v c) (fun h7 => rx_ite2 (f := ry_v c) (fun h8 => rfl) (fun h8 => rx_ite2 (f := ry_v c) (fun h9 => rfl) (fun h9 => rfl))) (fun h7 => rx_ite2 (f := ry_v c) (fun h8 => rfl) (fun h8 => rfl))) (fun h6 => rx_ite2 (f := ry_v c) (fun h7 => rfl) (fun h7 => rfl)))))) (fun h2 => rfl))))
theorem S_mo_toSubscriber (c : mx_C) (m : mx_M) (a1 : Int32) (a2 : Int32) (a3 : Int32) (a4 : Int32) (a5 : Int32) (hw : mo_wd m a1) : rx_sf L_mo_toSubscriber [] 139 L_mo_toSubscriber (c, m) [some (.ref 82), some (.int a1), some (.int a2), some (.int a3), some (.int a4), some (.int a5)] [] :=
  And.intro (fun h0 => And.intro rfl (And.intro hw.1 (And.intro (fun h1 => And.intro rfl (And.intro hw.1 (And.intro rfl (And.intro hw.1 (And.intro rfl (And.intro hw.1 (And.intro (And.intro rfl hw.1) (And.intro (fun _ => trivial) (fun h => absurd h0 h))))))))) (fun h1 => And.intro (fun _ => trivial) (fun h => absurd h0 h))))) (fun h0 => And.intro (fun h => absurd h h0) (fun _ => And.intro rfl (And.intro hw.1 (And.intro (fun h1 => trivial) (fun h1 => And.intro rfl (And.intro hw.1 (And.intro (fun h2 => And.intro (fun h3 => And.intro (And.intro rfl hw.1) (trivial)) (fun h3 => And.intro (fun h4 => And.intro rfl (And.intro hw.1 (And.intro (fun h5 => And.intro (And.intro rfl hw.1) (trivial)) (fun h5 => And.intro (fun h6 => And.intro rfl (And.intro hw.1 (And.intro (fun h7 => And.intro rfl (And.intro hw.1 (And.intro rfl (trivial)))) (fun h7 => And.intro (fun h8 => And.intro rfl (And.intro hw.1 (And.intro (fun h => absurd h h7) (fun _ => And.intro (fun h9 => And.intro (And.intro rfl hw.1) (trivial)) (fun h9 => trivial))))) (fun h8 => And.intro (fun h9 => And.intro (And.intro rfl hw.1) (trivial)) (fun h9 => trivial)))))) (fun h6 => And.intro (fun h7 => And.intro rfl (And.intro hw.1 (And.intro (fun h8 => And.intro rfl (And.intro hw.1 (And.intro (fun h9 => And.intro rfl (And.intro hw.1 (And.intro rfl (And.intro rfl (And.intro hw.1 (And.intro (mo_wi hw (by simp only [my_pi]; repeat (first | rw [mx_up_eq] | rw [mx_up_ne _ _ (by omega)]))) (And.intro rfl (And.intro hw.1 (And.intro hw.1 (trivial)))))))))) (fun h9 => And.intro (fun h10 => And.intro (And.intro rfl hw.1) (trivial)) (fun h10 => trivial))))) (fun h8 => And.intro (fun h9 => And.intro (And.intro rfl hw.1) (trivial)) (fun h9 => trivial))))) (fun h7 => And.intro (fun h8 => And.intro (And.intro rfl hw.1) (trivial)) (fun h8 => trivial))))))) (fun h4 => And.intro (fun h5 => And.intro rfl (And.intro hw.1 (And.intro (fun h6 => And.intro rfl (And.intro hw.1 (And.intro rfl (trivial)))) (fun h6 => And.intro (fun h7 => And.intro rfl (And.intro hw.1 (And.intro (fun h => absurd h h6) (fun _ => And.intro (fun h8 => And.intro (And.intro rfl hw.1) (trivial)) (fun h8 => trivial))))) (fun h7 => And.intro (fun h8 => And.intro (And.intro rfl hw.1) (trivial)) (fun h8 => trivial)))))) (fun h5 => And.intro (fun h6 => And.intro rfl (And.intro hw.1 (And.intro (fun h7 => And.intro rfl (And.intro hw.1 (And.intro (fun h8 => And.intro rfl (And.intro hw.1 (And.intro rfl (And.intro rfl (And.intro hw.1 (And.intro (mo_wi hw (by simp only [my_pi]; repeat (first | rw [mx_up_eq] | rw [mx_up_ne _ _ (by omega)]))) (And.intro rfl (And.intro hw.1 (And.intro hw.1 (trivial)))))))))) (fun h8 => And.intro (fun h9 => And.intro (And.intro rfl hw.1) (trivial)) (fun h9 => trivial))))) (fun h7 => And.intro (fun h8 => And.intro (And.intro rfl hw.1) (trivial)) (fun h8 => trivial))))) (fun h6 => And.intro (fun h7 => And.intro (And.intro rfl hw.1) (trivial)) (fun h7 => trivial)))))) (fun h2 => trivial))))))))

theorem cv_mo_accepted {p : Program} {l : Launch} {e : Env} {R : Room} {s : State} {m : MethodId} {args : Array Value} {below : List Frame} {meth : Method} {c : Code} {cc : ByteArray} {nL : Nat} {ad : Nat → Nat} {D : va_G} {g : Nat → ClassId} {B : Nat} {own : String} {idx : Nat} (X : ox_C p s m args c cc nL own D g ad B) (hV : rx_V l D g ad B ⟨"SubscriberLinesModel", "accepted", "(II)V"⟩ prog_12_method_30_code 3 none 2 54 K_mo_accepted) (hl : Cond.methodLink own idx ⟨"SubscriberLinesModel", "accepted", "(II)V"⟩ ∈ al) (hR : 2 + 1 ≤ R.frames ∧ 8 + (3 + 11) + 54 ≤ R.locals) : rx_OK p l e R s m args below meth c cc nL ad (mx_W D g ad B s.heap) mx_cs (.invokevirtual idx) 3 3 (K_mo_accepted) :=
  ox_callV (q := 9) (T := T_9) X hV (fun av x h => by obtain ⟨a0, a1, a2, rfl⟩ := k_RII_inv h; exact ⟨a0, _, rfl, by have h2 : a0 = 82 := h.1; rw [h2]; rfl⟩) (by decide) rfl hl (al_at 868 (by decide +kernel) rfl) (al_pr (y := (⟨"SubscriberLinesModel", "accepted", "(II)V"⟩, _)) 38 rfl) (al_at 12 (by decide +kernel) rfl) (al_at 869 (by decide +kernel) rfl) ⟨by decide, by decide, by decide +kernel⟩ hR
theorem og_mo_47_g {p : Program} {l : Launch} {e : Env} {R : Room} {s : State} {m : MethodId} {args : Array Value} {below : List Frame} {meth : Method} {c : Code} {cc : ByteArray} {nL : Nat} {ad : Nat → Nat} {D : va_G} {g : Nat → ClassId} {B : Nat} (X : ox_C p s m args c cc nL "SubscriberLinesModel" D g ad B) : rx_OK p l e R s m args below meth c cc nL ad (mx_W D g ad B s.heap) mx_cs (.getfield 47) 3 1 (mgr 95) := oy_gr (k := 14) X (by decide) rfl (al_at 725 (by decide +kernel) rfl)
theorem og_mo_44_g {p : Program} {l : Launch} {e : Env} {R : Room} {s : State} {m : MethodId} {args : Array Value} {below : List Frame} {meth : Method} {c : Code} {cc : ByteArray} {nL : Nat} {ad : Nat → Nat} {D : va_G} {g : Nat → ClassId} {B : Nat} (X : ox_C p s m args c cc nL "SubscriberLinesModel" D g ad B) : rx_OK p l e R s m args below meth c cc nL ad (mx_W D g ad B s.heap) mx_cs (.getfield 44) 3 1 (mgr 94) := oy_gr (k := 13) X (by decide) rfl (al_at 724 (by decide +kernel) rfl)
theorem ok_mo_toSubscriber : rx_okF prog_12_method_31_code 6 none L_mo_toSubscriber 0 L_mo_toSubscriber = true := by decide +kernel
theorem V_mo_toSubscriber {l : Launch} {D : va_G} {g : Nat → ClassId} {ad : Nat → Nat} {B : Nat} (had : mx_A ad B) : rx_V l D g ad B ⟨"SubscriberLinesModel", "toSubscriber", "(IIIII)V"⟩ prog_12_method_31_code 6 none 3 76 K_mo_toSubscriber := by
  intro av x hp
  obtain ⟨a0, a1, a2, a3, a4, a5, rfl⟩ := k_RIIIII_inv hp
  have hp : a0 = 82 ∧ mo_wd x.2 a1 := hp
  have h0 : a0 = 82 := hp.1
  subst h0
  exact rx_met (k := 0) had (by decide) (Nat.le_of_ble_eq_true rfl) ok_mo_toSubscriber rfl rfl 139 (fun p e s m args below meth c X => And.intro (og_mo_20_g X) (And.intro (oy_ai X) (And.intro (og_mo_23_g X) (And.intro (oy_pa X) (And.intro (og_mo_20_g X) (And.intro (oy_pa X) (And.intro (og_mo_38_g X) (And.intro (oy_pa X) (And.intro (cv_mo_ask X (V_mo_ask had) (al_at 854 (by decide +kernel) rfl) ⟨by decide, by decide⟩) (And.intro (og_mo_20_g X) (And.intro (oy_ai X) (And.intro (og_mo_23_g X) (And.intro (oy_ai X) (And.intro (cv_mo_accepted X (V_mo_accepted had) (al_at 866 (by decide +kernel) rfl) ⟨by decide, by decide⟩) (And.intro (og_mo_20_g X) (And.intro (oy_ai X) (And.intro (cv_mo_leave X (V_mo_leave had) (al_at 870 (by decide +kernel) rfl) ⟨by decide, by decide⟩) (And.intro (og_mo_20_g X) (And.intro (oy_ai X) (And.intro (og_mo_41_g X) (And.intro (oy_pa X) (And.intro (cv_mo_sendOff X (V_mo_sendOff had) (al_at 858 (by decide +kernel) rfl) ⟨by decide, by decide⟩) (And.intro (og_mo_20_g X) (And.intro (oy_ai X) (And.intro (og_mo_32_g X) (And.intro (oy_ai X) (And.intro (og_mo_41_g X) (And.intro (oy_pa X) (And.intro (og_mo_47_g X) (And.intro (og_mo_44_g X) (And.intro (oy_ai X) (And.intro (oy_pa X) (And.intro (og_mo_44_g X) (And.intro (oy_ai X) (And.intro (oy_pa X) (And.intro (cv_mo_off X (V_mo_off had) (al_at 874 (by decide +kernel) rfl) ⟨by decide, by decide⟩) (trivial))))))))))))))))))))))))))))))))))))) (S_mo_toSubscriber x.1 x.2 a1 a2 a3 a4 a5 hp.2) (E_mo_toSubscriber x.1 x.2 a1 a2 a3 a4 a5)
theorem ses_soL (e : Int32) : ∀ (n : Nat) (m : mx_M), (mo_sendOpen_0 n m e).2.2 = m.2.2 := by
  intro n
  induction n with
  | zero => intro m; rfl
  | succ n ih =>
    intro m
    unfold mo_sendOpen_0
    split
    · split
      · exact (ih _).trans (fy_transmit _ _ _).1
      · rfl
    · rfl
theorem ses_sendOpen (m : mx_M) (e : Int32) : (mo_sendOpen m e).2.2 = m.2.2 := by
  rw [mo_sendOpen_eq]
  exact ses_soL e 1403 m
theorem ses_say (m : mx_M) (e a b c : Int32) : (mo_say m e a b c).2.2 = m.2.2 := by
  unfold mo_say
  split
  · rfl
  · dsimp only
    split
    · exact (ses_sendOpen _ _).trans rfl
    · exact (ses_sendOpen _ _).trans rfl
theorem ses_endL (a : Int32) : ∀ (n : Nat) (m : mx_M) (v : Int32), (mo_endSession_12 n m a v).2.2 = m.2.2 := by
  intro n
  induction n with
  | zero => intro m v; rfl
  | succ n ih =>
    intro m v
    unfold mo_endSession_12
    split
    · exact (ih _ _).trans rfl
    · rfl
theorem ses_endSession {m : mx_M} {a : Int32} (h : mo_es m a) : (mo_endSession m a).2.2.val = m.2.2.val - 1 := by
  have hq := m.2.2.isLt
  unfold mo_es at h
  have e : (mo_endSession m a).2.2 = (my_ps m (Int32.ofNat m.2.2.val - 1)).2.2 := ses_endL a 6 _ _
  rw [e]
  show (Int32.ofNat m.2.2.val - 1).toNatClampNeg % 5 = _
  rw [sc_nat (by omega), Nat.mod_eq_of_lt (by omega)]
abbrev mo_stP (n : Nat) (m : mx_M) (v : Int32) : Prop := 0 ≤ v.toInt ∧ (m.2.2.val : Int) - v.toInt < (n : Int) ∧ 0 < n ∧ mo_b m (1399 - (m.2.2.val : Int))
theorem mo_st_es {n : Nat} {m : mx_M} {v : Int32} (h0 : v < Int32.ofNat m.2.2.val) (hP : mo_stP n m v) : mo_es m v := by
  rw [i_lt, i_of _ (by omega)] at h0
  exact ⟨hP.1, h0⟩
theorem mo_st_k {n : Nat} {m : mx_M} {v : Int32} (h0 : v < Int32.ofNat m.2.2.val) (hP : mo_stP n m v) : 1399 - (m.2.2.val : Int) ≤ 1399 := by omega
theorem mo_st_1 {n : Nat} {m m' : mx_M} {v : Int32} (h0 : v < Int32.ofNat m.2.2.val) (hP : mo_stP (n + 1) m v) (hs : m'.2.2 = m.2.2) (hb : mo_b m' (1399 - (m.2.2.val : Int))) : mo_stP n m' (v + 1) := by
  have hq := m.2.2.isLt
  rw [i_lt, i_of _ (by omega)] at h0
  obtain ⟨p1, p2, p3, p4⟩ := hP
  have e : (v + 1).toInt = v.toInt + 1 := i_add (show _ ≤ v.toInt + 1 by omega) (show v.toInt + 1 < _ by omega)
  refine ⟨by rw [e]; omega, by rw [e, hs]; omega, by omega, by rw [hs]; exact hb⟩
theorem mo_st_2 {n : Nat} {m m' : mx_M} {v : Int32} (h0 : v < Int32.ofNat m.2.2.val) (hP : mo_stP (n + 1) m v) (hs : m'.2.2.val = m.2.2.val - 1) (hb : mo_b m' (1399 - (m.2.2.val : Int) + 1)) : mo_stP n m' v := by
  have hq := m.2.2.isLt
  rw [i_lt, i_of _ (by omega)] at h0
  obtain ⟨p1, p2, p3, p4⟩ := hP
  refine ⟨p1, by omega, by omega, mo_b_mono hb (by omega)⟩
theorem mo_st_0 {m : mx_M} (h : mo_b m 1395) : mo_stP 6 m 0 := by
  have hq := m.2.2.isLt
  refine ⟨by decide, ?_, by decide, mo_b_mono h (by omega)⟩
  rw [Int32.toInt_zero]
  omega
def mo_serverTimer_2 : Nat → mx_M → Int32 → mx_M
  | 0, m, _ => m
  | n + 1, m, v1 =>
    if v1 < (Int32.ofNat m.2.2.val) then
      let m1 := my_pi m 102 (Int32.toNatClampNeg v1) ((m.1 102 (Int32.toNatClampNeg v1)) + 1)
      if (m1.1 102 (Int32.toNatClampNeg v1)) = 12 then
        let m2 := mo_endSession m1 v1
        let m3 := mo_say m2 1 15 (m1.1 99 (Int32.toNatClampNeg v1)) 0
        mo_serverTimer_2 n m3 v1
      else
        if ((m1.1 102 (Int32.toNatClampNeg v1)) - (m1.1 102 (Int32.toNatClampNeg v1)) / 3 * 3) = 0 then
          if (m1.1 100 (Int32.toNatClampNeg v1)) = 2 then
            let m4 := mo_sendOff m1 5 5 4 (m1.1 99 (Int32.toNatClampNeg v1)) (m1.1 101 (Int32.toNatClampNeg v1)) 0
            if ((m4.1 102 (Int32.toNatClampNeg v1)) - (m4.1 102 (Int32.toNatClampNeg v1)) / 4 * 4) = 0 then
              if (m4.1 100 (Int32.toNatClampNeg v1)) = 3 then
                let m5 := mo_sendOff m4 8 5 4 (m4.1 99 (Int32.toNatClampNeg v1)) 0 0
                mo_serverTimer_2 n m5 (v1 + 1)
              else
                mo_serverTimer_2 n m4 (v1 + 1)
            else
              mo_serverTimer_2 n m4 (v1 + 1)
          else
            if ((m1.1 102 (Int32.toNatClampNeg v1)) - (m1.1 102 (Int32.toNatClampNeg v1)) / 4 * 4) = 0 then
              if (m1.1 100 (Int32.toNatClampNeg v1)) = 3 then
                let m6 := mo_sendOff m1 8 5 4 (m1.1 99 (Int32.toNatClampNeg v1)) 0 0
                mo_serverTimer_2 n m6 (v1 + 1)
              else
                mo_serverTimer_2 n m1 (v1 + 1)
            else
              mo_serverTimer_2 n m1 (v1 + 1)
        else
          if ((m1.1 102 (Int32.toNatClampNeg v1)) - (m1.1 102 (Int32.toNatClampNeg v1)) / 4 * 4) = 0 then
            if (m1.1 100 (Int32.toNatClampNeg v1)) = 3 then
              let m7 := mo_sendOff m1 8 5 4 (m1.1 99 (Int32.toNatClampNeg v1)) 0 0
              mo_serverTimer_2 n m7 (v1 + 1)
            else
              mo_serverTimer_2 n m1 (v1 + 1)
          else
            mo_serverTimer_2 n m1 (v1 + 1)
    else
      let m8 := mo_endTimer m 1
      m8
def mo_serverTimer (m : mx_M)  : mx_M :=
  mo_serverTimer_2 (6) m 0
def K_mo_serverTimer : rx_K mx := k_R (fun a0 c m => (a0 = 82 ∧ mo_b m 1395, (c, mo_serverTimer m), none))
def L_mo_serverTimer : List (rx_E mx) := [
  (0, .iconst 0, 1, 0, 0, 0, [], kno),
  (1, .istore_n 1, 1, 0, 1, 0, [], kno),
  (2, .iload_n 1, 1, 0, 1, 0, [], kno),
  (3, .aload_n 0, 1, 0, 0, 0, [], kno),
  (4, .getfield 135, 3, 7, 1, 0, [], mgs),
  (7, .if_icmp .ge 132, 3, 2, 88, 0, [], kno),
  (10, .aload_n 0, 1, 0, 0, 0, [], kno),
  (11, .getfield 68, 3, 7, 1, 0, [], mgr 102),
  (14, .iload_n 1, 1, 0, 1, 0, [], kno),
  (15, .dup2, 1, 0, 0, 0, [], kno),
  (16, .iaload, 1, 7, 2, 0, [], mai),
  (17, .iconst 1, 1, 0, 0, 1, [], kno),
  (18, .iadd, 1, 0, 0, 0, [], kno),
  (19, .iastore, 1, 7, 3, 0, [], mpa),
  (20, .aload_n 0, 1, 0, 0, 0, [], kno),
  (21, .getfield 68, 3, 7, 1, 0, [], mgr 102),
  (24, .iload_n 1, 1, 0, 1, 0, [], kno),
  (25, .iaload, 1, 7, 2, 0, [], mai),
  (26, .bipush 12, 2, 0, 0, 12, [], kno),
  (28, .if_icmp .ne 27, 3, 2, 35, 0, [], kno),
  (31, .aload_n 0, 1, 0, 0, 0, [], kno),
  (32, .getfield 59, 3, 7, 1, 0, [], mgr 99),
  (35, .iload_n 1, 1, 0, 1, 0, [], kno),
  (36, .iaload, 1, 7, 2, 0, [], mai),
  (37, .istore_n 2, 1, 0, 2, 0, [], kno),
  (38, .aload_n 0, 1, 0, 0, 0, [], kno),
  (39, .iload_n 1, 1, 0, 1, 0, [], kno),
  (40, .invokevirtual 178, 3, 7, 2, 0, [], K_mo_endSession),
  (43, .aload_n 0, 1, 0, 0, 0, [], kno),
  (44, .iconst 1, 1, 0, 0, 1, [], kno),
  (45, .bipush 15, 2, 0, 0, 15, [], kno),
  (47, .iload_n 2, 1, 0, 2, 0, [], kno),
  (48, .iconst 0, 1, 0, 0, 0, [], kno),
  (49, .invokevirtual 149, 3, 7, 5, 0, [], K_mo_say),
  (52, .goto (-50), 3, 1, 2, 0, [], kno),
  (55, .aload_n 0, 1, 0, 0, 0, [], kno),
  (56, .getfield 68, 3, 7, 1, 0, [], mgr 102),
  (59, .iload_n 1, 1, 0, 1, 0, [], kno),
  (60, .iaload, 1, 7, 2, 0, [], mai),
  (61, .iconst 3, 1, 0, 0, 3, [], kno),
  (62, .irem, 1, 0, 0, 0, [], kno),
  (63, .ifCond .ne 33, 3, 2, 62, 0, [], kno),
  (66, .aload_n 0, 1, 0, 0, 0, [], kno),
  (67, .getfield 62, 3, 7, 1, 0, [], mgr 100),
  (70, .iload_n 1, 1, 0, 1, 0, [], kno),
  (71, .iaload, 1, 7, 2, 0, [], mai),
  (72, .iconst 2, 1, 0, 0, 2, [], kno),
  (73, .if_icmp .ne 23, 3, 2, 62, 0, [], kno),
  (76, .aload_n 0, 1, 0, 0, 0, [], kno),
  (77, .iconst 5, 1, 0, 0, 5, [], kno),
  (78, .iconst 5, 1, 0, 0, 5, [], kno),
  (79, .iconst 4, 1, 0, 0, 4, [], kno),
  (80, .aload_n 0, 1, 0, 0, 0, [], kno),
  (81, .getfield 59, 3, 7, 1, 0, [], mgr 99),
  (84, .iload_n 1, 1, 0, 1, 0, [], kno),
  (85, .iaload, 1, 7, 2, 0, [], mai),
  (86, .aload_n 0, 1, 0, 0, 0, [], kno),
  (87, .getfield 65, 3, 7, 1, 0, [], mgr 101),
  (90, .iload_n 1, 1, 0, 1, 0, [], kno),
  (91, .iaload, 1, 7, 2, 0, [], mai),
  (92, .iconst 0, 1, 0, 0, 0, [], kno),
  (93, .invokevirtual 138, 3, 7, 7, 0, [], K_mo_sendOff),
  (96, .aload_n 0, 1, 0, 0, 0, [], kno),
  (97, .getfield 68, 3, 7, 1, 0, [], mgr 102),
  (100, .iload_n 1, 1, 0, 1, 0, [], kno),
  (101, .iaload, 1, 7, 2, 0, [], mai),
  (102, .iconst 4, 1, 0, 0, 4, [], kno),
  (103, .irem, 1, 0, 0, 0, [], kno),
  (104, .ifCond .ne 29, 3, 2, 86, 0, [], kno),
  (107, .aload_n 0, 1, 0, 0, 0, [], kno),
  (108, .getfield 62, 3, 7, 1, 0, [], mgr 100),
  (111, .iload_n 1, 1, 0, 1, 0, [], kno),
  (112, .iaload, 1, 7, 2, 0, [], mai),
  (113, .iconst 3, 1, 0, 0, 3, [], kno),
  (114, .if_icmp .ne 19, 3, 2, 86, 0, [], kno),
  (117, .aload_n 0, 1, 0, 0, 0, [], kno),
  (118, .bipush 8, 2, 0, 0, 8, [], kno),
  (120, .iconst 5, 1, 0, 0, 5, [], kno),
  (121, .iconst 4, 1, 0, 0, 4, [], kno),
  (122, .aload_n 0, 1, 0, 0, 0, [], kno),
  (123, .getfield 59, 3, 7, 1, 0, [], mgr 99),
  (126, .iload_n 1, 1, 0, 1, 0, [], kno),
  (127, .iaload, 1, 7, 2, 0, [], mai),
  (128, .iconst 0, 1, 0, 0, 0, [], kno),
  (129, .iconst 0, 1, 0, 0, 0, [], kno),
  (130, .invokevirtual 138, 3, 7, 7, 0, [], K_mo_sendOff),
  (133, .iinc 1 1, 3, 0, 1, 1, [], kno),
  (136, .goto (-134), 3, 1, 2, 0, [], kno),
  (139, .aload_n 0, 1, 0, 0, 0, [], kno),
  (140, .iconst 1, 1, 0, 0, 1, [], kno),
  (141, .invokevirtual 172, 3, 7, 2, 0, [], K_mo_endTimer),
  (144, .return_, 1, 6, 0, 0, [], kno)]
def G_mo_serverTimer (n : Nat) : rx_G := fun x ls st =>
  match ls, st with
  | [some (.ref r0), some (.int v1), o2], [] => (r0 = 82 ∧ mo_stP n x.2 v1, ry_v x.1 (mo_serverTimer_2 n x.2 v1))
  | _, _ => (False, (x, none))
theorem GI_mo_serverTimer {n : Nat} {x : mx} {ls : rx_L} {st : List Value} (h : (G_mo_serverTimer n x ls st).1) : ∃ (r0 : Nat) (v1 : Int32) (o2 : Option Value), ls = [some (.ref r0), some (.int v1), o2] ∧ st = [] ∧ r0 = 82 ∧ mo_stP n x.2 v1 := by
  unfold G_mo_serverTimer at h
  split at h
  · exact ⟨_, _, _, rfl, rfl, h⟩
  · exact False.elim h
theorem EH_mo_serverTimer (n : Nat) (c : mx_C) (m : mx_M) (v1 : Int32) (o2 : Option Value) : rx_ev L_mo_serverTimer [(2, G_mo_serverTimer n)] 94 (L_mo_serverTimer.drop 2) (c, m) [some (.ref 82), some (.int v1), o2] [] = ry_v c (mo_serverTimer_2 (n + 1) m v1) :=
  rx_ite2 (f := ry_v c) (fun h0 => rx_ite2 (f := ry_v c) (fun h1 => rfl) (fun h1 => rx_ite2 (f := ry_v c) (fun h2 => rx_ite2 (f := ry_v c) (fun h3 => rx_ite2 (f := ry_v c) (fun h4 => rx_ite2 (f := ry_v c) (fun h5 => rfl) (fun h5 => rfl)) (fun h4 => rfl)) (fun h3 => rx_ite2 (f := ry_v c) (fun h4 => rx_ite2 (f := ry_v c) (fun h5 => rfl) (fun h5 => rfl)) (fun h4 => rfl))) (fun h2 => rx_ite2 (f := ry_v c) (fun h3 => rx_ite2 (f := ry_v c) (fun h4 => rfl) (fun h4 => rfl)) (fun h3 => rfl)))) (fun h0 => rfl)
theorem SH_mo_serverTimer (n : Nat) (c : mx_C) (m : mx_M) (v1 : Int32) (o2 : Option Value) (hP : mo_stP (n + 1) m v1) : rx_sf L_mo_serverTimer [(2, G_mo_serverTimer n)] 94 (L_mo_serverTimer.drop 2) (c, m) [some (.ref 82), some (.int v1), o2] [] :=
  And.intro rfl (And.intro (fun h0 => And.intro rfl (And.intro (mo_es_in (mo_st_es (m := m) h0 hP)) (And.intro (mo_es_in (mo_st_es (m := m) h0 hP)) (And.intro rfl (And.intro (mo_es_in (mo_st_es (m := m) h0 hP)) (And.intro (fun h1 => And.intro rfl (And.intro (mo_es_in (mo_st_es (m := m) h0 hP)) (And.intro (And.intro rfl (mo_st_es (m := m) h0 hP)) (And.intro (And.intro rfl (mo_b_sy (k := 1399 - (m.2.2.val : Int)) (mo_b_fz (fz_endSession _ _) (mo_b_pi (by decide) hP.2.2.2)) (mo_st_k h0 hP) (i_in.mpr (by decide)))) (And.intro rfl (mo_st_2 h0 hP ((congrArg Fin.val (ses_say _ _ _ _ _)).trans (ses_endSession (mo_st_es (m := m) h0 hP))) (mo_b_say (k := 1399 - (m.2.2.val : Int)) (mo_b_fz (fz_endSession _ _) (mo_b_pi (by decide) hP.2.2.2)) (Int.le_refl _) (mo_st_k h0 hP) (i_in.mpr (by decide))))))))) (fun h1 => And.intro rfl (And.intro (mo_es_in (mo_st_es (m := m) h0 hP)) (And.intro (fun h2 => And.intro rfl (And.intro (mo_es_in (mo_st_es (m := m) h0 hP)) (And.intro (fun h3 => And.intro rfl (And.intro (mo_es_in (mo_st_es (m := m) h0 hP)) (And.intro rfl (And.intro (mo_es_in (mo_st_es (m := m) h0 hP)) (And.intro rfl (And.intro rfl (And.intro (mo_es_in (mo_st_es (m := m) h0 hP)) (And.intro (fun h4 => And.intro rfl (And.intro (mo_es_in (mo_st_es (m := m) h0 hP)) (And.intro (fun h5 => And.intro rfl (And.intro (mo_es_in (mo_st_es (m := m) h0 hP)) (And.intro rfl (And.intro rfl (mo_st_1 h0 hP ((fy_sendOff _ _ _ _ _ _ _).1.trans ((fy_sendOff _ _ _ _ _ _ _).1.trans rfl)) (mo_b_fz (fz_fy (fy_sendOff _ _ _ _ _ _ _)) (mo_b_fz (fz_fy (fy_sendOff _ _ _ _ _ _ _)) (mo_b_pi (by decide) hP.2.2.2)))))))) (fun h5 => And.intro rfl (mo_st_1 h0 hP ((fy_sendOff _ _ _ _ _ _ _).1.trans rfl) (mo_b_fz (fz_fy (fy_sendOff _ _ _ _ _ _ _)) (mo_b_pi (by decide) hP.2.2.2))))))) (fun h4 => And.intro rfl (mo_st_1 h0 hP ((fy_sendOff _ _ _ _ _ _ _).1.trans rfl) (mo_b_fz (fz_fy (fy_sendOff _ _ _ _ _ _ _)) (mo_b_pi (by decide) hP.2.2.2)))))))))))) (fun h3 => And.intro rfl (And.intro (mo_es_in (mo_st_es (m := m) h0 hP)) (And.intro (fun h4 => And.intro rfl (And.intro (mo_es_in (mo_st_es (m := m) h0 hP)) (And.intro (fun h5 => And.intro rfl (And.intro (mo_es_in (mo_st_es (m := m) h0 hP)) (And.intro rfl (And.intro rfl (mo_st_1 h0 hP ((fy_sendOff _ _ _ _ _ _ _).1.trans rfl) (mo_b_fz (fz_fy (fy_sendOff _ _ _ _ _ _ _)) (mo_b_pi (by decide) hP.2.2.2))))))) (fun h5 => And.intro rfl (mo_st_1 h0 hP rfl (mo_b_pi (by decide) hP.2.2.2)))))) (fun h4 => And.intro rfl (mo_st_1 h0 hP rfl (mo_b_pi (by decide) hP.2.2.2))))))))) (fun h2 => And.intro rfl (And.intro (mo_es_in (mo_st_es (m := m) h0 hP)) (And.intro (fun h3 => And.intro rfl (And.intro (mo_es_in (mo_st_es (m := m) h0 hP)) (And.intro (fun h4 => And.intro rfl (And.intro (mo_es_in (mo_st_es (m := m) h0 hP)) (And.intro rfl (And.intro rfl (mo_st_1 h0 hP ((fy_sendOff _ _ _ _ _ _ _).1.trans rfl) (mo_b_fz (fz_fy (fy_sendOff _ _ _ _ _ _ _)) (mo_b_pi (by decide) hP.2.2.2))))))) (fun h4 => And.intro rfl (mo_st_1 h0 hP rfl (mo_b_pi (by decide) hP.2.2.2)))))) (fun h3 => And.intro rfl (mo_st_1 h0 hP rfl (mo_b_pi (by decide) hP.2.2.2))))))))))))))) (fun h0 => And.intro (And.intro rfl (mo_b_et hP.2.2.2 (by omega) (i_in.mpr (by decide)))) (trivial)))
theorem E_mo_serverTimer (c : mx_C) (m : mx_M)   : rx_ev L_mo_serverTimer [(2, G_mo_serverTimer (6))] 94 L_mo_serverTimer (c, m) [some (.ref 82), none, none] [] = ry_v c (mo_serverTimer m) :=
  rfl
theorem S_mo_serverTimer (c : mx_C) (m : mx_M)  (hb : mo_b m 1395) : rx_sf L_mo_serverTimer [(2, G_mo_serverTimer (6))] 94 L_mo_serverTimer (c, m) [some (.ref 82), none, none] [] :=
  And.intro rfl (mo_st_0 hb)
theorem ok_mo_serverTimer : rx_okF prog_12_method_26_code 3 none L_mo_serverTimer 0 L_mo_serverTimer = true := by decide +kernel
theorem O_mo_serverTimer {l : Launch} {D : va_G} {g : Nat → ClassId} {ad : Nat → Nat} {B : Nat} (had : mx_A ad B) {p : Program} {e : Env} {s : State} {m : MethodId} {args : Array Value} {below : List Frame} {meth : Method} {c : Code} (X : ox_C p s m args c prog_12_method_26_code 3 "SubscriberLinesModel" D g ad B) : rx_ops p l e ({ frames := 4, cells := 0, slots := 0, locals := 98 } : Room) s m args below meth c prog_12_method_26_code 3 ad (mx_W D g ad B s.heap) mx_cs L_mo_serverTimer :=
  And.intro (og_mo_135_g X) (And.intro (og_mo_68_g X) (And.intro (oy_ai X) (And.intro (oy_pa X) (And.intro (og_mo_68_g X) (And.intro (oy_ai X) (And.intro (og_mo_59_g X) (And.intro (oy_ai X) (And.intro (cv_mo_endSession X (V_mo_endSession had) (al_at 914 (by decide +kernel) rfl) ⟨by decide, by decide⟩) (And.intro (cv_mo_say X (V_mo_say had) (al_at 902 (by decide +kernel) rfl) ⟨by decide, by decide⟩) (And.intro (og_mo_68_g X) (And.intro (oy_ai X) (And.intro (og_mo_62_g X) (And.intro (oy_ai X) (And.intro (og_mo_59_g X) (And.intro (oy_ai X) (And.intro (og_mo_65_g X) (And.intro (oy_ai X) (And.intro (cv_mo_sendOff X (V_mo_sendOff had) (al_at 858 (by decide +kernel) rfl) ⟨by decide, by decide⟩) (And.intro (og_mo_68_g X) (And.intro (oy_ai X) (And.intro (og_mo_62_g X) (And.intro (oy_ai X) (And.intro (og_mo_59_g X) (And.intro (oy_ai X) (And.intro (cv_mo_sendOff X (V_mo_sendOff had) (al_at 858 (by decide +kernel) rfl) ⟨by decide, by decide⟩) (And.intro (cv_mo_endTimer X (V_mo_endTimer had) (al_at 957 (by decide +kernel) rfl) ⟨by decide, by decide⟩) (trivial)))))))))))))))))))))))))))
theorem V_mo_serverTimer {l : Launch} {D : va_G} {g : Nat → ClassId} {ad : Nat → Nat} {B : Nat} (had : mx_A ad B) : rx_V l D g ad B ⟨"SubscriberLinesModel", "serverTimer", "()V"⟩ prog_12_method_26_code 3 none 4 98 K_mo_serverTimer := by
  intro av x hp
  obtain ⟨a0, rfl⟩ := k_R_inv hp
  have hp : a0 = 82 ∧ mo_b x.2 1395 := hp
  have h0 : a0 = 82 := hp.1
  subst h0
  refine rx_metX (k := 2) had (by decide) (Nat.le_of_ble_eq_true rfl) fun p e s m args below meth c X hr hlk => ?_
  refine rx_walk X hr hlk ok_mo_serverTimer (O_mo_serverTimer had X) (cut := [(2, G_mo_serverTimer (6))]) (rx_cc ?_ rx_c0) 94 0 rfl (S_mo_serverTimer x.1 x.2  hp.2) (E_mo_serverTimer x.1 x.2  )
  refine rx_loop (G := G_mo_serverTimer) X hr hlk ok_mo_serverTimer (O_mo_serverTimer had X) rx_c0 94 2 rfl (fun x ls st h => ?_) (fun n x ls st h => ?_) _
  · obtain ⟨r0, v1, o2, -, -, h3⟩ := GI_mo_serverTimer h
    have h4 := h3.2
    omega
  · obtain ⟨r0, v1, o2, rfl, rfl, h3⟩ := GI_mo_serverTimer h
    obtain ⟨rfl, hP⟩ := h3
    exact ⟨SH_mo_serverTimer n x.1 x.2 v1 o2 hP, EH_mo_serverTimer n x.1 x.2 v1 o2⟩
