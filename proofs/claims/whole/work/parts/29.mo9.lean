theorem fy_takeL (a : Int32) : ∀ (n : Nat) (m : mx_M) (v : Int32), fy m (mo_takeOut_15 n m a v) := by
  intro n
  induction n with
  | zero => intro m v; exact fy_rf m
  | succ n ih =>
    intro m v
    unfold mo_takeOut_15
    split
    · exact fy_tr (fy_pi _ _ _) (ih _ _)
    · exact fy_rf m
theorem fy_takeOut (m : mx_M) (a : Int32) : fy m (mo_takeOut m a) := by
  unfold mo_takeOut
  exact fy_tr (fy_pf _ _) (fy_takeL _ _ _ _)
/-- what a delivery asks -/
def mo_arP (m : mx_M) : Prop := 1 ≤ m.2.1.val ∧ mo_b m 1397 ∧ mo_pl m ∧ 0 ≤ (m.1 82 24).toInt ∧ (∀ s : Nat, s < 4 → 0 ≤ (m.1 94 s).toInt) ∧ (0 ≤ (m.1 85 2).toInt ∧ (m.1 85 2).toInt < 6) ∧ 0 ≤ (m.1 85 1).toInt
theorem mo_ar_t {m : mx_M} (h : mo_arP m) : mo_toP m 0 := ⟨by decide, by rw [Int32.toInt_zero]; have := h.1; omega⟩
theorem mo_ar_4 {m : mx_M} (h : mo_arP m) (h4 : ¬ m.1 85 2 < 4) : vp_in (m.1 85 2 - 4) 2 := by
  have ht := h.2.2.2.2.2.1
  rw [i_lt] at h4
  have h4 : ¬ (m.1 85 2).toInt < 4 := h4
  rw [i_in, i_sub (show _ ≤ (m.1 85 2).toInt - 4 by omega) (show (m.1 85 2).toInt - 4 < _ by omega)]
  show 0 ≤ (m.1 85 2).toInt - 4 ∧ (m.1 85 2).toInt - 4 < 2
  omega
theorem mo_ar_w {m : mx_M} (h : mo_arP m) (h4 : m.1 85 2 < 4) : mo_wd (mo_takeOut m 0) (m.1 85 2) := by
  have ht := h.2.2.2.2.2.1
  rw [i_lt] at h4
  have h4 : (m.1 85 2).toInt < 4 := h4
  have hv : vp_in (m.1 85 2) 4 := by rw [i_in]; omega
  refine ⟨hv, ?_⟩
  rw [(fy_takeOut m 0).2 94 (by decide)]
  exact h.2.2.2.2.1 _ (Nat.not_le.mp fun q => hv (Or.inr q))
theorem mo_ar_b {m : mx_M} (h : mo_arP m) : mo_b (mo_takeOut m 0) 1397 := mo_b_fz (fz_fy (fy_takeOut m 0)) h.2.1
theorem mo_ar_s {m : mx_M} (h : mo_arP m) : mo_ts (mo_takeOut m 0) := by
  refine ⟨mo_b_mono (mo_ar_b h) (by decide), ?_, ?_⟩
  · show ((mo_takeOut m 0).1 82 0).toInt ≤ 4
    rw [(fy_takeOut m 0).2 82 (by decide)]
    exact h.2.2.1
  · rw [(fy_takeOut m 0).2 82 (by decide)]
    exact h.2.2.2.1
theorem mo_ar_j {m : mx_M} (h : mo_arP m) (h4 : m.1 85 1 < 4) : mo_j (mo_takeOut m 0) 1397 (m.1 85 1) := by
  rw [i_lt] at h4
  have h4 : (m.1 85 1).toInt < 4 := h4
  refine ⟨?_, mo_ar_b h⟩
  rw [i_in]
  have := h.2.2.2.2.2.2
  omega
theorem mo_ar_c {m : mx_M} (h : mo_arP m) (h4 : ¬ m.1 85 2 < 4) : mo_cC (mo_takeOut m 0) (m.1 85 2 - 4) := ⟨mo_ar_4 h h4, mo_b_mono (mo_ar_b h) (by decide)⟩
def mo_arrive (m : mx_M)  : mx_M × Int32 :=
  let m1 := mo_takeOut m 0
  if (m.1 85 2) < 4 then
    let m2 := mo_toSubscriber m1 (m.1 85 2) (m.1 85 0) (m.1 85 3) (m.1 85 4) (m.1 85 5)
    (m2, 1)
  else
    if 0 < (m1.1 105 (Int32.toNatClampNeg ((m.1 85 2) - 4))) then
      (m1, 0)
    else
      if (m.1 85 0) < 12 then
        if (m.1 85 2) = 5 then
          let m3 := mo_toSession m1 (m.1 85 0) (m.1 85 3) (m.1 85 4) (m.1 85 5)
          (m3, 1)
        else
          if (m.1 85 1) < 4 then
            let m4 := mo_fromSubscriber m1 (m.1 85 1) (m.1 85 0) (m.1 85 3) (m.1 85 4) (m.1 85 5)
            (m4, 1)
          else
            let m5 := mo_fromServer m1 (m.1 85 0) (m.1 85 3) (m.1 85 4) (m.1 85 5)
            (m5, 1)
      else
        let m6 := mo_control m1 ((m.1 85 2) - 4) (m.1 85 0) (m.1 85 3) (m.1 85 4) (m.1 85 6) (m.1 85 7) (m.1 85 8)
        (m6, 1)
def K_mo_arrive : rx_K mx := k_R (fun a0 c m => (a0 = 82 ∧ mo_arP m, (c, (mo_arrive m).1), some (.int (mo_arrive m).2)))
def L_mo_arrive : List (rx_E mx) := [
  (0, .aload_n 0, 1, 0, 0, 0, [], kno),
  (1, .getfield 17, 3, 7, 1, 0, [], mgr 85),
  (4, .iconst 0, 1, 0, 0, 0, [], kno),
  (5, .iaload, 1, 7, 2, 0, [], mai),
  (6, .istore_n 1, 1, 0, 1, 0, [], kno),
  (7, .aload_n 0, 1, 0, 0, 0, [], kno),
  (8, .getfield 17, 3, 7, 1, 0, [], mgr 85),
  (11, .iconst 1, 1, 0, 0, 1, [], kno),
  (12, .iaload, 1, 7, 2, 0, [], mai),
  (13, .istore_n 2, 1, 0, 2, 0, [], kno),
  (14, .aload_n 0, 1, 0, 0, 0, [], kno),
  (15, .getfield 17, 3, 7, 1, 0, [], mgr 85),
  (18, .iconst 2, 1, 0, 0, 2, [], kno),
  (19, .iaload, 1, 7, 2, 0, [], mai),
  (20, .istore_n 3, 1, 0, 3, 0, [], kno),
  (21, .aload_n 0, 1, 0, 0, 0, [], kno),
  (22, .getfield 17, 3, 7, 1, 0, [], mgr 85),
  (25, .iconst 3, 1, 0, 0, 3, [], kno),
  (26, .iaload, 1, 7, 2, 0, [], mai),
  (27, .istore 4, 2, 0, 4, 0, [], kno),
  (29, .aload_n 0, 1, 0, 0, 0, [], kno),
  (30, .getfield 17, 3, 7, 1, 0, [], mgr 85),
  (33, .iconst 4, 1, 0, 0, 4, [], kno),
  (34, .iaload, 1, 7, 2, 0, [], mai),
  (35, .istore 5, 2, 0, 5, 0, [], kno),
  (37, .aload_n 0, 1, 0, 0, 0, [], kno),
  (38, .getfield 17, 3, 7, 1, 0, [], mgr 85),
  (41, .iconst 5, 1, 0, 0, 5, [], kno),
  (42, .iaload, 1, 7, 2, 0, [], mai),
  (43, .istore 6, 2, 0, 6, 0, [], kno),
  (45, .aload_n 0, 1, 0, 0, 0, [], kno),
  (46, .getfield 17, 3, 7, 1, 0, [], mgr 85),
  (49, .bipush 6, 2, 0, 0, 6, [], kno),
  (51, .iaload, 1, 7, 2, 0, [], mai),
  (52, .istore 7, 2, 0, 7, 0, [], kno),
  (54, .aload_n 0, 1, 0, 0, 0, [], kno),
  (55, .getfield 17, 3, 7, 1, 0, [], mgr 85),
  (58, .bipush 7, 2, 0, 0, 7, [], kno),
  (60, .iaload, 1, 7, 2, 0, [], mai),
  (61, .istore 8, 2, 0, 8, 0, [], kno),
  (63, .aload_n 0, 1, 0, 0, 0, [], kno),
  (64, .getfield 17, 3, 7, 1, 0, [], mgr 85),
  (67, .bipush 8, 2, 0, 0, 8, [], kno),
  (69, .iaload, 1, 7, 2, 0, [], mai),
  (70, .istore 9, 2, 0, 9, 0, [], kno),
  (72, .aload_n 0, 1, 0, 0, 0, [], kno),
  (73, .iconst 0, 1, 0, 0, 0, [], kno),
  (74, .invokevirtual 213, 3, 7, 2, 0, [], K_mo_takeOut),
  (77, .iload_n 3, 1, 0, 3, 0, [], kno),
  (78, .iconst 4, 1, 0, 0, 4, [], kno),
  (79, .if_icmp .lt 16, 3, 2, 60, 0, [], kno),
  (82, .aload_n 0, 1, 0, 0, 0, [], kno),
  (83, .getfield 77, 3, 7, 1, 0, [], mgr 105),
  (86, .iload_n 3, 1, 0, 3, 0, [], kno),
  (87, .iconst 4, 1, 0, 0, 4, [], kno),
  (88, .isub, 1, 0, 0, 0, [], kno),
  (89, .iaload, 1, 7, 2, 0, [], mai),
  (90, .ifCond .le 5, 3, 2, 60, 0, [], kno),
  (93, .iconst 0, 1, 0, 0, 0, [], kno),
  (94, .ireturn, 1, 5, 1, 0, [], kno),
  (95, .iload_n 3, 1, 0, 3, 0, [], kno),
  (96, .iconst 4, 1, 0, 0, 4, [], kno),
  (97, .if_icmp .ge 18, 3, 2, 71, 0, [], kno),
  (100, .aload_n 0, 1, 0, 0, 0, [], kno),
  (101, .iload_n 3, 1, 0, 3, 0, [], kno),
  (102, .iload_n 1, 1, 0, 1, 0, [], kno),
  (103, .iload 4, 2, 0, 4, 0, [], kno),
  (105, .iload 5, 2, 0, 5, 0, [], kno),
  (107, .iload 6, 2, 0, 6, 0, [], kno),
  (109, .invokevirtual 216, 3, 7, 6, 0, [], K_mo_toSubscriber),
  (112, .goto 80, 3, 1, 113, 0, [], kno),
  (115, .iload_n 1, 1, 0, 1, 0, [], kno),
  (116, .bipush 12, 2, 0, 0, 12, [], kno),
  (118, .if_icmp .lt 24, 3, 2, 86, 0, [], kno),
  (121, .aload_n 0, 1, 0, 0, 0, [], kno),
  (122, .iload_n 3, 1, 0, 3, 0, [], kno),
  (123, .iconst 4, 1, 0, 0, 4, [], kno),
  (124, .isub, 1, 0, 0, 0, [], kno),
  (125, .iload_n 1, 1, 0, 1, 0, [], kno),
  (126, .iload 4, 2, 0, 4, 0, [], kno),
  (128, .iload 5, 2, 0, 5, 0, [], kno),
  (130, .iload 7, 2, 0, 7, 0, [], kno),
  (132, .iload 8, 2, 0, 8, 0, [], kno),
  (134, .iload 9, 2, 0, 9, 0, [], kno),
  (136, .invokevirtual 220, 3, 7, 8, 0, [], K_mo_control),
  (139, .goto 53, 3, 1, 113, 0, [], kno),
  (142, .iload_n 3, 1, 0, 3, 0, [], kno),
  (143, .iconst 5, 1, 0, 0, 5, [], kno),
  (144, .if_icmp .ne 17, 3, 2, 96, 0, [], kno),
  (147, .aload_n 0, 1, 0, 0, 0, [], kno),
  (148, .iload_n 1, 1, 0, 1, 0, [], kno),
  (149, .iload 4, 2, 0, 4, 0, [], kno),
  (151, .iload 5, 2, 0, 5, 0, [], kno),
  (153, .iload 6, 2, 0, 6, 0, [], kno),
  (155, .invokevirtual 223, 3, 7, 5, 0, [], K_mo_toSession),
  (158, .goto 34, 3, 1, 113, 0, [], kno),
  (161, .iload_n 2, 1, 0, 2, 0, [], kno),
  (162, .iconst 4, 1, 0, 0, 4, [], kno),
  (163, .if_icmp .ge 18, 3, 2, 107, 0, [], kno),
  (166, .aload_n 0, 1, 0, 0, 0, [], kno),
  (167, .iload_n 2, 1, 0, 2, 0, [], kno),
  (168, .iload_n 1, 1, 0, 1, 0, [], kno),
  (169, .iload 4, 2, 0, 4, 0, [], kno),
  (171, .iload 5, 2, 0, 5, 0, [], kno),
  (173, .iload 6, 2, 0, 6, 0, [], kno),
  (175, .invokevirtual 226, 3, 7, 6, 0, [], K_mo_fromSubscriber),
  (178, .goto 14, 3, 1, 113, 0, [], kno),
  (181, .aload_n 0, 1, 0, 0, 0, [], kno),
  (182, .iload_n 1, 1, 0, 1, 0, [], kno),
  (183, .iload 4, 2, 0, 4, 0, [], kno),
  (185, .iload 5, 2, 0, 5, 0, [], kno),
  (187, .iload 6, 2, 0, 6, 0, [], kno),
  (189, .invokevirtual 229, 3, 7, 5, 0, [], K_mo_fromServer),
  (192, .iconst 1, 1, 0, 0, 1, [], kno),
  (193, .ireturn, 1, 5, 1, 0, [], kno)]
theorem E_mo_arrive (c : mx_C) (m : mx_M)   : rx_ev L_mo_arrive [] 117 L_mo_arrive (c, m) [some (.ref 82), none, none, none, none, none, none, none, none, none] [] = ry_i c (mo_arrive m) :=
  rx_ite2 (f := ry_i c) (fun h0 => rx_litT h0 (rfl)) (fun h0 => rx_ite2 (f := ry_i c) (fun h1 => rfl) (fun h1 => rx_litF h0 (rx_ite2 (f := ry_i c) (fun h2 => rx_ite2 (f := ry_i c) (fun h3 => rfl) (fun h3 => rx_ite2 (f := ry_i c) (fun h4 => rfl) (fun h4 => rfl))) (fun h2 => rfl))))
theorem S_mo_arrive (c : mx_C) (m : mx_M)  (ha : mo_arP m) : rx_sf L_mo_arrive [] 117 L_mo_arrive (c, m) [some (.ref 82), none, none, none, none, none, none, none, none, none] [] :=
  And.intro rfl (And.intro (i_in.mpr (by decide)) (And.intro rfl (And.intro (i_in.mpr (by decide)) (And.intro rfl (And.intro (i_in.mpr (by decide)) (And.intro rfl (And.intro (i_in.mpr (by decide)) (And.intro rfl (And.intro (i_in.mpr (by decide)) (And.intro rfl (And.intro (i_in.mpr (by decide)) (And.intro rfl (And.intro (i_in.mpr (by decide)) (And.intro rfl (And.intro (i_in.mpr (by decide)) (And.intro rfl (And.intro (i_in.mpr (by decide)) (And.intro (And.intro rfl (mo_ar_t ha)) (And.intro (fun h0 => And.intro (fun _ => And.intro (And.intro rfl (mo_ar_w ha (by assumption))) (Or.inr rfl)) (fun h => absurd h0 h)) (fun h0 => And.intro rfl (And.intro (mo_ar_4 ha (by assumption)) (And.intro (fun h1 => Or.inl rfl) (fun h1 => And.intro (fun h => absurd h h0) (fun _ => And.intro (fun h2 => And.intro (fun h3 => And.intro (And.intro rfl (mo_ar_s ha)) (Or.inr rfl)) (fun h3 => And.intro (fun h4 => And.intro (And.intro rfl (mo_ar_j ha (by assumption))) (Or.inr rfl)) (fun h4 => And.intro rfl (Or.inr rfl)))) (fun h2 => And.intro (And.intro rfl (mo_ar_c ha (by assumption))) (Or.inr rfl))))))))))))))))))))))))))

theorem cv_mo_takeOut {p : Program} {l : Launch} {e : Env} {R : Room} {s : State} {m : MethodId} {args : Array Value} {below : List Frame} {meth : Method} {c : Code} {cc : ByteArray} {nL : Nat} {ad : Nat → Nat} {D : va_G} {g : Nat → ClassId} {B : Nat} {own : String} {idx : Nat} (X : ox_C p s m args c cc nL own D g ad B) (hV : rx_V l D g ad B ⟨"SubscriberLinesModel", "takeOut", "(I)V"⟩ prog_12_method_6_code 3 none 0 0 K_mo_takeOut) (hl : Cond.methodLink own idx ⟨"SubscriberLinesModel", "takeOut", "(I)V"⟩ ∈ al) (hR : 0 + 1 ≤ R.frames ∧ 8 + (3 + 11) + 0 ≤ R.locals) : rx_OK p l e R s m args below meth c cc nL ad (mx_W D g ad B s.heap) mx_cs (.invokevirtual idx) 3 2 (K_mo_takeOut) :=
  ox_callV (q := 9) (T := T_9) X hV (fun av x h => by obtain ⟨a0, a1, rfl⟩ := k_RI_inv h; exact ⟨a0, _, rfl, by have h2 : a0 = 82 := h.1; rw [h2]; rfl⟩) (by decide) rfl hl (al_at 848 (by decide +kernel) rfl) (al_pr (y := (⟨"SubscriberLinesModel", "takeOut", "(I)V"⟩, _)) 33 rfl) (al_at 12 (by decide +kernel) rfl) (al_at 849 (by decide +kernel) rfl) ⟨by decide, by decide, by decide +kernel⟩ hR
theorem og_mo_77_g {p : Program} {l : Launch} {e : Env} {R : Room} {s : State} {m : MethodId} {args : Array Value} {below : List Frame} {meth : Method} {c : Code} {cc : ByteArray} {nL : Nat} {ad : Nat → Nat} {D : va_G} {g : Nat → ClassId} {B : Nat} (X : ox_C p s m args c cc nL "SubscriberLinesModel" D g ad B) : rx_OK p l e R s m args below meth c cc nL ad (mx_W D g ad B s.heap) mx_cs (.getfield 77) 3 1 (mgr 105) := oy_gr (k := 31) X (by decide) rfl (al_at 742 (by decide +kernel) rfl)
theorem cv_mo_toSubscriber {p : Program} {l : Launch} {e : Env} {R : Room} {s : State} {m : MethodId} {args : Array Value} {below : List Frame} {meth : Method} {c : Code} {cc : ByteArray} {nL : Nat} {ad : Nat → Nat} {D : va_G} {g : Nat → ClassId} {B : Nat} {own : String} {idx : Nat} (X : ox_C p s m args c cc nL own D g ad B) (hV : rx_V l D g ad B ⟨"SubscriberLinesModel", "toSubscriber", "(IIIII)V"⟩ prog_12_method_31_code 6 none 3 76 K_mo_toSubscriber) (hl : Cond.methodLink own idx ⟨"SubscriberLinesModel", "toSubscriber", "(IIIII)V"⟩ ∈ al) (hR : 3 + 1 ≤ R.frames ∧ 8 + (6 + 11) + 76 ≤ R.locals) : rx_OK p l e R s m args below meth c cc nL ad (mx_W D g ad B s.heap) mx_cs (.invokevirtual idx) 3 6 (K_mo_toSubscriber) :=
  ox_callV (q := 9) (T := T_9) X hV (fun av x h => by obtain ⟨a0, a1, a2, a3, a4, a5, rfl⟩ := k_RIIIII_inv h; exact ⟨a0, _, rfl, by have h2 : a0 = 82 := h.1; rw [h2]; rfl⟩) (by decide) rfl hl (al_at 852 (by decide +kernel) rfl) (al_pr (y := (⟨"SubscriberLinesModel", "toSubscriber", "(IIIII)V"⟩, _)) 34 rfl) (al_at 12 (by decide +kernel) rfl) (al_at 853 (by decide +kernel) rfl) ⟨by decide, by decide, by decide +kernel⟩ hR
theorem cv_mo_control {p : Program} {l : Launch} {e : Env} {R : Room} {s : State} {m : MethodId} {args : Array Value} {below : List Frame} {meth : Method} {c : Code} {cc : ByteArray} {nL : Nat} {ad : Nat → Nat} {D : va_G} {g : Nat → ClassId} {B : Nat} {own : String} {idx : Nat} (X : ox_C p s m args c cc nL own D g ad B) (hV : rx_V l D g ad B ⟨"SubscriberLinesModel", "control", "(IIIIIII)V"⟩ prog_12_method_12_code 8 none 5 122 K_mo_control) (hl : Cond.methodLink own idx ⟨"SubscriberLinesModel", "control", "(IIIIIII)V"⟩ ∈ al) (hR : 5 + 1 ≤ R.frames ∧ 8 + (8 + 11) + 122 ≤ R.locals) : rx_OK p l e R s m args below meth c cc nL ad (mx_W D g ad B s.heap) mx_cs (.invokevirtual idx) 3 8 (K_mo_control) :=
  ox_callV (q := 9) (T := T_9) X hV (fun av x h => by obtain ⟨a0, a1, a2, a3, a4, a5, a6, a7, rfl⟩ := k_RIIIIIII_inv h; exact ⟨a0, _, rfl, by have h2 : a0 = 82 := h.1; rw [h2]; rfl⟩) (by decide) rfl hl (al_at 880 (by decide +kernel) rfl) (al_pr (y := (⟨"SubscriberLinesModel", "control", "(IIIIIII)V"⟩, _)) 41 rfl) (al_at 12 (by decide +kernel) rfl) (al_at 881 (by decide +kernel) rfl) ⟨by decide, by decide, by decide +kernel⟩ hR
theorem cv_mo_toSession {p : Program} {l : Launch} {e : Env} {R : Room} {s : State} {m : MethodId} {args : Array Value} {below : List Frame} {meth : Method} {c : Code} {cc : ByteArray} {nL : Nat} {ad : Nat → Nat} {D : va_G} {g : Nat → ClassId} {B : Nat} {own : String} {idx : Nat} (X : ox_C p s m args c cc nL own D g ad B) (hV : rx_V l D g ad B ⟨"SubscriberLinesModel", "toSession", "(IIII)V"⟩ prog_12_method_25_code 6 none 5 124 K_mo_toSession) (hl : Cond.methodLink own idx ⟨"SubscriberLinesModel", "toSession", "(IIII)V"⟩ ∈ al) (hR : 5 + 1 ≤ R.frames ∧ 8 + (6 + 11) + 124 ≤ R.locals) : rx_OK p l e R s m args below meth c cc nL ad (mx_W D g ad B s.heap) mx_cs (.invokevirtual idx) 3 5 (K_mo_toSession) :=
  ox_callV (q := 9) (T := T_9) X hV (fun av x h => by obtain ⟨a0, a1, a2, a3, a4, rfl⟩ := k_RIIII_inv h; exact ⟨a0, _, rfl, by have h2 : a0 = 82 := h.1; rw [h2]; rfl⟩) (by decide) rfl hl (al_at 920 (by decide +kernel) rfl) (al_pr (y := (⟨"SubscriberLinesModel", "toSession", "(IIII)V"⟩, _)) 51 rfl) (al_at 12 (by decide +kernel) rfl) (al_at 921 (by decide +kernel) rfl) ⟨by decide, by decide, by decide +kernel⟩ hR
theorem cv_mo_fromSubscriber {p : Program} {l : Launch} {e : Env} {R : Room} {s : State} {m : MethodId} {args : Array Value} {below : List Frame} {meth : Method} {c : Code} {cc : ByteArray} {nL : Nat} {ad : Nat → Nat} {D : va_G} {g : Nat → ClassId} {B : Nat} {own : String} {idx : Nat} (X : ox_C p s m args c cc nL own D g ad B) (hV : rx_V l D g ad B ⟨"SubscriberLinesModel", "fromSubscriber", "(IIIII)V"⟩ prog_12_method_16_code 6 none 6 141 K_mo_fromSubscriber) (hl : Cond.methodLink own idx ⟨"SubscriberLinesModel", "fromSubscriber", "(IIIII)V"⟩ ∈ al) (hR : 6 + 1 ≤ R.frames ∧ 8 + (6 + 11) + 141 ≤ R.locals) : rx_OK p l e R s m args below meth c cc nL ad (mx_W D g ad B s.heap) mx_cs (.invokevirtual idx) 3 6 (K_mo_fromSubscriber) :=
  ox_callV (q := 9) (T := T_9) X hV (fun av x h => by obtain ⟨a0, a1, a2, a3, a4, a5, rfl⟩ := k_RIIIII_inv h; exact ⟨a0, _, rfl, by have h2 : a0 = 82 := h.1; rw [h2]; rfl⟩) (by decide) rfl hl (al_at 935 (by decide +kernel) rfl) (al_pr (y := (⟨"SubscriberLinesModel", "fromSubscriber", "(IIIII)V"⟩, _)) 54 rfl) (al_at 12 (by decide +kernel) rfl) (al_at 936 (by decide +kernel) rfl) ⟨by decide, by decide, by decide +kernel⟩ hR
theorem cv_mo_fromServer {p : Program} {l : Launch} {e : Env} {R : Room} {s : State} {m : MethodId} {args : Array Value} {below : List Frame} {meth : Method} {c : Code} {cc : ByteArray} {nL : Nat} {ad : Nat → Nat} {D : va_G} {g : Nat → ClassId} {B : Nat} {own : String} {idx : Nat} (X : ox_C p s m args c cc nL own D g ad B) (hV : rx_V l D g ad B ⟨"SubscriberLinesModel", "fromServer", "(IIII)V"⟩ prog_12_method_18_code 6 none 2 54 K_mo_fromServer) (hl : Cond.methodLink own idx ⟨"SubscriberLinesModel", "fromServer", "(IIII)V"⟩ ∈ al) (hR : 2 + 1 ≤ R.frames ∧ 8 + (6 + 11) + 54 ≤ R.locals) : rx_OK p l e R s m args below meth c cc nL ad (mx_W D g ad B s.heap) mx_cs (.invokevirtual idx) 3 5 (K_mo_fromServer) :=
  ox_callV (q := 9) (T := T_9) X hV (fun av x h => by obtain ⟨a0, a1, a2, a3, a4, rfl⟩ := k_RIIII_inv h; exact ⟨a0, _, rfl, by have h2 : a0 = 82 := h; rw [h2]; rfl⟩) (by decide) rfl hl (al_at 947 (by decide +kernel) rfl) (al_pr (y := (⟨"SubscriberLinesModel", "fromServer", "(IIII)V"⟩, _)) 57 rfl) (al_at 12 (by decide +kernel) rfl) (al_at 948 (by decide +kernel) rfl) ⟨by decide, by decide, by decide +kernel⟩ hR
theorem ok_mo_arrive : rx_okF prog_12_method_33_code 10 (some .boolean) L_mo_arrive 0 L_mo_arrive = true := by decide +kernel
theorem V_mo_arrive {l : Launch} {D : va_G} {g : Nat → ClassId} {ad : Nat → Nat} {B : Nat} (had : mx_A ad B) : rx_V l D g ad B ⟨"SubscriberLinesModel", "arrive", "()Z"⟩ prog_12_method_33_code 10 (some .boolean) 7 166 K_mo_arrive := by
  intro av x hp
  obtain ⟨a0, rfl⟩ := k_R_inv hp
  have hp : a0 = 82 ∧ mo_arP x.2 := hp
  have h0 : a0 = 82 := hp.1
  subst h0
  exact rx_met (k := 9) had (by decide) (Nat.le_of_ble_eq_true rfl) ok_mo_arrive rfl rfl 117 (fun p e s m args below meth c X => And.intro (og_mo_17_g X) (And.intro (oy_ai X) (And.intro (og_mo_17_g X) (And.intro (oy_ai X) (And.intro (og_mo_17_g X) (And.intro (oy_ai X) (And.intro (og_mo_17_g X) (And.intro (oy_ai X) (And.intro (og_mo_17_g X) (And.intro (oy_ai X) (And.intro (og_mo_17_g X) (And.intro (oy_ai X) (And.intro (og_mo_17_g X) (And.intro (oy_ai X) (And.intro (og_mo_17_g X) (And.intro (oy_ai X) (And.intro (og_mo_17_g X) (And.intro (oy_ai X) (And.intro (cv_mo_takeOut X (V_mo_takeOut had) (al_at 846 (by decide +kernel) rfl) ⟨by decide, by decide⟩) (And.intro (og_mo_77_g X) (And.intro (oy_ai X) (And.intro (cv_mo_toSubscriber X (V_mo_toSubscriber had) (al_at 850 (by decide +kernel) rfl) ⟨by decide, by decide⟩) (And.intro (cv_mo_control X (V_mo_control had) (al_at 878 (by decide +kernel) rfl) ⟨by decide, by decide⟩) (And.intro (cv_mo_toSession X (V_mo_toSession had) (al_at 918 (by decide +kernel) rfl) ⟨by decide, by decide⟩) (And.intro (cv_mo_fromSubscriber X (V_mo_fromSubscriber had) (al_at 933 (by decide +kernel) rfl) ⟨by decide, by decide⟩) (And.intro (cv_mo_fromServer X (V_mo_fromServer had) (al_at 945 (by decide +kernel) rfl) ⟨by decide, by decide⟩) (trivial))))))))))))))))))))))))))) (S_mo_arrive x.1 x.2  hp.2) (E_mo_arrive x.1 x.2 )
