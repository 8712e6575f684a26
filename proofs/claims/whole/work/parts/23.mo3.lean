def mo_sy (m : mx_M) (e : Int32) : Prop := vp_in e 2 ∧ 0 ≤ (m.1 108 e.toNatClampNeg).toInt ∧ 0 ≤ (m.1 109 e.toNatClampNeg).toInt ∧ (m.1 109 e.toNatClampNeg).toInt ≤ 1399
theorem mo_sy_ix {m : mx_M} {e : Int32} (h : mo_sy m e) : vp_in (1400 * e + m.1 109 e.toNatClampNeg) 2800 := mo_ix h.1 h.2.2.1 (by have := h.2.2.2; omega)
theorem mo_sy_so {m m' : mx_M} {e : Int32} (h : mo_sy m e) (h8 : m'.1 108 e.toNatClampNeg = m.1 108 e.toNatClampNeg) (h9 : m'.1 109 e.toNatClampNeg = m.1 109 e.toNatClampNeg + 1) : mo_so m' e := by
  obtain ⟨p1, p2, p3, p4⟩ := h
  refine ⟨p1, by rw [h8]; exact p2, ?_⟩
  rw [h9, i_add (show _ ≤ (m.1 109 e.toNatClampNeg).toInt + 1 by omega) (show (m.1 109 e.toNatClampNeg).toInt + 1 < _ by omega)]
  show (m.1 109 e.toNatClampNeg).toInt + 1 ≤ 1400
  omega
def mo_et (m : mx_M) (e : Int32) : Prop := vp_in e 2 ∧ (m.1 107 e.toNatClampNeg).toInt < 1400
theorem mo_et_tr {m : mx_M} {e v : Int32} (h : mo_et m e) (hv : v = m.1 107 e.toNatClampNeg) : mo_trP e v := by
  subst hv
  exact ⟨h.1, fun _ => h.2⟩
def mo_say (m : mx_M) (a1 : Int32) (a2 : Int32) (a3 : Int32) (a4 : Int32) : mx_M :=
  if (m.1 106 (Int32.toNatClampNeg a1)) = 0 then
    m
  else
    let m1 := my_pi m 113 (Int32.toNatClampNeg ((1400 * a1) + (m.1 109 (Int32.toNatClampNeg a1)))) a2
    let m2 := my_pi m1 114 (Int32.toNatClampNeg ((1400 * a1) + (m.1 109 (Int32.toNatClampNeg a1)))) a3
    let m3 := my_pi m2 115 (Int32.toNatClampNeg ((1400 * a1) + (m.1 109 (Int32.toNatClampNeg a1)))) a4
    let m4 := my_pi m3 109 (Int32.toNatClampNeg a1) ((m3.1 109 (Int32.toNatClampNeg a1)) + 1)
    if (m.1 109 (Int32.toNatClampNeg a1)) = (m4.1 107 (Int32.toNatClampNeg a1)) then
      let m5 := my_pi m4 111 (Int32.toNatClampNeg a1) 0
      let m6 := my_pi m5 112 (Int32.toNatClampNeg a1) 2
      let m7 := mo_sendOpen m6 a1
      m7
    else
      let m8 := mo_sendOpen m4 a1
      m8
def K_mo_say : rx_K mx := k_RIIII (fun a0 a1 a2 a3 a4 c m => (a0 = 82 ∧ mo_sy m a1, (c, mo_say m a1 a2 a3 a4), none))
def L_mo_say : List (rx_E mx) := [
  (0, .aload_n 0, 1, 0, 0, 0, [], kno),
  (1, .getfield 80, 3, 7, 1, 0, [], mgr 106),
  (4, .iload_n 1, 1, 0, 1, 0, [], kno),
  (5, .iaload, 1, 7, 2, 0, [], mai),
  (6, .ifCond .ne 4, 3, 2, 6, 0, [], kno),
  (9, .return_, 1, 6, 0, 0, [], kno),
  (10, .aload_n 0, 1, 0, 0, 0, [], kno),
  (11, .getfield 89, 3, 7, 1, 0, [], mgr 109),
  (14, .iload_n 1, 1, 0, 1, 0, [], kno),
  (15, .iaload, 1, 7, 2, 0, [], mai),
  (16, .istore 5, 2, 0, 5, 0, [], kno),
  (18, .aload_n 0, 1, 0, 0, 0, [], kno),
  (19, .getfield 101, 3, 7, 1, 0, [], mgr 113),
  (22, .sipush 1400, 3, 0, 0, 1400, [], kno),
  (25, .iload_n 1, 1, 0, 1, 0, [], kno),
  (26, .imul, 1, 0, 0, 0, [], kno),
  (27, .iload 5, 2, 0, 5, 0, [], kno),
  (29, .iadd, 1, 0, 0, 0, [], kno),
  (30, .iload_n 2, 1, 0, 2, 0, [], kno),
  (31, .iastore, 1, 7, 3, 0, [], mpa),
  (32, .aload_n 0, 1, 0, 0, 0, [], kno),
  (33, .getfield 104, 3, 7, 1, 0, [], mgr 114),
  (36, .sipush 1400, 3, 0, 0, 1400, [], kno),
  (39, .iload_n 1, 1, 0, 1, 0, [], kno),
  (40, .imul, 1, 0, 0, 0, [], kno),
  (41, .iload 5, 2, 0, 5, 0, [], kno),
  (43, .iadd, 1, 0, 0, 0, [], kno),
  (44, .iload_n 3, 1, 0, 3, 0, [], kno),
  (45, .iastore, 1, 7, 3, 0, [], mpa),
  (46, .aload_n 0, 1, 0, 0, 0, [], kno),
  (47, .getfield 107, 3, 7, 1, 0, [], mgr 115),
  (50, .sipush 1400, 3, 0, 0, 1400, [], kno),
  (53, .iload_n 1, 1, 0, 1, 0, [], kno),
  (54, .imul, 1, 0, 0, 0, [], kno),
  (55, .iload 5, 2, 0, 5, 0, [], kno),
  (57, .iadd, 1, 0, 0, 0, [], kno),
  (58, .iload 4, 2, 0, 4, 0, [], kno),
  (60, .iastore, 1, 7, 3, 0, [], mpa),
  (61, .aload_n 0, 1, 0, 0, 0, [], kno),
  (62, .getfield 89, 3, 7, 1, 0, [], mgr 109),
  (65, .iload_n 1, 1, 0, 1, 0, [], kno),
  (66, .dup2, 1, 0, 0, 0, [], kno),
  (67, .iaload, 1, 7, 2, 0, [], mai),
  (68, .iconst 1, 1, 0, 0, 1, [], kno),
  (69, .iadd, 1, 0, 0, 0, [], kno),
  (70, .iastore, 1, 7, 3, 0, [], mpa),
  (71, .iload 5, 2, 0, 5, 0, [], kno),
  (73, .aload_n 0, 1, 0, 0, 0, [], kno),
  (74, .getfield 83, 3, 7, 1, 0, [], mgr 107),
  (77, .iload_n 1, 1, 0, 1, 0, [], kno),
  (78, .iaload, 1, 7, 2, 0, [], mai),
  (79, .if_icmp .ne 17, 3, 2, 62, 0, [], kno),
  (82, .aload_n 0, 1, 0, 0, 0, [], kno),
  (83, .getfield 95, 3, 7, 1, 0, [], mgr 111),
  (86, .iload_n 1, 1, 0, 1, 0, [], kno),
  (87, .iconst 0, 1, 0, 0, 0, [], kno),
  (88, .iastore, 1, 7, 3, 0, [], mpa),
  (89, .aload_n 0, 1, 0, 0, 0, [], kno),
  (90, .getfield 98, 3, 7, 1, 0, [], mgr 112),
  (93, .iload_n 1, 1, 0, 1, 0, [], kno),
  (94, .iconst 2, 1, 0, 0, 2, [], kno),
  (95, .iastore, 1, 7, 3, 0, [], mpa),
  (96, .aload_n 0, 1, 0, 0, 0, [], kno),
  (97, .iload_n 1, 1, 0, 1, 0, [], kno),
  (98, .invokevirtual 121, 3, 7, 2, 0, [], K_mo_sendOpen),
  (101, .return_, 1, 6, 0, 0, [], kno)]
theorem E_mo_say (c : mx_C) (m : mx_M) (a1 : Int32) (a2 : Int32) (a3 : Int32) (a4 : Int32)  : rx_ev L_mo_say [] 68 L_mo_say (c, m) [some (.ref 82), some (.int a1), some (.int a2), some (.int a3), some (.int a4), none] [] = ry_v c (mo_say m a1 a2 a3 a4) :=
  rx_ite2 (f := ry_v c) (fun _ => rfl) (fun _ => rx_ite2 (f := ry_v c) (fun _ => rfl) (fun _ => rfl))
theorem S_mo_say (c : mx_C) (m : mx_M) (a1 : Int32) (a2 : Int32) (a3 : Int32) (a4 : Int32) (hs : mo_sy m a1) : rx_sf L_mo_say [] 68 L_mo_say (c, m) [some (.ref 82), some (.int a1), some (.int a2), some (.int a3), some (.int a4), none] [] :=
  And.intro rfl (And.intro hs.1 (And.intro (fun h0 => trivial) (fun h0 => And.intro rfl (And.intro hs.1 (And.intro rfl (And.intro (mo_sy_ix hs) (And.intro rfl (And.intro (mo_sy_ix hs) (And.intro rfl (And.intro (mo_sy_ix hs) (And.intro rfl (And.intro hs.1 (And.intro hs.1 (And.intro rfl (And.intro hs.1 (And.intro (fun h1 => And.intro rfl (And.intro hs.1 (And.intro rfl (And.intro hs.1 (And.intro (And.intro rfl (mo_sy_so hs (by simp only [my_pi]; repeat (first | rw [mx_up_eq] | rw [mx_up_ne _ _ (by omega)])) (by simp only [my_pi]; repeat (first | rw [mx_up_eq] | rw [mx_up_ne _ _ (by omega)])))) (trivial)))))) (fun h1 => And.intro (And.intro rfl (mo_sy_so hs (by simp only [my_pi]; repeat (first | rw [mx_up_eq] | rw [mx_up_ne _ _ (by omega)])) (by simp only [my_pi]; repeat (first | rw [mx_up_eq] | rw [mx_up_ne _ _ (by omega)])))) (trivial))))))))))))))))))

theorem cv_mo_sendOpen {p : Program} {l : Launch} {e : Env} {R : Room} {s : State} {m : MethodId} {args : Array Value} {below : List Frame} {meth : Method} {c : Code} {cc : ByteArray} {nL : Nat} {ad : Nat → Nat} {D : va_G} {g : Nat → ClassId} {B : Nat} {own : String} {idx : Nat} (X : ox_C p s m args c cc nL own D g ad B) (hV : rx_V l D g ad B ⟨"SubscriberLinesModel", "sendOpen", "(I)V"⟩ prog_12_method_9_code 2 none 2 52 K_mo_sendOpen) (hl : Cond.methodLink own idx ⟨"SubscriberLinesModel", "sendOpen", "(I)V"⟩ ∈ al) (hR : 2 + 1 ≤ R.frames ∧ 8 + (2 + 11) + 52 ≤ R.locals) : rx_OK p l e R s m args below meth c cc nL ad (mx_W D g ad B s.heap) mx_cs (.invokevirtual idx) 3 2 (K_mo_sendOpen) :=
  ox_callV (q := 9) (T := T_9) X hV (fun av x h => by obtain ⟨a0, a1, rfl⟩ := k_RI_inv h; exact ⟨a0, _, rfl, by have h2 : a0 = 82 := h.1; rw [h2]; rfl⟩) (by decide) rfl hl (al_at 888 (by decide +kernel) rfl) (al_pr (y := (⟨"SubscriberLinesModel", "sendOpen", "(I)V"⟩, _)) 43 rfl) (al_at 12 (by decide +kernel) rfl) (al_at 889 (by decide +kernel) rfl) ⟨by decide, by decide, by decide +kernel⟩ hR
theorem ok_mo_say : rx_okF prog_12_method_8_code 6 none L_mo_say 0 L_mo_say = true := by decide +kernel
theorem V_mo_say {l : Launch} {D : va_G} {g : Nat → ClassId} {ad : Nat → Nat} {B : Nat} (had : mx_A ad B) : rx_V l D g ad B ⟨"SubscriberLinesModel", "say", "(IIII)V"⟩ prog_12_method_8_code 6 none 3 73 K_mo_say := by
  intro av x hp
  obtain ⟨a0, a1, a2, a3, a4, rfl⟩ := k_RIIII_inv hp
  have hp : a0 = 82 ∧ mo_sy x.2 a1 := hp
  have h0 : a0 = 82 := hp.1
  subst h0
  exact rx_met (k := 1) had (by decide) (Nat.le_of_ble_eq_true rfl) ok_mo_say rfl rfl 68 (fun p e s m args below meth c X => And.intro (og_mo_80_g X) (And.intro (oy_ai X) (And.intro (og_mo_89_g X) (And.intro (oy_ai X) (And.intro (og_mo_101_g X) (And.intro (oy_pa X) (And.intro (og_mo_104_g X) (And.intro (oy_pa X) (And.intro (og_mo_107_g X) (And.intro (oy_pa X) (And.intro (og_mo_89_g X) (And.intro (oy_ai X) (And.intro (oy_pa X) (And.intro (og_mo_83_g X) (And.intro (oy_ai X) (And.intro (og_mo_95_g X) (And.intro (oy_pa X) (And.intro (og_mo_98_g X) (And.intro (oy_pa X) (And.intro (cv_mo_sendOpen X (V_mo_sendOpen had) (al_at 886 (by decide +kernel) rfl) ⟨by decide, by decide⟩) (trivial))))))))))))))))))))) (S_mo_say x.1 x.2 a1 a2 a3 a4 hp.2) (E_mo_say x.1 x.2 a1 a2 a3 a4)
def mo_loseCircuits_2 : Nat → mx_M → Int32 → mx_M
  | 0, m, _ => m
  | n + 1, m, v1 =>
    if v1 < 4 then
      let m1 := my_pi m 96 (Int32.toNatClampNeg v1) 0
      let m2 := my_pi m1 97 (Int32.toNatClampNeg v1) 0
      if 0 < (m.1 96 (Int32.toNatClampNeg v1)) then
        let m3 := mo_sendOff m2 3 4 v1 (m.1 96 (Int32.toNatClampNeg v1)) 0 0
        mo_loseCircuits_2 n m3 (v1 + 1)
      else
        mo_loseCircuits_2 n m2 (v1 + 1)
    else
      m
def mo_loseCircuits (m : mx_M)  : mx_M :=
  mo_loseCircuits_2 (5) m 0
def K_mo_loseCircuits : rx_K mx := k_R (fun a0 c m => (a0 = 82, (c, mo_loseCircuits m), none))
def L_mo_loseCircuits : List (rx_E mx) := [
  (0, .iconst 0, 1, 0, 0, 0, [], kno),
  (1, .istore_n 1, 1, 0, 1, 0, [], kno),
  (2, .iload_n 1, 1, 0, 1, 0, [], kno),
  (3, .iconst 4, 1, 0, 0, 4, [], kno),
  (4, .if_icmp .ge 44, 3, 2, 32, 0, [], kno),
  (7, .aload_n 0, 1, 0, 0, 0, [], kno),
  (8, .getfield 50, 3, 7, 1, 0, [], mgr 96),
  (11, .iload_n 1, 1, 0, 1, 0, [], kno),
  (12, .iaload, 1, 7, 2, 0, [], mai),
  (13, .istore_n 2, 1, 0, 2, 0, [], kno),
  (14, .aload_n 0, 1, 0, 0, 0, [], kno),
  (15, .getfield 50, 3, 7, 1, 0, [], mgr 96),
  (18, .iload_n 1, 1, 0, 1, 0, [], kno),
  (19, .iconst 0, 1, 0, 0, 0, [], kno),
  (20, .iastore, 1, 7, 3, 0, [], mpa),
  (21, .aload_n 0, 1, 0, 0, 0, [], kno),
  (22, .getfield 53, 3, 7, 1, 0, [], mgr 97),
  (25, .iload_n 1, 1, 0, 1, 0, [], kno),
  (26, .iconst 0, 1, 0, 0, 0, [], kno),
  (27, .iastore, 1, 7, 3, 0, [], mpa),
  (28, .iload_n 2, 1, 0, 2, 0, [], kno),
  (29, .ifCond .le 13, 3, 2, 30, 0, [], kno),
  (32, .aload_n 0, 1, 0, 0, 0, [], kno),
  (33, .iconst 3, 1, 0, 0, 3, [], kno),
  (34, .iconst 4, 1, 0, 0, 4, [], kno),
  (35, .iload_n 1, 1, 0, 1, 0, [], kno),
  (36, .iload_n 2, 1, 0, 2, 0, [], kno),
  (37, .iconst 0, 1, 0, 0, 0, [], kno),
  (38, .iconst 0, 1, 0, 0, 0, [], kno),
  (39, .invokevirtual 138, 3, 7, 7, 0, [], K_mo_sendOff),
  (42, .iinc 1 1, 3, 0, 1, 1, [], kno),
  (45, .goto (-43), 3, 1, 2, 0, [], kno),
  (48, .return_, 1, 6, 0, 0, [], kno)]
def G_mo_loseCircuits (n : Nat) : rx_G := fun x ls st =>
  match ls, st with
  | [some (.ref r0), some (.int v1), o2], [] => (r0 = 82 ∧ up4 n v1, ry_v x.1 (mo_loseCircuits_2 n x.2 v1))
  | _, _ => (False, (x, none))
theorem GI_mo_loseCircuits {n : Nat} {x : mx} {ls : rx_L} {st : List Value} (h : (G_mo_loseCircuits n x ls st).1) : ∃ (r0 : Nat) (v1 : Int32) (o2 : Option Value), ls = [some (.ref r0), some (.int v1), o2] ∧ st = [] ∧ r0 = 82 ∧ up4 n v1 := by
  unfold G_mo_loseCircuits at h
  split at h
  · exact ⟨_, _, _, rfl, rfl, h⟩
  · exact False.elim h
theorem EH_mo_loseCircuits (n : Nat) (c : mx_C) (m : mx_M) (v1 : Int32) (o2 : Option Value) : rx_ev L_mo_loseCircuits [(2, G_mo_loseCircuits n)] 35 (L_mo_loseCircuits.drop 2) (c, m) [some (.ref 82), some (.int v1), o2] [] = ry_v c (mo_loseCircuits_2 (n + 1) m v1) :=
  rx_ite2 (f := ry_v c) (fun _ => rx_ite2 (f := ry_v c) (fun _ => rfl) (fun _ => rfl)) (fun _ => rfl)
theorem SH_mo_loseCircuits (n : Nat) (c : mx_C) (m : mx_M) (v1 : Int32) (o2 : Option Value) (hP : up4 (n + 1) v1) : rx_sf L_mo_loseCircuits [(2, G_mo_loseCircuits n)] 35 (L_mo_loseCircuits.drop 2) (c, m) [some (.ref 82), some (.int v1), o2] [] :=
  And.intro (fun h0 => And.intro rfl (And.intro (up4_in h0 hP) (And.intro rfl (And.intro (up4_in h0 hP) (And.intro rfl (And.intro (up4_in h0 hP) (And.intro (fun h1 => And.intro rfl (And.intro rfl (up4_1 h0 hP))) (fun h1 => And.intro rfl (up4_1 h0 hP))))))))) (fun h0 => trivial)
theorem E_mo_loseCircuits (c : mx_C) (m : mx_M)   : rx_ev L_mo_loseCircuits [(2, G_mo_loseCircuits (5))] 35 L_mo_loseCircuits (c, m) [some (.ref 82), none, none] [] = ry_v c (mo_loseCircuits m) :=
  rfl
theorem S_mo_loseCircuits (c : mx_C) (m : mx_M)   : rx_sf L_mo_loseCircuits [(2, G_mo_loseCircuits (5))] 35 L_mo_loseCircuits (c, m) [some (.ref 82), none, none] [] :=
  And.intro rfl (by decide)
theorem og_mo_50_g {p : Program} {l : Launch} {e : Env} {R : Room} {s : State} {m : MethodId} {args : Array Value} {below : List Frame} {meth : Method} {c : Code} {cc : ByteArray} {nL : Nat} {ad : Nat → Nat} {D : va_G} {g : Nat → ClassId} {B : Nat} (X : ox_C p s m args c cc nL "SubscriberLinesModel" D g ad B) : rx_OK p l e R s m args below meth c cc nL ad (mx_W D g ad B s.heap) mx_cs (.getfield 50) 3 1 (mgr 96) := oy_gr (k := 15) X (by decide) rfl (al_at 726 (by decide +kernel) rfl)
theorem og_mo_53_g {p : Program} {l : Launch} {e : Env} {R : Room} {s : State} {m : MethodId} {args : Array Value} {below : List Frame} {meth : Method} {c : Code} {cc : ByteArray} {nL : Nat} {ad : Nat → Nat} {D : va_G} {g : Nat → ClassId} {B : Nat} (X : ox_C p s m args c cc nL "SubscriberLinesModel" D g ad B) : rx_OK p l e R s m args below meth c cc nL ad (mx_W D g ad B s.heap) mx_cs (.getfield 53) 3 1 (mgr 97) := oy_gr (k := 16) X (by decide) rfl (al_at 727 (by decide +kernel) rfl)
theorem cv_mo_sendOff {p : Program} {l : Launch} {e : Env} {R : Room} {s : State} {m : MethodId} {args : Array Value} {below : List Frame} {meth : Method} {c : Code} {cc : ByteArray} {nL : Nat} {ad : Nat → Nat} {D : va_G} {g : Nat → ClassId} {B : Nat} {own : String} {idx : Nat} (X : ox_C p s m args c cc nL own D g ad B) (hV : rx_V l D g ad B ⟨"SubscriberLinesModel", "sendOff", "(IIIIII)V"⟩ prog_12_method_4_code 7 none 1 28 K_mo_sendOff) (hl : Cond.methodLink own idx ⟨"SubscriberLinesModel", "sendOff", "(IIIIII)V"⟩ ∈ al) (hR : 1 + 1 ≤ R.frames ∧ 8 + (7 + 11) + 28 ≤ R.locals) : rx_OK p l e R s m args below meth c cc nL ad (mx_W D g ad B s.heap) mx_cs (.invokevirtual idx) 3 7 (K_mo_sendOff) :=
  ox_callV (q := 9) (T := T_9) X hV (fun av x h => by obtain ⟨a0, a1, a2, a3, a4, a5, a6, rfl⟩ := k_RIIIIII_inv h; exact ⟨a0, _, rfl, by have h2 : a0 = 82 := h; rw [h2]; rfl⟩) (by decide) rfl hl (al_at 860 (by decide +kernel) rfl) (al_pr (y := (⟨"SubscriberLinesModel", "sendOff", "(IIIIII)V"⟩, _)) 36 rfl) (al_at 12 (by decide +kernel) rfl) (al_at 861 (by decide +kernel) rfl) ⟨by decide, by decide, by decide +kernel⟩ hR
theorem ok_mo_loseCircuits : rx_okF prog_12_method_11_code 3 none L_mo_loseCircuits 0 L_mo_loseCircuits = true := by decide +kernel
theorem O_mo_loseCircuits {l : Launch} {D : va_G} {g : Nat → ClassId} {ad : Nat → Nat} {B : Nat} (had : mx_A ad B) {p : Program} {e : Env} {s : State} {m : MethodId} {args : Array Value} {below : List Frame} {meth : Method} {c : Code} (X : ox_C p s m args c prog_12_method_11_code 3 "SubscriberLinesModel" D g ad B) : rx_ops p l e ({ frames := 2, cells := 0, slots := 0, locals := 54 } : Room) s m args below meth c prog_12_method_11_code 3 ad (mx_W D g ad B s.heap) mx_cs L_mo_loseCircuits :=
  And.intro (og_mo_50_g X) (And.intro (oy_ai X) (And.intro (og_mo_50_g X) (And.intro (oy_pa X) (And.intro (og_mo_53_g X) (And.intro (oy_pa X) (And.intro (cv_mo_sendOff X (V_mo_sendOff had) (al_at 858 (by decide +kernel) rfl) ⟨by decide, by decide⟩) (trivial)))))))
theorem V_mo_loseCircuits {l : Launch} {D : va_G} {g : Nat → ClassId} {ad : Nat → Nat} {B : Nat} (had : mx_A ad B) : rx_V l D g ad B ⟨"SubscriberLinesModel", "loseCircuits", "()V"⟩ prog_12_method_11_code 3 none 2 54 K_mo_loseCircuits := by
  intro av x hp
  obtain ⟨a0, rfl⟩ := k_R_inv hp
  have hp : a0 = 82 := hp
  have h0 : a0 = 82 := hp
  subst h0
  refine rx_metX (k := 2) had (by decide) (Nat.le_of_ble_eq_true rfl) fun p e s m args below meth c X hr hlk => ?_
  refine rx_walk X hr hlk ok_mo_loseCircuits (O_mo_loseCircuits had X) (cut := [(2, G_mo_loseCircuits (5))]) (rx_cc ?_ rx_c0) 35 0 rfl (S_mo_loseCircuits x.1 x.2  ) (E_mo_loseCircuits x.1 x.2  )
  refine rx_loop (G := G_mo_loseCircuits) X hr hlk ok_mo_loseCircuits (O_mo_loseCircuits had X) rx_c0 35 2 rfl (fun x ls st h => ?_) (fun n x ls st h => ?_) _
  · obtain ⟨r0, v1, o2, -, -, h3⟩ := GI_mo_loseCircuits h
    have h4 := h3.2
    omega
  · obtain ⟨r0, v1, o2, rfl, rfl, h3⟩ := GI_mo_loseCircuits h
    obtain ⟨rfl, hP⟩ := h3
    exact ⟨SH_mo_loseCircuits n x.1 x.2 v1 o2 hP, EH_mo_loseCircuits n x.1 x.2 v1 o2⟩
def mo_endTimer (m : mx_M) (a1 : Int32) : mx_M :=
  if (m.1 106 (Int32.toNatClampNeg a1)) = 0 then
    m
  else
    if (m.1 109 (Int32.toNatClampNeg a1)) = (m.1 107 (Int32.toNatClampNeg a1)) then
      m
    else
      let m1 := my_pi m 112 (Int32.toNatClampNeg a1) ((m.1 112 (Int32.toNatClampNeg a1)) - 1)
      if 0 < (m1.1 112 (Int32.toNatClampNeg a1)) then
        m1
      else
        if (m1.1 111 (Int32.toNatClampNeg a1)) = 3 then
          let m2 := mo_clear m1 a1 0
          if a1 = 0 then
            let m3 := mo_loseCircuits m2
            m3
          else
            let m4 := my_ps m2 0
            m4
        else
          let m5 := my_pi m1 111 (Int32.toNatClampNeg a1) ((m1.1 111 (Int32.toNatClampNeg a1)) + 1)
          let m6 := my_pi m5 112 (Int32.toNatClampNeg a1) (2 <<< ((m5.1 111 (Int32.toNatClampNeg a1)) &&& 31))
          let m7 := mo_transmit m6 a1 (m6.1 107 (Int32.toNatClampNeg a1))
          m7
def K_mo_endTimer : rx_K mx := k_RI (fun a0 a1 c m => (a0 = 82 ∧ mo_et m a1, (c, mo_endTimer m a1), none))
def L_mo_endTimer : List (rx_E mx) := [
  (0, .aload_n 0, 1, 0, 0, 0, [], kno),
  (1, .getfield 80, 3, 7, 1, 0, [], mgr 106),
  (4, .iload_n 1, 1, 0, 1, 0, [], kno),
  (5, .iaload, 1, 7, 2, 0, [], mai),
  (6, .ifCond .eq 18, 3, 2, 14, 0, [], kno),
  (9, .aload_n 0, 1, 0, 0, 0, [], kno),
  (10, .getfield 89, 3, 7, 1, 0, [], mgr 109),
  (13, .iload_n 1, 1, 0, 1, 0, [], kno),
  (14, .iaload, 1, 7, 2, 0, [], mai),
  (15, .aload_n 0, 1, 0, 0, 0, [], kno),
  (16, .getfield 83, 3, 7, 1, 0, [], mgr 107),
  (19, .iload_n 1, 1, 0, 1, 0, [], kno),
  (20, .iaload, 1, 7, 2, 0, [], mai),
  (21, .if_icmp .ne 4, 3, 2, 15, 0, [], kno),
  (24, .return_, 1, 6, 0, 0, [], kno),
  (25, .aload_n 0, 1, 0, 0, 0, [], kno),
  (26, .getfield 98, 3, 7, 1, 0, [], mgr 112),
  (29, .iload_n 1, 1, 0, 1, 0, [], kno),
  (30, .dup2, 1, 0, 0, 0, [], kno),
  (31, .iaload, 1, 7, 2, 0, [], mai),
  (32, .iconst 1, 1, 0, 0, 1, [], kno),
  (33, .isub, 1, 0, 0, 0, [], kno),
  (34, .iastore, 1, 7, 3, 0, [], mpa),
  (35, .aload_n 0, 1, 0, 0, 0, [], kno),
  (36, .getfield 98, 3, 7, 1, 0, [], mgr 112),
  (39, .iload_n 1, 1, 0, 1, 0, [], kno),
  (40, .iaload, 1, 7, 2, 0, [], mai),
  (41, .ifCond .le 4, 3, 2, 29, 0, [], kno),
  (44, .return_, 1, 6, 0, 0, [], kno),
  (45, .aload_n 0, 1, 0, 0, 0, [], kno),
  (46, .getfield 95, 3, 7, 1, 0, [], mgr 111),
  (49, .iload_n 1, 1, 0, 1, 0, [], kno),
  (50, .iaload, 1, 7, 2, 0, [], mai),
  (51, .iconst 3, 1, 0, 0, 3, [], kno),
  (52, .if_icmp .ne 26, 3, 2, 48, 0, [], kno),
  (55, .aload_n 0, 1, 0, 0, 0, [], kno),
  (56, .iload_n 1, 1, 0, 1, 0, [], kno),
  (57, .iconst 0, 1, 0, 0, 0, [], kno),
  (58, .invokevirtual 129, 3, 7, 3, 0, [], K_mo_clear),
  (61, .iload_n 1, 1, 0, 1, 0, [], kno),
  (62, .ifCond .ne 10, 3, 2, 44, 0, [], kno),
  (65, .aload_n 0, 1, 0, 0, 0, [], kno),
  (66, .invokevirtual 132, 3, 7, 1, 0, [], K_mo_loseCircuits),
  (69, .goto 8, 3, 1, 47, 0, [], kno),
  (72, .aload_n 0, 1, 0, 0, 0, [], kno),
  (73, .iconst 0, 1, 0, 0, 0, [], kno),
  (74, .putfield 135, 3, 7, 2, 0, [], mps),
  (77, .return_, 1, 6, 0, 0, [], kno),
  (78, .aload_n 0, 1, 0, 0, 0, [], kno),
  (79, .getfield 95, 3, 7, 1, 0, [], mgr 111),
  (82, .iload_n 1, 1, 0, 1, 0, [], kno),
  (83, .dup2, 1, 0, 0, 0, [], kno),
  (84, .iaload, 1, 7, 2, 0, [], mai),
  (85, .iconst 1, 1, 0, 0, 1, [], kno),
  (86, .iadd, 1, 0, 0, 0, [], kno),
  (87, .iastore, 1, 7, 3, 0, [], mpa),
  (88, .aload_n 0, 1, 0, 0, 0, [], kno),
  (89, .getfield 98, 3, 7, 1, 0, [], mgr 112),
  (92, .iload_n 1, 1, 0, 1, 0, [], kno),
  (93, .iconst 2, 1, 0, 0, 2, [], kno),
  (94, .aload_n 0, 1, 0, 0, 0, [], kno),
  (95, .getfield 95, 3, 7, 1, 0, [], mgr 111),
  (98, .iload_n 1, 1, 0, 1, 0, [], kno),
  (99, .iaload, 1, 7, 2, 0, [], mai),
  (100, .ishl, 1, 0, 0, 0, [], kno),
  (101, .iastore, 1, 7, 3, 0, [], mpa),
  (102, .aload_n 0, 1, 0, 0, 0, [], kno),
  (103, .iload_n 1, 1, 0, 1, 0, [], kno),
  (104, .aload_n 0, 1, 0, 0, 0, [], kno),
  (105, .getfield 83, 3, 7, 1, 0, [], mgr 107),
  (108, .iload_n 1, 1, 0, 1, 0, [], kno),
  (109, .iaload, 1, 7, 2, 0, [], mai),
  (110, .invokevirtual 125, 3, 7, 3, 0, [], K_mo_transmit),
  (113, .return_, 1, 6, 0, 0, [], kno)]
theorem E_mo_endTimer (c : mx_C) (m : mx_M) (a1 : Int32)  : rx_ev L_mo_endTimer [] 76 L_mo_endTimer (c, m) [some (.ref 82), some (.int a1)] [] = ry_v c (mo_endTimer m a1) :=
  rx_ite2 (f := ry_v c) (fun _ => rfl) (fun _ => rx_ite2 (f := ry_v c) (fun _ => rfl) (fun _ => rx_ite2 (f := ry_v c) (fun _ => rfl) (fun _ => rx_ite2 (f := ry_v c) (fun _ => rx_ite2 (f := ry_v c) (fun _ => rfl) (fun _ => rfl)) (fun _ => rfl))))
theorem S_mo_endTimer (c : mx_C) (m : mx_M) (a1 : Int32) (he : mo_et m a1) : rx_sf L_mo_endTimer [] 76 L_mo_endTimer (c, m) [some (.ref 82), some (.int a1)] [] :=
  And.intro rfl (And.intro he.1 (And.intro (fun h0 => trivial) (fun h0 => And.intro rfl (And.intro he.1 (And.intro rfl (And.intro he.1 (And.intro (fun h1 => trivial) (fun h1 => And.intro rfl (And.intro he.1 (And.intro he.1 (And.intro rfl (And.intro he.1 (And.intro (fun h2 => trivial) (fun h2 => And.intro rfl (And.intro he.1 (And.intro (fun h3 => And.intro (And.intro rfl he.1) (And.intro (fun h4 => And.intro rfl (trivial)) (fun h4 => And.intro (And.intro rfl sc_z) (trivial)))) (fun h3 => And.intro rfl (And.intro he.1 (And.intro he.1 (And.intro rfl (And.intro rfl (And.intro he.1 (And.intro he.1 (And.intro rfl (And.intro he.1 (And.intro (And.intro rfl (mo_et_tr he (by simp only [my_pi]; repeat (first | rw [mx_up_eq] | rw [mx_up_ne _ _ (by omega)])))) (trivial)))))))))))))))))))))))))))

theorem cv_mo_clear {p : Program} {l : Launch} {e : Env} {R : Room} {s : State} {m : MethodId} {args : Array Value} {below : List Frame} {meth : Method} {c : Code} {cc : ByteArray} {nL : Nat} {ad : Nat → Nat} {D : va_G} {g : Nat → ClassId} {B : Nat} {own : String} {idx : Nat} (X : ox_C p s m args c cc nL own D g ad B) (hV : rx_V l D g ad B ⟨"SubscriberLinesModel", "clear", "(II)V"⟩ prog_12_method_7_code 3 none 0 0 K_mo_clear) (hl : Cond.methodLink own idx ⟨"SubscriberLinesModel", "clear", "(II)V"⟩ ∈ al) (hR : 0 + 1 ≤ R.frames ∧ 8 + (3 + 11) + 0 ≤ R.locals) : rx_OK p l e R s m args below meth c cc nL ad (mx_W D g ad B s.heap) mx_cs (.invokevirtual idx) 3 3 (K_mo_clear) :=
  ox_callV (q := 9) (T := T_9) X hV (fun av x h => by obtain ⟨a0, a1, a2, rfl⟩ := k_RII_inv h; exact ⟨a0, _, rfl, by have h2 : a0 = 82 := h.1; rw [h2]; rfl⟩) (by decide) rfl hl (al_at 884 (by decide +kernel) rfl) (al_pr (y := (⟨"SubscriberLinesModel", "clear", "(II)V"⟩, _)) 42 rfl) (al_at 12 (by decide +kernel) rfl) (al_at 885 (by decide +kernel) rfl) ⟨by decide, by decide, by decide +kernel⟩ hR
theorem cv_mo_loseCircuits {p : Program} {l : Launch} {e : Env} {R : Room} {s : State} {m : MethodId} {args : Array Value} {below : List Frame} {meth : Method} {c : Code} {cc : ByteArray} {nL : Nat} {ad : Nat → Nat} {D : va_G} {g : Nat → ClassId} {B : Nat} {own : String} {idx : Nat} (X : ox_C p s m args c cc nL own D g ad B) (hV : rx_V l D g ad B ⟨"SubscriberLinesModel", "loseCircuits", "()V"⟩ prog_12_method_11_code 3 none 2 54 K_mo_loseCircuits) (hl : Cond.methodLink own idx ⟨"SubscriberLinesModel", "loseCircuits", "()V"⟩ ∈ al) (hR : 2 + 1 ≤ R.frames ∧ 8 + (3 + 11) + 54 ≤ R.locals) : rx_OK p l e R s m args below meth c cc nL ad (mx_W D g ad B s.heap) mx_cs (.invokevirtual idx) 3 1 (K_mo_loseCircuits) :=
  ox_callV (q := 9) (T := T_9) X hV (fun av x h => by obtain ⟨a0, rfl⟩ := k_R_inv h; exact ⟨a0, _, rfl, by have h2 : a0 = 82 := h; rw [h2]; rfl⟩) (by decide) rfl hl (al_at 963 (by decide +kernel) rfl) (al_pr (y := (⟨"SubscriberLinesModel", "loseCircuits", "()V"⟩, _)) 61 rfl) (al_at 12 (by decide +kernel) rfl) (al_at 964 (by decide +kernel) rfl) ⟨by decide, by decide, by decide +kernel⟩ hR
theorem og_mo_135_p {p : Program} {l : Launch} {e : Env} {R : Room} {s : State} {m : MethodId} {args : Array Value} {below : List Frame} {meth : Method} {c : Code} {cc : ByteArray} {nL : Nat} {ad : Nat → Nat} {D : va_G} {g : Nat → ClassId} {B : Nat} (X : ox_C p s m args c cc nL "SubscriberLinesModel" D g ad B) : rx_OK p l e R s m args below meth c cc nL ad (mx_W D g ad B s.heap) mx_cs (.putfield 135) 3 2 (mps) := oy_ps X (al_at 729 (by decide +kernel) rfl)
theorem ok_mo_endTimer : rx_okF prog_12_method_10_code 2 none L_mo_endTimer 0 L_mo_endTimer = true := by decide +kernel
theorem V_mo_endTimer {l : Launch} {D : va_G} {g : Nat → ClassId} {ad : Nat → Nat} {B : Nat} (had : mx_A ad B) : rx_V l D g ad B ⟨"SubscriberLinesModel", "endTimer", "(I)V"⟩ prog_12_method_10_code 2 none 3 76 K_mo_endTimer := by
  intro av x hp
  obtain ⟨a0, a1, rfl⟩ := k_RI_inv hp
  have hp : a0 = 82 ∧ mo_et x.2 a1 := hp
  have h0 : a0 = 82 := hp.1
  subst h0
  exact rx_met (k := 0) had (by decide) (Nat.le_of_ble_eq_true rfl) ok_mo_endTimer rfl rfl 76 (fun p e s m args below meth c X => And.intro (og_mo_80_g X) (And.intro (oy_ai X) (And.intro (og_mo_89_g X) (And.intro (oy_ai X) (And.intro (og_mo_83_g X) (And.intro (oy_ai X) (And.intro (og_mo_98_g X) (And.intro (oy_ai X) (And.intro (oy_pa X) (And.intro (og_mo_98_g X) (And.intro (oy_ai X) (And.intro (og_mo_95_g X) (And.intro (oy_ai X) (And.intro (cv_mo_clear X (V_mo_clear had) (al_at 882 (by decide +kernel) rfl) ⟨by decide, by decide⟩) (And.intro (cv_mo_loseCircuits X (V_mo_loseCircuits had) (al_at 961 (by decide +kernel) rfl) ⟨by decide, by decide⟩) (And.intro (og_mo_135_p X) (And.intro (og_mo_95_g X) (And.intro (oy_ai X) (And.intro (oy_pa X) (And.intro (og_mo_98_g X) (And.intro (og_mo_95_g X) (And.intro (oy_ai X) (And.intro (oy_pa X) (And.intro (og_mo_83_g X) (And.intro (oy_ai X) (And.intro (cv_mo_transmit X (V_mo_transmit had) (al_at 890 (by decide +kernel) rfl) ⟨by decide, by decide⟩) (trivial))))))))))))))))))))))))))) (S_mo_endTimer x.1 x.2 a1 hp.2) (E_mo_endTimer x.1 x.2 a1)
def mo_circuitOf_4 : Nat → mx_M → Int32 → Int32 → Int32 → Int32
  | 0, m, _, _, _ => 0
  | n + 1, m, v1, v2, v3 =>
    if v3 < 4 then
      if 0 < v1 then
        if (m.1 96 (Int32.toNatClampNeg v3)) = v1 then
          mo_circuitOf_4 n m v1 v3 (v3 + 1)
        else
          mo_circuitOf_4 n m v1 v2 (v3 + 1)
      else
        mo_circuitOf_4 n m v1 v2 (v3 + 1)
    else
      v2
def mo_circuitOf (m : mx_M) (a1 : Int32) : Int32 :=
  mo_circuitOf_4 (5) m a1 (-1) 0
def K_mo_circuitOf : rx_K mx := k_RI (fun a0 a1 c m => (a0 = 82, (c, m), some (.int (mo_circuitOf m a1))))
def L_mo_circuitOf : List (rx_E mx) := [
  (0, .iconst (-1), 1, 0, 0, (-1), [], kno),
  (1, .istore_n 2, 1, 0, 2, 0, [], kno),
  (2, .iconst 0, 1, 0, 0, 0, [], kno),
  (3, .istore_n 3, 1, 0, 3, 0, [], kno),
  (4, .iload_n 3, 1, 0, 3, 0, [], kno),
  (5, .iconst 4, 1, 0, 0, 4, [], kno),
  (6, .if_icmp .ge 29, 3, 2, 21, 0, [], kno),
  (9, .iload_n 1, 1, 0, 1, 0, [], kno),
  (10, .ifCond .le 17, 3, 2, 17, 0, [], kno),
  (13, .aload_n 0, 1, 0, 0, 0, [], kno),
  (14, .getfield 50, 3, 7, 1, 0, [], mgr 96),
  (17, .iload_n 3, 1, 0, 3, 0, [], kno),
  (18, .iaload, 1, 7, 2, 0, [], mai),
  (19, .iload_n 1, 1, 0, 1, 0, [], kno),
  (20, .if_icmp .ne 7, 3, 2, 17, 0, [], kno),
  (23, .iload_n 3, 1, 0, 3, 0, [], kno),
  (24, .goto 4, 3, 1, 18, 0, [], kno),
  (27, .iload_n 2, 1, 0, 2, 0, [], kno),
  (28, .istore_n 2, 1, 0, 2, 0, [], kno),
  (29, .iinc 3 1, 3, 0, 3, 1, [], kno),
  (32, .goto (-28), 3, 1, 4, 0, [], kno),
  (35, .iload_n 2, 1, 0, 2, 0, [], kno),
  (36, .ireturn, 1, 5, 0, 0, [], kno)]
def G_mo_circuitOf (n : Nat) : rx_G := fun x ls st =>
  match ls, st with
  | [some (.ref r0), some (.int v1), some (.int v2), some (.int v3)], [] => (r0 = 82 ∧ up4 n v3, ry_p x.1 x.2 (mo_circuitOf_4 n x.2 v1 v2 v3))
  | _, _ => (False, (x, none))
theorem GI_mo_circuitOf {n : Nat} {x : mx} {ls : rx_L} {st : List Value} (h : (G_mo_circuitOf n x ls st).1) : ∃ (r0 : Nat) (v1 : Int32) (v2 : Int32) (v3 : Int32), ls = [some (.ref r0), some (.int v1), some (.int v2), some (.int v3)] ∧ st = [] ∧ r0 = 82 ∧ up4 n v3 := by
  unfold G_mo_circuitOf at h
  split at h
  · exact ⟨_, _, _, _, rfl, rfl, h⟩
  · exact False.elim h
theorem EH_mo_circuitOf (n : Nat) (c : mx_C) (m : mx_M) (v1 : Int32) (v2 : Int32) (v3 : Int32) : rx_ev L_mo_circuitOf [(4, G_mo_circuitOf n)] 25 (L_mo_circuitOf.drop 4) (c, m) [some (.ref 82), some (.int v1), some (.int v2), some (.int v3)] [] = ry_p c m (mo_circuitOf_4 (n + 1) m v1 v2 v3) :=
  rx_ite2 (f := ry_p c m) (fun _ => rx_ite2 (f := ry_p c m) (fun _ => rx_ite2 (f := ry_p c m) (fun _ => rfl) (fun _ => rfl)) (fun _ => rfl)) (fun _ => rfl)
theorem SH_mo_circuitOf (n : Nat) (c : mx_C) (m : mx_M) (v1 : Int32) (v2 : Int32) (v3 : Int32) (hP : up4 (n + 1) v3) : rx_sf L_mo_circuitOf [(4, G_mo_circuitOf n)] 25 (L_mo_circuitOf.drop 4) (c, m) [some (.ref 82), some (.int v1), some (.int v2), some (.int v3)] [] :=
  And.intro (fun h0 => And.intro (fun h1 => And.intro rfl (And.intro (up4_in h0 hP) (And.intro (fun h2 => And.intro rfl (up4_1 h0 hP)) (fun h2 => And.intro rfl (up4_1 h0 hP))))) (fun h1 => And.intro rfl (up4_1 h0 hP))) (fun h0 => trivial)
theorem E_mo_circuitOf (c : mx_C) (m : mx_M) (a1 : Int32)  : rx_ev L_mo_circuitOf [(4, G_mo_circuitOf (5))] 25 L_mo_circuitOf (c, m) [some (.ref 82), some (.int a1), none, none] [] = ry_p c m (mo_circuitOf m a1) :=
  rfl
theorem S_mo_circuitOf (c : mx_C) (m : mx_M) (a1 : Int32)  : rx_sf L_mo_circuitOf [(4, G_mo_circuitOf (5))] 25 L_mo_circuitOf (c, m) [some (.ref 82), some (.int a1), none, none] [] :=
  And.intro rfl (by decide)
theorem ok_mo_circuitOf : rx_okF prog_12_method_13_code 4 (some .int) L_mo_circuitOf 0 L_mo_circuitOf = true := by decide +kernel
theorem O_mo_circuitOf {l : Launch} {D : va_G} {g : Nat → ClassId} {ad : Nat → Nat} {B : Nat} (had : mx_A ad B) {p : Program} {e : Env} {s : State} {m : MethodId} {args : Array Value} {below : List Frame} {meth : Method} {c : Code} (X : ox_C p s m args c prog_12_method_13_code 4 "SubscriberLinesModel" D g ad B) : rx_ops p l e ({ frames := 0, cells := 0, slots := 0, locals := 0 } : Room) s m args below meth c prog_12_method_13_code 4 ad (mx_W D g ad B s.heap) mx_cs L_mo_circuitOf :=
  And.intro (og_mo_50_g X) (And.intro (oy_ai X) (trivial))
theorem V_mo_circuitOf {l : Launch} {D : va_G} {g : Nat → ClassId} {ad : Nat → Nat} {B : Nat} (had : mx_A ad B) : rx_V l D g ad B ⟨"SubscriberLinesModel", "circuitOf", "(I)I"⟩ prog_12_method_13_code 4 (some .int) 0 0 K_mo_circuitOf := by
  intro av x hp
  obtain ⟨a0, a1, rfl⟩ := k_RI_inv hp
  have hp : a0 = 82 := hp
  have h0 : a0 = 82 := hp
  subst h0
  refine rx_metX (k := 2) had (by decide) (Nat.le_of_ble_eq_true rfl) fun p e s m args below meth c X hr hlk => ?_
  refine rx_walk X hr hlk ok_mo_circuitOf (O_mo_circuitOf had X) (cut := [(4, G_mo_circuitOf (5))]) (rx_cc ?_ rx_c0) 25 0 rfl (S_mo_circuitOf x.1 x.2 a1 ) (E_mo_circuitOf x.1 x.2 a1 )
  refine rx_loop (G := G_mo_circuitOf) X hr hlk ok_mo_circuitOf (O_mo_circuitOf had X) rx_c0 25 4 rfl (fun x ls st h => ?_) (fun n x ls st h => ?_) _
  · obtain ⟨r0, v1, v2, v3, -, -, h3⟩ := GI_mo_circuitOf h
    have h4 := h3.2
    omega
  · obtain ⟨r0, v1, v2, v3, rfl, rfl, h3⟩ := GI_mo_circuitOf h
    obtain ⟨rfl, hP⟩ := h3
    exact ⟨SH_mo_circuitOf n x.1 x.2 v1 v2 v3 hP, EH_mo_circuitOf n x.1 x.2 v1 v2 v3⟩
theorem mo_ses {n : Nat} {v : Int32} {q : Fin 5} (h : v < Int32.ofNat q.val) (hP : up4 (n + 1) v) : vp_in v 4 ∧ up4 n (v + 1) := up4_s h hP
def mo_sessionOf_4 : Nat → mx_M → Int32 → Int32 → Int32 → Int32
  | 0, m, _, _, _ => 0
  | n + 1, m, v1, v2, v3 =>
    if v3 < (Int32.ofNat m.2.2.val) then
      if (m.1 98 (Int32.toNatClampNeg v3)) = v1 then
        mo_sessionOf_4 n m v1 v3 (v3 + 1)
      else
        mo_sessionOf_4 n m v1 v2 (v3 + 1)
    else
      v2
def mo_sessionOf (m : mx_M) (a1 : Int32) : Int32 :=
  mo_sessionOf_4 (5) m a1 (-1) 0
def K_mo_sessionOf : rx_K mx := k_RI (fun a0 a1 c m => (a0 = 82, (c, m), some (.int (mo_sessionOf m a1))))
def L_mo_sessionOf : List (rx_E mx) := [
  (0, .iconst (-1), 1, 0, 0, (-1), [], kno),
  (1, .istore_n 2, 1, 0, 2, 0, [], kno),
  (2, .iconst 0, 1, 0, 0, 0, [], kno),
  (3, .istore_n 3, 1, 0, 3, 0, [], kno),
  (4, .iload_n 3, 1, 0, 3, 0, [], kno),
  (5, .aload_n 0, 1, 0, 0, 0, [], kno),
  (6, .getfield 135, 3, 7, 1, 0, [], mgs),
  (9, .if_icmp .ge 25, 3, 2, 20, 0, [], kno),
  (12, .aload_n 0, 1, 0, 0, 0, [], kno),
  (13, .getfield 56, 3, 7, 1, 0, [], mgr 98),
  (16, .iload_n 3, 1, 0, 3, 0, [], kno),
  (17, .iaload, 1, 7, 2, 0, [], mai),
  (18, .iload_n 1, 1, 0, 1, 0, [], kno),
  (19, .if_icmp .ne 7, 3, 2, 16, 0, [], kno),
  (22, .iload_n 3, 1, 0, 3, 0, [], kno),
  (23, .goto 4, 3, 1, 17, 0, [], kno),
  (26, .iload_n 2, 1, 0, 2, 0, [], kno),
  (27, .istore_n 2, 1, 0, 2, 0, [], kno),
  (28, .iinc 3 1, 3, 0, 3, 1, [], kno),
  (31, .goto (-27), 3, 1, 4, 0, [], kno),
  (34, .iload_n 2, 1, 0, 2, 0, [], kno),
  (35, .ireturn, 1, 5, 0, 0, [], kno)]
def G_mo_sessionOf (n : Nat) : rx_G := fun x ls st =>
  match ls, st with
  | [some (.ref r0), some (.int v1), some (.int v2), some (.int v3)], [] => (r0 = 82 ∧ up4 n v3, ry_p x.1 x.2 (mo_sessionOf_4 n x.2 v1 v2 v3))
  | _, _ => (False, (x, none))
theorem GI_mo_sessionOf {n : Nat} {x : mx} {ls : rx_L} {st : List Value} (h : (G_mo_sessionOf n x ls st).1) : ∃ (r0 : Nat) (v1 : Int32) (v2 : Int32) (v3 : Int32), ls = [some (.ref r0), some (.int v1), some (.int v2), some (.int v3)] ∧ st = [] ∧ r0 = 82 ∧ up4 n v3 := by
  unfold G_mo_sessionOf at h
  split at h
  · exact ⟨_, _, _, _, rfl, rfl, h⟩
  · exact False.elim h
theorem EH_mo_sessionOf (n : Nat) (c : mx_C) (m : mx_M) (v1 : Int32) (v2 : Int32) (v3 : Int32) : rx_ev L_mo_sessionOf [(4, G_mo_sessionOf n)] 24 (L_mo_sessionOf.drop 4) (c, m) [some (.ref 82), some (.int v1), some (.int v2), some (.int v3)] [] = ry_p c m (mo_sessionOf_4 (n + 1) m v1 v2 v3) :=
  rx_ite2 (f := ry_p c m) (fun _ => rx_ite2 (f := ry_p c m) (fun _ => rfl) (fun _ => rfl)) (fun _ => rfl)
theorem SH_mo_sessionOf (n : Nat) (c : mx_C) (m : mx_M) (v1 : Int32) (v2 : Int32) (v3 : Int32) (hP : up4 (n + 1) v3) : rx_sf L_mo_sessionOf [(4, G_mo_sessionOf n)] 24 (L_mo_sessionOf.drop 4) (c, m) [some (.ref 82), some (.int v1), some (.int v2), some (.int v3)] [] :=
  And.intro rfl (And.intro (fun h0 => And.intro rfl (And.intro (mo_ses h0 hP).1 (And.intro (fun h1 => And.intro rfl (mo_ses h0 hP).2) (fun h1 => And.intro rfl (mo_ses h0 hP).2)))) (fun h0 => trivial))
theorem E_mo_sessionOf (c : mx_C) (m : mx_M) (a1 : Int32)  : rx_ev L_mo_sessionOf [(4, G_mo_sessionOf (5))] 24 L_mo_sessionOf (c, m) [some (.ref 82), some (.int a1), none, none] [] = ry_p c m (mo_sessionOf m a1) :=
  rfl
theorem S_mo_sessionOf (c : mx_C) (m : mx_M) (a1 : Int32)  : rx_sf L_mo_sessionOf [(4, G_mo_sessionOf (5))] 24 L_mo_sessionOf (c, m) [some (.ref 82), some (.int a1), none, none] [] :=
  And.intro rfl (by decide)
theorem og_mo_135_g {p : Program} {l : Launch} {e : Env} {R : Room} {s : State} {m : MethodId} {args : Array Value} {below : List Frame} {meth : Method} {c : Code} {cc : ByteArray} {nL : Nat} {ad : Nat → Nat} {D : va_G} {g : Nat → ClassId} {B : Nat} (X : ox_C p s m args c cc nL "SubscriberLinesModel" D g ad B) : rx_OK p l e R s m args below meth c cc nL ad (mx_W D g ad B s.heap) mx_cs (.getfield 135) 3 1 (mgs) := oy_gs X (al_at 729 (by decide +kernel) rfl)
theorem og_mo_56_g {p : Program} {l : Launch} {e : Env} {R : Room} {s : State} {m : MethodId} {args : Array Value} {below : List Frame} {meth : Method} {c : Code} {cc : ByteArray} {nL : Nat} {ad : Nat → Nat} {D : va_G} {g : Nat → ClassId} {B : Nat} (X : ox_C p s m args c cc nL "SubscriberLinesModel" D g ad B) : rx_OK p l e R s m args below meth c cc nL ad (mx_W D g ad B s.heap) mx_cs (.getfield 56) 3 1 (mgr 98) := oy_gr (k := 19) X (by decide) rfl (al_at 730 (by decide +kernel) rfl)
theorem ok_mo_sessionOf : rx_okF prog_12_method_20_code 4 (some .int) L_mo_sessionOf 0 L_mo_sessionOf = true := by decide +kernel
theorem O_mo_sessionOf {l : Launch} {D : va_G} {g : Nat → ClassId} {ad : Nat → Nat} {B : Nat} (had : mx_A ad B) {p : Program} {e : Env} {s : State} {m : MethodId} {args : Array Value} {below : List Frame} {meth : Method} {c : Code} (X : ox_C p s m args c prog_12_method_20_code 4 "SubscriberLinesModel" D g ad B) : rx_ops p l e ({ frames := 0, cells := 0, slots := 0, locals := 0 } : Room) s m args below meth c prog_12_method_20_code 4 ad (mx_W D g ad B s.heap) mx_cs L_mo_sessionOf :=
  And.intro (og_mo_135_g X) (And.intro (og_mo_56_g X) (And.intro (oy_ai X) (trivial)))
theorem V_mo_sessionOf {l : Launch} {D : va_G} {g : Nat → ClassId} {ad : Nat → Nat} {B : Nat} (had : mx_A ad B) : rx_V l D g ad B ⟨"SubscriberLinesModel", "sessionOf", "(I)I"⟩ prog_12_method_20_code 4 (some .int) 0 0 K_mo_sessionOf := by
  intro av x hp
  obtain ⟨a0, a1, rfl⟩ := k_RI_inv hp
  have hp : a0 = 82 := hp
  have h0 : a0 = 82 := hp
  subst h0
  refine rx_metX (k := 2) had (by decide) (Nat.le_of_ble_eq_true rfl) fun p e s m args below meth c X hr hlk => ?_
  refine rx_walk X hr hlk ok_mo_sessionOf (O_mo_sessionOf had X) (cut := [(4, G_mo_sessionOf (5))]) (rx_cc ?_ rx_c0) 24 0 rfl (S_mo_sessionOf x.1 x.2 a1 ) (E_mo_sessionOf x.1 x.2 a1 )
  refine rx_loop (G := G_mo_sessionOf) X hr hlk ok_mo_sessionOf (O_mo_sessionOf had X) rx_c0 24 4 rfl (fun x ls st h => ?_) (fun n x ls st h => ?_) _
  · obtain ⟨r0, v1, v2, v3, -, -, h3⟩ := GI_mo_sessionOf h
    have h4 := h3.2
    omega
  · obtain ⟨r0, v1, v2, v3, rfl, rfl, h3⟩ := GI_mo_sessionOf h
    obtain ⟨rfl, hP⟩ := h3
    exact ⟨SH_mo_sessionOf n x.1 x.2 v1 v2 v3 hP, EH_mo_sessionOf n x.1 x.2 v1 v2 v3⟩
def mo_es (m : mx_M) (v : Int32) : Prop := 0 ≤ v.toInt ∧ v.toInt < (m.2.2.val : Int)
abbrev mo_eP (n : Nat) (v : Int32) (q : Fin 5) : Prop := 0 ≤ v.toInt ∧ v.toInt ≤ 4 ∧ 4 < (n : Int) + v.toInt ∧ q.val ≤ 3
theorem mo_eP1 {n : Nat} {v : Int32} {q : Fin 5} (h : v < Int32.ofNat q.val) (hP : mo_eP (n + 1) v q) : (vp_in v 4 ∧ vp_in (v + 1) 4) ∧ mo_eP n (v + 1) q := by
  obtain ⟨p1, p2, p3, p4⟩ := hP
  rw [i_lt, i_of _ (by omega)] at h
  have e : (v + 1).toInt = v.toInt + 1 := i_add (show _ ≤ v.toInt + 1 by omega) (show v.toInt + 1 < _ by omega)
  refine ⟨⟨by rw [i_in]; omega, by rw [i_in, e]; omega⟩, ?_⟩
  unfold mo_eP
  rw [e]
  omega
theorem mo_es1 {m : mx_M} {v : Int32} (h : mo_es m v) : vp_in (Int32.ofNat m.2.2.val - 1) 5 ∧ mo_eP 6 v (my_ps m (Int32.ofNat m.2.2.val - 1)).2.2 := by
  have hq := m.2.2.isLt
  unfold mo_es at h
  refine ⟨sc_dec (by omega), h.1, by omega, by omega, ?_⟩
  show (Int32.ofNat m.2.2.val - 1).toNatClampNeg % 5 ≤ 3
  rw [sc_nat (by omega), Nat.mod_eq_of_lt (by omega)]
  omega
def mo_endSession_12 : Nat → mx_M → Int32 → Int32 → mx_M
  | 0, m, _, _ => m
  | n + 1, m, v1, v2 =>
    if v2 < (Int32.ofNat m.2.2.val) then
      let m1 := my_pi m 98 (Int32.toNatClampNeg v2) (m.1 98 (Int32.toNatClampNeg (v2 + 1)))
      let m2 := my_pi m1 99 (Int32.toNatClampNeg v2) (m1.1 99 (Int32.toNatClampNeg (v2 + 1)))
      let m3 := my_pi m2 100 (Int32.toNatClampNeg v2) (m2.1 100 (Int32.toNatClampNeg (v2 + 1)))
      let m4 := my_pi m3 101 (Int32.toNatClampNeg v2) (m3.1 101 (Int32.toNatClampNeg (v2 + 1)))
      let m5 := my_pi m4 102 (Int32.toNatClampNeg v2) (m4.1 102 (Int32.toNatClampNeg (v2 + 1)))
      mo_endSession_12 n m5 v1 (v2 + 1)
    else
      m
def mo_endSession (m : mx_M) (a1 : Int32) : mx_M :=
  let m1 := my_ps m ((Int32.ofNat m.2.2.val) - 1)
  mo_endSession_12 (6) m1 a1 a1
def K_mo_endSession : rx_K mx := k_RI (fun a0 a1 c m => (a0 = 82 ∧ mo_es m a1, (c, mo_endSession m a1), none))
def L_mo_endSession : List (rx_E mx) := [
  (0, .aload_n 0, 1, 0, 0, 0, [], kno),
  (1, .dup, 1, 0, 0, 0, [], kno),
  (2, .getfield 135, 3, 7, 1, 0, [], mgs),
  (5, .iconst 1, 1, 0, 0, 1, [], kno),
  (6, .isub, 1, 0, 0, 0, [], kno),
  (7, .putfield 135, 3, 7, 2, 0, [], mps),
  (10, .iload_n 1, 1, 0, 1, 0, [], kno),
  (11, .istore_n 2, 1, 0, 2, 0, [], kno),
  (12, .iload_n 2, 1, 0, 2, 0, [], kno),
  (13, .aload_n 0, 1, 0, 0, 0, [], kno),
  (14, .getfield 135, 3, 7, 1, 0, [], mgs),
  (17, .if_icmp .ge 79, 3, 2, 64, 0, [], kno),
  (20, .aload_n 0, 1, 0, 0, 0, [], kno),
  (21, .getfield 56, 3, 7, 1, 0, [], mgr 98),
  (24, .iload_n 2, 1, 0, 2, 0, [], kno),
  (25, .aload_n 0, 1, 0, 0, 0, [], kno),
  (26, .getfield 56, 3, 7, 1, 0, [], mgr 98),
  (29, .iload_n 2, 1, 0, 2, 0, [], kno),
  (30, .iconst 1, 1, 0, 0, 1, [], kno),
  (31, .iadd, 1, 0, 0, 0, [], kno),
  (32, .iaload, 1, 7, 2, 0, [], mai),
  (33, .iastore, 1, 7, 3, 0, [], mpa),
  (34, .aload_n 0, 1, 0, 0, 0, [], kno),
  (35, .getfield 59, 3, 7, 1, 0, [], mgr 99),
  (38, .iload_n 2, 1, 0, 2, 0, [], kno),
  (39, .aload_n 0, 1, 0, 0, 0, [], kno),
  (40, .getfield 59, 3, 7, 1, 0, [], mgr 99),
  (43, .iload_n 2, 1, 0, 2, 0, [], kno),
  (44, .iconst 1, 1, 0, 0, 1, [], kno),
  (45, .iadd, 1, 0, 0, 0, [], kno),
  (46, .iaload, 1, 7, 2, 0, [], mai),
  (47, .iastore, 1, 7, 3, 0, [], mpa),
  (48, .aload_n 0, 1, 0, 0, 0, [], kno),
  (49, .getfield 62, 3, 7, 1, 0, [], mgr 100),
  (52, .iload_n 2, 1, 0, 2, 0, [], kno),
  (53, .aload_n 0, 1, 0, 0, 0, [], kno),
  (54, .getfield 62, 3, 7, 1, 0, [], mgr 100),
  (57, .iload_n 2, 1, 0, 2, 0, [], kno),
  (58, .iconst 1, 1, 0, 0, 1, [], kno),
  (59, .iadd, 1, 0, 0, 0, [], kno),
  (60, .iaload, 1, 7, 2, 0, [], mai),
  (61, .iastore, 1, 7, 3, 0, [], mpa),
  (62, .aload_n 0, 1, 0, 0, 0, [], kno),
  (63, .getfield 65, 3, 7, 1, 0, [], mgr 101),
  (66, .iload_n 2, 1, 0, 2, 0, [], kno),
  (67, .aload_n 0, 1, 0, 0, 0, [], kno),
  (68, .getfield 65, 3, 7, 1, 0, [], mgr 101),
  (71, .iload_n 2, 1, 0, 2, 0, [], kno),
  (72, .iconst 1, 1, 0, 0, 1, [], kno),
  (73, .iadd, 1, 0, 0, 0, [], kno),
  (74, .iaload, 1, 7, 2, 0, [], mai),
  (75, .iastore, 1, 7, 3, 0, [], mpa),
  (76, .aload_n 0, 1, 0, 0, 0, [], kno),
  (77, .getfield 68, 3, 7, 1, 0, [], mgr 102),
  (80, .iload_n 2, 1, 0, 2, 0, [], kno),
  (81, .aload_n 0, 1, 0, 0, 0, [], kno),
  (82, .getfield 68, 3, 7, 1, 0, [], mgr 102),
  (85, .iload_n 2, 1, 0, 2, 0, [], kno),
  (86, .iconst 1, 1, 0, 0, 1, [], kno),
  (87, .iadd, 1, 0, 0, 0, [], kno),
  (88, .iaload, 1, 7, 2, 0, [], mai),
  (89, .iastore, 1, 7, 3, 0, [], mpa),
  (90, .iinc 2 1, 3, 0, 2, 1, [], kno),
  (93, .goto (-81), 3, 1, 8, 0, [], kno),
  (96, .return_, 1, 6, 0, 0, [], kno)]
def G_mo_endSession (n : Nat) : rx_G := fun x ls st =>
  match ls, st with
  | [some (.ref r0), some (.int v1), some (.int v2)], [] => (r0 = 82 ∧ mo_eP n v2 x.2.2.2, ry_v x.1 (mo_endSession_12 n x.2 v1 v2))
  | _, _ => (False, (x, none))
theorem GI_mo_endSession {n : Nat} {x : mx} {ls : rx_L} {st : List Value} (h : (G_mo_endSession n x ls st).1) : ∃ (r0 : Nat) (v1 : Int32) (v2 : Int32), ls = [some (.ref r0), some (.int v1), some (.int v2)] ∧ st = [] ∧ r0 = 82 ∧ mo_eP n v2 x.2.2.2 := by
  unfold G_mo_endSession at h
  split at h
  · exact ⟨_, _, _, rfl, rfl, h⟩
  · exact False.elim h
theorem EH_mo_endSession (n : Nat) (c : mx_C) (m : mx_M) (v1 : Int32) (v2 : Int32) : rx_ev L_mo_endSession [(12, G_mo_endSession n)] 67 (L_mo_endSession.drop 8) (c, m) [some (.ref 82), some (.int v1), some (.int v2)] [] = ry_v c (mo_endSession_12 (n + 1) m v1 v2) :=
  rx_ite2 (f := ry_v c) (fun _ => rfl) (fun _ => rfl)
theorem SH_mo_endSession (n : Nat) (c : mx_C) (m : mx_M) (v1 : Int32) (v2 : Int32) (hP : mo_eP (n + 1) v2 m.2.2) : rx_sf L_mo_endSession [(12, G_mo_endSession n)] 67 (L_mo_endSession.drop 8) (c, m) [some (.ref 82), some (.int v1), some (.int v2)] [] :=
  And.intro rfl (And.intro (fun h0 => And.intro rfl (And.intro rfl (And.intro (mo_eP1 h0 hP).1.2 (And.intro (mo_eP1 h0 hP).1.1 (And.intro rfl (And.intro rfl (And.intro (mo_eP1 h0 hP).1.2 (And.intro (mo_eP1 h0 hP).1.1 (And.intro rfl (And.intro rfl (And.intro (mo_eP1 h0 hP).1.2 (And.intro (mo_eP1 h0 hP).1.1 (And.intro rfl (And.intro rfl (And.intro (mo_eP1 h0 hP).1.2 (And.intro (mo_eP1 h0 hP).1.1 (And.intro rfl (And.intro rfl (And.intro (mo_eP1 h0 hP).1.2 (And.intro (mo_eP1 h0 hP).1.1 (And.intro rfl (mo_eP1 h0 hP).2))))))))))))))))))))) (fun h0 => trivial))
theorem E_mo_endSession (c : mx_C) (m : mx_M) (a1 : Int32)  : rx_ev L_mo_endSession [(12, G_mo_endSession (6))] 67 L_mo_endSession (c, m) [some (.ref 82), some (.int a1), none] [] = ry_v c (mo_endSession m a1) :=
  rfl
theorem S_mo_endSession (c : mx_C) (m : mx_M) (a1 : Int32) (hs : mo_es m a1) : rx_sf L_mo_endSession [(12, G_mo_endSession (6))] 67 L_mo_endSession (c, m) [some (.ref 82), some (.int a1), none] [] :=
  And.intro rfl (And.intro (And.intro rfl (mo_es1 hs).1) (And.intro rfl (mo_es1 hs).2))
theorem og_mo_59_g {p : Program} {l : Launch} {e : Env} {R : Room} {s : State} {m : MethodId} {args : Array Value} {below : List Frame} {meth : Method} {c : Code} {cc : ByteArray} {nL : Nat} {ad : Nat → Nat} {D : va_G} {g : Nat → ClassId} {B : Nat} (X : ox_C p s m args c cc nL "SubscriberLinesModel" D g ad B) : rx_OK p l e R s m args below meth c cc nL ad (mx_W D g ad B s.heap) mx_cs (.getfield 59) 3 1 (mgr 99) := oy_gr (k := 20) X (by decide) rfl (al_at 731 (by decide +kernel) rfl)
theorem og_mo_62_g {p : Program} {l : Launch} {e : Env} {R : Room} {s : State} {m : MethodId} {args : Array Value} {below : List Frame} {meth : Method} {c : Code} {cc : ByteArray} {nL : Nat} {ad : Nat → Nat} {D : va_G} {g : Nat → ClassId} {B : Nat} (X : ox_C p s m args c cc nL "SubscriberLinesModel" D g ad B) : rx_OK p l e R s m args below meth c cc nL ad (mx_W D g ad B s.heap) mx_cs (.getfield 62) 3 1 (mgr 100) := oy_gr (k := 21) X (by decide) rfl (al_at 732 (by decide +kernel) rfl)
theorem og_mo_65_g {p : Program} {l : Launch} {e : Env} {R : Room} {s : State} {m : MethodId} {args : Array Value} {below : List Frame} {meth : Method} {c : Code} {cc : ByteArray} {nL : Nat} {ad : Nat → Nat} {D : va_G} {g : Nat → ClassId} {B : Nat} (X : ox_C p s m args c cc nL "SubscriberLinesModel" D g ad B) : rx_OK p l e R s m args below meth c cc nL ad (mx_W D g ad B s.heap) mx_cs (.getfield 65) 3 1 (mgr 101) := oy_gr (k := 22) X (by decide) rfl (al_at 733 (by decide +kernel) rfl)
theorem og_mo_68_g {p : Program} {l : Launch} {e : Env} {R : Room} {s : State} {m : MethodId} {args : Array Value} {below : List Frame} {meth : Method} {c : Code} {cc : ByteArray} {nL : Nat} {ad : Nat → Nat} {D : va_G} {g : Nat → ClassId} {B : Nat} (X : ox_C p s m args c cc nL "SubscriberLinesModel" D g ad B) : rx_OK p l e R s m args below meth c cc nL ad (mx_W D g ad B s.heap) mx_cs (.getfield 68) 3 1 (mgr 102) := oy_gr (k := 23) X (by decide) rfl (al_at 734 (by decide +kernel) rfl)
theorem ok_mo_endSession : rx_okF prog_12_method_21_code 3 none L_mo_endSession 0 L_mo_endSession = true := by decide +kernel
theorem O_mo_endSession {l : Launch} {D : va_G} {g : Nat → ClassId} {ad : Nat → Nat} {B : Nat} (had : mx_A ad B) {p : Program} {e : Env} {s : State} {m : MethodId} {args : Array Value} {below : List Frame} {meth : Method} {c : Code} (X : ox_C p s m args c prog_12_method_21_code 3 "SubscriberLinesModel" D g ad B) : rx_ops p l e ({ frames := 0, cells := 0, slots := 0, locals := 0 } : Room) s m args below meth c prog_12_method_21_code 3 ad (mx_W D g ad B s.heap) mx_cs L_mo_endSession :=
  And.intro (og_mo_135_g X) (And.intro (og_mo_135_p X) (And.intro (og_mo_135_g X) (And.intro (og_mo_56_g X) (And.intro (og_mo_56_g X) (And.intro (oy_ai X) (And.intro (oy_pa X) (And.intro (og_mo_59_g X) (And.intro (og_mo_59_g X) (And.intro (oy_ai X) (And.intro (oy_pa X) (And.intro (og_mo_62_g X) (And.intro (og_mo_62_g X) (And.intro (oy_ai X) (And.intro (oy_pa X) (And.intro (og_mo_65_g X) (And.intro (og_mo_65_g X) (And.intro (oy_ai X) (And.intro (oy_pa X) (And.intro (og_mo_68_g X) (And.intro (og_mo_68_g X) (And.intro (oy_ai X) (And.intro (oy_pa X) (trivial)))))))))))))))))))))))
theorem V_mo_endSession {l : Launch} {D : va_G} {g : Nat → ClassId} {ad : Nat → Nat} {B : Nat} (had : mx_A ad B) : rx_V l D g ad B ⟨"SubscriberLinesModel", "endSession", "(I)V"⟩ prog_12_method_21_code 3 none 0 0 K_mo_endSession := by
  intro av x hp
  obtain ⟨a0, a1, rfl⟩ := k_RI_inv hp
  have hp : a0 = 82 ∧ mo_es x.2 a1 := hp
  have h0 : a0 = 82 := hp.1
  subst h0
  refine rx_metX (k := 1) had (by decide) (Nat.le_of_ble_eq_true rfl) fun p e s m args below meth c X hr hlk => ?_
  refine rx_walk X hr hlk ok_mo_endSession (O_mo_endSession had X) (cut := [(12, G_mo_endSession (6))]) (rx_cc ?_ rx_c0) 67 0 rfl (S_mo_endSession x.1 x.2 a1 hp.2) (E_mo_endSession x.1 x.2 a1 )
  refine rx_loop (G := G_mo_endSession) X hr hlk ok_mo_endSession (O_mo_endSession had X) rx_c0 67 8 rfl (fun x ls st h => ?_) (fun n x ls st h => ?_) _
  · obtain ⟨r0, v1, v2, -, -, h3⟩ := GI_mo_endSession h
    have h4 := h3.2
    omega
  · obtain ⟨r0, v1, v2, rfl, rfl, h3⟩ := GI_mo_endSession h
    obtain ⟨rfl, hP⟩ := h3
    exact ⟨SH_mo_endSession n x.1 x.2 v1 v2 hP, EH_mo_endSession n x.1 x.2 v1 v2⟩
