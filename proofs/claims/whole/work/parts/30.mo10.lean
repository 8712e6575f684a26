theorem fz_off (m : mx_M) (s : Int32) : fz m (mo_off m s) := fz_tr (fz_tr (fz_pi _ _ _ _ (by decide)) (fz_pi _ _ _ _ (by decide))) (fz_pi _ _ _ _ (by decide))
theorem fz_leave (m : mx_M) (s : Int32) : fz m (mo_leave m s) := fz_tr (fz_fy (fy_sendOff _ _ _ _ _ _ _)) (fz_off _ _)
theorem fz_ask (m : mx_M) (s : Int32) : fz m (mo_ask m s) := by
  unfold mo_ask
  split
  · exact fz_tr (fz_tr (fz_fy (fy_sendOff _ _ _ _ _ _ _)) (fz_pi _ _ _ _ (by decide))) (fz_pi _ _ _ _ (by decide))
  · exact fz_tr (fz_tr (fz_fy (fy_sendOff _ _ _ _ _ _ _)) (fz_pi _ _ _ _ (by decide))) (fz_pi _ _ _ _ (by decide))
theorem fz_subscriberTimer (m : mx_M) (s : Int32) : fz m (mo_subscriberTimer m s) := by
  unfold mo_subscriberTimer
  split
  · dsimp only
    split
    · exact fz_tr (fz_pi _ _ _ _ (by decide)) (fz_leave _ _)
    · exact (fz_pi _ _ _ _ (by decide))
  · split
    · exact fz_rf m
    · dsimp only
      split
      · exact (fz_pi _ _ _ _ (by decide))
      · split
        · exact fz_tr (fz_pi _ _ _ _ (by decide)) (fz_ask _ _)
        · split
          · exact fz_tr (fz_pi _ _ _ _ (by decide)) (fz_leave _ _)
          · exact fz_tr (fz_pi _ _ _ _ (by decide)) (fz_off _ _)
theorem mo_b_accessTimer {m : mx_M} {k : Int} (h : mo_b m k) (hk0 : 0 ≤ k) (hk : k ≤ 1399) : mo_b (mo_accessTimer m) (k + 1) := by
  unfold mo_accessTimer
  dsimp only
  have h1 := mo_b_endTimer (e := 0) h hk0
  split
  · split
    · split
      · exact mo_b_pi (by decide) (mo_b_say (mo_b_pi (by decide) h1) (Int.le_refl _) hk (i_in.mpr (by decide)))
      · exact mo_b_mono (mo_b_pi (by decide) h1) (by omega)
    · exact mo_b_mono (mo_b_pi (by decide) h1) (by omega)
  · exact mo_b_mono (mo_b_pi (by decide) h1) (by omega)
/-- what a tick of the model asks, k deliveries before its timers -/
def tm1 : Nat → mx_M → Prop
  | 0, m => mo_b m 1394
  | k + 1, m => mo_arP m ∧ tm1 k (mo_arrive m).1
def tmP (n : Nat) (m : mx_M) (v w : Int32) : Prop := ∃ j : Nat, v.toInt - w.toInt = (j : Int) ∧ 0 ≤ w.toInt ∧ v.toInt ≤ 40 ∧ j < n ∧ tm1 j m
theorem tmP_s {n : Nat} {m : mx_M} {v w : Int32} (h : w < v) (hP : tmP (n + 1) m v w) : mo_arP m ∧ tmP n (mo_arrive m).1 v (w + 1) := by
  obtain ⟨j, p1, p2, p3, p4, p5⟩ := hP
  rw [i_lt] at h
  cases j with
  | zero => omega
  | succ j =>
    have e : (w + 1).toInt = w.toInt + 1 := i_add (show _ ≤ w.toInt + 1 by omega) (show w.toInt + 1 < _ by omega)
    exact ⟨p5.1, j, by rw [e]; omega, by rw [e]; omega, p3, by omega, p5.2⟩
theorem tmP_e {n : Nat} {m : mx_M} {v w : Int32} (h : ¬ w < v) (hP : tmP n m v w) : mo_b m 1394 := by
  obtain ⟨j, p1, p2, p3, p4, p5⟩ := hP
  rw [i_lt] at h
  have : j = 0 := by omega
  subst this
  exact p5
theorem tmP_0 {m : mx_M} (h : tm1 m.2.1.val m) : tmP 42 m (Int32.ofNat m.2.1.val) 0 := by
  have hq := m.2.1.isLt
  refine ⟨m.2.1.val, ?_, by decide, ?_, by omega, h⟩
  · rw [i_of _ (by omega), Int32.toInt_zero]; omega
  · rw [i_of _ (by omega)]; omega
def mo_tick_37 : Nat → mx_M → Int32 → Int32 → Int32 → mx_M × Int32
  | 0, m, _, _, _ => (m, 0)
  | n + 1, m, v1, v2, v3 =>
    if v3 < 4 then
      let m1 := mo_subscriberTimer m v3
      mo_tick_37 n m1 v1 v2 (v3 + 1)
    else
      if 0 < (m.1 105 0) then
        let m2 := my_pi m 105 0 ((m.1 105 0) - 1)
        if 0 < (m2.1 105 1) then
          let m3 := my_pi m2 105 1 ((m2.1 105 1) - 1)
          (m3, v2)
        else
          let m4 := mo_serverTimer m2
          (m4, v2)
      else
        let m5 := mo_accessTimer m
        if 0 < (m5.1 105 1) then
          let m6 := my_pi m5 105 1 ((m5.1 105 1) - 1)
          (m6, v2)
        else
          let m7 := mo_serverTimer m5
          (m7, v2)
def mo_tick_9 : Nat → mx_M → Int32 → Int32 → Int32 → mx_M × Int32
  | 0, m, _, _, _ => (m, 0)
  | n + 1, m, v1, v2, v3 =>
    if v3 < v1 then
      let q1 := mo_arrive m
      if q1.2 = 0 then
        mo_tick_9 n q1.1 v1 v2 (v3 + 1)
      else
        mo_tick_9 n q1.1 v1 (v2 + 1) (v3 + 1)
    else
      mo_tick_37 (5) m v1 v2 0
def mo_tick (m : mx_M)  : mx_M × Int32 :=
  mo_tick_9 (42) m (Int32.ofNat m.2.1.val) 0 0
def K_mo_tick : rx_K mx := k_R (fun a0 c m => (a0 = 82 ∧ tm1 m.2.1.val m, (c, (mo_tick m).1), some (.int (mo_tick m).2)))
def L_mo_tick : List (rx_E mx) := [
  (0, .aload_n 0, 1, 0, 0, 0, [], kno),
  (1, .getfield 114, 3, 7, 1, 0, [], mgf),
  (4, .istore_n 1, 1, 0, 1, 0, [], kno),
  (5, .iconst 0, 1, 0, 0, 0, [], kno),
  (6, .istore_n 2, 1, 0, 2, 0, [], kno),
  (7, .iconst 0, 1, 0, 0, 0, [], kno),
  (8, .istore_n 3, 1, 0, 3, 0, [], kno),
  (9, .iload_n 3, 1, 0, 3, 0, [], kno),
  (10, .iload_n 1, 1, 0, 1, 0, [], kno),
  (11, .if_icmp .ge 24, 3, 2, 21, 0, [], kno),
  (14, .aload_n 0, 1, 0, 0, 0, [], kno),
  (15, .invokevirtual 232, 3, 7, 1, 0, [], K_mo_arrive),
  (18, .ifCond .eq 9, 3, 2, 17, 0, [], kno),
  (21, .iload_n 2, 1, 0, 2, 0, [], kno),
  (22, .iconst 1, 1, 0, 0, 1, [], kno),
  (23, .iadd, 1, 0, 0, 0, [], kno),
  (24, .goto 4, 3, 1, 18, 0, [], kno),
  (27, .iload_n 2, 1, 0, 2, 0, [], kno),
  (28, .istore_n 2, 1, 0, 2, 0, [], kno),
  (29, .iinc 3 1, 3, 0, 3, 1, [], kno),
  (32, .goto (-23), 3, 1, 7, 0, [], kno),
  (35, .iconst 0, 1, 0, 0, 0, [], kno),
  (36, .istore_n 3, 1, 0, 3, 0, [], kno),
  (37, .iload_n 3, 1, 0, 3, 0, [], kno),
  (38, .iconst 4, 1, 0, 0, 4, [], kno),
  (39, .if_icmp .ge 14, 3, 2, 31, 0, [], kno),
  (42, .aload_n 0, 1, 0, 0, 0, [], kno),
  (43, .iload_n 3, 1, 0, 3, 0, [], kno),
  (44, .invokevirtual 236, 3, 7, 2, 0, [], K_mo_subscriberTimer),
  (47, .iinc 3 1, 3, 0, 3, 1, [], kno),
  (50, .goto (-13), 3, 1, 23, 0, [], kno),
  (53, .aload_n 0, 1, 0, 0, 0, [], kno),
  (54, .getfield 77, 3, 7, 1, 0, [], mgr 105),
  (57, .iconst 0, 1, 0, 0, 0, [], kno),
  (58, .iaload, 1, 7, 2, 0, [], mai),
  (59, .ifCond .le 16, 3, 2, 45, 0, [], kno),
  (62, .aload_n 0, 1, 0, 0, 0, [], kno),
  (63, .getfield 77, 3, 7, 1, 0, [], mgr 105),
  (66, .iconst 0, 1, 0, 0, 0, [], kno),
  (67, .dup2, 1, 0, 0, 0, [], kno),
  (68, .iaload, 1, 7, 2, 0, [], mai),
  (69, .iconst 1, 1, 0, 0, 1, [], kno),
  (70, .isub, 1, 0, 0, 0, [], kno),
  (71, .iastore, 1, 7, 3, 0, [], mpa),
  (72, .goto 7, 3, 1, 47, 0, [], kno),
  (75, .aload_n 0, 1, 0, 0, 0, [], kno),
  (76, .invokevirtual 239, 3, 7, 1, 0, [], K_mo_accessTimer),
  (79, .aload_n 0, 1, 0, 0, 0, [], kno),
  (80, .getfield 77, 3, 7, 1, 0, [], mgr 105),
  (83, .iconst 1, 1, 0, 0, 1, [], kno),
  (84, .iaload, 1, 7, 2, 0, [], mai),
  (85, .ifCond .le 16, 3, 2, 61, 0, [], kno),
  (88, .aload_n 0, 1, 0, 0, 0, [], kno),
  (89, .getfield 77, 3, 7, 1, 0, [], mgr 105),
  (92, .iconst 1, 1, 0, 0, 1, [], kno),
  (93, .dup2, 1, 0, 0, 0, [], kno),
  (94, .iaload, 1, 7, 2, 0, [], mai),
  (95, .iconst 1, 1, 0, 0, 1, [], kno),
  (96, .isub, 1, 0, 0, 0, [], kno),
  (97, .iastore, 1, 7, 3, 0, [], mpa),
  (98, .goto 7, 3, 1, 63, 0, [], kno),
  (101, .aload_n 0, 1, 0, 0, 0, [], kno),
  (102, .invokevirtual 242, 3, 7, 1, 0, [], K_mo_serverTimer),
  (105, .iload_n 2, 1, 0, 2, 0, [], kno),
  (106, .ireturn, 1, 5, 0, 0, [], kno)]
def G_mo_tick_9 (n : Nat) : rx_G := fun x ls st =>
  match ls, st with
  | [some (.ref r0), some (.int v1), some (.int v2), some (.int v3)], [] => (r0 = 82 ∧ tmP n x.2 v1 v3, ry_i x.1 (mo_tick_9 n x.2 v1 v2 v3))
  | _, _ => (False, (x, none))
theorem GI_mo_tick_9 {n : Nat} {x : mx} {ls : rx_L} {st : List Value} (h : (G_mo_tick_9 n x ls st).1) : ∃ (r0 : Nat) (v1 : Int32) (v2 : Int32) (v3 : Int32), ls = [some (.ref r0), some (.int v1), some (.int v2), some (.int v3)] ∧ st = [] ∧ r0 = 82 ∧ tmP n x.2 v1 v3 := by
  unfold G_mo_tick_9 at h
  split at h
  · exact ⟨_, _, _, _, rfl, rfl, h⟩
  · exact False.elim h
def G_mo_tick_37 (n : Nat) : rx_G := fun x ls st =>
  match ls, st with
  | [some (.ref r0), some (.int v1), some (.int v2), some (.int v3)], [] => (r0 = 82 ∧ (up4 n v3 ∧ mo_b x.2 1394), ry_i x.1 (mo_tick_37 n x.2 v1 v2 v3))
  | _, _ => (False, (x, none))
theorem GI_mo_tick_37 {n : Nat} {x : mx} {ls : rx_L} {st : List Value} (h : (G_mo_tick_37 n x ls st).1) : ∃ (r0 : Nat) (v1 : Int32) (v2 : Int32) (v3 : Int32), ls = [some (.ref r0), some (.int v1), some (.int v2), some (.int v3)] ∧ st = [] ∧ r0 = 82 ∧ (up4 n v3 ∧ mo_b x.2 1394) := by
  unfold G_mo_tick_37 at h
  split at h
  · exact ⟨_, _, _, _, rfl, rfl, h⟩
  · exact False.elim h
theorem EH_mo_tick_9 (n : Nat) (c : mx_C) (m : mx_M) (v1 : Int32) (v2 : Int32) (v3 : Int32) : rx_ev L_mo_tick [(9, G_mo_tick_9 n), (37, G_mo_tick_37 (5))] 67 (L_mo_tick.drop 7) (c, m) [some (.ref 82), some (.int v1), some (.int v2), some (.int v3)] [] = ry_i c (mo_tick_9 (n + 1) m v1 v2 v3) :=
  rx_ite2 (f := ry_i c) (fun h0 => rx_ite2 (f := ry_i c) (fun h1 => rfl) (fun h1 => rfl)) (fun h0 => rfl)
theorem SH_mo_tick_9 (n : Nat) (c : mx_C) (m : mx_M) (v1 : Int32) (v2 : Int32) (v3 : Int32) (hP : tmP (n + 1) m v1 v3) : rx_sf L_mo_tick [(9, G_mo_tick_9 n), (37, G_mo_tick_37 (5))] 67 (L_mo_tick.drop 7) (c, m) [some (.ref 82), some (.int v1), some (.int v2), some (.int v3)] [] :=
  And.intro (fun h0 => And.intro (And.intro rfl (tmP_s h0 hP).1) (And.intro (fun h1 => And.intro rfl (tmP_s h0 hP).2) (fun h1 => And.intro rfl (tmP_s h0 hP).2))) (fun h0 => And.intro rfl (And.intro (by decide) (tmP_e h0 hP)))
theorem EH_mo_tick_37 (n : Nat) (c : mx_C) (m : mx_M) (v1 : Int32) (v2 : Int32) (v3 : Int32) : rx_ev L_mo_tick [(37, G_mo_tick_37 n)] 67 (L_mo_tick.drop 23) (c, m) [some (.ref 82), some (.int v1), some (.int v2), some (.int v3)] [] = ry_i c (mo_tick_37 (n + 1) m v1 v2 v3) :=
  rx_ite2 (f := ry_i c) (fun h0 => rfl) (fun h0 => rx_ite2 (f := ry_i c) (fun h1 => rx_ite2 (f := ry_i c) (fun h2 => rfl) (fun h2 => rfl)) (fun h1 => rx_ite2 (f := ry_i c) (fun h2 => rfl) (fun h2 => rfl)))
theorem SH_mo_tick_37 (n : Nat) (c : mx_C) (m : mx_M) (v1 : Int32) (v2 : Int32) (v3 : Int32) (hP : (up4 (n + 1) v3 ∧ mo_b m 1394)) : rx_sf L_mo_tick [(37, G_mo_tick_37 n)] 67 (L_mo_tick.drop 23) (c, m) [some (.ref 82), some (.int v1), some (.int v2), some (.int v3)] [] :=
  And.intro (fun h0 => And.intro (And.intro rfl (up4_in h0 hP.1)) (And.intro rfl (And.intro (up4_1 h0 hP.1) (mo_b_fz (fz_subscriberTimer _ _) hP.2)))) (fun h0 => And.intro rfl (And.intro (i_in.mpr (by decide)) (And.intro (fun h1 => And.intro rfl (And.intro (i_in.mpr (by decide)) (And.intro (i_in.mpr (by decide)) (And.intro rfl (And.intro (i_in.mpr (by decide)) (And.intro (fun h2 => And.intro rfl (And.intro (i_in.mpr (by decide)) (And.intro (i_in.mpr (by decide)) (trivial)))) (fun h2 => And.intro (And.intro rfl (mo_b_mono (k := 1394) (k' := 1395) (mo_b_pi (by decide) hP.2) (by decide))) (trivial)))))))) (fun h1 => And.intro (And.intro rfl (mo_b_mono hP.2 (by decide))) (And.intro rfl (And.intro (i_in.mpr (by decide)) (And.intro (fun h2 => And.intro rfl (And.intro (i_in.mpr (by decide)) (And.intro (i_in.mpr (by decide)) (trivial)))) (fun h2 => And.intro (And.intro rfl (mo_b_mono (k := 1395) (k' := 1395) (mo_b_accessTimer (k := 1394) hP.2 (by decide) (by decide)) (by decide))) (trivial)))))))))
theorem E_mo_tick (c : mx_C) (m : mx_M)   : rx_ev L_mo_tick [(9, G_mo_tick_9 (42)), (37, G_mo_tick_37 (5))] 67 L_mo_tick (c, m) [some (.ref 82), none, none, none] [] = ry_i c (mo_tick m) :=
  rfl
theorem S_mo_tick (c : mx_C) (m : mx_M)  (hT : tm1 m.2.1.val m) : rx_sf L_mo_tick [(9, G_mo_tick_9 (42)), (37, G_mo_tick_37 (5))] 67 L_mo_tick (c, m) [some (.ref 82), none, none, none] [] :=
  And.intro rfl (And.intro rfl (tmP_0 hT))
theorem cv_mo_arrive {p : Program} {l : Launch} {e : Env} {R : Room} {s : State} {m : MethodId} {args : Array Value} {below : List Frame} {meth : Method} {c : Code} {cc : ByteArray} {nL : Nat} {ad : Nat → Nat} {D : va_G} {g : Nat → ClassId} {B : Nat} {own : String} {idx : Nat} (X : ox_C p s m args c cc nL own D g ad B) (hV : rx_V l D g ad B ⟨"SubscriberLinesModel", "arrive", "()Z"⟩ prog_12_method_33_code 10 (some .boolean) 7 166 K_mo_arrive) (hl : Cond.methodLink own idx ⟨"SubscriberLinesModel", "arrive", "()Z"⟩ ∈ al) (hR : 7 + 1 ≤ R.frames ∧ 8 + (10 + 11) + 166 ≤ R.locals) : rx_OK p l e R s m args below meth c cc nL ad (mx_W D g ad B s.heap) mx_cs (.invokevirtual idx) 3 1 (K_mo_arrive) :=
  ox_callV (q := 9) (T := T_9) X hV (fun av x h => by obtain ⟨a0, rfl⟩ := k_R_inv h; exact ⟨a0, _, rfl, by have h2 : a0 = 82 := h.1; rw [h2]; rfl⟩) (by decide) rfl hl (al_at 844 (by decide +kernel) rfl) (al_pr (y := (⟨"SubscriberLinesModel", "arrive", "()Z"⟩, _)) 32 rfl) (al_at 12 (by decide +kernel) rfl) (al_at 845 (by decide +kernel) rfl) ⟨by decide, by decide, by decide +kernel⟩ hR
theorem cv_mo_subscriberTimer {p : Program} {l : Launch} {e : Env} {R : Room} {s : State} {m : MethodId} {args : Array Value} {below : List Frame} {meth : Method} {c : Code} {cc : ByteArray} {nL : Nat} {ad : Nat → Nat} {D : va_G} {g : Nat → ClassId} {B : Nat} {own : String} {idx : Nat} (X : ox_C p s m args c cc nL own D g ad B) (hV : rx_V l D g ad B ⟨"SubscriberLinesModel", "subscriberTimer", "(I)V"⟩ prog_12_method_32_code 2 none 3 75 K_mo_subscriberTimer) (hl : Cond.methodLink own idx ⟨"SubscriberLinesModel", "subscriberTimer", "(I)V"⟩ ∈ al) (hR : 3 + 1 ≤ R.frames ∧ 8 + (2 + 11) + 75 ≤ R.locals) : rx_OK p l e R s m args below meth c cc nL ad (mx_W D g ad B s.heap) mx_cs (.invokevirtual idx) 3 2 (K_mo_subscriberTimer) :=
  ox_callV (q := 9) (T := T_9) X hV (fun av x h => by obtain ⟨a0, a1, rfl⟩ := k_RI_inv h; exact ⟨a0, _, rfl, by have h2 : a0 = 82 := h.1; rw [h2]; rfl⟩) (by decide) rfl hl (al_at 951 (by decide +kernel) rfl) (al_pr (y := (⟨"SubscriberLinesModel", "subscriberTimer", "(I)V"⟩, _)) 58 rfl) (al_at 12 (by decide +kernel) rfl) (al_at 952 (by decide +kernel) rfl) ⟨by decide, by decide, by decide +kernel⟩ hR
theorem cv_mo_accessTimer {p : Program} {l : Launch} {e : Env} {R : Room} {s : State} {m : MethodId} {args : Array Value} {below : List Frame} {meth : Method} {c : Code} {cc : ByteArray} {nL : Nat} {ad : Nat → Nat} {D : va_G} {g : Nat → ClassId} {B : Nat} {own : String} {idx : Nat} (X : ox_C p s m args c cc nL own D g ad B) (hV : rx_V l D g ad B ⟨"SubscriberLinesModel", "accessTimer", "()V"⟩ prog_12_method_19_code 1 none 4 98 K_mo_accessTimer) (hl : Cond.methodLink own idx ⟨"SubscriberLinesModel", "accessTimer", "()V"⟩ ∈ al) (hR : 4 + 1 ≤ R.frames ∧ 8 + (1 + 11) + 98 ≤ R.locals) : rx_OK p l e R s m args below meth c cc nL ad (mx_W D g ad B s.heap) mx_cs (.invokevirtual idx) 3 1 (K_mo_accessTimer) :=
  ox_callV (q := 9) (T := T_9) X hV (fun av x h => by obtain ⟨a0, rfl⟩ := k_R_inv h; exact ⟨a0, _, rfl, by have h2 : a0 = 82 := h.1; rw [h2]; rfl⟩) (by decide) rfl hl (al_at 955 (by decide +kernel) rfl) (al_pr (y := (⟨"SubscriberLinesModel", "accessTimer", "()V"⟩, _)) 59 rfl) (al_at 12 (by decide +kernel) rfl) (al_at 956 (by decide +kernel) rfl) ⟨by decide, by decide, by decide +kernel⟩ hR
theorem cv_mo_serverTimer {p : Program} {l : Launch} {e : Env} {R : Room} {s : State} {m : MethodId} {args : Array Value} {below : List Frame} {meth : Method} {c : Code} {cc : ByteArray} {nL : Nat} {ad : Nat → Nat} {D : va_G} {g : Nat → ClassId} {B : Nat} {own : String} {idx : Nat} (X : ox_C p s m args c cc nL own D g ad B) (hV : rx_V l D g ad B ⟨"SubscriberLinesModel", "serverTimer", "()V"⟩ prog_12_method_26_code 3 none 4 98 K_mo_serverTimer) (hl : Cond.methodLink own idx ⟨"SubscriberLinesModel", "serverTimer", "()V"⟩ ∈ al) (hR : 4 + 1 ≤ R.frames ∧ 8 + (3 + 11) + 98 ≤ R.locals) : rx_OK p l e R s m args below meth c cc nL ad (mx_W D g ad B s.heap) mx_cs (.invokevirtual idx) 3 1 (K_mo_serverTimer) :=
  ox_callV (q := 9) (T := T_9) X hV (fun av x h => by obtain ⟨a0, rfl⟩ := k_R_inv h; exact ⟨a0, _, rfl, by have h2 : a0 = 82 := h.1; rw [h2]; rfl⟩) (by decide) rfl hl (al_at 967 (by decide +kernel) rfl) (al_pr (y := (⟨"SubscriberLinesModel", "serverTimer", "()V"⟩, _)) 62 rfl) (al_at 12 (by decide +kernel) rfl) (al_at 968 (by decide +kernel) rfl) ⟨by decide, by decide, by decide +kernel⟩ hR
theorem ok_mo_tick : rx_okF prog_12_method_34_code 4 (some .int) L_mo_tick 0 L_mo_tick = true := by decide +kernel
theorem O_mo_tick {l : Launch} {D : va_G} {g : Nat → ClassId} {ad : Nat → Nat} {B : Nat} (had : mx_A ad B) {p : Program} {e : Env} {s : State} {m : MethodId} {args : Array Value} {below : List Frame} {meth : Method} {c : Code} (X : ox_C p s m args c prog_12_method_34_code 4 "SubscriberLinesModel" D g ad B) : rx_ops p l e ({ frames := 8, cells := 0, slots := 0, locals := 195 } : Room) s m args below meth c prog_12_method_34_code 4 ad (mx_W D g ad B s.heap) mx_cs L_mo_tick :=
  And.intro (og_mo_114_g X) (And.intro (cv_mo_arrive X (V_mo_arrive had) (al_at 842 (by decide +kernel) rfl) ⟨by decide, by decide⟩) (And.intro (cv_mo_subscriberTimer X (V_mo_subscriberTimer had) (al_at 949 (by decide +kernel) rfl) ⟨by decide, by decide⟩) (And.intro (og_mo_77_g X) (And.intro (oy_ai X) (And.intro (og_mo_77_g X) (And.intro (oy_ai X) (And.intro (oy_pa X) (And.intro (cv_mo_accessTimer X (V_mo_accessTimer had) (al_at 953 (by decide +kernel) rfl) ⟨by decide, by decide⟩) (And.intro (og_mo_77_g X) (And.intro (oy_ai X) (And.intro (og_mo_77_g X) (And.intro (oy_ai X) (And.intro (oy_pa X) (And.intro (cv_mo_serverTimer X (V_mo_serverTimer had) (al_at 965 (by decide +kernel) rfl) ⟨by decide, by decide⟩) (trivial)))))))))))))))
theorem V_mo_tick {l : Launch} {D : va_G} {g : Nat → ClassId} {ad : Nat → Nat} {B : Nat} (had : mx_A ad B) : rx_V l D g ad B ⟨"SubscriberLinesModel", "tick", "()I"⟩ prog_12_method_34_code 4 (some .int) 8 195 K_mo_tick := by
  intro av x hp
  obtain ⟨a0, rfl⟩ := k_R_inv hp
  have hp : a0 = 82 ∧ tm1 x.2.2.1.val x.2 := hp
  have h0 : a0 = 82 := hp.1
  subst h0
  refine rx_metX (k := 3) had (by decide) (Nat.le_of_ble_eq_true rfl) fun p e s m args below meth c X hr hlk => ?_
  have lp37 := fun n => rx_loop (l := l) (e := e) (below := below) (res := (K_mo_tick [.ref 82] x).2) (G := G_mo_tick_37) (cs0 := []) X hr hlk ok_mo_tick (O_mo_tick had X) rx_c0 67 23 rfl (fun x ls st h => by
    obtain ⟨r0, v1, v2, v3, -, -, h3⟩ := GI_mo_tick_37 h
    have h4 := h3.2
    have h5 := h4.1; omega) (fun n x ls st h => by
    obtain ⟨r0, v1, v2, v3, rfl, rfl, h3⟩ := GI_mo_tick_37 h
    obtain ⟨rfl, hP⟩ := h3
    exact ⟨SH_mo_tick_37 n x.1 x.2 v1 v2 v3 hP, EH_mo_tick_37 n x.1 x.2 v1 v2 v3⟩) n
  have lp9 := fun n => rx_loop (l := l) (e := e) (below := below) (res := (K_mo_tick [.ref 82] x).2) (G := G_mo_tick_9) (cs0 := [(37, G_mo_tick_37 (5))]) X hr hlk ok_mo_tick (O_mo_tick had X) (rx_cc (lp37 _) rx_c0) 67 7 rfl (fun x ls st h => by
    obtain ⟨r0, v1, v2, v3, -, -, h3⟩ := GI_mo_tick_9 h
    have h4 := h3.2
    obtain ⟨k, h5, h6, h7, h8, h9⟩ := h4; omega) (fun n x ls st h => by
    obtain ⟨r0, v1, v2, v3, rfl, rfl, h3⟩ := GI_mo_tick_9 h
    obtain ⟨rfl, hP⟩ := h3
    exact ⟨SH_mo_tick_9 n x.1 x.2 v1 v2 v3 hP, EH_mo_tick_9 n x.1 x.2 v1 v2 v3⟩) n
  exact rx_walk X hr hlk ok_mo_tick (O_mo_tick had X) (cut := [(9, G_mo_tick_9 (42)), (37, G_mo_tick_37 (5))]) (rx_cc (lp9 _) (rx_cc (lp37 _) rx_c0)) 67 0 rfl (S_mo_tick x.1 x.2  hp.2) (E_mo_tick x.1 x.2  )
theorem mo_re4 {a : Int32} (h : a = 4) : vp_in (a - 4) 2 := by subst h; exact i_in.mpr (by decide)
theorem mo_re5 {a : Int32} (h : a = 5) : vp_in (a - 4) 2 := by subst h; exact i_in.mpr (by decide)
def mo_restart_48 : Nat → mx_M → Int32 → Int32 → mx_M × Int32
  | 0, m, _, _ => (m, 0)
  | n + 1, m, v1, v2 =>
    if v2 < 4 then
      let m1 := my_pi m 96 (Int32.toNatClampNeg v2) 0
      let m2 := my_pi m1 97 (Int32.toNatClampNeg v2) 0
      mo_restart_48 n m2 v1 (v2 + 1)
    else
      (m, 1)
def mo_restart (m : mx_M) (a1 : Int32) : mx_M × Int32 :=
  if a1 = 4 then
    let m1 := mo_clear m (a1 - 4) 0
    let m2 := my_pi m1 105 (Int32.toNatClampNeg (a1 - 4)) 3
    if a1 = 5 then
      let m3 := my_ps m2 0
      (m3, 1)
    else
      let m4 := my_pi m2 82 17 0
      mo_restart_48 (5) m4 a1 0
  else
    if a1 = 5 then
      let m5 := mo_clear m (a1 - 4) 0
      let m6 := my_pi m5 105 (Int32.toNatClampNeg (a1 - 4)) 3
      let m7 := my_ps m6 0
      (m7, 1)
    else
      (m, 0)
def K_mo_restart : rx_K mx := k_RI (fun a0 a1 c m => (a0 = 82, (c, (mo_restart m a1).1), some (.int (mo_restart m a1).2)))
def L_mo_restart : List (rx_E mx) := [
  (0, .iload_n 1, 1, 0, 1, 0, [], kno),
  (1, .iconst 4, 1, 0, 0, 4, [], kno),
  (2, .if_icmp .eq 10, 3, 2, 8, 0, [], kno),
  (5, .iload_n 1, 1, 0, 1, 0, [], kno),
  (6, .iconst 5, 1, 0, 0, 5, [], kno),
  (7, .if_icmp .eq 5, 3, 2, 8, 0, [], kno),
  (10, .iconst 0, 1, 0, 0, 0, [], kno),
  (11, .ireturn, 1, 5, 1, 0, [], kno),
  (12, .aload_n 0, 1, 0, 0, 0, [], kno),
  (13, .iload_n 1, 1, 0, 1, 0, [], kno),
  (14, .iconst 4, 1, 0, 0, 4, [], kno),
  (15, .isub, 1, 0, 0, 0, [], kno),
  (16, .iconst 0, 1, 0, 0, 0, [], kno),
  (17, .invokevirtual 129, 3, 7, 3, 0, [], K_mo_clear),
  (20, .aload_n 0, 1, 0, 0, 0, [], kno),
  (21, .getfield 77, 3, 7, 1, 0, [], mgr 105),
  (24, .iload_n 1, 1, 0, 1, 0, [], kno),
  (25, .iconst 4, 1, 0, 0, 4, [], kno),
  (26, .isub, 1, 0, 0, 0, [], kno),
  (27, .iconst 3, 1, 0, 0, 3, [], kno),
  (28, .iastore, 1, 7, 3, 0, [], mpa),
  (29, .iload_n 1, 1, 0, 1, 0, [], kno),
  (30, .iconst 5, 1, 0, 0, 5, [], kno),
  (31, .if_icmp .ne 10, 3, 2, 29, 0, [], kno),
  (34, .aload_n 0, 1, 0, 0, 0, [], kno),
  (35, .iconst 0, 1, 0, 0, 0, [], kno),
  (36, .putfield 135, 3, 7, 2, 0, [], mps),
  (39, .iconst 1, 1, 0, 0, 1, [], kno),
  (40, .ireturn, 1, 5, 1, 0, [], kno),
  (41, .aload_n 0, 1, 0, 0, 0, [], kno),
  (42, .iconst 0, 1, 0, 0, 0, [], kno),
  (43, .putfield 162, 3, 7, 2, 0, [], mpi 17),
  (46, .iconst 0, 1, 0, 0, 0, [], kno),
  (47, .istore_n 2, 1, 0, 2, 0, [], kno),
  (48, .iload_n 2, 1, 0, 2, 0, [], kno),
  (49, .iconst 4, 1, 0, 0, 4, [], kno),
  (50, .if_icmp .ge 23, 3, 2, 49, 0, [], kno),
  (53, .aload_n 0, 1, 0, 0, 0, [], kno),
  (54, .getfield 50, 3, 7, 1, 0, [], mgr 96),
  (57, .iload_n 2, 1, 0, 2, 0, [], kno),
  (58, .iconst 0, 1, 0, 0, 0, [], kno),
  (59, .iastore, 1, 7, 3, 0, [], mpa),
  (60, .aload_n 0, 1, 0, 0, 0, [], kno),
  (61, .getfield 53, 3, 7, 1, 0, [], mgr 97),
  (64, .iload_n 2, 1, 0, 2, 0, [], kno),
  (65, .iconst 0, 1, 0, 0, 0, [], kno),
  (66, .iastore, 1, 7, 3, 0, [], mpa),
  (67, .iinc 2 1, 3, 0, 2, 1, [], kno),
  (70, .goto (-22), 3, 1, 34, 0, [], kno),
  (73, .iconst 1, 1, 0, 0, 1, [], kno),
  (74, .ireturn, 1, 5, 1, 0, [], kno)]
def G_mo_restart (n : Nat) : rx_G := fun x ls st =>
  match ls, st with
  | [some (.ref r0), some (.int v1), some (.int v2)], [] => (r0 = 82 ∧ up4 n v2, ry_i x.1 (mo_restart_48 n x.2 v1 v2))
  | _, _ => (False, (x, none))
theorem GI_mo_restart {n : Nat} {x : mx} {ls : rx_L} {st : List Value} (h : (G_mo_restart n x ls st).1) : ∃ (r0 : Nat) (v1 : Int32) (v2 : Int32), ls = [some (.ref r0), some (.int v1), some (.int v2)] ∧ st = [] ∧ r0 = 82 ∧ up4 n v2 := by
  unfold G_mo_restart at h
  split at h
  · exact ⟨_, _, _, rfl, rfl, h⟩
  · exact False.elim h
theorem EH_mo_restart (n : Nat) (c : mx_C) (m : mx_M) (v1 : Int32) (v2 : Int32) : rx_ev L_mo_restart [(48, G_mo_restart n)] 53 (L_mo_restart.drop 34) (c, m) [some (.ref 82), some (.int v1), some (.int v2)] [] = ry_i c (mo_restart_48 (n + 1) m v1 v2) :=
  rx_ite2 (f := ry_i c) (fun h0 => rfl) (fun h0 => rfl)
theorem SH_mo_restart (n : Nat) (c : mx_C) (m : mx_M) (v1 : Int32) (v2 : Int32) (hP : up4 (n + 1) v2) : rx_sf L_mo_restart [(48, G_mo_restart n)] 53 (L_mo_restart.drop 34) (c, m) [some (.ref 82), some (.int v1), some (.int v2)] [] :=
  And.intro (fun h0 => And.intro rfl (And.intro (up4_in h0 hP) (And.intro rfl (And.intro (up4_in h0 hP) (And.intro rfl (up4_1 h0 hP)))))) (fun h0 => Or.inr rfl)
theorem E_mo_restart (c : mx_C) (m : mx_M) (a1 : Int32)  : rx_ev L_mo_restart [(48, G_mo_restart (5))] 53 L_mo_restart (c, m) [some (.ref 82), some (.int a1), none] [] = ry_i c (mo_restart m a1) :=
  rx_ite2 (f := ry_i c) (fun h0 => rx_ite2 (f := ry_i c) (fun h1 => rfl) (fun h1 => rfl)) (fun h0 => rx_ite2 (f := ry_i c) (fun h1 => rx_litT h1 (rfl)) (fun h1 => rfl))
theorem S_mo_restart (c : mx_C) (m : mx_M) (a1 : Int32)  : rx_sf L_mo_restart [(48, G_mo_restart (5))] 53 L_mo_restart (c, m) [some (.ref 82), some (.int a1), none] [] :=
  And.intro (fun h0 => And.intro (And.intro rfl (by first | exact mo_re4 (by assumption) | exact mo_re5 (by assumption))) (And.intro rfl (And.intro (by first | exact mo_re4 (by assumption) | exact mo_re5 (by assumption)) (And.intro (fun h1 => And.intro (And.intro rfl sc_z) (Or.inr rfl)) (fun h1 => And.intro rfl (And.intro rfl (by decide))))))) (fun h0 => And.intro (fun h1 => And.intro (And.intro rfl (by first | exact mo_re4 (by assumption) | exact mo_re5 (by assumption))) (And.intro rfl (And.intro (by first | exact mo_re4 (by assumption) | exact mo_re5 (by assumption)) (And.intro (fun _ => And.intro (And.intro rfl sc_z) (Or.inr rfl)) (fun h => absurd h1 h))))) (fun h1 => Or.inl rfl))
theorem ok_mo_restart : rx_okF prog_12_method_40_code 3 (some .boolean) L_mo_restart 0 L_mo_restart = true := by decide +kernel
theorem O_mo_restart {l : Launch} {D : va_G} {g : Nat → ClassId} {ad : Nat → Nat} {B : Nat} (had : mx_A ad B) {p : Program} {e : Env} {s : State} {m : MethodId} {args : Array Value} {below : List Frame} {meth : Method} {c : Code} (X : ox_C p s m args c prog_12_method_40_code 3 "SubscriberLinesModel" D g ad B) : rx_ops p l e ({ frames := 1, cells := 0, slots := 0, locals := 22 } : Room) s m args below meth c prog_12_method_40_code 3 ad (mx_W D g ad B s.heap) mx_cs L_mo_restart :=
  And.intro (cv_mo_clear X (V_mo_clear had) (al_at 882 (by decide +kernel) rfl) ⟨by decide, by decide⟩) (And.intro (og_mo_77_g X) (And.intro (oy_pa X) (And.intro (og_mo_135_p X) (And.intro (og_mo_162_p X) (And.intro (og_mo_50_g X) (And.intro (oy_pa X) (And.intro (og_mo_53_g X) (And.intro (oy_pa X) (trivial)))))))))
theorem V_mo_restart {l : Launch} {D : va_G} {g : Nat → ClassId} {ad : Nat → Nat} {B : Nat} (had : mx_A ad B) : rx_V l D g ad B ⟨"SubscriberLinesModel", "restart", "(I)Z"⟩ prog_12_method_40_code 3 (some .boolean) 1 22 K_mo_restart := by
  intro av x hp
  obtain ⟨a0, a1, rfl⟩ := k_RI_inv hp
  have hp : a0 = 82 := hp
  have h0 : a0 = 82 := hp
  subst h0
  refine rx_metX (k := 1) had (by decide) (Nat.le_of_ble_eq_true rfl) fun p e s m args below meth c X hr hlk => ?_
  refine rx_walk X hr hlk ok_mo_restart (O_mo_restart had X) (cut := [(48, G_mo_restart (5))]) (rx_cc ?_ rx_c0) 53 0 rfl (S_mo_restart x.1 x.2 a1 ) (E_mo_restart x.1 x.2 a1 )
  refine rx_loop (G := G_mo_restart) X hr hlk ok_mo_restart (O_mo_restart had X) rx_c0 53 34 rfl (fun x ls st h => ?_) (fun n x ls st h => ?_) _
  · obtain ⟨r0, v1, v2, -, -, h3⟩ := GI_mo_restart h
    have h4 := h3.2
    omega
  · obtain ⟨r0, v1, v2, rfl, rfl, h3⟩ := GI_mo_restart h
    obtain ⟨rfl, hP⟩ := h3
    exact ⟨SH_mo_restart n x.1 x.2 v1 v2 hP, EH_mo_restart n x.1 x.2 v1 v2⟩
def mo_core_2 : Nat → mx_M → Int32 → Int32 → Int32 → mx_M × Int32
  | 0, m, _, _, _ => (m, 0)
  | n + 1, m, v1, v2, v3 =>
    if v3 < (Int32.ofNat m.2.2.val) then
      if (m.1 100 (Int32.toNatClampNeg v3)) = 3 then
        if (m.1 101 (Int32.toNatClampNeg v3)) = v1 then
          let m1 := mo_sendOff m 11 5 4 (m.1 99 (Int32.toNatClampNeg v3)) v1 v2
          (m1, 1)
        else
          mo_core_2 n m v1 v2 (v3 + 1)
      else
        mo_core_2 n m v1 v2 (v3 + 1)
    else
      (m, 0)
def mo_core (m : mx_M) (a1 : Int32) (a2 : Int32) : mx_M × Int32 :=
  mo_core_2 (5) m a1 a2 0
def K_mo_core : rx_K mx := k_RII (fun a0 a1 a2 c m => (a0 = 82, (c, (mo_core m a1 a2).1), some (.int (mo_core m a1 a2).2)))
def L_mo_core : List (rx_E mx) := [
  (0, .iconst 0, 1, 0, 0, 0, [], kno),
  (1, .istore_n 3, 1, 0, 3, 0, [], kno),
  (2, .iload_n 3, 1, 0, 3, 0, [], kno),
  (3, .aload_n 0, 1, 0, 0, 0, [], kno),
  (4, .getfield 135, 3, 7, 1, 0, [], mgs),
  (7, .if_icmp .ge 47, 3, 2, 33, 0, [], kno),
  (10, .aload_n 0, 1, 0, 0, 0, [], kno),
  (11, .getfield 62, 3, 7, 1, 0, [], mgr 100),
  (14, .iload_n 3, 1, 0, 3, 0, [], kno),
  (15, .iaload, 1, 7, 2, 0, [], mai),
  (16, .iconst 3, 1, 0, 0, 3, [], kno),
  (17, .if_icmp .ne 31, 3, 2, 31, 0, [], kno),
  (20, .aload_n 0, 1, 0, 0, 0, [], kno),
  (21, .getfield 65, 3, 7, 1, 0, [], mgr 101),
  (24, .iload_n 3, 1, 0, 3, 0, [], kno),
  (25, .iaload, 1, 7, 2, 0, [], mai),
  (26, .iload_n 1, 1, 0, 1, 0, [], kno),
  (27, .if_icmp .ne 21, 3, 2, 31, 0, [], kno),
  (30, .aload_n 0, 1, 0, 0, 0, [], kno),
  (31, .bipush 11, 2, 0, 0, 11, [], kno),
  (33, .iconst 5, 1, 0, 0, 5, [], kno),
  (34, .iconst 4, 1, 0, 0, 4, [], kno),
  (35, .aload_n 0, 1, 0, 0, 0, [], kno),
  (36, .getfield 59, 3, 7, 1, 0, [], mgr 99),
  (39, .iload_n 3, 1, 0, 3, 0, [], kno),
  (40, .iaload, 1, 7, 2, 0, [], mai),
  (41, .iload_n 1, 1, 0, 1, 0, [], kno),
  (42, .iload_n 2, 1, 0, 2, 0, [], kno),
  (43, .invokevirtual 138, 3, 7, 7, 0, [], K_mo_sendOff),
  (46, .iconst 1, 1, 0, 0, 1, [], kno),
  (47, .ireturn, 1, 5, 1, 0, [], kno),
  (48, .iinc 3 1, 3, 0, 3, 1, [], kno),
  (51, .goto (-49), 3, 1, 2, 0, [], kno),
  (54, .iconst 0, 1, 0, 0, 0, [], kno),
  (55, .ireturn, 1, 5, 1, 0, [], kno)]
def G_mo_core (n : Nat) : rx_G := fun x ls st =>
  match ls, st with
  | [some (.ref r0), some (.int v1), some (.int v2), some (.int v3)], [] => (r0 = 82 ∧ up4 n v3, ry_i x.1 (mo_core_2 n x.2 v1 v2 v3))
  | _, _ => (False, (x, none))
theorem GI_mo_core {n : Nat} {x : mx} {ls : rx_L} {st : List Value} (h : (G_mo_core n x ls st).1) : ∃ (r0 : Nat) (v1 : Int32) (v2 : Int32) (v3 : Int32), ls = [some (.ref r0), some (.int v1), some (.int v2), some (.int v3)] ∧ st = [] ∧ r0 = 82 ∧ up4 n v3 := by
  unfold G_mo_core at h
  split at h
  · exact ⟨_, _, _, _, rfl, rfl, h⟩
  · exact False.elim h
theorem EH_mo_core (n : Nat) (c : mx_C) (m : mx_M) (v1 : Int32) (v2 : Int32) (v3 : Int32) : rx_ev L_mo_core [(2, G_mo_core n)] 37 (L_mo_core.drop 2) (c, m) [some (.ref 82), some (.int v1), some (.int v2), some (.int v3)] [] = ry_i c (mo_core_2 (n + 1) m v1 v2 v3) :=
  rx_ite2 (f := ry_i c) (fun h0 => rx_ite2 (f := ry_i c) (fun h1 => rx_ite2 (f := ry_i c) (fun h2 => rfl) (fun h2 => rfl)) (fun h1 => rfl)) (fun h0 => rfl)
theorem SH_mo_core (n : Nat) (c : mx_C) (m : mx_M) (v1 : Int32) (v2 : Int32) (v3 : Int32) (hP : up4 (n + 1) v3) : rx_sf L_mo_core [(2, G_mo_core n)] 37 (L_mo_core.drop 2) (c, m) [some (.ref 82), some (.int v1), some (.int v2), some (.int v3)] [] :=
  And.intro rfl (And.intro (fun h0 => And.intro rfl (And.intro (mo_ses h0 hP).1 (And.intro (fun h1 => And.intro rfl (And.intro (mo_ses h0 hP).1 (And.intro (fun h2 => And.intro rfl (And.intro (mo_ses h0 hP).1 (And.intro rfl (Or.inr rfl)))) (fun h2 => And.intro rfl (mo_ses h0 hP).2)))) (fun h1 => And.intro rfl (mo_ses h0 hP).2)))) (fun h0 => Or.inl rfl))
theorem E_mo_core (c : mx_C) (m : mx_M) (a1 : Int32) (a2 : Int32)  : rx_ev L_mo_core [(2, G_mo_core (5))] 37 L_mo_core (c, m) [some (.ref 82), some (.int a1), some (.int a2), none] [] = ry_i c (mo_core m a1 a2) :=
  rfl
theorem S_mo_core (c : mx_C) (m : mx_M) (a1 : Int32) (a2 : Int32)  : rx_sf L_mo_core [(2, G_mo_core (5))] 37 L_mo_core (c, m) [some (.ref 82), some (.int a1), some (.int a2), none] [] :=
  And.intro rfl (by decide)
theorem ok_mo_core : rx_okF prog_12_method_39_code 4 (some .boolean) L_mo_core 0 L_mo_core = true := by decide +kernel
theorem O_mo_core {l : Launch} {D : va_G} {g : Nat → ClassId} {ad : Nat → Nat} {B : Nat} (had : mx_A ad B) {p : Program} {e : Env} {s : State} {m : MethodId} {args : Array Value} {below : List Frame} {meth : Method} {c : Code} (X : ox_C p s m args c prog_12_method_39_code 4 "SubscriberLinesModel" D g ad B) : rx_ops p l e ({ frames := 2, cells := 0, slots := 0, locals := 54 } : Room) s m args below meth c prog_12_method_39_code 4 ad (mx_W D g ad B s.heap) mx_cs L_mo_core :=
  And.intro (og_mo_135_g X) (And.intro (og_mo_62_g X) (And.intro (oy_ai X) (And.intro (og_mo_65_g X) (And.intro (oy_ai X) (And.intro (og_mo_59_g X) (And.intro (oy_ai X) (And.intro (cv_mo_sendOff X (V_mo_sendOff had) (al_at 858 (by decide +kernel) rfl) ⟨by decide, by decide⟩) (trivial))))))))
theorem V_mo_core {l : Launch} {D : va_G} {g : Nat → ClassId} {ad : Nat → Nat} {B : Nat} (had : mx_A ad B) : rx_V l D g ad B ⟨"SubscriberLinesModel", "core", "(II)Z"⟩ prog_12_method_39_code 4 (some .boolean) 2 54 K_mo_core := by
  intro av x hp
  obtain ⟨a0, a1, a2, rfl⟩ := k_RII_inv hp
  have hp : a0 = 82 := hp
  have h0 : a0 = 82 := hp
  subst h0
  refine rx_metX (k := 1) had (by decide) (Nat.le_of_ble_eq_true rfl) fun p e s m args below meth c X hr hlk => ?_
  refine rx_walk X hr hlk ok_mo_core (O_mo_core had X) (cut := [(2, G_mo_core (5))]) (rx_cc ?_ rx_c0) 37 0 rfl (S_mo_core x.1 x.2 a1 a2 ) (E_mo_core x.1 x.2 a1 a2 )
  refine rx_loop (G := G_mo_core) X hr hlk ok_mo_core (O_mo_core had X) rx_c0 37 2 rfl (fun x ls st h => ?_) (fun n x ls st h => ?_) _
  · obtain ⟨r0, v1, v2, v3, -, -, h3⟩ := GI_mo_core h
    have h4 := h3.2
    omega
  · obtain ⟨r0, v1, v2, v3, rfl, rfl, h3⟩ := GI_mo_core h
    obtain ⟨rfl, hP⟩ := h3
    exact ⟨SH_mo_core n x.1 x.2 v1 v2 v3 hP, EH_mo_core n x.1 x.2 v1 v2 v3⟩
