def sl_drop (c : mx_C) (a1 : Int32) : mx_C × Int32 := if fl_holds c a1 = 0 then (c, 0) else ((fl_take c a1).1, 1)
def K_sl_drop : rx_K mx := k_RI (fun a0 a1 c m => (a0 = 0, ((sl_drop c a1).1, m), some (.int (sl_drop c a1).2)))
def L_sl_drop : List (rx_E mx) := [
  (0, .aload_n 0, 1, 0, 0, 0, [], kno),
  (1, .getfield 10, 3, 7, 1, 0, [], kgr0 0 0 1),
  (4, .iload_n 1, 1, 0, 1, 0, [], kno),
  (5, .invokevirtual 88, 3, 7, 2, 0, [], K_fl_take),
  (8, .ifnull 7, 3, 3, 7, 0, [], kno),
  (11, .iconst 1, 1, 0, 0, 1, [], kno),
  (12, .goto 4, 3, 1, 8, 0, [], kno),
  (15, .iconst 0, 1, 0, 0, 0, [], kno),
  (16, .ireturn, 1, 5, 1, 0, [], kno)]
def L_sl_dropN : List (rx_E mx) := [
  (0, .aload_n 0, 1, 0, 0, 0, [], kno),
  (1, .getfield 10, 3, 7, 1, 0, [], kgr0 0 0 1),
  (4, .iload_n 1, 1, 0, 1, 0, [], kno),
  (5, .invokevirtual 88, 3, 7, 2, 0, [], K_fl_takeN),
  (8, .ifnull 7, 3, 3, 7, 0, [], kno),
  (11, .iconst 1, 1, 0, 0, 1, [], kno),
  (12, .goto 4, 3, 1, 8, 0, [], kno),
  (15, .iconst 0, 1, 0, 0, 0, [], kno),
  (16, .ireturn, 1, 5, 1, 0, [], kno)]
theorem cv_fl_take {p : Program} {l : Launch} {e : Env} {R : Room} {s : State} {m : MethodId} {args : Array Value} {below : List Frame} {meth : Method} {c : Code} {cc : ByteArray} {nL : Nat} {ad : Nat → Nat} {D : va_G} {g : Nat → ClassId} {B : Nat} {own : String} {idx : Nat} (X : ox_C p s m args c cc nL own D g ad B) (hV : rx_V l D g ad B ⟨"SubscriberLines$Flight", "take", "(I)LSubscriberLines$Packet;"⟩ prog_4_method_4_code 4 (some (.object "SubscriberLines$Packet")) 1 21 K_fl_take) (hl : Cond.methodLink own idx ⟨"SubscriberLines$Flight", "take", "(I)LSubscriberLines$Packet;"⟩ ∈ al) (hR : 1 + 1 ≤ R.frames ∧ 8 + (4 + 11) + 21 ≤ R.locals) : rx_OK p l e R s m args below meth c cc nL ad (mx_W D g ad B s.heap) mx_cs (.invokevirtual idx) 3 2 (K_fl_take) :=
  ox_callV (q := 1) (T := T_1) X hV (fun av x h => by obtain ⟨a0, a1, rfl⟩ := k_RI_inv h; exact ⟨a0, _, rfl, by have h2 : a0 = 1 := h.1; rw [h2]; rfl⟩) (by decide) rfl hl (al_at 441 (by decide +kernel) rfl) (al_at 442 (by decide +kernel) rfl) (al_at 2 (by decide +kernel) rfl) (al_at 443 (by decide +kernel) rfl) ⟨by decide, by decide, by decide +kernel⟩ hR
theorem cv_fl_takeN {p : Program} {l : Launch} {e : Env} {R : Room} {s : State} {m : MethodId} {args : Array Value} {below : List Frame} {meth : Method} {c : Code} {cc : ByteArray} {nL : Nat} {ad : Nat → Nat} {D : va_G} {g : Nat → ClassId} {B : Nat} {own : String} {idx : Nat} (X : ox_C p s m args c cc nL own D g ad B) (hV : rx_V l D g ad B ⟨"SubscriberLines$Flight", "take", "(I)LSubscriberLines$Packet;"⟩ prog_4_method_4_code 4 (some (.object "SubscriberLines$Packet")) 1 21 K_fl_takeN) (hl : Cond.methodLink own idx ⟨"SubscriberLines$Flight", "take", "(I)LSubscriberLines$Packet;"⟩ ∈ al) (hR : 1 + 1 ≤ R.frames ∧ 8 + (4 + 11) + 21 ≤ R.locals) : rx_OK p l e R s m args below meth c cc nL ad (mx_W D g ad B s.heap) mx_cs (.invokevirtual idx) 3 2 (K_fl_takeN) :=
  ox_callV (q := 1) (T := T_1) X hV (fun av x h => by obtain ⟨a0, a1, rfl⟩ := k_RI_inv h; exact ⟨a0, _, rfl, by have h2 : a0 = 1 := h.1; rw [h2]; rfl⟩) (by decide) rfl hl (al_at 441 (by decide +kernel) rfl) (al_at 442 (by decide +kernel) rfl) (al_at 2 (by decide +kernel) rfl) (al_at 443 (by decide +kernel) rfl) ⟨by decide, by decide, by decide +kernel⟩ hR
theorem ok_sl_drop : rx_okF prog_1_method_9_code 2 (some .boolean) L_sl_drop 0 L_sl_drop = true := by decide +kernel
theorem ok_sl_dropN : rx_okF prog_1_method_9_code 2 (some .boolean) L_sl_dropN 0 L_sl_dropN = true := by decide +kernel
theorem E_sl_drop (c : mx_C) (m : mx_M) (a1 : Int32) (h : ¬ fl_holds c a1 = 0) : rx_ev L_sl_drop [] 11 L_sl_drop (c, m) [some (.ref 0), some (.int a1)] [] = rw_i m (sl_drop c a1) := by
  unfold sl_drop
  rw [if_neg h]
  rfl
theorem E_sl_dropN (c : mx_C) (m : mx_M) (a1 : Int32) (h : fl_holds c a1 = 0) : rx_ev L_sl_dropN [] 11 L_sl_dropN (c, m) [some (.ref 0), some (.int a1)] [] = rw_i m (sl_drop c a1) := by
  unfold sl_drop
  rw [if_pos h]
  rfl
theorem S_sl_drop (c : mx_C) (m : mx_M) (a1 : Int32) (h : ¬ fl_holds c a1 = 0) : rx_sf L_sl_drop [] 11 L_sl_drop (c, m) [some (.ref 0), some (.int a1)] [] := And.intro rfl (And.intro (And.intro rfl h) (Or.inr rfl))
theorem S_sl_dropN (c : mx_C) (m : mx_M) (a1 : Int32) (h : fl_holds c a1 = 0) : rx_sf L_sl_dropN [] 11 L_sl_dropN (c, m) [some (.ref 0), some (.int a1)] [] := And.intro rfl (And.intro (And.intro rfl h) (Or.inl rfl))
theorem V_sl_drop {l : Launch} {D : va_G} {g : Nat → ClassId} {ad : Nat → Nat} {B : Nat} (had : mx_A ad B) : rx_V l D g ad B ⟨"SubscriberLines", "drop", "(I)Z"⟩ prog_1_method_9_code 2 (some .boolean) 2 44 K_sl_drop := by
  intro av x hp
  obtain ⟨a0, a1, rfl⟩ := k_RI_inv hp
  have h0 : a0 = 0 := hp
  subst h0
  by_cases h : fl_holds x.1 a1 = 0
  · exact rx_met (k := 0) had (by decide) (Nat.le_of_ble_eq_true rfl) ok_sl_dropN rfl rfl 11 (fun p e s m args below meth c X => And.intro (og_sl_10_g X) (And.intro (cv_fl_takeN X (V_fl_takeN had) (al_at 440 (by decide +kernel) rfl) ⟨by decide, by decide⟩) (trivial))) (S_sl_dropN x.1 x.2 a1 h) (E_sl_dropN x.1 x.2 a1 h)
  · exact rx_met (k := 0) had (by decide) (Nat.le_of_ble_eq_true rfl) ok_sl_drop rfl rfl 11 (fun p e s m args below meth c X => And.intro (og_sl_10_g X) (And.intro (cv_fl_take X (V_fl_take had) (al_at 440 (by decide +kernel) rfl) ⟨by decide, by decide⟩) (trivial))) (S_sl_drop x.1 x.2 a1 h) (E_sl_drop x.1 x.2 a1 h)
def no_receive (c : mx_C) (t p : Nat) : mx_C := if mx_kl t = 4 then su_receive c t p else if mx_kl t = 5 then ac_receive c p else sv_receive c p
def no_runTimer (c : mx_C) (t : Nat) : mx_C := if mx_kl t = 4 then su_runTimer c t else if mx_kl t = 5 then ac_runTimer c else sv_runTimer c
def no_rP (c : mx_C) (t p : Nat) : Prop := mx_kl p = 2 ∧ (mx_kl t = 4 ∨ (mx_kl t = 5 ∧ ac_reP c p) ∨ (mx_kl t = 7 ∧ sv_pool c))
def K_no_receive : rx_K mx := k_RR (fun a0 a1 c m => (no_rP c a0 a1, (no_receive c a0 a1, m), none))
def K_no_runTimer : rx_K mx := k_R (fun a0 c m => (mx_nd a0, (no_runTimer c a0, m), none))
theorem mx_kl_five {i : Nat} (h : mx_kl i = 5) : i = 59 := by
  have hi := mx_kl_lt h (by decide)
  have k : ∀ j : Fin 116, mx_kl j.val = 5 → j.val = 59 := by decide
  exact k ⟨i, hi⟩ h
theorem ox_receive {p : Program} {l : Launch} {e : Env} {R : Room} {s : State} {m : MethodId} {args : Array Value} {below : List Frame} {meth : Method} {c : Code} {cc : ByteArray} {nL : Nat} {ad : Nat → Nat} {D : va_G} {g : Nat → ClassId} {B : Nat} (had : mx_A ad B) (X : ox_C p s m args c cc nL "SubscriberLines" D g ad B) (hR : 5 + 1 ≤ R.frames ∧ 8 + (2 + 11) + 116 ≤ R.locals) : rx_OK p l e R s m args below meth c cc nL ad (mx_W D g ad B s.heap) mx_cs (.invokevirtual 97) 3 2 (K_no_receive) := by
  intro pc mem H locs lA av rest Q ha hp hW hsz hrest hdec kk
  obtain ⟨a0, a1, rfl⟩ := k_RR_inv hp
  have hp : no_rP mem.1 a0 a1 := hp
  obtain ⟨hpk, ht | ⟨ht, hq⟩ | ⟨ht, hq⟩⟩ := hp
  · skip
    have e2 : (K_no_receive [.ref a0, .ref a1] mem).2 = (K_su_receive [.ref a0, .ref a1] mem).2 := by
      show ((no_receive mem.1 a0 a1, mem.2), none) = _
      unfold no_receive
      rw [if_pos ht]
      rfl
    rw [e2] at kk
    exact ow_callA (n := 1) (q := 4) (T := T_4) (xm := ⟨"SubscriberLines$Node", "receive", "(LSubscriberLines$Packet;)V"⟩) X (V_su_receive had) (r := [.ref a1]) ⟨ht, hpk⟩ ht (by decide) rfl (al_at 448 (by decide +kernel) rfl) (al_at 450 (by decide +kernel) rfl) (al_at 586 (by decide +kernel) rfl) (al_at 587 (by decide +kernel) rfl) (al_at 5 (by decide +kernel) rfl) (al_at 588 (by decide +kernel) rfl) X.2.2.2.2.2.1.2.1 (by decide +kernel) (by omega) hW hsz rfl hrest hdec kk
  · skip
    have ht0 : a0 = 59 := mx_kl_five ht
    subst ht0
    have e2 : (K_no_receive [.ref 59, .ref a1] mem).2 = (K_ac_receive [.ref 59, .ref a1] mem).2 := by
      show ((no_receive mem.1 59 a1, mem.2), none) = _
      unfold no_receive
      rw [if_neg (by decide), if_pos ht]
      rfl
    rw [e2] at kk
    exact ow_callA (n := 1) (q := 5) (T := T_5) (xm := ⟨"SubscriberLines$Node", "receive", "(LSubscriberLines$Packet;)V"⟩) X (V_ac_receive had) (r := [.ref a1]) ⟨rfl, hpk, hq⟩ rfl (by decide) rfl (al_at 448 (by decide +kernel) rfl) (al_at 450 (by decide +kernel) rfl) (al_at 451 (by decide +kernel) rfl) (al_at 452 (by decide +kernel) rfl) (al_at 7 (by decide +kernel) rfl) (al_at 453 (by decide +kernel) rfl) X.2.2.2.2.2.1.2.1 (by decide +kernel) (by omega) hW hsz rfl hrest hdec kk
  · skip
    have ht0 : a0 = 66 := mx_kl_seven ht
    subst ht0
    have e2 : (K_no_receive [.ref 66, .ref a1] mem).2 = (K_sv_receive [.ref 66, .ref a1] mem).2 := by
      show ((no_receive mem.1 66 a1, mem.2), none) = _
      unfold no_receive
      rw [if_neg (by decide), if_neg (by decide)]
      rfl
    rw [e2] at kk
    exact ow_callA (n := 1) (q := 7) (T := T_7) (xm := ⟨"SubscriberLines$Node", "receive", "(LSubscriberLines$Packet;)V"⟩) X (V_sv_receive had) (r := [.ref a1]) ⟨rfl, hpk, hq⟩ rfl (by decide) rfl (al_at 448 (by decide +kernel) rfl) (al_at 450 (by decide +kernel) rfl) (al_at 524 (by decide +kernel) rfl) (al_at 525 (by decide +kernel) rfl) (al_at 9 (by decide +kernel) rfl) (al_at 526 (by decide +kernel) rfl) X.2.2.2.2.2.1.2.1 (by decide +kernel) (by omega) hW hsz rfl hrest hdec kk

theorem ox_runTimer {p : Program} {l : Launch} {e : Env} {R : Room} {s : State} {m : MethodId} {args : Array Value} {below : List Frame} {meth : Method} {c : Code} {cc : ByteArray} {nL : Nat} {ad : Nat → Nat} {D : va_G} {g : Nat → ClassId} {B : Nat} (had : mx_A ad B) (X : ox_C p s m args c cc nL "SubscriberLines" D g ad B) (hR : 5 + 1 ≤ R.frames ∧ 8 + (3 + 11) + 115 ≤ R.locals) : rx_OK p l e R s m args below meth c cc nL ad (mx_W D g ad B s.heap) mx_cs (.invokevirtual 101) 3 1 (K_no_runTimer) := by
  intro pc mem H locs lA av rest Q ha hp hW hsz hrest hdec kk
  obtain ⟨a0, rfl⟩ := k_R_inv hp
  have hp : mx_nd a0 := hp
  obtain ht | ht | ht := hp
  · skip
    have e2 : (K_no_runTimer [.ref a0] mem).2 = (K_su_runTimer [.ref a0] mem).2 := by
      show ((no_runTimer mem.1 a0, mem.2), none) = _
      unfold no_runTimer
      rw [if_pos ht]
      rfl
    rw [e2] at kk
    exact ow_callA (n := 0) (q := 4) (T := T_4) (xm := ⟨"SubscriberLines$Node", "runTimer", "()V"⟩) X (V_su_runTimer had) (r := []) ht ht (by decide) rfl (al_at 602 (by decide +kernel) rfl) (al_at 604 (by decide +kernel) rfl) (al_at 622 (by decide +kernel) rfl) (al_at 623 (by decide +kernel) rfl) (al_at 5 (by decide +kernel) rfl) (al_at 624 (by decide +kernel) rfl) X.2.2.2.2.2.1.2.2 (by decide +kernel) (by omega) hW hsz rfl hrest hdec kk
  · skip
    have ht0 : a0 = 59 := mx_kl_five ht
    subst ht0
    have e2 : (K_no_runTimer [.ref 59] mem).2 = (K_ac_runTimer [.ref 59] mem).2 := by
      show ((no_runTimer mem.1 59, mem.2), none) = _
      unfold no_runTimer
      rw [if_neg (by decide), if_pos ht]
      rfl
    rw [e2] at kk
    exact ow_callA (n := 0) (q := 5) (T := T_5) (xm := ⟨"SubscriberLines$Node", "runTimer", "()V"⟩) X (V_ac_runTimer had) (r := []) rfl rfl (by decide) rfl (al_at 602 (by decide +kernel) rfl) (al_at 604 (by decide +kernel) rfl) (al_at 605 (by decide +kernel) rfl) (al_at 606 (by decide +kernel) rfl) (al_at 7 (by decide +kernel) rfl) (al_at 607 (by decide +kernel) rfl) X.2.2.2.2.2.1.2.2 (by decide +kernel) (by omega) hW hsz rfl hrest hdec kk
  · skip
    have ht0 : a0 = 66 := mx_kl_seven ht
    subst ht0
    have e2 : (K_no_runTimer [.ref 66] mem).2 = (K_sv_runTimer [.ref 66] mem).2 := by
      show ((no_runTimer mem.1 66, mem.2), none) = _
      unfold no_runTimer
      rw [if_neg (by decide), if_neg (by decide)]
      rfl
    rw [e2] at kk
    exact ow_callA (n := 0) (q := 7) (T := T_7) (xm := ⟨"SubscriberLines$Node", "runTimer", "()V"⟩) X (V_sv_runTimer had) (r := []) rfl rfl (by decide) rfl (al_at 602 (by decide +kernel) rfl) (al_at 604 (by decide +kernel) rfl) (al_at 614 (by decide +kernel) rfl) (al_at 615 (by decide +kernel) rfl) (al_at 9 (by decide +kernel) rfl) (al_at 616 (by decide +kernel) rfl) X.2.2.2.2.2.1.2.2 (by decide +kernel) (by omega) hW hsz rfl hrest hdec kk

theorem fl_takeL (a : Int32) (r : Nat) : ∀ (n : Nat) (c : mx_C) (v : Int32), fl_P n v r c.2.2.2.1.val → (fl_take_19 n c a r v).2 = r := by
  intro n
  induction n with
  | zero => intro c v hP; omega
  | succ n ih =>
    intro c v hP
    unfold fl_take_19
    split
    · rename_i h
      exact ih (mx_pr c _ _) _ (fl_P1 h hP).2
    · rfl
theorem fl_take_eq {c : mx_C} {k : Int32} (h : ¬ fl_holds c k = 0) : (fl_take c k).2 = 4 + (c.2.1 k.toNatClampNeg).val := by
  unfold fl_take
  exact fl_takeL k _ 42 c k (fl_P0 (fl_holds_in h))
theorem fl_take_pk {c : mx_C} {k : Int32} (h : ¬ fl_holds c k = 0) : mx_kl (fl_take c k).2 = 2 := by
  rw [fl_take_eq h]
  exact mx_kl_row _
/-- what a tick's deliveries ask, k of them -/
def tk1 : Nat → mx_C → Prop
  | 0, _ => True
  | k + 1, c => ¬ fl_holds c 0 = 0 ∧ vp_in ((fl_take c 0).1.1 (fl_take c 0).2 2) 6 ∧
    ((fl_take c 0).1.1 (mx_no (Int32.toNatClampNeg ((fl_take c 0).1.1 (fl_take c 0).2 2))) 0 = 0 → no_rP (fl_take c 0).1 (mx_no (Int32.toNatClampNeg ((fl_take c 0).1.1 (fl_take c 0).2 2))) (fl_take c 0).2 ∧ tk1 k (no_receive (fl_take c 0).1 (mx_no (Int32.toNatClampNeg ((fl_take c 0).1.1 (fl_take c 0).2 2))) (fl_take c 0).2)) ∧
    (¬ (fl_take c 0).1.1 (mx_no (Int32.toNatClampNeg ((fl_take c 0).1.1 (fl_take c 0).2 2))) 0 = 0 → tk1 k (fl_take c 0).1)
def tkP (n : Nat) (v : Int32) (c : mx_C) : Prop := ∃ k : Nat, v = Int32.ofNat k ∧ k ≤ 40 ∧ k < n ∧ tk1 k c
theorem tkP_s {n : Nat} {v : Int32} {c : mx_C} (h : 0 < v) (hP : tkP (n + 1) v c) : ∃ k : Nat, v + -1 = Int32.ofNat k ∧ k ≤ 40 ∧ k < n ∧ tk1 (k + 1) c := by
  obtain ⟨k, rfl, h2, h3, h4⟩ := hP
  cases k with
  | zero => exact absurd h (by decide)
  | succ k =>
    refine ⟨k, ?_, by omega, by omega, h4⟩
    rw [i_eq, i_add, i_of _ (by omega), i_of _ (by omega)]
    · show ((k + 1 : Nat) : Int) + -1 = _; omega
    · rw [i_of _ (by omega)]; show _ ≤ ((k + 1 : Nat) : Int) + -1; omega
    · rw [i_of _ (by omega)]; show ((k + 1 : Nat) : Int) + -1 < _; omega
theorem tkP_h {n : Nat} {v : Int32} {c : mx_C} (h : 0 < v) (hP : tkP (n + 1) v c) : ¬ fl_holds c 0 = 0 := by
  obtain ⟨k, -, -, -, h4⟩ := tkP_s h hP
  exact h4.1
theorem tkP_t {n : Nat} {v : Int32} {c : mx_C} (h : 0 < v) (hP : tkP (n + 1) v c) : vp_in ((fl_take c 0).1.1 (fl_take c 0).2 2) 6 := by
  obtain ⟨k, -, -, -, h4⟩ := tkP_s h hP
  exact h4.2.1
theorem tkP_r {n : Nat} {v : Int32} {c : mx_C} (h : 0 < v) (hP : tkP (n + 1) v c) (h1 : (fl_take c 0).1.1 (mx_no (Int32.toNatClampNeg ((fl_take c 0).1.1 (fl_take c 0).2 2))) 0 = 0) : no_rP (fl_take c 0).1 (mx_no (Int32.toNatClampNeg ((fl_take c 0).1.1 (fl_take c 0).2 2))) (fl_take c 0).2 := by
  obtain ⟨k, -, -, -, h4⟩ := tkP_s h hP
  exact (h4.2.2.1 h1).1
theorem tkP_1 {n : Nat} {v : Int32} {c : mx_C} (h : 0 < v) (hP : tkP (n + 1) v c) (h1 : (fl_take c 0).1.1 (mx_no (Int32.toNatClampNeg ((fl_take c 0).1.1 (fl_take c 0).2 2))) 0 = 0) : tkP n (v + -1) (no_receive (fl_take c 0).1 (mx_no (Int32.toNatClampNeg ((fl_take c 0).1.1 (fl_take c 0).2 2))) (fl_take c 0).2) := by
  obtain ⟨k, e1, e2, e3, h4⟩ := tkP_s h hP
  exact ⟨k, e1, e2, e3, (h4.2.2.1 h1).2⟩
theorem tkP_2 {n : Nat} {v : Int32} {c : mx_C} (h : 0 < v) (hP : tkP (n + 1) v c) (h1 : ¬ (fl_take c 0).1.1 (mx_no (Int32.toNatClampNeg ((fl_take c 0).1.1 (fl_take c 0).2 2))) 0 = 0) : tkP n (v + -1) (fl_take c 0).1 := by
  obtain ⟨k, e1, e2, e3, h4⟩ := tkP_s h hP
  exact ⟨k, e1, e2, e3, h4.2.2.2 h1⟩
theorem tkP_0 {c : mx_C} (h : tk1 c.2.2.2.1.val c) : tkP 42 (Int32.ofNat c.2.2.2.1.val) c := ⟨_, rfl, by omega, by omega, h⟩
theorem nd_in {v : Int32} (h : vp_in v 6) : mx_nd (mx_no v.toNatClampNeg) := by
  have hk : v.toNatClampNeg < 6 := Nat.not_le.mp fun q => h (Or.inr q)
  have key : ∀ j : Fin 6, mx_kl (mx_no j.val) = 4 ∨ mx_kl (mx_no j.val) = 5 ∨ mx_kl (mx_no j.val) = 7 := by decide
  exact key ⟨_, hk⟩
abbrev up6 (n : Nat) (v : Int32) : Prop := 0 ≤ v.toInt ∧ v.toInt ≤ 6 ∧ 6 < (n : Int) + v.toInt
theorem up6_in {n : Nat} {v : Int32} (h : v < 6) (hP : up6 n v) : vp_in v 6 := by
  rw [i_lt] at h
  have h : v.toInt < 6 := h
  rw [i_in]
  exact ⟨hP.1, h⟩
theorem up6_1 {n : Nat} {v : Int32} (h : v < 6) (hP : up6 (n + 1) v) : up6 n (v + 1) := by
  rw [i_lt] at h
  have h : v.toInt < 6 := h
  obtain ⟨p1, p2, p3⟩ := hP
  have e : (v + 1).toInt = v.toInt + 1 := i_add (show _ ≤ v.toInt + 1 by omega) (show v.toInt + 1 < _ by omega)
  unfold up6
  rw [e]
  omega
def sl_tick_66 : Nat → mx_C → Int32 → Int32 → mx_C × Int32
  | 0, c, _, _ => (c, 0)
  | n + 1, c, v1, v2 =>
    if v2 < 6 then
      if 0 < (c.1 (mx_no (Int32.toNatClampNeg v2)) 0) then
        let c1 := mx_pi c (mx_no (Int32.toNatClampNeg v2)) 0 ((c.1 (mx_no (Int32.toNatClampNeg v2)) 0) - 1)
        sl_tick_66 n c1 v1 (v2 + 1)
      else
        let c2 := no_runTimer c (mx_no (Int32.toNatClampNeg v2))
        sl_tick_66 n c2 v1 (v2 + 1)
    else
      (c, v1)
def sl_tick_10 : Nat → mx_C → Int32 → Int32 → mx_C × Int32
  | 0, c, _, _ => (c, 0)
  | n + 1, c, v1, v2 =>
    if 0 < v2 then
      let q1 := fl_take c 0
      if (q1.1.1 (mx_no (Int32.toNatClampNeg (q1.1.1 q1.2 2))) 0) = 0 then
        let c2 := no_receive q1.1 (mx_no (Int32.toNatClampNeg (q1.1.1 q1.2 2))) q1.2
        sl_tick_10 n c2 (v1 + 1) (v2 + (-1))
      else
        sl_tick_10 n q1.1 v1 (v2 + (-1))
    else
      sl_tick_66 (7) c v1 0
def sl_tick (c : mx_C)  : mx_C × Int32 :=
  sl_tick_10 (42) c 0 (Int32.ofNat c.2.2.2.1.val)
def K_sl_tick : rx_K mx := k_R (fun a0 c m => (a0 = 0 ∧ tk1 c.2.2.2.1.val c, ((sl_tick c).1, m), some (.int (sl_tick c).2)))
def L_sl_tick : List (rx_E mx) := [
  (0, .iconst 0, 1, 0, 0, 0, [], kno),
  (1, .istore_n 1, 1, 0, 1, 0, [], kno),
  (2, .aload_n 0, 1, 0, 0, 0, [], kno),
  (3, .getfield 10, 3, 7, 1, 0, [], kgr0 0 0 1),
  (6, .getfield 85, 3, 7, 1, 0, [], kgf),
  (9, .istore_n 2, 1, 0, 2, 0, [], kno),
  (10, .iload_n 2, 1, 0, 2, 0, [], kno),
  (11, .ifCond .le 53, 3, 2, 32, 0, [], kno),
  (14, .aload_n 0, 1, 0, 0, 0, [], kno),
  (15, .getfield 10, 3, 7, 1, 0, [], kgr0 0 0 1),
  (18, .iconst 0, 1, 0, 0, 0, [], kno),
  (19, .invokevirtual 88, 3, 7, 2, 0, [], K_fl_take),
  (22, .astore_n 3, 1, 0, 3, 0, [], kno),
  (23, .aload_n 3, 1, 0, 3, 0, [], kno),
  (24, .ifnull 34, 3, 3, 30, 0, [], kno),
  (27, .aload_n 0, 1, 0, 0, 0, [], kno),
  (28, .getfield 24, 3, 7, 1, 0, [], kgr0 0 4 46),
  (31, .aload_n 3, 1, 0, 3, 0, [], kno),
  (32, .getfield 92, 3, 7, 1, 0, [], kgi 2 2),
  (35, .aaload, 1, 7, 2, 0, [], kan),
  (36, .getfield 81, 3, 7, 1, 0, [], kgn),
  (39, .ifCond .ne 19, 3, 2, 30, 0, [], kno),
  (42, .iinc 1 1, 3, 0, 1, 1, [], kno),
  (45, .aload_n 0, 1, 0, 0, 0, [], kno),
  (46, .getfield 24, 3, 7, 1, 0, [], kgr0 0 4 46),
  (49, .aload_n 3, 1, 0, 3, 0, [], kno),
  (50, .getfield 92, 3, 7, 1, 0, [], kgi 2 2),
  (53, .aaload, 1, 7, 2, 0, [], kan),
  (54, .aload_n 3, 1, 0, 3, 0, [], kno),
  (55, .invokevirtual 97, 3, 7, 2, 0, [], K_no_receive),
  (58, .iinc 2 (-1), 3, 0, 2, (-1), [], kno),
  (61, .goto (-51), 3, 1, 6, 0, [], kno),
  (64, .iconst 0, 1, 0, 0, 0, [], kno),
  (65, .istore_n 2, 1, 0, 2, 0, [], kno),
  (66, .iload_n 2, 1, 0, 2, 0, [], kno),
  (67, .bipush 6, 2, 0, 0, 6, [], kno),
  (69, .if_icmp .ge 48, 3, 2, 60, 0, [], kno),
  (72, .aload_n 0, 1, 0, 0, 0, [], kno),
  (73, .getfield 24, 3, 7, 1, 0, [], kgr0 0 4 46),
  (76, .iload_n 2, 1, 0, 2, 0, [], kno),
  (77, .aaload, 1, 7, 2, 0, [], kan),
  (78, .getfield 81, 3, 7, 1, 0, [], kgn),
  (81, .ifCond .le 21, 3, 2, 53, 0, [], kno),
  (84, .aload_n 0, 1, 0, 0, 0, [], kno),
  (85, .getfield 24, 3, 7, 1, 0, [], kgr0 0 4 46),
  (88, .iload_n 2, 1, 0, 2, 0, [], kno),
  (89, .aaload, 1, 7, 2, 0, [], kan),
  (90, .dup, 1, 0, 0, 0, [], kno),
  (91, .getfield 81, 3, 7, 1, 0, [], kgn),
  (94, .iconst 1, 1, 0, 0, 1, [], kno),
  (95, .isub, 1, 0, 0, 0, [], kno),
  (96, .putfield 81, 3, 7, 2, 0, [], kpn),
  (99, .goto 12, 3, 1, 58, 0, [], kno),
  (102, .aload_n 0, 1, 0, 0, 0, [], kno),
  (103, .getfield 24, 3, 7, 1, 0, [], kgr0 0 4 46),
  (106, .iload_n 2, 1, 0, 2, 0, [], kno),
  (107, .aaload, 1, 7, 2, 0, [], kan),
  (108, .invokevirtual 101, 3, 7, 1, 0, [], K_no_runTimer),
  (111, .iinc 2 1, 3, 0, 2, 1, [], kno),
  (114, .goto (-48), 3, 1, 34, 0, [], kno),
  (117, .iload_n 1, 1, 0, 1, 0, [], kno),
  (118, .ireturn, 1, 5, 0, 0, [], kno)]
def G_sl_tick_10 (n : Nat) : rx_G := fun x ls st =>
  match ls, st with
  | [some (.ref r0), some (.int v1), some (.int v2), o3], [] => (r0 = 0 ∧ tkP n v2 x.1, rw_i x.2 (sl_tick_10 n x.1 v1 v2))
  | _, _ => (False, (x, none))
theorem GI_sl_tick_10 {n : Nat} {x : mx} {ls : rx_L} {st : List Value} (h : (G_sl_tick_10 n x ls st).1) : ∃ (r0 : Nat) (v1 : Int32) (v2 : Int32) (o3 : Option Value), ls = [some (.ref r0), some (.int v1), some (.int v2), o3] ∧ st = [] ∧ r0 = 0 ∧ tkP n v2 x.1 := by
  unfold G_sl_tick_10 at h
  split at h
  · exact ⟨_, _, _, _, rfl, rfl, h⟩
  · exact False.elim h
def G_sl_tick_66 (n : Nat) : rx_G := fun x ls st =>
  match ls, st with
  | [some (.ref r0), some (.int v1), some (.int v2), o3], [] => (r0 = 0 ∧ up6 n v2, rw_i x.2 (sl_tick_66 n x.1 v1 v2))
  | _, _ => (False, (x, none))
theorem GI_sl_tick_66 {n : Nat} {x : mx} {ls : rx_L} {st : List Value} (h : (G_sl_tick_66 n x ls st).1) : ∃ (r0 : Nat) (v1 : Int32) (v2 : Int32) (o3 : Option Value), ls = [some (.ref r0), some (.int v1), some (.int v2), o3] ∧ st = [] ∧ r0 = 0 ∧ up6 n v2 := by
  unfold G_sl_tick_66 at h
  split at h
  · exact ⟨_, _, _, _, rfl, rfl, h⟩
  · exact False.elim h
theorem EH_sl_tick_10 (n : Nat) (c : mx_C) (m : mx_M) (v1 : Int32) (v2 : Int32) (o3 : Option Value) : rx_ev L_sl_tick [(10, G_sl_tick_10 n), (66, G_sl_tick_66 (7))] 64 (L_sl_tick.drop 6) (c, m) [some (.ref 0), some (.int v1), some (.int v2), o3] [] = rw_i m (sl_tick_10 (n + 1) c v1 v2) :=
  rx_ite2 (f := rw_i m) (fun _ => rx_ite2 (f := rw_i m) (fun _ => rfl) (fun _ => rfl)) (fun _ => rfl)
theorem SH_sl_tick_10 (n : Nat) (c : mx_C) (m : mx_M) (v1 : Int32) (v2 : Int32) (o3 : Option Value) (hP : tkP (n + 1) v2 c) : rx_sf L_sl_tick [(10, G_sl_tick_10 n), (66, G_sl_tick_66 (7))] 64 (L_sl_tick.drop 6) (c, m) [some (.ref 0), some (.int v1), some (.int v2), o3] [] :=
  And.intro (fun h0 => And.intro rfl (And.intro (And.intro rfl (tkP_h h0 hP)) (And.intro rfl (And.intro (fl_take_pk (tkP_h h0 hP)) (And.intro (tkP_t h0 hP) (And.intro (nd_in (tkP_t h0 hP)) (And.intro (fun h1 => And.intro rfl (And.intro (fl_take_pk (tkP_h h0 hP)) (And.intro (tkP_t h0 hP) (And.intro (tkP_r h0 hP h1) (And.intro rfl (tkP_1 h0 hP h1)))))) (fun h1 => And.intro rfl (tkP_2 h0 hP h1))))))))) (fun h0 => And.intro rfl (by decide))
theorem EH_sl_tick_66 (n : Nat) (c : mx_C) (m : mx_M) (v1 : Int32) (v2 : Int32) (o3 : Option Value) : rx_ev L_sl_tick [(66, G_sl_tick_66 n)] 64 (L_sl_tick.drop 34) (c, m) [some (.ref 0), some (.int v1), some (.int v2), o3] [] = rw_i m (sl_tick_66 (n + 1) c v1 v2) :=
  rx_ite2 (f := rw_i m) (fun _ => rx_ite2 (f := rw_i m) (fun _ => rfl) (fun _ => rfl)) (fun _ => rfl)
theorem SH_sl_tick_66 (n : Nat) (c : mx_C) (m : mx_M) (v1 : Int32) (v2 : Int32) (o3 : Option Value) (hP : up6 (n + 1) v2) : rx_sf L_sl_tick [(66, G_sl_tick_66 n)] 64 (L_sl_tick.drop 34) (c, m) [some (.ref 0), some (.int v1), some (.int v2), o3] [] :=
  And.intro (fun h0 => And.intro rfl (And.intro (up6_in h0 hP) (And.intro (nd_in (up6_in h0 hP)) (And.intro (fun h1 => And.intro rfl (And.intro (up6_in h0 hP) (And.intro (nd_in (up6_in h0 hP)) (And.intro (nd_in (up6_in h0 hP)) (And.intro rfl (up6_1 h0 hP)))))) (fun h1 => And.intro rfl (And.intro (up6_in h0 hP) (And.intro (nd_in (up6_in h0 hP)) (And.intro rfl (up6_1 h0 hP))))))))) (fun h0 => trivial)
theorem E_sl_tick (c : mx_C) (m : mx_M)   : rx_ev L_sl_tick [(10, G_sl_tick_10 (42)), (66, G_sl_tick_66 (7))] 64 L_sl_tick (c, m) [some (.ref 0), none, none, none] [] = rw_i m (sl_tick c) :=
  rfl
theorem S_sl_tick (c : mx_C) (m : mx_M)  (hT : tk1 c.2.2.2.1.val c) : rx_sf L_sl_tick [(10, G_sl_tick_10 (42)), (66, G_sl_tick_66 (7))] 64 L_sl_tick (c, m) [some (.ref 0), none, none, none] [] :=
  And.intro rfl (And.intro rfl (And.intro rfl (tkP_0 hT)))
theorem og_sl_92_g {p : Program} {l : Launch} {e : Env} {R : Room} {s : State} {m : MethodId} {args : Array Value} {below : List Frame} {meth : Method} {c : Code} {cc : ByteArray} {nL : Nat} {ad : Nat → Nat} {D : va_G} {g : Nat → ClassId} {B : Nat} (X : ox_C p s m args c cc nL "SubscriberLines" D g ad B) : rx_OK p l e R s m args below meth c cc nL ad (mx_W D g ad B s.heap) mx_cs (.getfield 92) 3 1 (kgi 2 2) := ox_gi (T := T_2) X rfl (by decide) (by decide) in_2 rfl (al_at 45 (by decide +kernel) rfl)
theorem og_sl_81_g {p : Program} {l : Launch} {e : Env} {R : Room} {s : State} {m : MethodId} {args : Array Value} {below : List Frame} {meth : Method} {c : Code} {cc : ByteArray} {nL : Nat} {ad : Nat → Nat} {D : va_G} {g : Nat → ClassId} {B : Nat} (X : ox_C p s m args c cc nL "SubscriberLines" D g ad B) : rx_OK p l e R s m args below meth c cc nL ad (mx_W D g ad B s.heap) mx_cs (.getfield 81) 3 1 (kgn) := ox_gn X (al_at 143 (by decide +kernel) rfl)
theorem ok_sl_tick : rx_okF prog_1_method_8_code 4 (some .int) L_sl_tick 0 L_sl_tick = true := by decide +kernel
theorem O_sl_tick {l : Launch} {D : va_G} {g : Nat → ClassId} {ad : Nat → Nat} {B : Nat} (had : mx_A ad B) {p : Program} {e : Env} {s : State} {m : MethodId} {args : Array Value} {below : List Frame} {meth : Method} {c : Code} (X : ox_C p s m args c prog_1_method_8_code 4 "SubscriberLines" D g ad B) : rx_ops p l e ({ frames := 6, cells := 0, slots := 0, locals := 137 } : Room) s m args below meth c prog_1_method_8_code 4 ad (mx_W D g ad B s.heap) mx_cs L_sl_tick :=
  And.intro (og_sl_10_g X) (And.intro (og_sl_85_g X) (And.intro (og_sl_10_g X) (And.intro (cv_fl_take X (V_fl_take had) (al_at 440 (by decide +kernel) rfl) ⟨by decide, by decide⟩) (And.intro (og_sl_24_g X) (And.intro (og_sl_92_g X) (And.intro (ox_an X) (And.intro (og_sl_81_g X) (And.intro (og_sl_24_g X) (And.intro (og_sl_92_g X) (And.intro (ox_an X) (And.intro (ox_receive had X (by decide)) (And.intro (og_sl_24_g X) (And.intro (ox_an X) (And.intro (og_sl_81_g X) (And.intro (og_sl_24_g X) (And.intro (ox_an X) (And.intro (og_sl_81_g X) (And.intro (og_sl_81_p X) (And.intro (og_sl_24_g X) (And.intro (ox_an X) (And.intro (ox_runTimer had X (by decide)) (trivial))))))))))))))))))))))
theorem V_sl_tick {l : Launch} {D : va_G} {g : Nat → ClassId} {ad : Nat → Nat} {B : Nat} (had : mx_A ad B) : rx_V l D g ad B ⟨"SubscriberLines", "tick", "()I"⟩ prog_1_method_8_code 4 (some .int) 6 137 K_sl_tick := by
  intro av x hp
  obtain ⟨a0, rfl⟩ := k_R_inv hp
  have hp : a0 = 0 ∧ tk1 x.1.2.2.2.1.val x.1 := hp
  have h0 : a0 = 0 := hp.1
  subst h0
  refine rx_metX (k := 3) had (by decide) (Nat.le_of_ble_eq_true rfl) fun p e s m args below meth c X hr hlk => ?_
  have lp66 := fun n => rx_loop (l := l) (e := e) (below := below) (res := (K_sl_tick [.ref 0] x).2) (G := G_sl_tick_66) (cs0 := []) X hr hlk ok_sl_tick (O_sl_tick had X) rx_c0 64 34 rfl (fun x ls st h => by
    obtain ⟨r0, v1, v2, o3, -, -, h3⟩ := GI_sl_tick_66 h
    have h4 := h3.2
    omega) (fun n x ls st h => by
    obtain ⟨r0, v1, v2, o3, rfl, rfl, h3⟩ := GI_sl_tick_66 h
    obtain ⟨rfl, hP⟩ := h3
    exact ⟨SH_sl_tick_66 n x.1 x.2 v1 v2 o3 hP, EH_sl_tick_66 n x.1 x.2 v1 v2 o3⟩) n
  have lp10 := fun n => rx_loop (l := l) (e := e) (below := below) (res := (K_sl_tick [.ref 0] x).2) (G := G_sl_tick_10) (cs0 := [(66, G_sl_tick_66 (7))]) X hr hlk ok_sl_tick (O_sl_tick had X) (rx_cc (lp66 _) rx_c0) 64 6 rfl (fun x ls st h => by
    obtain ⟨r0, v1, v2, o3, -, -, h3⟩ := GI_sl_tick_10 h
    have h4 := h3.2
    obtain ⟨k, h5, h6, h7, h8⟩ := h4; omega) (fun n x ls st h => by
    obtain ⟨r0, v1, v2, o3, rfl, rfl, h3⟩ := GI_sl_tick_10 h
    obtain ⟨rfl, hP⟩ := h3
    exact ⟨SH_sl_tick_10 n x.1 x.2 v1 v2 o3 hP, EH_sl_tick_10 n x.1 x.2 v1 v2 o3⟩) n
  exact rx_walk X hr hlk ok_sl_tick (O_sl_tick had X) (cut := [(10, G_sl_tick_10 (42)), (66, G_sl_tick_66 (7))]) (rx_cc (lp10 _) (rx_cc (lp66 _) rx_c0)) 64 0 rfl (S_sl_tick x.1 x.2  hp.2) (E_sl_tick x.1 x.2  )
