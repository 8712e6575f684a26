def sl_isSubscriber (c : mx_C) (a1 : Int32) : Int32 :=
  if a1 < 0 then
    0
  else
    if a1 < 4 then
      1
    else
      0
def K_sl_isSubscriber : rx_K mx := k_I (fun a0 c m => (True, (c, m), some (.int (sl_isSubscriber c a0))))
def L_sl_isSubscriber : List (rx_E mx) := [
  (0, .iload_n 0, 1, 0, 0, 0, [], kno),
  (1, .ifCond .lt 12, 3, 2, 7, 0, [], kno),
  (4, .iload_n 0, 1, 0, 0, 0, [], kno),
  (5, .iconst 4, 1, 0, 0, 4, [], kno),
  (6, .if_icmp .ge 7, 3, 2, 7, 0, [], kno),
  (9, .iconst 1, 1, 0, 0, 1, [], kno),
  (10, .goto 4, 3, 1, 8, 0, [], kno),
  (13, .iconst 0, 1, 0, 0, 0, [], kno),
  (14, .ireturn, 1, 5, 1, 0, [], kno)]
theorem E_sl_isSubscriber (c : mx_C) (m : mx_M) (a1 : Int32)  : rx_ev L_sl_isSubscriber [] 11 L_sl_isSubscriber (c, m) [some (.int a1)] [] = rw_p c m (sl_isSubscriber c a1) :=
  rx_ite2 (f := rw_p c m) (fun _ => rfl) (fun _ => rx_ite2 (f := rw_p c m) (fun _ => rfl) (fun _ => rfl))
theorem S_sl_isSubscriber (c : mx_C) (m : mx_M) (a1 : Int32)  : rx_sf L_sl_isSubscriber [] 11 L_sl_isSubscriber (c, m) [some (.int a1)] [] :=
  And.intro (fun h0 => Or.inl rfl) (fun h0 => And.intro (fun h1 => Or.inr rfl) (fun h1 => Or.inl rfl))

theorem ok_sl_isSubscriber : rx_okF prog_1_method_21_code 1 (some .boolean) L_sl_isSubscriber 0 L_sl_isSubscriber = true := by decide +kernel
theorem V_sl_isSubscriber {l : Launch} {D : va_G} {g : Nat → ClassId} {ad : Nat → Nat} {B : Nat} (had : mx_A ad B) : rx_V l D g ad B ⟨"SubscriberLines", "isSubscriber", "(I)Z"⟩ prog_1_method_21_code 1 (some .boolean) 0 0 K_sl_isSubscriber := by
  intro av x hp
  obtain ⟨a0, rfl⟩ := k_I_inv hp
  exact rx_met (k := 0) had (by decide) (Nat.le_of_ble_eq_true rfl) ok_sl_isSubscriber rfl rfl 11 (fun p e s m args below meth c X => trivial) (S_sl_isSubscriber x.1 x.2 a0 ) (E_sl_isSubscriber x.1 x.2 a0)
theorem sl_sub_in {c : mx_C} {k : Int32} (h : ¬ sl_isSubscriber c k = 0) : vp_in k 4 := by
  unfold sl_isSubscriber at h
  split at h
  · exact absurd rfl h
  · rename_i h0
    split at h
    · rename_i h1
      exact in4 h0 h1
    · exact absurd rfl h
theorem sl_kl {k : Int32} (h : vp_in k 4) : mx_kl (47 + 3 * k.toNatClampNeg) = 4 ∧ mx_kl (47 + 3 * k.toNatClampNeg + 1) = 3 := by
  have hk : k.toNatClampNeg < 4 := Nat.not_le.mp fun q => h (Or.inr q)
  have key : ∀ j : Fin 4, mx_kl (47 + 3 * j.val) = 4 ∧ mx_kl (47 + 3 * j.val + 1) = 3 := by decide
  exact key ⟨_, hk⟩
theorem sv_admit_01 (c : mx_C) (a b : Int32) : (sv_admit c a b).2 = 0 ∨ (sv_admit c a b).2 = 1 := by
  unfold sv_admit
  repeat (first | exact Or.inl rfl | exact Or.inr rfl | split)
theorem fl_exchange_01 (c : mx_C) (a : Int32) : (fl_exchange c a).2 = 0 ∨ (fl_exchange c a).2 = 1 := by
  unfold fl_exchange
  repeat (first | exact Or.inl rfl | exact Or.inr rfl | split)
theorem sv_speakL (a b : Int32) : ∀ (n : Nat) (c : mx_C) (v : Int32), (sv_speak_2 n c a b v).2 = 0 ∨ (sv_speak_2 n c a b v).2 = 1 := by
  intro n
  induction n with
  | zero => intro c v; exact Or.inl rfl
  | succ n ih =>
    intro c v
    unfold sv_speak_2
    repeat (first | exact Or.inl rfl | exact Or.inr rfl | exact ih _ _ | split)
theorem sv_speak_01 (c : mx_C) (a b : Int32) : (sv_speak c a b).2 = 0 ∨ (sv_speak c a b).2 = 1 := sv_speakL a b 5 c 0
theorem sl_nd4 {a : Int32} (h : a = 4) : mx_nd (mx_no a.toNatClampNeg) ∧ vp_in a (mx_lenG 5 5 46) := by
  subst h
  exact ⟨Or.inr (Or.inl rfl), i_in.mpr (by decide)⟩
theorem sl_nd5 {a : Int32} (h : a = 5) : mx_nd (mx_no a.toNatClampNeg) ∧ vp_in a (mx_lenG 5 5 46) := by
  subst h
  exact ⟨Or.inr (Or.inr rfl), i_in.mpr (by decide)⟩
theorem sl_ses {k : Int32} {q : Fin 5} (h0 : ¬ k < 0) (h1 : k < Int32.ofNat q.val) : vp_in k (mx_lenG 3 3 67) := by
  rw [i_lt, Int32.toInt_zero] at h0
  rw [i_lt, i_of _ (by omega)] at h1
  rw [i_in]
  show _ ∧ k.toInt < (4 : Int)
  omega
def sl_allow (c : mx_C) (a1 : Int32) (a2 : Int32) : mx_C × Int32 :=
  let q1 := sv_admit c a1 a2
  (q1.1, q1.2)
def K_sl_allow : rx_K mx := k_RII (fun a0 a1 a2 c m => (a0 = 0, ((sl_allow c a1 a2).1, m), some (.int (sl_allow c a1 a2).2)))
def L_sl_allow : List (rx_E mx) := [
  (0, .aload_n 0, 1, 0, 0, 0, [], kno),
  (1, .getfield 54, 3, 7, 1, 0, [], kgr0 0 3 66),
  (4, .iload_n 1, 1, 0, 1, 0, [], kno),
  (5, .iload_n 2, 1, 0, 2, 0, [], kno),
  (6, .invokevirtual 58, 3, 7, 3, 0, [], K_sv_admit),
  (9, .ireturn, 1, 5, 1, 0, [], kno)]
theorem E_sl_allow (c : mx_C) (m : mx_M) (a1 : Int32) (a2 : Int32)  : rx_ev L_sl_allow [] 8 L_sl_allow (c, m) [some (.ref 0), some (.int a1), some (.int a2)] [] = rw_i m (sl_allow c a1 a2) :=
  rfl
theorem S_sl_allow (c : mx_C) (m : mx_M) (a1 : Int32) (a2 : Int32)  : rx_sf L_sl_allow [] 8 L_sl_allow (c, m) [some (.ref 0), some (.int a1), some (.int a2)] [] :=
  And.intro rfl (And.intro rfl ((sv_admit_01 _ _ _)))

theorem og_sl_54_g {p : Program} {l : Launch} {e : Env} {R : Room} {s : State} {m : MethodId} {args : Array Value} {below : List Frame} {meth : Method} {c : Code} {cc : ByteArray} {nL : Nat} {ad : Nat → Nat} {D : va_G} {g : Nat → ClassId} {B : Nat} (X : ox_C p s m args c cc nL "SubscriberLines" D g ad B) : rx_OK p l e R s m args below meth c cc nL ad (mx_W D g ad B s.heap) mx_cs (.getfield 54) 3 1 (kgr0 0 3 66) := ox_gr0 (T := T_0) X rfl (by decide) (by decide) in_0 rfl (al_at 333 (by decide +kernel) rfl)
theorem cv_sv_admit {p : Program} {l : Launch} {e : Env} {R : Room} {s : State} {m : MethodId} {args : Array Value} {below : List Frame} {meth : Method} {c : Code} {cc : ByteArray} {nL : Nat} {ad : Nat → Nat} {D : va_G} {g : Nat → ClassId} {B : Nat} {own : String} {idx : Nat} (X : ox_C p s m args c cc nL own D g ad B) (hV : rx_V l D g ad B ⟨"SubscriberLines$Server", n_adm, "(II)Z"⟩ prog_8_method_3_code 3 (some .boolean) 0 0 K_sv_admit) (hl : Cond.methodLink own idx ⟨"SubscriberLines$Server", n_adm, "(II)Z"⟩ ∈ al) (hR : 0 + 1 ≤ R.frames ∧ 8 + (3 + 11) + 0 ≤ R.locals) : rx_OK p l e R s m args below meth c cc nL ad (mx_W D g ad B s.heap) mx_cs (.invokevirtual idx) 3 3 (K_sv_admit) :=
  ox_callV (q := 7) (T := T_7) X hV (fun av x h => by obtain ⟨a0, a1, a2, rfl⟩ := k_RII_inv h; exact ⟨a0, _, rfl, by have h2 : a0 = 66 := h; rw [h2]; rfl⟩) (by decide) rfl hl (al_at 351 (by decide +kernel) rfl) (al_at 352 (by decide +kernel) rfl) (al_at 9 (by decide +kernel) rfl) (al_at 353 (by decide +kernel) rfl) ⟨by decide, by decide, by decide +kernel⟩ hR
theorem ok_sl_allow : rx_okF prog_1_method_2_code 3 (some .boolean) L_sl_allow 0 L_sl_allow = true := by decide +kernel
theorem V_sl_allow {l : Launch} {D : va_G} {g : Nat → ClassId} {ad : Nat → Nat} {B : Nat} (had : mx_A ad B) : rx_V l D g ad B ⟨"SubscriberLines", "allow", "(II)Z"⟩ prog_1_method_2_code 3 (some .boolean) 1 22 K_sl_allow := by
  intro av x hp
  obtain ⟨a0, a1, a2, rfl⟩ := k_RII_inv hp
  have hp : a0 = 0 := hp
  have h0 : a0 = 0 := hp
  subst h0
  exact rx_met (k := 0) had (by decide) (Nat.le_of_ble_eq_true rfl) ok_sl_allow rfl rfl 8 (fun p e s m args below meth c X => And.intro (og_sl_54_g X) (And.intro (cv_sv_admit X (V_sv_admit had) (al_at 350 (by decide +kernel) rfl) ⟨by decide, by decide⟩) (trivial))) (S_sl_allow x.1 x.2 a1 a2 ) (E_sl_allow x.1 x.2 a1 a2)
def sl_core (c : mx_C) (a1 : Int32) (a2 : Int32) : mx_C × Int32 :=
  let q1 := sv_speak c a1 a2
  (q1.1, q1.2)
def K_sl_core : rx_K mx := k_RII (fun a0 a1 a2 c m => (a0 = 0, ((sl_core c a1 a2).1, m), some (.int (sl_core c a1 a2).2)))
def L_sl_core : List (rx_E mx) := [
  (0, .aload_n 0, 1, 0, 0, 0, [], kno),
  (1, .getfield 54, 3, 7, 1, 0, [], kgr0 0 3 66),
  (4, .iload_n 1, 1, 0, 1, 0, [], kno),
  (5, .iload_n 2, 1, 0, 2, 0, [], kno),
  (6, .invokevirtual 76, 3, 7, 3, 0, [], K_sv_speak),
  (9, .ireturn, 1, 5, 1, 0, [], kno)]
theorem E_sl_core (c : mx_C) (m : mx_M) (a1 : Int32) (a2 : Int32)  : rx_ev L_sl_core [] 8 L_sl_core (c, m) [some (.ref 0), some (.int a1), some (.int a2)] [] = rw_i m (sl_core c a1 a2) :=
  rfl
theorem S_sl_core (c : mx_C) (m : mx_M) (a1 : Int32) (a2 : Int32)  : rx_sf L_sl_core [] 8 L_sl_core (c, m) [some (.ref 0), some (.int a1), some (.int a2)] [] :=
  And.intro rfl (And.intro rfl ((sv_speak_01 _ _ _)))

theorem cv_sv_speak {p : Program} {l : Launch} {e : Env} {R : Room} {s : State} {m : MethodId} {args : Array Value} {below : List Frame} {meth : Method} {c : Code} {cc : ByteArray} {nL : Nat} {ad : Nat → Nat} {D : va_G} {g : Nat → ClassId} {B : Nat} {own : String} {idx : Nat} (X : ox_C p s m args c cc nL own D g ad B) (hV : rx_V l D g ad B ⟨"SubscriberLines$Server", "speak", "(II)Z"⟩ prog_8_method_4_code 5 (some .boolean) 1 24 K_sv_speak) (hl : Cond.methodLink own idx ⟨"SubscriberLines$Server", "speak", "(II)Z"⟩ ∈ al) (hR : 1 + 1 ≤ R.frames ∧ 8 + (5 + 11) + 24 ≤ R.locals) : rx_OK p l e R s m args below meth c cc nL ad (mx_W D g ad B s.heap) mx_cs (.invokevirtual idx) 3 3 (K_sv_speak) :=
  ox_callV (q := 7) (T := T_7) X hV (fun av x h => by obtain ⟨a0, a1, a2, rfl⟩ := k_RII_inv h; exact ⟨a0, _, rfl, by have h2 : a0 = 66 := h; rw [h2]; rfl⟩) (by decide) rfl hl (al_at 410 (by decide +kernel) rfl) (al_at 411 (by decide +kernel) rfl) (al_at 9 (by decide +kernel) rfl) (al_at 412 (by decide +kernel) rfl) ⟨by decide, by decide, by decide +kernel⟩ hR
theorem ok_sl_core : rx_okF prog_1_method_6_code 3 (some .boolean) L_sl_core 0 L_sl_core = true := by decide +kernel
theorem V_sl_core {l : Launch} {D : va_G} {g : Nat → ClassId} {ad : Nat → Nat} {B : Nat} (had : mx_A ad B) : rx_V l D g ad B ⟨"SubscriberLines", "core", "(II)Z"⟩ prog_1_method_6_code 3 (some .boolean) 2 48 K_sl_core := by
  intro av x hp
  obtain ⟨a0, a1, a2, rfl⟩ := k_RII_inv hp
  have hp : a0 = 0 := hp
  have h0 : a0 = 0 := hp
  subst h0
  exact rx_met (k := 0) had (by decide) (Nat.le_of_ble_eq_true rfl) ok_sl_core rfl rfl 8 (fun p e s m args below meth c X => And.intro (og_sl_54_g X) (And.intro (cv_sv_speak X (V_sv_speak had) (al_at 409 (by decide +kernel) rfl) ⟨by decide, by decide⟩) (trivial))) (S_sl_core x.1 x.2 a1 a2 ) (E_sl_core x.1 x.2 a1 a2)
def sl_swap (c : mx_C) (a1 : Int32) : mx_C × Int32 :=
  let q1 := fl_exchange c a1
  (q1.1, q1.2)
def K_sl_swap : rx_K mx := k_RI (fun a0 a1 c m => (a0 = 0, ((sl_swap c a1).1, m), some (.int (sl_swap c a1).2)))
def L_sl_swap : List (rx_E mx) := [
  (0, .aload_n 0, 1, 0, 0, 0, [], kno),
  (1, .getfield 10, 3, 7, 1, 0, [], kgr0 0 0 1),
  (4, .iload_n 1, 1, 0, 1, 0, [], kno),
  (5, .invokevirtual 104, 3, 7, 2, 0, [], K_fl_exchange),
  (8, .ireturn, 1, 5, 1, 0, [], kno)]
theorem E_sl_swap (c : mx_C) (m : mx_M) (a1 : Int32)  : rx_ev L_sl_swap [] 7 L_sl_swap (c, m) [some (.ref 0), some (.int a1)] [] = rw_i m (sl_swap c a1) :=
  rfl
theorem S_sl_swap (c : mx_C) (m : mx_M) (a1 : Int32)  : rx_sf L_sl_swap [] 7 L_sl_swap (c, m) [some (.ref 0), some (.int a1)] [] :=
  And.intro rfl (And.intro rfl ((fl_exchange_01 _ _)))

theorem og_sl_10_g {p : Program} {l : Launch} {e : Env} {R : Room} {s : State} {m : MethodId} {args : Array Value} {below : List Frame} {meth : Method} {c : Code} {cc : ByteArray} {nL : Nat} {ad : Nat → Nat} {D : va_G} {g : Nat → ClassId} {B : Nat} (X : ox_C p s m args c cc nL "SubscriberLines" D g ad B) : rx_OK p l e R s m args below meth c cc nL ad (mx_W D g ad B s.heap) mx_cs (.getfield 10) 3 1 (kgr0 0 0 1) := ox_gr0 (T := T_0) X rfl (by decide) (by decide) in_0 rfl (al_at 330 (by decide +kernel) rfl)
theorem cv_fl_exchange {p : Program} {l : Launch} {e : Env} {R : Room} {s : State} {m : MethodId} {args : Array Value} {below : List Frame} {meth : Method} {c : Code} {cc : ByteArray} {nL : Nat} {ad : Nat → Nat} {D : va_G} {g : Nat → ClassId} {B : Nat} {own : String} {idx : Nat} (X : ox_C p s m args c cc nL own D g ad B) (hV : rx_V l D g ad B ⟨"SubscriberLines$Flight", "exchange", "(I)Z"⟩ prog_4_method_5_code 3 (some .boolean) 0 0 K_fl_exchange) (hl : Cond.methodLink own idx ⟨"SubscriberLines$Flight", "exchange", "(I)Z"⟩ ∈ al) (hR : 0 + 1 ≤ R.frames ∧ 8 + (3 + 11) + 0 ≤ R.locals) : rx_OK p l e R s m args below meth c cc nL ad (mx_W D g ad B s.heap) mx_cs (.invokevirtual idx) 3 2 (K_fl_exchange) :=
  ox_callV (q := 1) (T := T_1) X hV (fun av x h => by obtain ⟨a0, a1, rfl⟩ := k_RI_inv h; exact ⟨a0, _, rfl, by have h2 : a0 = 1 := h; rw [h2]; rfl⟩) (by decide) rfl hl (al_at 638 (by decide +kernel) rfl) (al_at 639 (by decide +kernel) rfl) (al_at 2 (by decide +kernel) rfl) (al_at 640 (by decide +kernel) rfl) ⟨by decide, by decide, by decide +kernel⟩ hR
theorem ok_sl_swap : rx_okF prog_1_method_10_code 2 (some .boolean) L_sl_swap 0 L_sl_swap = true := by decide +kernel
theorem V_sl_swap {l : Launch} {D : va_G} {g : Nat → ClassId} {ad : Nat → Nat} {B : Nat} (had : mx_A ad B) : rx_V l D g ad B ⟨"SubscriberLines", "swap", "(I)Z"⟩ prog_1_method_10_code 2 (some .boolean) 1 22 K_sl_swap := by
  intro av x hp
  obtain ⟨a0, a1, rfl⟩ := k_RI_inv hp
  have hp : a0 = 0 := hp
  have h0 : a0 = 0 := hp
  subst h0
  exact rx_met (k := 0) had (by decide) (Nat.le_of_ble_eq_true rfl) ok_sl_swap rfl rfl 7 (fun p e s m args below meth c X => And.intro (og_sl_10_g X) (And.intro (cv_fl_exchange X (V_fl_exchange had) (al_at 637 (by decide +kernel) rfl) ⟨by decide, by decide⟩) (trivial))) (S_sl_swap x.1 x.2 a1 ) (E_sl_swap x.1 x.2 a1)
def sl_flight (c : mx_C)  : Int32 :=
  (Int32.ofNat c.2.2.2.1.val)
def K_sl_flight : rx_K mx := k_R (fun a0 c m => (a0 = 0, (c, m), some (.int (sl_flight c))))
def L_sl_flight : List (rx_E mx) := [
  (0, .aload_n 0, 1, 0, 0, 0, [], kno),
  (1, .getfield 10, 3, 7, 1, 0, [], kgr0 0 0 1),
  (4, .getfield 85, 3, 7, 1, 0, [], kgf),
  (7, .ireturn, 1, 5, 0, 0, [], kno)]
theorem E_sl_flight (c : mx_C) (m : mx_M)   : rx_ev L_sl_flight [] 6 L_sl_flight (c, m) [some (.ref 0)] [] = rw_p c m (sl_flight c) :=
  rfl
theorem S_sl_flight (c : mx_C) (m : mx_M)   : rx_sf L_sl_flight [] 6 L_sl_flight (c, m) [some (.ref 0)] [] :=
  And.intro rfl (And.intro rfl (trivial))

theorem og_sl_85_g {p : Program} {l : Launch} {e : Env} {R : Room} {s : State} {m : MethodId} {args : Array Value} {below : List Frame} {meth : Method} {c : Code} {cc : ByteArray} {nL : Nat} {ad : Nat → Nat} {D : va_G} {g : Nat → ClassId} {B : Nat} (X : ox_C p s m args c cc nL "SubscriberLines" D g ad B) : rx_OK p l e R s m args below meth c cc nL ad (mx_W D g ad B s.heap) mx_cs (.getfield 85) 3 1 (kgf) := ox_gf X (al_at 94 (by decide +kernel) rfl)
theorem ok_sl_flight : rx_okF prog_1_method_11_code 1 (some .int) L_sl_flight 0 L_sl_flight = true := by decide +kernel
theorem V_sl_flight {l : Launch} {D : va_G} {g : Nat → ClassId} {ad : Nat → Nat} {B : Nat} (had : mx_A ad B) : rx_V l D g ad B ⟨"SubscriberLines", "flight", "()I"⟩ prog_1_method_11_code 1 (some .int) 0 0 K_sl_flight := by
  intro av x hp
  obtain ⟨a0, rfl⟩ := k_R_inv hp
  have hp : a0 = 0 := hp
  have h0 : a0 = 0 := hp
  subst h0
  exact rx_met (k := 0) had (by decide) (Nat.le_of_ble_eq_true rfl) ok_sl_flight rfl rfl 6 (fun p e s m args below meth c X => And.intro (og_sl_10_g X) (And.intro (og_sl_85_g X) (trivial))) (S_sl_flight x.1 x.2  ) (E_sl_flight x.1 x.2 )
def sl_dial (c : mx_C) (a1 : Int32) (a2 : Int32) (a3 : Int32) : mx_C × Int32 :=
  if (sl_isSubscriber c a1) = 0 then
    (c, 0)
  else
    let q1 := su_connect c (47 + 3 * (Int32.toNatClampNeg a1)) a2 a3
    if q1.2 = 0 then
      (q1.1, 0)
    else
      (q1.1, 1)
def K_sl_dial : rx_K mx := k_RIII (fun a0 a1 a2 a3 c m => (a0 = 0, ((sl_dial c a1 a2 a3).1, m), some (.int (sl_dial c a1 a2 a3).2)))
def L_sl_dial : List (rx_E mx) := [
  (0, .iload_n 1, 1, 0, 1, 0, [], kno),
  (1, .invokestatic 62, 3, 7, 1, 0, [], K_sl_isSubscriber),
  (4, .ifCond .eq 21, 3, 2, 13, 0, [], kno),
  (7, .aload_n 0, 1, 0, 0, 0, [], kno),
  (8, .getfield 18, 3, 7, 1, 0, [], kgr0 0 1 45),
  (11, .iload_n 1, 1, 0, 1, 0, [], kno),
  (12, .aaload, 1, 7, 2, 0, [], kau),
  (13, .iload_n 2, 1, 0, 2, 0, [], kno),
  (14, .iload_n 3, 1, 0, 3, 0, [], kno),
  (15, .invokevirtual 66, 3, 7, 3, 0, [], K_su_connect),
  (18, .ifCond .eq 7, 3, 2, 13, 0, [], kno),
  (21, .iconst 1, 1, 0, 0, 1, [], kno),
  (22, .goto 4, 3, 1, 14, 0, [], kno),
  (25, .iconst 0, 1, 0, 0, 0, [], kno),
  (26, .ireturn, 1, 5, 1, 0, [], kno)]
theorem E_sl_dial (c : mx_C) (m : mx_M) (a1 : Int32) (a2 : Int32) (a3 : Int32)  : rx_ev L_sl_dial [] 17 L_sl_dial (c, m) [some (.ref 0), some (.int a1), some (.int a2), some (.int a3)] [] = rw_i m (sl_dial c a1 a2 a3) :=
  rx_ite2 (f := rw_i m) (fun _ => rfl) (fun _ => rx_ite2 (f := rw_i m) (fun _ => rfl) (fun _ => rfl))
theorem S_sl_dial (c : mx_C) (m : mx_M) (a1 : Int32) (a2 : Int32) (a3 : Int32)  : rx_sf L_sl_dial [] 17 L_sl_dial (c, m) [some (.ref 0), some (.int a1), some (.int a2), some (.int a3)] [] :=
  And.intro trivial (And.intro (fun h0 => Or.inl rfl) (fun h0 => And.intro rfl (And.intro (sl_sub_in h0) (And.intro (sl_kl (sl_sub_in h0)).1 (And.intro (fun h1 => Or.inl rfl) (fun h1 => Or.inr rfl))))))

theorem cv_sl_isSubscriber {p : Program} {l : Launch} {e : Env} {R : Room} {s : State} {m : MethodId} {args : Array Value} {below : List Frame} {meth : Method} {c : Code} {cc : ByteArray} {nL : Nat} {ad : Nat → Nat} {D : va_G} {g : Nat → ClassId} {B : Nat} {idx : Nat} (X : ox_C p s m args c cc nL "SubscriberLines" D g ad B) (hV : rx_V l D g ad B ⟨"SubscriberLines", "isSubscriber", "(I)Z"⟩ prog_1_method_21_code 1 (some .boolean) 0 0 K_sl_isSubscriber) (hl : Cond.methodLink "SubscriberLines" idx ⟨"SubscriberLines", "isSubscriber", "(I)Z"⟩ ∈ al) (hR : 0 + 1 ≤ R.frames ∧ 8 + (1 + 11) + 0 ≤ R.locals) : rx_OK p l e R s m args below meth c cc nL ad (mx_W D g ad B s.heap) mx_cs (.invokestatic idx) 3 1 (K_sl_isSubscriber) :=
  ox_callS X hV hl (al_at 359 (by decide +kernel) rfl) (al_at 1 (by decide +kernel) rfl) (al_at 360 (by decide +kernel) rfl) ⟨rfl, by decide, by decide, by decide +kernel⟩ hR
theorem og_sl_18_g {p : Program} {l : Launch} {e : Env} {R : Room} {s : State} {m : MethodId} {args : Array Value} {below : List Frame} {meth : Method} {c : Code} {cc : ByteArray} {nL : Nat} {ad : Nat → Nat} {D : va_G} {g : Nat → ClassId} {B : Nat} (X : ox_C p s m args c cc nL "SubscriberLines" D g ad B) : rx_OK p l e R s m args below meth c cc nL ad (mx_W D g ad B s.heap) mx_cs (.getfield 18) 3 1 (kgr0 0 1 45) := ox_gr0 (T := T_0) X rfl (by decide) (by decide) in_0 rfl (al_at 331 (by decide +kernel) rfl)
theorem cv_su_connect {p : Program} {l : Launch} {e : Env} {R : Room} {s : State} {m : MethodId} {args : Array Value} {below : List Frame} {meth : Method} {c : Code} {cc : ByteArray} {nL : Nat} {ad : Nat → Nat} {D : va_G} {g : Nat → ClassId} {B : Nat} {own : String} {idx : Nat} (X : ox_C p s m args c cc nL own D g ad B) (hV : rx_V l D g ad B ⟨"SubscriberLines$Subscriber", "connect", "(II)Z"⟩ prog_10_method_2_code 3 (some .boolean) 2 44 K_su_connect) (hl : Cond.methodLink own idx ⟨"SubscriberLines$Subscriber", "connect", "(II)Z"⟩ ∈ al) (hR : 2 + 1 ≤ R.frames ∧ 8 + (3 + 11) + 44 ≤ R.locals) : rx_OK p l e R s m args below meth c cc nL ad (mx_W D g ad B s.heap) mx_cs (.invokevirtual idx) 3 3 (K_su_connect) :=
  ox_callV (q := 4) (T := T_4) X hV (fun av x h => by obtain ⟨a0, a1, a2, rfl⟩ := k_RII_inv h; exact ⟨a0, _, rfl, h⟩) (by decide) rfl hl (al_at 362 (by decide +kernel) rfl) (al_at 363 (by decide +kernel) rfl) (al_at 5 (by decide +kernel) rfl) (al_at 364 (by decide +kernel) rfl) ⟨by decide, by decide, by decide +kernel⟩ hR
theorem ok_sl_dial : rx_okF prog_1_method_3_code 4 (some .boolean) L_sl_dial 0 L_sl_dial = true := by decide +kernel
theorem V_sl_dial {l : Launch} {D : va_G} {g : Nat → ClassId} {ad : Nat → Nat} {B : Nat} (had : mx_A ad B) : rx_V l D g ad B ⟨"SubscriberLines", "dial", "(III)Z"⟩ prog_1_method_3_code 4 (some .boolean) 3 66 K_sl_dial := by
  intro av x hp
  obtain ⟨a0, a1, a2, a3, rfl⟩ := k_RIII_inv hp
  have hp : a0 = 0 := hp
  have h0 : a0 = 0 := hp
  subst h0
  exact rx_met (k := 0) had (by decide) (Nat.le_of_ble_eq_true rfl) ok_sl_dial rfl rfl 17 (fun p e s m args below meth c X => And.intro (cv_sl_isSubscriber X (V_sl_isSubscriber had) (al_at 358 (by decide +kernel) rfl) ⟨by decide, by decide⟩) (And.intro (og_sl_18_g X) (And.intro (ox_au X) (And.intro (cv_su_connect X (V_su_connect had) (al_at 361 (by decide +kernel) rfl) ⟨by decide, by decide⟩) (trivial))))) (S_sl_dial x.1 x.2 a1 a2 a3 ) (E_sl_dial x.1 x.2 a1 a2 a3)
def sl_hangup (c : mx_C) (a1 : Int32) : mx_C × Int32 :=
  if (sl_isSubscriber c a1) = 0 then
    (c, 0)
  else
    let q1 := su_disconnect c (47 + 3 * (Int32.toNatClampNeg a1))
    if q1.2 = 0 then
      (q1.1, 0)
    else
      (q1.1, 1)
def K_sl_hangup : rx_K mx := k_RI (fun a0 a1 c m => (a0 = 0, ((sl_hangup c a1).1, m), some (.int (sl_hangup c a1).2)))
def L_sl_hangup : List (rx_E mx) := [
  (0, .iload_n 1, 1, 0, 1, 0, [], kno),
  (1, .invokestatic 62, 3, 7, 1, 0, [], K_sl_isSubscriber),
  (4, .ifCond .eq 19, 3, 2, 11, 0, [], kno),
  (7, .aload_n 0, 1, 0, 0, 0, [], kno),
  (8, .getfield 18, 3, 7, 1, 0, [], kgr0 0 1 45),
  (11, .iload_n 1, 1, 0, 1, 0, [], kno),
  (12, .aaload, 1, 7, 2, 0, [], kau),
  (13, .invokevirtual 69, 3, 7, 1, 0, [], K_su_disconnect),
  (16, .ifCond .eq 7, 3, 2, 11, 0, [], kno),
  (19, .iconst 1, 1, 0, 0, 1, [], kno),
  (20, .goto 4, 3, 1, 12, 0, [], kno),
  (23, .iconst 0, 1, 0, 0, 0, [], kno),
  (24, .ireturn, 1, 5, 1, 0, [], kno)]
theorem E_sl_hangup (c : mx_C) (m : mx_M) (a1 : Int32)  : rx_ev L_sl_hangup [] 15 L_sl_hangup (c, m) [some (.ref 0), some (.int a1)] [] = rw_i m (sl_hangup c a1) :=
  rx_ite2 (f := rw_i m) (fun _ => rfl) (fun _ => rx_ite2 (f := rw_i m) (fun _ => rfl) (fun _ => rfl))
theorem S_sl_hangup (c : mx_C) (m : mx_M) (a1 : Int32)  : rx_sf L_sl_hangup [] 15 L_sl_hangup (c, m) [some (.ref 0), some (.int a1)] [] :=
  And.intro trivial (And.intro (fun h0 => Or.inl rfl) (fun h0 => And.intro rfl (And.intro (sl_sub_in h0) (And.intro (sl_kl (sl_sub_in h0)).1 (And.intro (fun h1 => Or.inl rfl) (fun h1 => Or.inr rfl))))))

theorem cv_su_disconnect {p : Program} {l : Launch} {e : Env} {R : Room} {s : State} {m : MethodId} {args : Array Value} {below : List Frame} {meth : Method} {c : Code} {cc : ByteArray} {nL : Nat} {ad : Nat → Nat} {D : va_G} {g : Nat → ClassId} {B : Nat} {own : String} {idx : Nat} (X : ox_C p s m args c cc nL own D g ad B) (hV : rx_V l D g ad B ⟨"SubscriberLines$Subscriber", "disconnect", "()Z"⟩ prog_10_method_3_code 1 (some .boolean) 2 44 K_su_disconnect) (hl : Cond.methodLink own idx ⟨"SubscriberLines$Subscriber", "disconnect", "()Z"⟩ ∈ al) (hR : 2 + 1 ≤ R.frames ∧ 8 + (1 + 11) + 44 ≤ R.locals) : rx_OK p l e R s m args below meth c cc nL ad (mx_W D g ad B s.heap) mx_cs (.invokevirtual idx) 3 1 (K_su_disconnect) :=
  ox_callV (q := 4) (T := T_4) X hV (fun av x h => by obtain ⟨a0, rfl⟩ := k_R_inv h; exact ⟨a0, _, rfl, h⟩) (by decide) rfl hl (al_at 382 (by decide +kernel) rfl) (al_at 383 (by decide +kernel) rfl) (al_at 5 (by decide +kernel) rfl) (al_at 384 (by decide +kernel) rfl) ⟨by decide, by decide, by decide +kernel⟩ hR
theorem ok_sl_hangup : rx_okF prog_1_method_4_code 2 (some .boolean) L_sl_hangup 0 L_sl_hangup = true := by decide +kernel
theorem V_sl_hangup {l : Launch} {D : va_G} {g : Nat → ClassId} {ad : Nat → Nat} {B : Nat} (had : mx_A ad B) : rx_V l D g ad B ⟨"SubscriberLines", "hangup", "(I)Z"⟩ prog_1_method_4_code 2 (some .boolean) 3 64 K_sl_hangup := by
  intro av x hp
  obtain ⟨a0, a1, rfl⟩ := k_RI_inv hp
  have hp : a0 = 0 := hp
  have h0 : a0 = 0 := hp
  subst h0
  exact rx_met (k := 0) had (by decide) (Nat.le_of_ble_eq_true rfl) ok_sl_hangup rfl rfl 15 (fun p e s m args below meth c X => And.intro (cv_sl_isSubscriber X (V_sl_isSubscriber had) (al_at 358 (by decide +kernel) rfl) ⟨by decide, by decide⟩) (And.intro (og_sl_18_g X) (And.intro (ox_au X) (And.intro (cv_su_disconnect X (V_su_disconnect had) (al_at 381 (by decide +kernel) rfl) ⟨by decide, by decide⟩) (trivial))))) (S_sl_hangup x.1 x.2 a1 ) (E_sl_hangup x.1 x.2 a1)
def sl_send (c : mx_C) (a1 : Int32) (a2 : Int32) (a3 : Int32) : mx_C × Int32 :=
  if (sl_isSubscriber c a1) = 0 then
    (c, 0)
  else
    let q1 := su_speak c (47 + 3 * (Int32.toNatClampNeg a1)) a2 a3
    if q1.2 = 0 then
      (q1.1, 0)
    else
      (q1.1, 1)
def K_sl_send : rx_K mx := k_RIII (fun a0 a1 a2 a3 c m => (a0 = 0, ((sl_send c a1 a2 a3).1, m), some (.int (sl_send c a1 a2 a3).2)))
def L_sl_send : List (rx_E mx) := [
  (0, .iload_n 1, 1, 0, 1, 0, [], kno),
  (1, .invokestatic 62, 3, 7, 1, 0, [], K_sl_isSubscriber),
  (4, .ifCond .eq 21, 3, 2, 13, 0, [], kno),
  (7, .aload_n 0, 1, 0, 0, 0, [], kno),
  (8, .getfield 18, 3, 7, 1, 0, [], kgr0 0 1 45),
  (11, .iload_n 1, 1, 0, 1, 0, [], kno),
  (12, .aaload, 1, 7, 2, 0, [], kau),
  (13, .iload_n 2, 1, 0, 2, 0, [], kno),
  (14, .iload_n 3, 1, 0, 3, 0, [], kno),
  (15, .invokevirtual 73, 3, 7, 3, 0, [], K_su_speak),
  (18, .ifCond .eq 7, 3, 2, 13, 0, [], kno),
  (21, .iconst 1, 1, 0, 0, 1, [], kno),
  (22, .goto 4, 3, 1, 14, 0, [], kno),
  (25, .iconst 0, 1, 0, 0, 0, [], kno),
  (26, .ireturn, 1, 5, 1, 0, [], kno)]
theorem E_sl_send (c : mx_C) (m : mx_M) (a1 : Int32) (a2 : Int32) (a3 : Int32)  : rx_ev L_sl_send [] 17 L_sl_send (c, m) [some (.ref 0), some (.int a1), some (.int a2), some (.int a3)] [] = rw_i m (sl_send c a1 a2 a3) :=
  rx_ite2 (f := rw_i m) (fun _ => rfl) (fun _ => rx_ite2 (f := rw_i m) (fun _ => rfl) (fun _ => rfl))
theorem S_sl_send (c : mx_C) (m : mx_M) (a1 : Int32) (a2 : Int32) (a3 : Int32)  : rx_sf L_sl_send [] 17 L_sl_send (c, m) [some (.ref 0), some (.int a1), some (.int a2), some (.int a3)] [] :=
  And.intro trivial (And.intro (fun h0 => Or.inl rfl) (fun h0 => And.intro rfl (And.intro (sl_sub_in h0) (And.intro (sl_kl (sl_sub_in h0)).1 (And.intro (fun h1 => Or.inl rfl) (fun h1 => Or.inr rfl))))))

theorem cv_su_speak {p : Program} {l : Launch} {e : Env} {R : Room} {s : State} {m : MethodId} {args : Array Value} {below : List Frame} {meth : Method} {c : Code} {cc : ByteArray} {nL : Nat} {ad : Nat → Nat} {D : va_G} {g : Nat → ClassId} {B : Nat} {own : String} {idx : Nat} (X : ox_C p s m args c cc nL own D g ad B) (hV : rx_V l D g ad B ⟨"SubscriberLines$Subscriber", "speak", "(II)Z"⟩ prog_10_method_4_code 3 (some .boolean) 1 24 K_su_speak) (hl : Cond.methodLink own idx ⟨"SubscriberLines$Subscriber", "speak", "(II)Z"⟩ ∈ al) (hR : 1 + 1 ≤ R.frames ∧ 8 + (3 + 11) + 24 ≤ R.locals) : rx_OK p l e R s m args below meth c cc nL ad (mx_W D g ad B s.heap) mx_cs (.invokevirtual idx) 3 3 (K_su_speak) :=
  ox_callV (q := 4) (T := T_4) X hV (fun av x h => by obtain ⟨a0, a1, a2, rfl⟩ := k_RII_inv h; exact ⟨a0, _, rfl, h⟩) (by decide) rfl hl (al_at 402 (by decide +kernel) rfl) (al_at 403 (by decide +kernel) rfl) (al_at 5 (by decide +kernel) rfl) (al_at 404 (by decide +kernel) rfl) ⟨by decide, by decide, by decide +kernel⟩ hR
theorem ok_sl_send : rx_okF prog_1_method_5_code 4 (some .boolean) L_sl_send 0 L_sl_send = true := by decide +kernel
theorem V_sl_send {l : Launch} {D : va_G} {g : Nat → ClassId} {ad : Nat → Nat} {B : Nat} (had : mx_A ad B) : rx_V l D g ad B ⟨"SubscriberLines", "send", "(III)Z"⟩ prog_1_method_5_code 4 (some .boolean) 2 46 K_sl_send := by
  intro av x hp
  obtain ⟨a0, a1, a2, a3, rfl⟩ := k_RIII_inv hp
  have hp : a0 = 0 := hp
  have h0 : a0 = 0 := hp
  subst h0
  exact rx_met (k := 0) had (by decide) (Nat.le_of_ble_eq_true rfl) ok_sl_send rfl rfl 17 (fun p e s m args below meth c X => And.intro (cv_sl_isSubscriber X (V_sl_isSubscriber had) (al_at 358 (by decide +kernel) rfl) ⟨by decide, by decide⟩) (And.intro (og_sl_18_g X) (And.intro (ox_au X) (And.intro (cv_su_speak X (V_su_speak had) (al_at 401 (by decide +kernel) rfl) ⟨by decide, by decide⟩) (trivial))))) (S_sl_send x.1 x.2 a1 a2 a3 ) (E_sl_send x.1 x.2 a1 a2 a3)
def sl_state (c : mx_C) (a1 : Int32) : Int32 :=
  if (sl_isSubscriber c a1) = 0 then
    (-1)
  else
    (c.1 (47 + 3 * (Int32.toNatClampNeg a1)) 4)
def K_sl_state : rx_K mx := k_RI (fun a0 a1 c m => (a0 = 0, (c, m), some (.int (sl_state c a1))))
def L_sl_state : List (rx_E mx) := [
  (0, .iload_n 1, 1, 0, 1, 0, [], kno),
  (1, .invokestatic 62, 3, 7, 1, 0, [], K_sl_isSubscriber),
  (4, .ifCond .eq 15, 3, 2, 9, 0, [], kno),
  (7, .aload_n 0, 1, 0, 0, 0, [], kno),
  (8, .getfield 18, 3, 7, 1, 0, [], kgr0 0 1 45),
  (11, .iload_n 1, 1, 0, 1, 0, [], kno),
  (12, .aaload, 1, 7, 2, 0, [], kau),
  (13, .getfield 118, 3, 7, 1, 0, [], kgi 4 4),
  (16, .goto 4, 3, 1, 10, 0, [], kno),
  (19, .iconst (-1), 1, 0, 0, (-1), [], kno),
  (20, .ireturn, 1, 5, 0, 0, [], kno)]
theorem E_sl_state (c : mx_C) (m : mx_M) (a1 : Int32)  : rx_ev L_sl_state [] 13 L_sl_state (c, m) [some (.ref 0), some (.int a1)] [] = rw_p c m (sl_state c a1) :=
  rx_ite2 (f := rw_p c m) (fun _ => rfl) (fun _ => rfl)
theorem S_sl_state (c : mx_C) (m : mx_M) (a1 : Int32)  : rx_sf L_sl_state [] 13 L_sl_state (c, m) [some (.ref 0), some (.int a1)] [] :=
  And.intro trivial (And.intro (fun h0 => trivial) (fun h0 => And.intro rfl (And.intro (sl_sub_in h0) (And.intro (sl_kl (sl_sub_in h0)).1 (trivial)))))

theorem og_sl_118_g {p : Program} {l : Launch} {e : Env} {R : Room} {s : State} {m : MethodId} {args : Array Value} {below : List Frame} {meth : Method} {c : Code} {cc : ByteArray} {nL : Nat} {ad : Nat → Nat} {D : va_G} {g : Nat → ClassId} {B : Nat} (X : ox_C p s m args c cc nL "SubscriberLines" D g ad B) : rx_OK p l e R s m args below meth c cc nL ad (mx_W D g ad B s.heap) mx_cs (.getfield 118) 3 1 (kgi 4 4) := ox_gi (T := T_4) X rfl (by decide) (by decide) in_4 rfl (al_at 134 (by decide +kernel) rfl)
theorem ok_sl_state : rx_okF prog_1_method_13_code 2 (some .int) L_sl_state 0 L_sl_state = true := by decide +kernel
theorem V_sl_state {l : Launch} {D : va_G} {g : Nat → ClassId} {ad : Nat → Nat} {B : Nat} (had : mx_A ad B) : rx_V l D g ad B ⟨"SubscriberLines", "state", "(I)I"⟩ prog_1_method_13_code 2 (some .int) 1 20 K_sl_state := by
  intro av x hp
  obtain ⟨a0, a1, rfl⟩ := k_RI_inv hp
  have hp : a0 = 0 := hp
  have h0 : a0 = 0 := hp
  subst h0
  exact rx_met (k := 0) had (by decide) (Nat.le_of_ble_eq_true rfl) ok_sl_state rfl rfl 13 (fun p e s m args below meth c X => And.intro (cv_sl_isSubscriber X (V_sl_isSubscriber had) (al_at 358 (by decide +kernel) rfl) ⟨by decide, by decide⟩) (And.intro (og_sl_18_g X) (And.intro (ox_au X) (And.intro (og_sl_118_g X) (trivial))))) (S_sl_state x.1 x.2 a1 ) (E_sl_state x.1 x.2 a1)
def sl_address (c : mx_C) (a1 : Int32) : Int32 :=
  if (sl_isSubscriber c a1) = 0 then
    0
  else
    (c.1 (47 + 3 * (Int32.toNatClampNeg a1)) 5)
def K_sl_address : rx_K mx := k_RI (fun a0 a1 c m => (a0 = 0, (c, m), some (.int (sl_address c a1))))
def L_sl_address : List (rx_E mx) := [
  (0, .iload_n 1, 1, 0, 1, 0, [], kno),
  (1, .invokestatic 62, 3, 7, 1, 0, [], K_sl_isSubscriber),
  (4, .ifCond .eq 15, 3, 2, 9, 0, [], kno),
  (7, .aload_n 0, 1, 0, 0, 0, [], kno),
  (8, .getfield 18, 3, 7, 1, 0, [], kgr0 0 1 45),
  (11, .iload_n 1, 1, 0, 1, 0, [], kno),
  (12, .aaload, 1, 7, 2, 0, [], kau),
  (13, .getfield 121, 3, 7, 1, 0, [], kgi 4 5),
  (16, .goto 4, 3, 1, 10, 0, [], kno),
  (19, .iconst 0, 1, 0, 0, 0, [], kno),
  (20, .ireturn, 1, 5, 0, 0, [], kno)]
theorem E_sl_address (c : mx_C) (m : mx_M) (a1 : Int32)  : rx_ev L_sl_address [] 13 L_sl_address (c, m) [some (.ref 0), some (.int a1)] [] = rw_p c m (sl_address c a1) :=
  rx_ite2 (f := rw_p c m) (fun _ => rfl) (fun _ => rfl)
theorem S_sl_address (c : mx_C) (m : mx_M) (a1 : Int32)  : rx_sf L_sl_address [] 13 L_sl_address (c, m) [some (.ref 0), some (.int a1)] [] :=
  And.intro trivial (And.intro (fun h0 => trivial) (fun h0 => And.intro rfl (And.intro (sl_sub_in h0) (And.intro (sl_kl (sl_sub_in h0)).1 (trivial)))))

theorem og_sl_121_g {p : Program} {l : Launch} {e : Env} {R : Room} {s : State} {m : MethodId} {args : Array Value} {below : List Frame} {meth : Method} {c : Code} {cc : ByteArray} {nL : Nat} {ad : Nat → Nat} {D : va_G} {g : Nat → ClassId} {B : Nat} (X : ox_C p s m args c cc nL "SubscriberLines" D g ad B) : rx_OK p l e R s m args below meth c cc nL ad (mx_W D g ad B s.heap) mx_cs (.getfield 121) 3 1 (kgi 4 5) := ox_gi (T := T_4) X rfl (by decide) (by decide) in_4 rfl (al_at 136 (by decide +kernel) rfl)
theorem ok_sl_address : rx_okF prog_1_method_14_code 2 (some .int) L_sl_address 0 L_sl_address = true := by decide +kernel
theorem V_sl_address {l : Launch} {D : va_G} {g : Nat → ClassId} {ad : Nat → Nat} {B : Nat} (had : mx_A ad B) : rx_V l D g ad B ⟨"SubscriberLines", "address", "(I)I"⟩ prog_1_method_14_code 2 (some .int) 1 20 K_sl_address := by
  intro av x hp
  obtain ⟨a0, a1, rfl⟩ := k_RI_inv hp
  have hp : a0 = 0 := hp
  have h0 : a0 = 0 := hp
  subst h0
  exact rx_met (k := 0) had (by decide) (Nat.le_of_ble_eq_true rfl) ok_sl_address rfl rfl 13 (fun p e s m args below meth c X => And.intro (cv_sl_isSubscriber X (V_sl_isSubscriber had) (al_at 358 (by decide +kernel) rfl) ⟨by decide, by decide⟩) (And.intro (og_sl_18_g X) (And.intro (ox_au X) (And.intro (og_sl_121_g X) (trivial))))) (S_sl_address x.1 x.2 a1 ) (E_sl_address x.1 x.2 a1)
def sl_heard (c : mx_C) (a1 : Int32) (a2 : Int32) : Int32 :=
  if (sl_isSubscriber c a1) = 0 then
    0
  else
    if a2 = (-1) then
      (c.1 ((47 + 3 * (Int32.toNatClampNeg a1)) + 1) 1)
    else
      (hi_latest c ((47 + 3 * (Int32.toNatClampNeg a1)) + 1) a2)
def K_sl_heard : rx_K mx := k_RII (fun a0 a1 a2 c m => (a0 = 0, (c, m), some (.int (sl_heard c a1 a2))))
def L_sl_heard : List (rx_E mx) := [
  (0, .iload_n 1, 1, 0, 1, 0, [], kno),
  (1, .invokestatic 62, 3, 7, 1, 0, [], K_sl_isSubscriber),
  (4, .ifCond .ne 5, 3, 2, 5, 0, [], kno),
  (7, .iconst 0, 1, 0, 0, 0, [], kno),
  (8, .ireturn, 1, 5, 0, 0, [], kno),
  (9, .aload_n 0, 1, 0, 0, 0, [], kno),
  (10, .getfield 18, 3, 7, 1, 0, [], kgr0 0 1 45),
  (13, .iload_n 1, 1, 0, 1, 0, [], kno),
  (14, .aaload, 1, 7, 2, 0, [], kau),
  (15, .getfield 124, 3, 7, 1, 0, [], kgr1 4 3 1),
  (18, .astore_n 3, 1, 0, 3, 0, [], kno),
  (19, .iload_n 2, 1, 0, 2, 0, [], kno),
  (20, .iconst (-1), 1, 0, 0, (-1), [], kno),
  (21, .if_icmp .ne 10, 3, 2, 17, 0, [], kno),
  (24, .aload_n 3, 1, 0, 3, 0, [], kno),
  (25, .getfield 128, 3, 7, 1, 0, [], kgi 3 1),
  (28, .goto 8, 3, 1, 20, 0, [], kno),
  (31, .aload_n 3, 1, 0, 3, 0, [], kno),
  (32, .iload_n 2, 1, 0, 2, 0, [], kno),
  (33, .invokevirtual 131, 3, 7, 2, 0, [], K_hi_latest),
  (36, .ireturn, 1, 5, 0, 0, [], kno)]
theorem E_sl_heard (c : mx_C) (m : mx_M) (a1 : Int32) (a2 : Int32)  : rx_ev L_sl_heard [] 23 L_sl_heard (c, m) [some (.ref 0), some (.int a1), some (.int a2), none] [] = rw_p c m (sl_heard c a1 a2) :=
  rx_ite2 (f := rw_p c m) (fun _ => rfl) (fun _ => rx_ite2 (f := rw_p c m) (fun _ => rfl) (fun _ => rfl))
theorem S_sl_heard (c : mx_C) (m : mx_M) (a1 : Int32) (a2 : Int32)  : rx_sf L_sl_heard [] 23 L_sl_heard (c, m) [some (.ref 0), some (.int a1), some (.int a2), none] [] :=
  And.intro trivial (And.intro (fun h0 => trivial) (fun h0 => And.intro rfl (And.intro (sl_sub_in h0) (And.intro (sl_kl (sl_sub_in h0)).1 (And.intro (fun h1 => And.intro (sl_kl (sl_sub_in h0)).2 (trivial)) (fun h1 => And.intro (sl_kl (sl_sub_in h0)).2 (trivial)))))))

theorem og_sl_124_g {p : Program} {l : Launch} {e : Env} {R : Room} {s : State} {m : MethodId} {args : Array Value} {below : List Frame} {meth : Method} {c : Code} {cc : ByteArray} {nL : Nat} {ad : Nat → Nat} {D : va_G} {g : Nat → ClassId} {B : Nat} (X : ox_C p s m args c cc nL "SubscriberLines" D g ad B) : rx_OK p l e R s m args below meth c cc nL ad (mx_W D g ad B s.heap) mx_cs (.getfield 124) 3 1 (kgr1 4 3 1) := ox_gr1 (T := T_4) X rfl (by decide) (by decide) in_4 rfl (al_at 132 (by decide +kernel) rfl)
theorem og_sl_128_g {p : Program} {l : Launch} {e : Env} {R : Room} {s : State} {m : MethodId} {args : Array Value} {below : List Frame} {meth : Method} {c : Code} {cc : ByteArray} {nL : Nat} {ad : Nat → Nat} {D : va_G} {g : Nat → ClassId} {B : Nat} (X : ox_C p s m args c cc nL "SubscriberLines" D g ad B) : rx_OK p l e R s m args below meth c cc nL ad (mx_W D g ad B s.heap) mx_cs (.getfield 128) 3 1 (kgi 3 1) := ox_gi (T := T_3) X rfl (by decide) (by decide) in_3 rfl (al_at 122 (by decide +kernel) rfl)
theorem cv_hi_latest {p : Program} {l : Launch} {e : Env} {R : Room} {s : State} {m : MethodId} {args : Array Value} {below : List Frame} {meth : Method} {c : Code} {cc : ByteArray} {nL : Nat} {ad : Nat → Nat} {D : va_G} {g : Nat → ClassId} {B : Nat} {own : String} {idx : Nat} (X : ox_C p s m args c cc nL own D g ad B) (hV : rx_V l D g ad B ⟨"SubscriberLines$History", "latest", "(I)I"⟩ prog_5_method_3_code 2 (some .int) 0 0 K_hi_latest) (hl : Cond.methodLink own idx ⟨"SubscriberLines$History", "latest", "(I)I"⟩ ∈ al) (hR : 0 + 1 ≤ R.frames ∧ 8 + (2 + 11) + 0 ≤ R.locals) : rx_OK p l e R s m args below meth c cc nL ad (mx_W D g ad B s.heap) mx_cs (.invokevirtual idx) 3 2 (K_hi_latest) :=
  ox_callV (q := 3) (T := T_3) X hV (fun av x h => by obtain ⟨a0, a1, rfl⟩ := k_RI_inv h; exact ⟨a0, _, rfl, h⟩) (by decide) rfl hl (al_at 667 (by decide +kernel) rfl) (al_at 668 (by decide +kernel) rfl) (al_at 6 (by decide +kernel) rfl) (al_at 669 (by decide +kernel) rfl) ⟨by decide, by decide, by decide +kernel⟩ hR
theorem ok_sl_heard : rx_okF prog_1_method_15_code 4 (some .int) L_sl_heard 0 L_sl_heard = true := by decide +kernel
theorem V_sl_heard {l : Launch} {D : va_G} {g : Nat → ClassId} {ad : Nat → Nat} {B : Nat} (had : mx_A ad B) : rx_V l D g ad B ⟨"SubscriberLines", "heard", "(II)I"⟩ prog_1_method_15_code 4 (some .int) 1 21 K_sl_heard := by
  intro av x hp
  obtain ⟨a0, a1, a2, rfl⟩ := k_RII_inv hp
  have hp : a0 = 0 := hp
  have h0 : a0 = 0 := hp
  subst h0
  exact rx_met (k := 1) had (by decide) (Nat.le_of_ble_eq_true rfl) ok_sl_heard rfl rfl 23 (fun p e s m args below meth c X => And.intro (cv_sl_isSubscriber X (V_sl_isSubscriber had) (al_at 358 (by decide +kernel) rfl) ⟨by decide, by decide⟩) (And.intro (og_sl_18_g X) (And.intro (ox_au X) (And.intro (og_sl_124_g X) (And.intro (og_sl_128_g X) (And.intro (cv_hi_latest X (V_hi_latest had) (al_at 666 (by decide +kernel) rfl) ⟨by decide, by decide⟩) (trivial))))))) (S_sl_heard x.1 x.2 a1 a2 ) (E_sl_heard x.1 x.2 a1 a2)
def sl_circuit (c : mx_C) (a1 : Int32) (a2 : Int32) : Int32 :=
  if (sl_isSubscriber c a1) = 0 then
    0
  else
    (ac_tell c a1 a2)
def K_sl_circuit : rx_K mx := k_RII (fun a0 a1 a2 c m => (a0 = 0, (c, m), some (.int (sl_circuit c a1 a2))))
def L_sl_circuit : List (rx_E mx) := [
  (0, .iload_n 1, 1, 0, 1, 0, [], kno),
  (1, .invokestatic 62, 3, 7, 1, 0, [], K_sl_isSubscriber),
  (4, .ifCond .eq 15, 3, 2, 9, 0, [], kno),
  (7, .aload_n 0, 1, 0, 0, 0, [], kno),
  (8, .getfield 36, 3, 7, 1, 0, [], kgr0 0 2 59),
  (11, .iload_n 1, 1, 0, 1, 0, [], kno),
  (12, .iload_n 2, 1, 0, 2, 0, [], kno),
  (13, .invokevirtual 141, 3, 7, 3, 0, [], K_ac_tell),
  (16, .goto 4, 3, 1, 10, 0, [], kno),
  (19, .iconst 0, 1, 0, 0, 0, [], kno),
  (20, .ireturn, 1, 5, 0, 0, [], kno)]
theorem E_sl_circuit (c : mx_C) (m : mx_M) (a1 : Int32) (a2 : Int32)  : rx_ev L_sl_circuit [] 13 L_sl_circuit (c, m) [some (.ref 0), some (.int a1), some (.int a2)] [] = rw_p c m (sl_circuit c a1 a2) :=
  rx_ite2 (f := rw_p c m) (fun _ => rfl) (fun _ => rfl)
theorem S_sl_circuit (c : mx_C) (m : mx_M) (a1 : Int32) (a2 : Int32)  : rx_sf L_sl_circuit [] 13 L_sl_circuit (c, m) [some (.ref 0), some (.int a1), some (.int a2)] [] :=
  And.intro trivial (And.intro (fun h0 => trivial) (fun h0 => And.intro rfl (And.intro (And.intro rfl (sl_sub_in h0)) (trivial))))

theorem og_sl_36_g {p : Program} {l : Launch} {e : Env} {R : Room} {s : State} {m : MethodId} {args : Array Value} {below : List Frame} {meth : Method} {c : Code} {cc : ByteArray} {nL : Nat} {ad : Nat → Nat} {D : va_G} {g : Nat → ClassId} {B : Nat} (X : ox_C p s m args c cc nL "SubscriberLines" D g ad B) : rx_OK p l e R s m args below meth c cc nL ad (mx_W D g ad B s.heap) mx_cs (.getfield 36) 3 1 (kgr0 0 2 59) := ox_gr0 (T := T_0) X rfl (by decide) (by decide) in_0 rfl (al_at 332 (by decide +kernel) rfl)
theorem cv_ac_tell {p : Program} {l : Launch} {e : Env} {R : Room} {s : State} {m : MethodId} {args : Array Value} {below : List Frame} {meth : Method} {c : Code} {cc : ByteArray} {nL : Nat} {ad : Nat → Nat} {D : va_G} {g : Nat → ClassId} {B : Nat} {own : String} {idx : Nat} (X : ox_C p s m args c cc nL own D g ad B) (hV : rx_V l D g ad B ⟨"SubscriberLines$Access", "tell", "(II)I"⟩ prog_2_method_3_code 3 (some .int) 0 0 K_ac_tell) (hl : Cond.methodLink own idx ⟨"SubscriberLines$Access", "tell", "(II)I"⟩ ∈ al) (hR : 0 + 1 ≤ R.frames ∧ 8 + (3 + 11) + 0 ≤ R.locals) : rx_OK p l e R s m args below meth c cc nL ad (mx_W D g ad B s.heap) mx_cs (.invokevirtual idx) 3 3 (K_ac_tell) :=
  ox_callV (q := 5) (T := T_5) X hV (fun av x h => by obtain ⟨a0, a1, a2, rfl⟩ := k_RII_inv h; exact ⟨a0, _, rfl, by have h2 : a0 = 59 := h.1; rw [h2]; rfl⟩) (by decide) rfl hl (al_at 683 (by decide +kernel) rfl) (al_at 684 (by decide +kernel) rfl) (al_at 7 (by decide +kernel) rfl) (al_at 685 (by decide +kernel) rfl) ⟨by decide, by decide, by decide +kernel⟩ hR
theorem ok_sl_circuit : rx_okF prog_1_method_18_code 3 (some .int) L_sl_circuit 0 L_sl_circuit = true := by decide +kernel
theorem V_sl_circuit {l : Launch} {D : va_G} {g : Nat → ClassId} {ad : Nat → Nat} {B : Nat} (had : mx_A ad B) : rx_V l D g ad B ⟨"SubscriberLines", "circuit", "(II)I"⟩ prog_1_method_18_code 3 (some .int) 1 22 K_sl_circuit := by
  intro av x hp
  obtain ⟨a0, a1, a2, rfl⟩ := k_RII_inv hp
  have hp : a0 = 0 := hp
  have h0 : a0 = 0 := hp
  subst h0
  exact rx_met (k := 0) had (by decide) (Nat.le_of_ble_eq_true rfl) ok_sl_circuit rfl rfl 13 (fun p e s m args below meth c X => And.intro (cv_sl_isSubscriber X (V_sl_isSubscriber had) (al_at 358 (by decide +kernel) rfl) ⟨by decide, by decide⟩) (And.intro (og_sl_36_g X) (And.intro (cv_ac_tell X (V_ac_tell had) (al_at 682 (by decide +kernel) rfl) ⟨by decide, by decide⟩) (trivial)))) (S_sl_circuit x.1 x.2 a1 a2 ) (E_sl_circuit x.1 x.2 a1 a2)
def sl_source (c : mx_C) (a1 : Int32) : Int32 :=
  (hi_latest c 72 a1)
def K_sl_source : rx_K mx := k_RI (fun a0 a1 c m => (a0 = 0, (c, m), some (.int (sl_source c a1))))
def L_sl_source : List (rx_E mx) := [
  (0, .aload_n 0, 1, 0, 0, 0, [], kno),
  (1, .getfield 54, 3, 7, 1, 0, [], kgr0 0 3 66),
  (4, .getfield 138, 3, 7, 1, 0, [], kgr0 7 9 72),
  (7, .iload_n 1, 1, 0, 1, 0, [], kno),
  (8, .invokevirtual 131, 3, 7, 2, 0, [], K_hi_latest),
  (11, .ireturn, 1, 5, 0, 0, [], kno)]
theorem E_sl_source (c : mx_C) (m : mx_M) (a1 : Int32)  : rx_ev L_sl_source [] 8 L_sl_source (c, m) [some (.ref 0), some (.int a1)] [] = rw_p c m (sl_source c a1) :=
  rfl
theorem S_sl_source (c : mx_C) (m : mx_M) (a1 : Int32)  : rx_sf L_sl_source [] 8 L_sl_source (c, m) [some (.ref 0), some (.int a1)] [] :=
  And.intro rfl (And.intro rfl (And.intro rfl (trivial)))

theorem og_sl_138_g {p : Program} {l : Launch} {e : Env} {R : Room} {s : State} {m : MethodId} {args : Array Value} {below : List Frame} {meth : Method} {c : Code} {cc : ByteArray} {nL : Nat} {ad : Nat → Nat} {D : va_G} {g : Nat → ClassId} {B : Nat} (X : ox_C p s m args c cc nL "SubscriberLines" D g ad B) : rx_OK p l e R s m args below meth c cc nL ad (mx_W D g ad B s.heap) mx_cs (.getfield 138) 3 1 (kgr0 7 9 72) := ox_gr0 (T := T_7) X rfl (by decide) (by decide) in_7 rfl (al_at 302 (by decide +kernel) rfl)
theorem ok_sl_source : rx_okF prog_1_method_17_code 2 (some .int) L_sl_source 0 L_sl_source = true := by decide +kernel
theorem V_sl_source {l : Launch} {D : va_G} {g : Nat → ClassId} {ad : Nat → Nat} {B : Nat} (had : mx_A ad B) : rx_V l D g ad B ⟨"SubscriberLines", "source", "(I)I"⟩ prog_1_method_17_code 2 (some .int) 1 21 K_sl_source := by
  intro av x hp
  obtain ⟨a0, a1, rfl⟩ := k_RI_inv hp
  have hp : a0 = 0 := hp
  have h0 : a0 = 0 := hp
  subst h0
  exact rx_met (k := 0) had (by decide) (Nat.le_of_ble_eq_true rfl) ok_sl_source rfl rfl 8 (fun p e s m args below meth c X => And.intro (og_sl_54_g X) (And.intro (og_sl_138_g X) (And.intro (cv_hi_latest X (V_hi_latest had) (al_at 666 (by decide +kernel) rfl) ⟨by decide, by decide⟩) (trivial)))) (S_sl_source x.1 x.2 a1 ) (E_sl_source x.1 x.2 a1)
def sl_cored (c : mx_C) (a1 : Int32) : Int32 :=
  if a1 = (-2) then
    (c.1 66 10)
  else
    if a1 = (-1) then
      (c.1 70 1)
    else
      (hi_latest c 70 a1)
def K_sl_cored : rx_K mx := k_RI (fun a0 a1 c m => (a0 = 0, (c, m), some (.int (sl_cored c a1))))
def L_sl_cored : List (rx_E mx) := [
  (0, .iload_n 1, 1, 0, 1, 0, [], kno),
  (1, .bipush (-2), 2, 0, 0, (-2), [], kno),
  (3, .if_icmp .ne 11, 3, 2, 7, 0, [], kno),
  (6, .aload_n 0, 1, 0, 0, 0, [], kno),
  (7, .getfield 54, 3, 7, 1, 0, [], kgr0 0 3 66),
  (10, .getfield 134, 3, 7, 1, 0, [], kgi 7 10),
  (13, .ireturn, 1, 5, 0, 0, [], kno),
  (14, .iload_n 1, 1, 0, 1, 0, [], kno),
  (15, .iconst (-1), 1, 0, 0, (-1), [], kno),
  (16, .if_icmp .ne 16, 3, 2, 15, 0, [], kno),
  (19, .aload_n 0, 1, 0, 0, 0, [], kno),
  (20, .getfield 54, 3, 7, 1, 0, [], kgr0 0 3 66),
  (23, .getfield 137, 3, 7, 1, 0, [], kgr0 7 8 70),
  (26, .getfield 128, 3, 7, 1, 0, [], kgi 3 1),
  (29, .goto 14, 3, 1, 20, 0, [], kno),
  (32, .aload_n 0, 1, 0, 0, 0, [], kno),
  (33, .getfield 54, 3, 7, 1, 0, [], kgr0 0 3 66),
  (36, .getfield 137, 3, 7, 1, 0, [], kgr0 7 8 70),
  (39, .iload_n 1, 1, 0, 1, 0, [], kno),
  (40, .invokevirtual 131, 3, 7, 2, 0, [], K_hi_latest),
  (43, .ireturn, 1, 5, 0, 0, [], kno)]
theorem E_sl_cored (c : mx_C) (m : mx_M) (a1 : Int32)  : rx_ev L_sl_cored [] 23 L_sl_cored (c, m) [some (.ref 0), some (.int a1)] [] = rw_p c m (sl_cored c a1) :=
  rx_ite2 (f := rw_p c m) (fun _ => rfl) (fun _ => rx_ite2 (f := rw_p c m) (fun _ => rfl) (fun _ => rfl))
theorem S_sl_cored (c : mx_C) (m : mx_M) (a1 : Int32)  : rx_sf L_sl_cored [] 23 L_sl_cored (c, m) [some (.ref 0), some (.int a1)] [] :=
  And.intro (fun h0 => And.intro rfl (And.intro rfl (trivial))) (fun h0 => And.intro (fun h1 => And.intro rfl (And.intro rfl (And.intro rfl (trivial)))) (fun h1 => And.intro rfl (And.intro rfl (And.intro rfl (trivial)))))

theorem og_sl_134_g {p : Program} {l : Launch} {e : Env} {R : Room} {s : State} {m : MethodId} {args : Array Value} {below : List Frame} {meth : Method} {c : Code} {cc : ByteArray} {nL : Nat} {ad : Nat → Nat} {D : va_G} {g : Nat → ClassId} {B : Nat} (X : ox_C p s m args c cc nL "SubscriberLines" D g ad B) : rx_OK p l e R s m args below meth c cc nL ad (mx_W D g ad B s.heap) mx_cs (.getfield 134) 3 1 (kgi 7 10) := ox_gi (T := T_7) X rfl (by decide) (by decide) in_7 rfl (al_at 304 (by decide +kernel) rfl)
theorem og_sl_137_g {p : Program} {l : Launch} {e : Env} {R : Room} {s : State} {m : MethodId} {args : Array Value} {below : List Frame} {meth : Method} {c : Code} {cc : ByteArray} {nL : Nat} {ad : Nat → Nat} {D : va_G} {g : Nat → ClassId} {B : Nat} (X : ox_C p s m args c cc nL "SubscriberLines" D g ad B) : rx_OK p l e R s m args below meth c cc nL ad (mx_W D g ad B s.heap) mx_cs (.getfield 137) 3 1 (kgr0 7 8 70) := ox_gr0 (T := T_7) X rfl (by decide) (by decide) in_7 rfl (al_at 300 (by decide +kernel) rfl)
theorem ok_sl_cored : rx_okF prog_1_method_16_code 2 (some .int) L_sl_cored 0 L_sl_cored = true := by decide +kernel
theorem V_sl_cored {l : Launch} {D : va_G} {g : Nat → ClassId} {ad : Nat → Nat} {B : Nat} (had : mx_A ad B) : rx_V l D g ad B ⟨"SubscriberLines", "cored", "(I)I"⟩ prog_1_method_16_code 2 (some .int) 1 21 K_sl_cored := by
  intro av x hp
  obtain ⟨a0, a1, rfl⟩ := k_RI_inv hp
  have hp : a0 = 0 := hp
  have h0 : a0 = 0 := hp
  subst h0
  exact rx_met (k := 0) had (by decide) (Nat.le_of_ble_eq_true rfl) ok_sl_cored rfl rfl 23 (fun p e s m args below meth c X => And.intro (og_sl_54_g X) (And.intro (og_sl_134_g X) (And.intro (og_sl_54_g X) (And.intro (og_sl_137_g X) (And.intro (og_sl_128_g X) (And.intro (og_sl_54_g X) (And.intro (og_sl_137_g X) (And.intro (cv_hi_latest X (V_hi_latest had) (al_at 666 (by decide +kernel) rfl) ⟨by decide, by decide⟩) (trivial))))))))) (S_sl_cored x.1 x.2 a1 ) (E_sl_cored x.1 x.2 a1)
def sl_channel (c : mx_C) (a1 : Int32) (a2 : Int32) : Int32 :=
  if a1 = 4 then
    (en_tell c 62 a2)
  else
    if a1 = 5 then
      (en_tell c 74 a2)
    else
      0
def K_sl_channel : rx_K mx := k_RII (fun a0 a1 a2 c m => (a0 = 0, (c, m), some (.int (sl_channel c a1 a2))))
def L_sl_channel : List (rx_E mx) := [
  (0, .iload_n 1, 1, 0, 1, 0, [], kno),
  (1, .iconst 4, 1, 0, 0, 4, [], kno),
  (2, .if_icmp .ne 15, 3, 2, 9, 0, [], kno),
  (5, .aload_n 0, 1, 0, 0, 0, [], kno),
  (6, .getfield 36, 3, 7, 1, 0, [], kgr0 0 2 59),
  (9, .getfield 151, 3, 7, 1, 0, [], kgr0 5 2 62),
  (12, .iload_n 2, 1, 0, 2, 0, [], kno),
  (13, .invokevirtual 155, 3, 7, 2, 0, [], K_en_tell),
  (16, .ireturn, 1, 5, 0, 0, [], kno),
  (17, .iload_n 1, 1, 0, 1, 0, [], kno),
  (18, .iconst 5, 1, 0, 0, 5, [], kno),
  (19, .if_icmp .ne 17, 3, 2, 18, 0, [], kno),
  (22, .aload_n 0, 1, 0, 0, 0, [], kno),
  (23, .getfield 54, 3, 7, 1, 0, [], kgr0 0 3 66),
  (26, .getfield 158, 3, 7, 1, 0, [], kgr0 7 2 74),
  (29, .iload_n 2, 1, 0, 2, 0, [], kno),
  (30, .invokevirtual 155, 3, 7, 2, 0, [], K_en_tell),
  (33, .goto 4, 3, 1, 19, 0, [], kno),
  (36, .iconst 0, 1, 0, 0, 0, [], kno),
  (37, .ireturn, 1, 5, 0, 0, [], kno)]
theorem E_sl_channel (c : mx_C) (m : mx_M) (a1 : Int32) (a2 : Int32)  : rx_ev L_sl_channel [] 22 L_sl_channel (c, m) [some (.ref 0), some (.int a1), some (.int a2)] [] = rw_p c m (sl_channel c a1 a2) :=
  rx_ite2 (f := rw_p c m) (fun _ => rfl) (fun _ => rx_ite2 (f := rw_p c m) (fun _ => rfl) (fun _ => rfl))
theorem S_sl_channel (c : mx_C) (m : mx_M) (a1 : Int32) (a2 : Int32)  : rx_sf L_sl_channel [] 22 L_sl_channel (c, m) [some (.ref 0), some (.int a1), some (.int a2)] [] :=
  And.intro (fun h0 => And.intro rfl (And.intro rfl (And.intro rfl (trivial)))) (fun h0 => And.intro (fun h1 => And.intro rfl (And.intro rfl (And.intro rfl (trivial)))) (fun h1 => trivial))

theorem og_sl_151_g {p : Program} {l : Launch} {e : Env} {R : Room} {s : State} {m : MethodId} {args : Array Value} {below : List Frame} {meth : Method} {c : Code} {cc : ByteArray} {nL : Nat} {ad : Nat → Nat} {D : va_G} {g : Nat → ClassId} {B : Nat} (X : ox_C p s m args c cc nL "SubscriberLines" D g ad B) : rx_OK p l e R s m args below meth c cc nL ad (mx_W D g ad B s.heap) mx_cs (.getfield 151) 3 1 (kgr0 5 2 62) := ox_gr0 (T := T_5) X rfl (by decide) (by decide) in_5 rfl (al_at 222 (by decide +kernel) rfl)
theorem cv_en_tell {p : Program} {l : Launch} {e : Env} {R : Room} {s : State} {m : MethodId} {args : Array Value} {below : List Frame} {meth : Method} {c : Code} {cc : ByteArray} {nL : Nat} {ad : Nat → Nat} {D : va_G} {g : Nat → ClassId} {B : Nat} {own : String} {idx : Nat} (X : ox_C p s m args c cc nL own D g ad B) (hV : rx_V l D g ad B ⟨"SubscriberLines$End", "tell", "(I)I"⟩ prog_3_method_8_code 2 (some .int) 1 20 K_en_tell) (hl : Cond.methodLink own idx ⟨"SubscriberLines$End", "tell", "(I)I"⟩ ∈ al) (hR : 1 + 1 ≤ R.frames ∧ 8 + (2 + 11) + 20 ≤ R.locals) : rx_OK p l e R s m args below meth c cc nL ad (mx_W D g ad B s.heap) mx_cs (.invokevirtual idx) 3 2 (K_en_tell) :=
  ox_callV (q := 8) (T := T_8) X hV (fun av x h => by obtain ⟨a0, a1, rfl⟩ := k_RI_inv h; exact ⟨a0, _, rfl, h⟩) (by decide) rfl hl (al_at 699 (by decide +kernel) rfl) (al_at 700 (by decide +kernel) rfl) (al_at 8 (by decide +kernel) rfl) (al_at 701 (by decide +kernel) rfl) ⟨by decide, by decide, by decide +kernel⟩ hR
theorem og_sl_158_g {p : Program} {l : Launch} {e : Env} {R : Room} {s : State} {m : MethodId} {args : Array Value} {below : List Frame} {meth : Method} {c : Code} {cc : ByteArray} {nL : Nat} {ad : Nat → Nat} {D : va_G} {g : Nat → ClassId} {B : Nat} (X : ox_C p s m args c cc nL "SubscriberLines" D g ad B) : rx_OK p l e R s m args below meth c cc nL ad (mx_W D g ad B s.heap) mx_cs (.getfield 158) 3 1 (kgr0 7 2 74) := ox_gr0 (T := T_7) X rfl (by decide) (by decide) in_7 rfl (al_at 291 (by decide +kernel) rfl)
theorem ok_sl_channel : rx_okF prog_1_method_20_code 3 (some .int) L_sl_channel 0 L_sl_channel = true := by decide +kernel
theorem V_sl_channel {l : Launch} {D : va_G} {g : Nat → ClassId} {ad : Nat → Nat} {B : Nat} (had : mx_A ad B) : rx_V l D g ad B ⟨"SubscriberLines", "channel", "(II)I"⟩ prog_1_method_20_code 3 (some .int) 2 41 K_sl_channel := by
  intro av x hp
  obtain ⟨a0, a1, a2, rfl⟩ := k_RII_inv hp
  have hp : a0 = 0 := hp
  have h0 : a0 = 0 := hp
  subst h0
  exact rx_met (k := 0) had (by decide) (Nat.le_of_ble_eq_true rfl) ok_sl_channel rfl rfl 22 (fun p e s m args below meth c X => And.intro (og_sl_36_g X) (And.intro (og_sl_151_g X) (And.intro (cv_en_tell X (V_en_tell had) (al_at 698 (by decide +kernel) rfl) ⟨by decide, by decide⟩) (And.intro (og_sl_54_g X) (And.intro (og_sl_158_g X) (And.intro (cv_en_tell X (V_en_tell had) (al_at 698 (by decide +kernel) rfl) ⟨by decide, by decide⟩) (trivial))))))) (S_sl_channel x.1 x.2 a1 a2 ) (E_sl_channel x.1 x.2 a1 a2)
def sl_packet (c : mx_C) (a1 : Int32) (a2 : Int32) : Int32 :=
  if (fl_holds c a1) = 0 then
    0
  else
    (pk_tell c (4 + (c.2.1 (Int32.toNatClampNeg a1)).val) a2)
def K_sl_packet : rx_K mx := k_RII (fun a0 a1 a2 c m => (a0 = 0, (c, m), some (.int (sl_packet c a1 a2))))
def L_sl_packet : List (rx_E mx) := [
  (0, .aload_n 0, 1, 0, 0, 0, [], kno),
  (1, .getfield 10, 3, 7, 1, 0, [], kgr0 0 0 1),
  (4, .iload_n 1, 1, 0, 1, 0, [], kno),
  (5, .invokevirtual 107, 3, 7, 2, 0, [], K_fl_holds),
  (8, .ifCond .eq 19, 3, 2, 13, 0, [], kno),
  (11, .aload_n 0, 1, 0, 0, 0, [], kno),
  (12, .getfield 10, 3, 7, 1, 0, [], kgr0 0 0 1),
  (15, .getfield 110, 3, 7, 1, 0, [], kgr0 1 0 2),
  (18, .iload_n 1, 1, 0, 1, 0, [], kno),
  (19, .aaload, 1, 7, 2, 0, [], kar),
  (20, .iload_n 2, 1, 0, 2, 0, [], kno),
  (21, .invokevirtual 114, 3, 7, 2, 0, [], K_pk_tell),
  (24, .goto 4, 3, 1, 14, 0, [], kno),
  (27, .iconst 0, 1, 0, 0, 0, [], kno),
  (28, .ireturn, 1, 5, 0, 0, [], kno)]
theorem E_sl_packet (c : mx_C) (m : mx_M) (a1 : Int32) (a2 : Int32)  : rx_ev L_sl_packet [] 17 L_sl_packet (c, m) [some (.ref 0), some (.int a1), some (.int a2)] [] = rw_p c m (sl_packet c a1 a2) :=
  rx_ite2 (f := rw_p c m) (fun _ => rfl) (fun _ => rfl)
theorem S_sl_packet (c : mx_C) (m : mx_M) (a1 : Int32) (a2 : Int32)  : rx_sf L_sl_packet [] 17 L_sl_packet (c, m) [some (.ref 0), some (.int a1), some (.int a2)] [] :=
  And.intro rfl (And.intro rfl (And.intro (fun h0 => trivial) (fun h0 => And.intro rfl (And.intro rfl (And.intro (fl_k_in (fl_holds_in h0)) (And.intro (mx_kl_row _) (trivial)))))))

theorem og_sl_110_g {p : Program} {l : Launch} {e : Env} {R : Room} {s : State} {m : MethodId} {args : Array Value} {below : List Frame} {meth : Method} {c : Code} {cc : ByteArray} {nL : Nat} {ad : Nat → Nat} {D : va_G} {g : Nat → ClassId} {B : Nat} (X : ox_C p s m args c cc nL "SubscriberLines" D g ad B) : rx_OK p l e R s m args below meth c cc nL ad (mx_W D g ad B s.heap) mx_cs (.getfield 110) 3 1 (kgr0 1 0 2) := ox_gr0 (T := T_1) X rfl (by decide) (by decide) in_1 rfl (al_at 91 (by decide +kernel) rfl)
theorem cv_pk_tell {p : Program} {l : Launch} {e : Env} {R : Room} {s : State} {m : MethodId} {args : Array Value} {below : List Frame} {meth : Method} {c : Code} {cc : ByteArray} {nL : Nat} {ad : Nat → Nat} {D : va_G} {g : Nat → ClassId} {B : Nat} {own : String} {idx : Nat} (X : ox_C p s m args c cc nL own D g ad B) (hV : rx_V l D g ad B ⟨"SubscriberLines$Packet", "tell", "(I)I"⟩ prog_7_method_4_code 2 (some .int) 0 0 K_pk_tell) (hl : Cond.methodLink own idx ⟨"SubscriberLines$Packet", "tell", "(I)I"⟩ ∈ al) (hR : 0 + 1 ≤ R.frames ∧ 8 + (2 + 11) + 0 ≤ R.locals) : rx_OK p l e R s m args below meth c cc nL ad (mx_W D g ad B s.heap) mx_cs (.invokevirtual idx) 3 2 (K_pk_tell) :=
  ox_callV (q := 2) (T := T_2) X hV (fun av x h => by obtain ⟨a0, a1, rfl⟩ := k_RI_inv h; exact ⟨a0, _, rfl, h⟩) (by decide) rfl hl (al_at 651 (by decide +kernel) rfl) (al_at 652 (by decide +kernel) rfl) (al_at 3 (by decide +kernel) rfl) (al_at 653 (by decide +kernel) rfl) ⟨by decide, by decide, by decide +kernel⟩ hR
theorem ok_sl_packet : rx_okF prog_1_method_12_code 3 (some .int) L_sl_packet 0 L_sl_packet = true := by decide +kernel
theorem V_sl_packet {l : Launch} {D : va_G} {g : Nat → ClassId} {ad : Nat → Nat} {B : Nat} (had : mx_A ad B) : rx_V l D g ad B ⟨"SubscriberLines", "packet", "(II)I"⟩ prog_1_method_12_code 3 (some .int) 1 21 K_sl_packet := by
  intro av x hp
  obtain ⟨a0, a1, a2, rfl⟩ := k_RII_inv hp
  have hp : a0 = 0 := hp
  have h0 : a0 = 0 := hp
  subst h0
  exact rx_met (k := 0) had (by decide) (Nat.le_of_ble_eq_true rfl) ok_sl_packet rfl rfl 17 (fun p e s m args below meth c X => And.intro (og_sl_10_g X) (And.intro (cv_fl_holds X (V_fl_holds had) (al_at 649 (by decide +kernel) rfl) ⟨by decide, by decide⟩) (And.intro (og_sl_10_g X) (And.intro (og_sl_110_g X) (And.intro (ox_ar X) (And.intro (cv_pk_tell X (V_pk_tell had) (al_at 650 (by decide +kernel) rfl) ⟨by decide, by decide⟩) (trivial))))))) (S_sl_packet x.1 x.2 a1 a2 ) (E_sl_packet x.1 x.2 a1 a2)
def sl_session (c : mx_C) (a1 : Int32) (a2 : Int32) : Int32 :=
  if a1 < 0 then
    0
  else
    if a1 < (Int32.ofNat c.2.2.2.2.val) then
      (se_tell c (78 + (c.2.2.1 (Int32.toNatClampNeg a1)).val) a2)
    else
      0
def K_sl_session : rx_K mx := k_RII (fun a0 a1 a2 c m => (a0 = 0, (c, m), some (.int (sl_session c a1 a2))))
def L_sl_session : List (rx_E mx) := [
  (0, .iload_n 1, 1, 0, 1, 0, [], kno),
  (1, .ifCond .lt 30, 3, 2, 15, 0, [], kno),
  (4, .iload_n 1, 1, 0, 1, 0, [], kno),
  (5, .aload_n 0, 1, 0, 0, 0, [], kno),
  (6, .getfield 54, 3, 7, 1, 0, [], kgr0 0 3 66),
  (9, .getfield 143, 3, 7, 1, 0, [], kgs),
  (12, .if_icmp .ge 19, 3, 2, 15, 0, [], kno),
  (15, .aload_n 0, 1, 0, 0, 0, [], kno),
  (16, .getfield 54, 3, 7, 1, 0, [], kgr0 0 3 66),
  (19, .getfield 144, 3, 7, 1, 0, [], kgr0 7 4 67),
  (22, .iload_n 1, 1, 0, 1, 0, [], kno),
  (23, .aaload, 1, 7, 2, 0, [], kas),
  (24, .iload_n 2, 1, 0, 2, 0, [], kno),
  (25, .invokevirtual 148, 3, 7, 2, 0, [], K_se_tell),
  (28, .goto 4, 3, 1, 16, 0, [], kno),
  (31, .iconst 0, 1, 0, 0, 0, [], kno),
  (32, .ireturn, 1, 5, 0, 0, [], kno)]
theorem E_sl_session (c : mx_C) (m : mx_M) (a1 : Int32) (a2 : Int32)  : rx_ev L_sl_session [] 19 L_sl_session (c, m) [some (.ref 0), some (.int a1), some (.int a2)] [] = rw_p c m (sl_session c a1 a2) :=
  rx_ite2 (f := rw_p c m) (fun _ => rfl) (fun _ => rx_ite2 (f := rw_p c m) (fun _ => rfl) (fun _ => rfl))
theorem S_sl_session (c : mx_C) (m : mx_M) (a1 : Int32) (a2 : Int32)  : rx_sf L_sl_session [] 19 L_sl_session (c, m) [some (.ref 0), some (.int a1), some (.int a2)] [] :=
  And.intro (fun h0 => trivial) (fun h0 => And.intro rfl (And.intro rfl (And.intro (fun h1 => And.intro rfl (And.intro rfl (And.intro (sl_ses h0 h1) (And.intro (mx_kl_ses _) (trivial))))) (fun h1 => trivial))))

theorem og_sl_143_g {p : Program} {l : Launch} {e : Env} {R : Room} {s : State} {m : MethodId} {args : Array Value} {below : List Frame} {meth : Method} {c : Code} {cc : ByteArray} {nL : Nat} {ad : Nat → Nat} {D : va_G} {g : Nat → ClassId} {B : Nat} (X : ox_C p s m args c cc nL "SubscriberLines" D g ad B) : rx_OK p l e R s m args below meth c cc nL ad (mx_W D g ad B s.heap) mx_cs (.getfield 143) 3 1 (kgs) := ox_gs X (al_at 296 (by decide +kernel) rfl)
theorem og_sl_144_g {p : Program} {l : Launch} {e : Env} {R : Room} {s : State} {m : MethodId} {args : Array Value} {below : List Frame} {meth : Method} {c : Code} {cc : ByteArray} {nL : Nat} {ad : Nat → Nat} {D : va_G} {g : Nat → ClassId} {B : Nat} (X : ox_C p s m args c cc nL "SubscriberLines" D g ad B) : rx_OK p l e R s m args below meth c cc nL ad (mx_W D g ad B s.heap) mx_cs (.getfield 144) 3 1 (kgr0 7 4 67) := ox_gr0 (T := T_7) X rfl (by decide) (by decide) in_7 rfl (al_at 294 (by decide +kernel) rfl)
theorem cv_se_tell {p : Program} {l : Launch} {e : Env} {R : Room} {s : State} {m : MethodId} {args : Array Value} {below : List Frame} {meth : Method} {c : Code} {cc : ByteArray} {nL : Nat} {ad : Nat → Nat} {D : va_G} {g : Nat → ClassId} {B : Nat} {own : String} {idx : Nat} (X : ox_C p s m args c cc nL own D g ad B) (hV : rx_V l D g ad B ⟨"SubscriberLines$Session", "tell", "(I)I"⟩ prog_9_method_3_code 2 (some .int) 0 0 K_se_tell) (hl : Cond.methodLink own idx ⟨"SubscriberLines$Session", "tell", "(I)I"⟩ ∈ al) (hR : 0 + 1 ≤ R.frames ∧ 8 + (2 + 11) + 0 ≤ R.locals) : rx_OK p l e R s m args below meth c cc nL ad (mx_W D g ad B s.heap) mx_cs (.invokevirtual idx) 3 2 (K_se_tell) :=
  ox_callV (q := 6) (T := T_6) X hV (fun av x h => by obtain ⟨a0, a1, rfl⟩ := k_RI_inv h; exact ⟨a0, _, rfl, h⟩) (by decide) rfl hl (al_at 691 (by decide +kernel) rfl) (al_at 692 (by decide +kernel) rfl) (al_at 11 (by decide +kernel) rfl) (al_at 693 (by decide +kernel) rfl) ⟨by decide, by decide, by decide +kernel⟩ hR
theorem ok_sl_session : rx_okF prog_1_method_19_code 3 (some .int) L_sl_session 0 L_sl_session = true := by decide +kernel
theorem V_sl_session {l : Launch} {D : va_G} {g : Nat → ClassId} {ad : Nat → Nat} {B : Nat} (had : mx_A ad B) : rx_V l D g ad B ⟨"SubscriberLines", "session", "(II)I"⟩ prog_1_method_19_code 3 (some .int) 1 21 K_sl_session := by
  intro av x hp
  obtain ⟨a0, a1, a2, rfl⟩ := k_RII_inv hp
  have hp : a0 = 0 := hp
  have h0 : a0 = 0 := hp
  subst h0
  exact rx_met (k := 0) had (by decide) (Nat.le_of_ble_eq_true rfl) ok_sl_session rfl rfl 19 (fun p e s m args below meth c X => And.intro (og_sl_54_g X) (And.intro (og_sl_143_g X) (And.intro (og_sl_54_g X) (And.intro (og_sl_144_g X) (And.intro (ox_as X) (And.intro (cv_se_tell X (V_se_tell had) (al_at 690 (by decide +kernel) rfl) ⟨by decide, by decide⟩) (trivial))))))) (S_sl_session x.1 x.2 a1 a2 ) (E_sl_session x.1 x.2 a1 a2)
def sl_restart (c : mx_C) (a1 : Int32) : mx_C × Int32 :=
  if a1 = 4 then
    let c1 := ac_forget c
    let c2 := mx_pi c1 (mx_no (Int32.toNatClampNeg a1)) 0 3
    (c2, 1)
  else
    if a1 = 5 then
      let c3 := sv_forget c
      let c4 := mx_pi c3 (mx_no (Int32.toNatClampNeg a1)) 0 3
      (c4, 1)
    else
      (c, 0)
def K_sl_restart : rx_K mx := k_RI (fun a0 a1 c m => (a0 = 0, ((sl_restart c a1).1, m), some (.int (sl_restart c a1).2)))
def L_sl_restart : List (rx_E mx) := [
  (0, .iload_n 1, 1, 0, 1, 0, [], kno),
  (1, .iconst 4, 1, 0, 0, 4, [], kno),
  (2, .if_icmp .ne 13, 3, 2, 7, 0, [], kno),
  (5, .aload_n 0, 1, 0, 0, 0, [], kno),
  (6, .getfield 36, 3, 7, 1, 0, [], kgr0 0 2 59),
  (9, .invokevirtual 77, 3, 7, 1, 0, [], K_ac_forget),
  (12, .goto 20, 3, 1, 16, 0, [], kno),
  (15, .iload_n 1, 1, 0, 1, 0, [], kno),
  (16, .iconst 5, 1, 0, 0, 5, [], kno),
  (17, .if_icmp .ne 13, 3, 2, 14, 0, [], kno),
  (20, .aload_n 0, 1, 0, 0, 0, [], kno),
  (21, .getfield 54, 3, 7, 1, 0, [], kgr0 0 3 66),
  (24, .invokevirtual 80, 3, 7, 1, 0, [], K_sv_forget),
  (27, .goto 5, 3, 1, 16, 0, [], kno),
  (30, .iconst 0, 1, 0, 0, 0, [], kno),
  (31, .ireturn, 1, 5, 1, 0, [], kno),
  (32, .aload_n 0, 1, 0, 0, 0, [], kno),
  (33, .getfield 24, 3, 7, 1, 0, [], kgr0 0 4 46),
  (36, .iload_n 1, 1, 0, 1, 0, [], kno),
  (37, .aaload, 1, 7, 2, 0, [], kan),
  (38, .iconst 3, 1, 0, 0, 3, [], kno),
  (39, .putfield 81, 3, 7, 2, 0, [], kpn),
  (42, .iconst 1, 1, 0, 0, 1, [], kno),
  (43, .ireturn, 1, 5, 1, 0, [], kno)]
theorem E_sl_restart (c : mx_C) (m : mx_M) (a1 : Int32)  : rx_ev L_sl_restart [] 26 L_sl_restart (c, m) [some (.ref 0), some (.int a1)] [] = rw_i m (sl_restart c a1) :=
  rx_ite2 (f := rw_i m) (fun _ => rfl) (fun _ => rx_ite2 (f := rw_i m) (fun _ => rfl) (fun _ => rfl))
theorem S_sl_restart (c : mx_C) (m : mx_M) (a1 : Int32)  : rx_sf L_sl_restart [] 26 L_sl_restart (c, m) [some (.ref 0), some (.int a1)] [] :=
  And.intro (fun h0 => And.intro rfl (And.intro rfl (And.intro rfl (And.intro (by first | exact (sl_nd4 (by assumption)).2 | exact (sl_nd5 (by assumption)).2) (And.intro (by first | exact (sl_nd4 (by assumption)).1 | exact (sl_nd5 (by assumption)).1) (Or.inr rfl)))))) (fun h0 => And.intro (fun h1 => And.intro rfl (And.intro rfl (And.intro rfl (And.intro (by first | exact (sl_nd4 (by assumption)).2 | exact (sl_nd5 (by assumption)).2) (And.intro (by first | exact (sl_nd4 (by assumption)).1 | exact (sl_nd5 (by assumption)).1) (Or.inr rfl)))))) (fun h1 => Or.inl rfl))

theorem cv_ac_forget {p : Program} {l : Launch} {e : Env} {R : Room} {s : State} {m : MethodId} {args : Array Value} {below : List Frame} {meth : Method} {c : Code} {cc : ByteArray} {nL : Nat} {ad : Nat → Nat} {D : va_G} {g : Nat → ClassId} {B : Nat} {own : String} {idx : Nat} (X : ox_C p s m args c cc nL own D g ad B) (hV : rx_V l D g ad B ⟨"SubscriberLines$Access", "forget", "()V"⟩ prog_2_method_2_code 2 none 1 21 K_ac_forget) (hl : Cond.methodLink own idx ⟨"SubscriberLines$Access", "forget", "()V"⟩ ∈ al) (hR : 1 + 1 ≤ R.frames ∧ 8 + (2 + 11) + 21 ≤ R.locals) : rx_OK p l e R s m args below meth c cc nL ad (mx_W D g ad B s.heap) mx_cs (.invokevirtual idx) 3 1 (K_ac_forget) :=
  ox_callV (q := 5) (T := T_5) X hV (fun av x h => by obtain ⟨a0, rfl⟩ := k_R_inv h; exact ⟨a0, _, rfl, by have h2 : a0 = 59 := h; rw [h2]; rfl⟩) (by decide) rfl hl (al_at 420 (by decide +kernel) rfl) (al_at 421 (by decide +kernel) rfl) (al_at 7 (by decide +kernel) rfl) (al_at 422 (by decide +kernel) rfl) ⟨by decide, by decide, by decide +kernel⟩ hR
theorem cv_sv_forget {p : Program} {l : Launch} {e : Env} {R : Room} {s : State} {m : MethodId} {args : Array Value} {below : List Frame} {meth : Method} {c : Code} {cc : ByteArray} {nL : Nat} {ad : Nat → Nat} {D : va_G} {g : Nat → ClassId} {B : Nat} {own : String} {idx : Nat} (X : ox_C p s m args c cc nL own D g ad B) (hV : rx_V l D g ad B ⟨"SubscriberLines$Server", "forget", "()V"⟩ prog_8_method_2_code 1 none 1 21 K_sv_forget) (hl : Cond.methodLink own idx ⟨"SubscriberLines$Server", "forget", "()V"⟩ ∈ al) (hR : 1 + 1 ≤ R.frames ∧ 8 + (1 + 11) + 21 ≤ R.locals) : rx_OK p l e R s m args below meth c cc nL ad (mx_W D g ad B s.heap) mx_cs (.invokevirtual idx) 3 1 (K_sv_forget) :=
  ox_callV (q := 7) (T := T_7) X hV (fun av x h => by obtain ⟨a0, rfl⟩ := k_R_inv h; exact ⟨a0, _, rfl, by have h2 : a0 = 66 := h; rw [h2]; rfl⟩) (by decide) rfl hl (al_at 432 (by decide +kernel) rfl) (al_at 433 (by decide +kernel) rfl) (al_at 9 (by decide +kernel) rfl) (al_at 434 (by decide +kernel) rfl) ⟨by decide, by decide, by decide +kernel⟩ hR
theorem og_sl_24_g {p : Program} {l : Launch} {e : Env} {R : Room} {s : State} {m : MethodId} {args : Array Value} {below : List Frame} {meth : Method} {c : Code} {cc : ByteArray} {nL : Nat} {ad : Nat → Nat} {D : va_G} {g : Nat → ClassId} {B : Nat} (X : ox_C p s m args c cc nL "SubscriberLines" D g ad B) : rx_OK p l e R s m args below meth c cc nL ad (mx_W D g ad B s.heap) mx_cs (.getfield 24) 3 1 (kgr0 0 4 46) := ox_gr0 (T := T_0) X rfl (by decide) (by decide) in_0 rfl (al_at 334 (by decide +kernel) rfl)
theorem og_sl_81_p {p : Program} {l : Launch} {e : Env} {R : Room} {s : State} {m : MethodId} {args : Array Value} {below : List Frame} {meth : Method} {c : Code} {cc : ByteArray} {nL : Nat} {ad : Nat → Nat} {D : va_G} {g : Nat → ClassId} {B : Nat} (X : ox_C p s m args c cc nL "SubscriberLines" D g ad B) : rx_OK p l e R s m args below meth c cc nL ad (mx_W D g ad B s.heap) mx_cs (.putfield 81) 3 2 (kpn) := ox_pn X (al_at 143 (by decide +kernel) rfl)
theorem ok_sl_restart : rx_okF prog_1_method_7_code 2 (some .boolean) L_sl_restart 0 L_sl_restart = true := by decide +kernel
theorem V_sl_restart {l : Launch} {D : va_G} {g : Nat → ClassId} {ad : Nat → Nat} {B : Nat} (had : mx_A ad B) : rx_V l D g ad B ⟨"SubscriberLines", "restart", "(I)Z"⟩ prog_1_method_7_code 2 (some .boolean) 2 42 K_sl_restart := by
  intro av x hp
  obtain ⟨a0, a1, rfl⟩ := k_RI_inv hp
  have hp : a0 = 0 := hp
  have h0 : a0 = 0 := hp
  subst h0
  exact rx_met (k := 0) had (by decide) (Nat.le_of_ble_eq_true rfl) ok_sl_restart rfl rfl 26 (fun p e s m args below meth c X => And.intro (og_sl_36_g X) (And.intro (cv_ac_forget X (V_ac_forget had) (al_at 419 (by decide +kernel) rfl) ⟨by decide, by decide⟩) (And.intro (og_sl_54_g X) (And.intro (cv_sv_forget X (V_sv_forget had) (al_at 431 (by decide +kernel) rfl) ⟨by decide, by decide⟩) (And.intro (og_sl_24_g X) (And.intro (ox_an X) (And.intro (og_sl_81_p X) (trivial)))))))) (S_sl_restart x.1 x.2 a1 ) (E_sl_restart x.1 x.2 a1)
