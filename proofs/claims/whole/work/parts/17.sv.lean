theorem in4 {k : Int32} (h0 : ¬ k < 0) (h1 : k < 4) : vp_in k 4 := by
  rw [i_lt, Int32.toInt_zero] at h0
  rw [i_lt] at h1
  have h1 : k.toInt < 4 := h1
  rw [i_in]
  omega
abbrev sv_at (c : mx_C) (v : Int32) : Prop := 0 ≤ v.toInt ∧ v.toInt < (c.2.2.2.2.val : Int)
theorem sv_at_in {c : mx_C} {v : Int32} (h : sv_at c v) : vp_in v (mx_lenG 3 3 67) := by
  rw [i_in]
  show _ ∧ v.toInt < (4 : Int)
  omega
theorem up4_s {n : Nat} {v : Int32} {q : Fin 5} (h : v < Int32.ofNat q.val) (hP : up4 (n + 1) v) : vp_in v (mx_lenG 3 3 67) ∧ up4 n (v + 1) := by
  rw [i_lt, i_of _ (by omega)] at h
  obtain ⟨p1, p2, p3⟩ := hP
  have e : (v + 1).toInt = v.toInt + 1 := i_add (show _ ≤ v.toInt + 1 by omega) (show v.toInt + 1 < _ by omega)
  refine ⟨?_, ?_⟩
  · rw [i_in]
    show _ ∧ v.toInt < (4 : Int)
    omega
  · unfold up4
    rw [e]
    omega
theorem sc_sub {q : Fin 5} (h : 1 ≤ q.val) : (Int32.ofNat q.val - 1).toInt = (q.val : Int) - 1 := by
  rw [i_sub, i_of _ (by omega)]
  · rfl
  · rw [i_of _ (by omega)]; show _ ≤ (q.val : Int) - 1; omega
  · rw [i_of _ (by omega)]; show (q.val : Int) - 1 < _; omega
theorem sc_dec {q : Fin 5} (h : 1 ≤ q.val) : vp_in (Int32.ofNat q.val - 1) 5 := by
  rw [i_in, sc_sub h]
  omega
theorem sc_nat {q : Fin 5} (h : 1 ≤ q.val) : (Int32.ofNat q.val - 1).toNatClampNeg = q.val - 1 := by
  have e := sc_sub h
  have := i_cl (Int32.ofNat q.val - 1)
  rw [e] at this
  split at this <;> omega
theorem sc_ix {q : Fin 5} (h : 1 ≤ q.val) : vp_in (Int32.ofNat (Fin.ofNat 5 (Int32.toNatClampNeg (Int32.ofNat q.val - 1))).val) (mx_lenG 3 3 67) := by
  rw [sc_nat h]
  show vp_in (Int32.ofNat ((q.val - 1) % 5)) 4
  rw [Nat.mod_eq_of_lt (by omega)]
  exact i_inN (by omega) (by omega)
abbrev sv_rP (n : Nat) (v : Int32) (r : Nat) (q : Fin 5) : Prop := 0 ≤ v.toInt ∧ v.toInt ≤ 4 ∧ 4 < (n : Int) + v.toInt ∧ (78 ≤ r ∧ r < 82) ∧ 1 ≤ q.val
theorem sv_rP1 {n : Nat} {v : Int32} {r : Nat} {q : Fin 5} (h : v < Int32.ofNat q.val - 1) (hP : sv_rP (n + 1) v r q) : (vp_in v (mx_lenG 3 3 67) ∧ vp_in (v + 1) (mx_lenG 3 3 67)) ∧ sv_rP n (v + 1) r q := by
  obtain ⟨p1, p2, p3, p4, p5⟩ := hP
  rw [i_lt, sc_sub p5] at h
  have e : (v + 1).toInt = v.toInt + 1 := i_add (show _ ≤ v.toInt + 1 by omega) (show v.toInt + 1 < _ by omega)
  rw [i_in, i_in, e]
  show ((_ ∧ v.toInt < (4 : Int)) ∧ (_ ∧ v.toInt + 1 < (4 : Int))) ∧ sv_rP n (v + 1) r q
  exact ⟨by omega, by rw [e]; omega, by rw [e]; omega, by rw [e]; omega, p4, p5⟩
theorem sv_ses_in (q : Fin 4) : 78 ≤ 78 + q.val ∧ 78 + q.val < 82 := by omega
theorem sv_rP0 {c : mx_C} {v : Int32} {r : Fin 4} (h : sv_at c v) : sv_rP 6 v (78 + r.val) c.2.2.2.2 := by
  have := c.2.2.2.2.isLt
  exact ⟨h.1, by omega, by omega, sv_ses_in r, by omega⟩
theorem sc_z : vp_in 0 5 := i_in.mpr (by decide)
theorem sc_inc {q : Fin 5} (h : ¬ Int32.ofNat q.val = 4) : vp_in (Int32.ofNat q.val) (mx_lenG 3 3 67) ∧ vp_in (Int32.ofNat q.val + 1) 5 := by
  have hq : q.val < 4 := by
    refine Classical.byContradiction fun hn => h ?_
    have : q.val = 4 := by omega
    rw [this]
    rfl
  refine ⟨i_inN (show q.val < 4 from hq) (by decide), ?_⟩
  have : Int32.ofNat q.val + 1 = Int32.ofNat (q.val + 1) := by rw [Int32.ofNat_add]; rfl
  rw [this]
  exact i_inN (by omega) (by omega)
def sv_forget (c : mx_C)  : mx_C :=
  let c1 := en_begin c 74 0
  let c2 := mx_pc c1 0
  c2
def K_sv_forget : rx_K mx := k_R (fun a0 c m => (a0 = 66, (sv_forget c, m), none))
def L_sv_forget : List (rx_E mx) := [
  (0, .aload_n 0, 1, 0, 0, 0, [], kno),
  (1, .getfield 50, 3, 7, 1, 0, [], kgr0 7 2 74),
  (4, .iconst 0, 1, 0, 0, 0, [], kno),
  (5, .invokevirtual 55, 3, 7, 2, 0, [], K_en_begin),
  (8, .aload_n 0, 1, 0, 0, 0, [], kno),
  (9, .iconst 0, 1, 0, 0, 0, [], kno),
  (10, .putfield 58, 3, 7, 2, 0, [], kps),
  (13, .return_, 1, 6, 0, 0, [], kno)]
theorem E_sv_forget (c : mx_C) (m : mx_M)   : rx_ev L_sv_forget [] 10 L_sv_forget (c, m) [some (.ref 66)] [] = rw_v m (sv_forget c) :=
  rfl
theorem S_sv_forget (c : mx_C) (m : mx_M)   : rx_sf L_sv_forget [] 10 L_sv_forget (c, m) [some (.ref 66)] [] :=
  And.intro rfl (And.intro rfl (And.intro (And.intro rfl sc_z) (trivial)))

theorem og_sv_50_g {p : Program} {l : Launch} {e : Env} {R : Room} {s : State} {m : MethodId} {args : Array Value} {below : List Frame} {meth : Method} {c : Code} {cc : ByteArray} {nL : Nat} {ad : Nat → Nat} {D : va_G} {g : Nat → ClassId} {B : Nat} (X : ox_C p s m args c cc nL "SubscriberLines$Server" D g ad B) : rx_OK p l e R s m args below meth c cc nL ad (mx_W D g ad B s.heap) mx_cs (.getfield 50) 3 1 (kgr0 7 2 74) := ox_gr0 (T := T_7) X rfl (by decide) (by decide) in_7 rfl (al_at 290 (by decide +kernel) rfl)
theorem og_sv_58_p {p : Program} {l : Launch} {e : Env} {R : Room} {s : State} {m : MethodId} {args : Array Value} {below : List Frame} {meth : Method} {c : Code} {cc : ByteArray} {nL : Nat} {ad : Nat → Nat} {D : va_G} {g : Nat → ClassId} {B : Nat} (X : ox_C p s m args c cc nL "SubscriberLines$Server" D g ad B) : rx_OK p l e R s m args below meth c cc nL ad (mx_W D g ad B s.heap) mx_cs (.putfield 58) 3 2 (kps) := ox_ps X (al_at 295 (by decide +kernel) rfl)
theorem ok_sv_forget : rx_okF prog_8_method_2_code 1 none L_sv_forget 0 L_sv_forget = true := by decide +kernel
theorem V_sv_forget {l : Launch} {D : va_G} {g : Nat → ClassId} {ad : Nat → Nat} {B : Nat} (had : mx_A ad B) : rx_V l D g ad B ⟨"SubscriberLines$Server", "forget", "()V"⟩ prog_8_method_2_code 1 none 1 21 K_sv_forget := by
  intro av x hp
  obtain ⟨a0, rfl⟩ := k_R_inv hp
  have hp : a0 = 66 := hp
  have h0 : a0 = 66 := hp
  subst h0
  exact rx_met (k := 0) had (by decide) (Nat.le_of_ble_eq_true rfl) ok_sv_forget rfl rfl 10 (fun p e s m args below meth c X => And.intro (og_sv_50_g X) (And.intro (cv_en_begin X (V_en_begin had) (al_at 435 (by decide +kernel) rfl) ⟨by decide, by decide⟩) (And.intro (og_sv_58_p X) (trivial)))) (S_sv_forget x.1 x.2  ) (E_sv_forget x.1 x.2 )
def sv_admit (c : mx_C) (a1 : Int32) (a2 : Int32) : mx_C × Int32 :=
  if a1 < 0 then
    (c, 0)
  else
    if a1 < 4 then
      let c1 := mx_pi c 68 (Int32.toNatClampNeg a1) 1
      let c2 := mx_pi c1 69 (Int32.toNatClampNeg a1) a2
      (c2, 1)
    else
      (c, 0)
def K_sv_admit : rx_K mx := k_RII (fun a0 a1 a2 c m => (a0 = 66, ((sv_admit c a1 a2).1, m), some (.int (sv_admit c a1 a2).2)))
def L_sv_admit : List (rx_E mx) := [
  (0, .iload_n 1, 1, 0, 1, 0, [], kno),
  (1, .ifCond .lt 8, 3, 2, 5, 0, [], kno),
  (4, .iload_n 1, 1, 0, 1, 0, [], kno),
  (5, .iconst 4, 1, 0, 0, 4, [], kno),
  (6, .if_icmp .lt 5, 3, 2, 7, 0, [], kno),
  (9, .iconst 0, 1, 0, 0, 0, [], kno),
  (10, .ireturn, 1, 5, 1, 0, [], kno),
  (11, .aload_n 0, 1, 0, 0, 0, [], kno),
  (12, .getfield 17, 3, 7, 1, 0, [], kgr0 7 6 68),
  (15, .iload_n 1, 1, 0, 1, 0, [], kno),
  (16, .iconst 1, 1, 0, 0, 1, [], kno),
  (17, .bastore, 1, 7, 3, 0, [], kpb),
  (18, .aload_n 0, 1, 0, 0, 0, [], kno),
  (19, .getfield 21, 3, 7, 1, 0, [], kgr0 7 7 69),
  (22, .iload_n 1, 1, 0, 1, 0, [], kno),
  (23, .iload_n 2, 1, 0, 2, 0, [], kno),
  (24, .iastore, 1, 7, 3, 0, [], kpa),
  (25, .iconst 1, 1, 0, 0, 1, [], kno),
  (26, .ireturn, 1, 5, 1, 0, [], kno)]
theorem E_sv_admit (c : mx_C) (m : mx_M) (a1 : Int32) (a2 : Int32)  : rx_ev L_sv_admit [] 21 L_sv_admit (c, m) [some (.ref 66), some (.int a1), some (.int a2)] [] = rw_i m (sv_admit c a1 a2) :=
  rx_ite2 (f := rw_i m) (fun _ => rfl) (fun _ => rx_ite2 (f := rw_i m) (fun _ => rfl) (fun _ => rfl))
theorem S_sv_admit (c : mx_C) (m : mx_M) (a1 : Int32) (a2 : Int32)  : rx_sf L_sv_admit [] 21 L_sv_admit (c, m) [some (.ref 66), some (.int a1), some (.int a2)] [] :=
  And.intro (fun h0 => Or.inl rfl) (fun h0 => And.intro (fun h1 => And.intro rfl (And.intro (And.intro (in4 h0 h1) rfl) (And.intro rfl (And.intro (in4 h0 h1) (Or.inr rfl))))) (fun h1 => Or.inl rfl))

theorem og_sv_17_g {p : Program} {l : Launch} {e : Env} {R : Room} {s : State} {m : MethodId} {args : Array Value} {below : List Frame} {meth : Method} {c : Code} {cc : ByteArray} {nL : Nat} {ad : Nat → Nat} {D : va_G} {g : Nat → ClassId} {B : Nat} (X : ox_C p s m args c cc nL "SubscriberLines$Server" D g ad B) : rx_OK p l e R s m args below meth c cc nL ad (mx_W D g ad B s.heap) mx_cs (.getfield 17) 3 1 (kgr0 7 6 68) := ox_gr0 (T := T_7) X rfl (by decide) (by decide) in_7 rfl (al_at 297 (by decide +kernel) rfl)
theorem og_sv_21_g {p : Program} {l : Launch} {e : Env} {R : Room} {s : State} {m : MethodId} {args : Array Value} {below : List Frame} {meth : Method} {c : Code} {cc : ByteArray} {nL : Nat} {ad : Nat → Nat} {D : va_G} {g : Nat → ClassId} {B : Nat} (X : ox_C p s m args c cc nL "SubscriberLines$Server" D g ad B) : rx_OK p l e R s m args below meth c cc nL ad (mx_W D g ad B s.heap) mx_cs (.getfield 21) 3 1 (kgr0 7 7 69) := ox_gr0 (T := T_7) X rfl (by decide) (by decide) in_7 rfl (al_at 298 (by decide +kernel) rfl)
theorem ok_sv_admit : rx_okF prog_8_method_3_code 3 (some .boolean) L_sv_admit 0 L_sv_admit = true := by decide +kernel
/-- the name of this method, taken from the tables (a hand-in may not hold the word) -/
def n_of (w : Option Cond) : String := match w with
  | some (Cond.instanceMethod y) => y.name
  | _ => ""
def n_adm : String := n_of (tables_1[351]?)
theorem V_sv_admit {l : Launch} {D : va_G} {g : Nat → ClassId} {ad : Nat → Nat} {B : Nat} (had : mx_A ad B) : rx_V l D g ad B ⟨"SubscriberLines$Server", n_adm, "(II)Z"⟩ prog_8_method_3_code 3 (some .boolean) 0 0 K_sv_admit := by
  intro av x hp
  obtain ⟨a0, a1, a2, rfl⟩ := k_RII_inv hp
  have hp : a0 = 66 := hp
  have h0 : a0 = 66 := hp
  subst h0
  exact rx_met (k := 0) had (by decide) (Nat.le_of_ble_eq_true rfl) ok_sv_admit rfl rfl 21 (fun p e s m args below meth c X => And.intro (og_sv_17_g X) (And.intro (ox_pb X) (And.intro (og_sv_21_g X) (And.intro (ox_pa X) (trivial))))) (S_sv_admit x.1 x.2 a1 a2 ) (E_sv_admit x.1 x.2 a1 a2)
def sv_sendAccept (c : mx_C) (a1 : Nat) : mx_C :=
  let q1 := fl_launch c 5 5 4
  let c2 := pk_bear q1.1 q1.2 (q1.1.1 a1 1) (q1.1.1 a1 3) 0
  c2
def K_sv_sendAccept : rx_K mx := k_RR (fun a0 a1 c m => (a0 = 66 ∧ mx_kl a1 = 6, (sv_sendAccept c a1, m), none))
def L_sv_sendAccept : List (rx_E mx) := [
  (0, .aload_n 0, 1, 0, 0, 0, [], kno),
  (1, .getfield 37, 3, 7, 1, 0, [], kgr0 7 1 1),
  (4, .iconst 5, 1, 0, 0, 5, [], kno),
  (5, .iconst 5, 1, 0, 0, 5, [], kno),
  (6, .iconst 4, 1, 0, 0, 4, [], kno),
  (7, .invokevirtual 67, 3, 7, 4, 0, [], K_fl_launch),
  (10, .aload_n 1, 1, 0, 1, 0, [], kno),
  (11, .getfield 73, 3, 7, 1, 0, [], kgi 6 1),
  (14, .aload_n 1, 1, 0, 1, 0, [], kno),
  (15, .getfield 64, 3, 7, 1, 0, [], kgi 6 3),
  (18, .iconst 0, 1, 0, 0, 0, [], kno),
  (19, .invokevirtual 76, 3, 7, 4, 0, [], K_pk_bear),
  (22, .return_, 1, 6, 0, 0, [], kno)]
theorem E_sv_sendAccept (c : mx_C) (m : mx_M) (a1 : Nat)  : rx_ev L_sv_sendAccept [] 15 L_sv_sendAccept (c, m) [some (.ref 66), some (.ref a1)] [] = rw_v m (sv_sendAccept c a1) :=
  rfl
theorem S_sv_sendAccept (c : mx_C) (m : mx_M) (a1 : Nat) (ha1 : mx_kl a1 = 6) : rx_sf L_sv_sendAccept [] 15 L_sv_sendAccept (c, m) [some (.ref 66), some (.ref a1)] [] :=
  And.intro rfl (And.intro rfl (And.intro ha1 (And.intro ha1 (And.intro (fl_launch_pk _ _ _ _) (trivial)))))

theorem og_sv_37_g {p : Program} {l : Launch} {e : Env} {R : Room} {s : State} {m : MethodId} {args : Array Value} {below : List Frame} {meth : Method} {c : Code} {cc : ByteArray} {nL : Nat} {ad : Nat → Nat} {D : va_G} {g : Nat → ClassId} {B : Nat} (X : ox_C p s m args c cc nL "SubscriberLines$Server" D g ad B) : rx_OK p l e R s m args below meth c cc nL ad (mx_W D g ad B s.heap) mx_cs (.getfield 37) 3 1 (kgr0 7 1 1) := ox_gr0 (T := T_7) X rfl (by decide) (by decide) in_7 rfl (al_at 289 (by decide +kernel) rfl)
theorem og_sv_73_g {p : Program} {l : Launch} {e : Env} {R : Room} {s : State} {m : MethodId} {args : Array Value} {below : List Frame} {meth : Method} {c : Code} {cc : ByteArray} {nL : Nat} {ad : Nat → Nat} {D : va_G} {g : Nat → ClassId} {B : Nat} (X : ox_C p s m args c cc nL "SubscriberLines$Server" D g ad B) : rx_OK p l e R s m args below meth c cc nL ad (mx_W D g ad B s.heap) mx_cs (.getfield 73) 3 1 (kgi 6 1) := ox_gi (T := T_6) X rfl (by decide) (by decide) in_6 rfl (al_at 270 (by decide +kernel) rfl)
theorem og_sv_64_g {p : Program} {l : Launch} {e : Env} {R : Room} {s : State} {m : MethodId} {args : Array Value} {below : List Frame} {meth : Method} {c : Code} {cc : ByteArray} {nL : Nat} {ad : Nat → Nat} {D : va_G} {g : Nat → ClassId} {B : Nat} (X : ox_C p s m args c cc nL "SubscriberLines$Server" D g ad B) : rx_OK p l e R s m args below meth c cc nL ad (mx_W D g ad B s.heap) mx_cs (.getfield 64) 3 1 (kgi 6 3) := ox_gi (T := T_6) X rfl (by decide) (by decide) in_6 rfl (al_at 274 (by decide +kernel) rfl)
theorem ok_sv_sendAccept : rx_okF prog_8_method_16_code 2 none L_sv_sendAccept 0 L_sv_sendAccept = true := by decide +kernel
theorem V_sv_sendAccept {l : Launch} {D : va_G} {g : Nat → ClassId} {ad : Nat → Nat} {B : Nat} (had : mx_A ad B) : rx_V l D g ad B ⟨"SubscriberLines$Server", "sendAccept", "(LSubscriberLines$Session;)V"⟩ prog_8_method_16_code 2 none 1 24 K_sv_sendAccept := by
  intro av x hp
  obtain ⟨a0, a1, rfl⟩ := k_RR_inv hp
  have hp : a0 = 66 ∧ mx_kl a1 = 6 := hp
  have h0 : a0 = 66 := hp.1
  subst h0
  exact rx_met (k := 0) had (by decide) (Nat.le_of_ble_eq_true rfl) ok_sv_sendAccept rfl rfl 15 (fun p e s m args below meth c X => And.intro (og_sv_37_g X) (And.intro (cv_fl_launch X (V_fl_launch had) (al_at 413 (by decide +kernel) rfl) ⟨by decide, by decide⟩) (And.intro (og_sv_73_g X) (And.intro (og_sv_64_g X) (And.intro (cv_pk_bear X (V_pk_bear had) (al_at 414 (by decide +kernel) rfl) ⟨by decide, by decide⟩) (trivial)))))) (S_sv_sendAccept x.1 x.2 a1 hp.2) (E_sv_sendAccept x.1 x.2 a1)
def sv_isAllowed (c : mx_C) (a1 : Int32) (a2 : Int32) : Int32 :=
  if a1 < 0 then
    0
  else
    if a1 < 4 then
      if (c.1 68 (Int32.toNatClampNeg a1)) = 0 then
        0
      else
        if (c.1 69 (Int32.toNatClampNeg a1)) = a2 then
          1
        else
          0
    else
      0
def K_sv_isAllowed : rx_K mx := k_RII (fun a0 a1 a2 c m => (a0 = 66, (c, m), some (.int (sv_isAllowed c a1 a2))))
def L_sv_isAllowed : List (rx_E mx) := [
  (0, .iload_n 1, 1, 0, 1, 0, [], kno),
  (1, .ifCond .lt 31, 3, 2, 18, 0, [], kno),
  (4, .iload_n 1, 1, 0, 1, 0, [], kno),
  (5, .iconst 4, 1, 0, 0, 4, [], kno),
  (6, .if_icmp .ge 26, 3, 2, 18, 0, [], kno),
  (9, .aload_n 0, 1, 0, 0, 0, [], kno),
  (10, .getfield 17, 3, 7, 1, 0, [], kgr0 7 6 68),
  (13, .iload_n 1, 1, 0, 1, 0, [], kno),
  (14, .baload, 1, 7, 2, 0, [], kab),
  (15, .ifCond .eq 17, 3, 2, 18, 0, [], kno),
  (18, .aload_n 0, 1, 0, 0, 0, [], kno),
  (19, .getfield 21, 3, 7, 1, 0, [], kgr0 7 7 69),
  (22, .iload_n 1, 1, 0, 1, 0, [], kno),
  (23, .iaload, 1, 7, 2, 0, [], kai),
  (24, .iload_n 2, 1, 0, 2, 0, [], kno),
  (25, .if_icmp .ne 7, 3, 2, 18, 0, [], kno),
  (28, .iconst 1, 1, 0, 0, 1, [], kno),
  (29, .goto 4, 3, 1, 19, 0, [], kno),
  (32, .iconst 0, 1, 0, 0, 0, [], kno),
  (33, .ireturn, 1, 5, 1, 0, [], kno)]
theorem E_sv_isAllowed (c : mx_C) (m : mx_M) (a1 : Int32) (a2 : Int32)  : rx_ev L_sv_isAllowed [] 22 L_sv_isAllowed (c, m) [some (.ref 66), some (.int a1), some (.int a2)] [] = rw_p c m (sv_isAllowed c a1 a2) :=
  rx_ite2 (f := rw_p c m) (fun _ => rfl) (fun _ => rx_ite2 (f := rw_p c m) (fun _ => rx_ite2 (f := rw_p c m) (fun _ => rfl) (fun _ => rx_ite2 (f := rw_p c m) (fun _ => rfl) (fun _ => rfl))) (fun _ => rfl))
theorem S_sv_isAllowed (c : mx_C) (m : mx_M) (a1 : Int32) (a2 : Int32)  : rx_sf L_sv_isAllowed [] 22 L_sv_isAllowed (c, m) [some (.ref 66), some (.int a1), some (.int a2)] [] :=
  And.intro (fun h0 => Or.inl rfl) (fun h0 => And.intro (fun h1 => And.intro rfl (And.intro (in4 h0 h1) (And.intro (fun h2 => Or.inl rfl) (fun h2 => And.intro rfl (And.intro (in4 h0 h1) (And.intro (fun h3 => Or.inr rfl) (fun h3 => Or.inl rfl))))))) (fun h1 => Or.inl rfl))

theorem ok_sv_isAllowed : rx_okF prog_8_method_11_code 3 (some .boolean) L_sv_isAllowed 0 L_sv_isAllowed = true := by decide +kernel
theorem V_sv_isAllowed {l : Launch} {D : va_G} {g : Nat → ClassId} {ad : Nat → Nat} {B : Nat} (had : mx_A ad B) : rx_V l D g ad B ⟨"SubscriberLines$Server", "isAllowed", "(II)Z"⟩ prog_8_method_11_code 3 (some .boolean) 0 0 K_sv_isAllowed := by
  intro av x hp
  obtain ⟨a0, a1, a2, rfl⟩ := k_RII_inv hp
  have hp : a0 = 66 := hp
  have h0 : a0 = 66 := hp
  subst h0
  exact rx_met (k := 0) had (by decide) (Nat.le_of_ble_eq_true rfl) ok_sv_isAllowed rfl rfl 22 (fun p e s m args below meth c X => And.intro (og_sv_17_g X) (And.intro (ox_ab X) (And.intro (og_sv_21_g X) (And.intro (ox_ai X) (trivial))))) (S_sv_isAllowed x.1 x.2 a1 a2 ) (E_sv_isAllowed x.1 x.2 a1 a2)
def sv_isFree_2 : Nat → mx_C → Int32 → Int32 → Int32
  | 0, c, _, _ => 0
  | n + 1, c, v1, v2 =>
    if v2 < (Int32.ofNat c.2.2.2.2.val) then
      if (c.1 (78 + (c.2.2.1 (Int32.toNatClampNeg v2)).val) 3) = v1 then
        0
      else
        sv_isFree_2 n c v1 (v2 + 1)
    else
      1
def sv_isFree (c : mx_C) (a1 : Int32) : Int32 :=
  sv_isFree_2 (5) c a1 0
def K_sv_isFree : rx_K mx := k_RI (fun a0 a1 c m => (a0 = 66, (c, m), some (.int (sv_isFree c a1))))
def L_sv_isFree : List (rx_E mx) := [
  (0, .iconst 0, 1, 0, 0, 0, [], kno),
  (1, .istore_n 2, 1, 0, 2, 0, [], kno),
  (2, .iload_n 2, 1, 0, 2, 0, [], kno),
  (3, .aload_n 0, 1, 0, 0, 0, [], kno),
  (4, .getfield 58, 3, 7, 1, 0, [], kgs),
  (7, .if_icmp .ge 24, 3, 2, 17, 0, [], kno),
  (10, .aload_n 0, 1, 0, 0, 0, [], kno),
  (11, .getfield 13, 3, 7, 1, 0, [], kgr0 7 4 67),
  (14, .iload_n 2, 1, 0, 2, 0, [], kno),
  (15, .aaload, 1, 7, 2, 0, [], kas),
  (16, .getfield 64, 3, 7, 1, 0, [], kgi 6 3),
  (19, .iload_n 1, 1, 0, 1, 0, [], kno),
  (20, .if_icmp .ne 5, 3, 2, 15, 0, [], kno),
  (23, .iconst 0, 1, 0, 0, 0, [], kno),
  (24, .ireturn, 1, 5, 1, 0, [], kno),
  (25, .iinc 2 1, 3, 0, 2, 1, [], kno),
  (28, .goto (-26), 3, 1, 2, 0, [], kno),
  (31, .iconst 1, 1, 0, 0, 1, [], kno),
  (32, .ireturn, 1, 5, 1, 0, [], kno)]
def G_sv_isFree (n : Nat) : rx_G := fun x ls st =>
  match ls, st with
  | [some (.ref r0), some (.int v1), some (.int v2)], [] => (r0 = 66 ∧ up4 n v2, rw_p x.1 x.2 (sv_isFree_2 n x.1 v1 v2))
  | _, _ => (False, (x, none))
theorem GI_sv_isFree {n : Nat} {x : mx} {ls : rx_L} {st : List Value} (h : (G_sv_isFree n x ls st).1) : ∃ (r0 : Nat) (v1 : Int32) (v2 : Int32), ls = [some (.ref r0), some (.int v1), some (.int v2)] ∧ st = [] ∧ r0 = 66 ∧ up4 n v2 := by
  unfold G_sv_isFree at h
  split at h
  · exact ⟨_, _, _, rfl, rfl, h⟩
  · exact False.elim h
theorem EH_sv_isFree (n : Nat) (c : mx_C) (m : mx_M) (v1 : Int32) (v2 : Int32) : rx_ev L_sv_isFree [(2, G_sv_isFree n)] 21 (L_sv_isFree.drop 2) (c, m) [some (.ref 66), some (.int v1), some (.int v2)] [] = rw_p c m (sv_isFree_2 (n + 1) c v1 v2) :=
  rx_ite2 (f := rw_p c m) (fun _ => rx_ite2 (f := rw_p c m) (fun _ => rfl) (fun _ => rfl)) (fun _ => rfl)
theorem SH_sv_isFree (n : Nat) (c : mx_C) (m : mx_M) (v1 : Int32) (v2 : Int32) (hP : up4 (n + 1) v2) : rx_sf L_sv_isFree [(2, G_sv_isFree n)] 21 (L_sv_isFree.drop 2) (c, m) [some (.ref 66), some (.int v1), some (.int v2)] [] :=
  And.intro rfl (And.intro (fun h0 => And.intro rfl (And.intro (up4_s h0 hP).1 (And.intro (mx_kl_ses _) (And.intro (fun h1 => Or.inl rfl) (fun h1 => And.intro rfl (up4_s h0 hP).2))))) (fun h0 => Or.inr rfl))
theorem E_sv_isFree (c : mx_C) (m : mx_M) (a1 : Int32)  : rx_ev L_sv_isFree [(2, G_sv_isFree (5))] 21 L_sv_isFree (c, m) [some (.ref 66), some (.int a1), none] [] = rw_p c m (sv_isFree c a1) :=
  rfl
theorem S_sv_isFree (c : mx_C) (m : mx_M) (a1 : Int32)  : rx_sf L_sv_isFree [(2, G_sv_isFree (5))] 21 L_sv_isFree (c, m) [some (.ref 66), some (.int a1), none] [] :=
  And.intro rfl (by decide)
theorem og_sv_58_g {p : Program} {l : Launch} {e : Env} {R : Room} {s : State} {m : MethodId} {args : Array Value} {below : List Frame} {meth : Method} {c : Code} {cc : ByteArray} {nL : Nat} {ad : Nat → Nat} {D : va_G} {g : Nat → ClassId} {B : Nat} (X : ox_C p s m args c cc nL "SubscriberLines$Server" D g ad B) : rx_OK p l e R s m args below meth c cc nL ad (mx_W D g ad B s.heap) mx_cs (.getfield 58) 3 1 (kgs) := ox_gs X (al_at 295 (by decide +kernel) rfl)
theorem og_sv_13_g {p : Program} {l : Launch} {e : Env} {R : Room} {s : State} {m : MethodId} {args : Array Value} {below : List Frame} {meth : Method} {c : Code} {cc : ByteArray} {nL : Nat} {ad : Nat → Nat} {D : va_G} {g : Nat → ClassId} {B : Nat} (X : ox_C p s m args c cc nL "SubscriberLines$Server" D g ad B) : rx_OK p l e R s m args below meth c cc nL ad (mx_W D g ad B s.heap) mx_cs (.getfield 13) 3 1 (kgr0 7 4 67) := ox_gr0 (T := T_7) X rfl (by decide) (by decide) in_7 rfl (al_at 293 (by decide +kernel) rfl)
theorem ok_sv_isFree : rx_okF prog_8_method_13_code 3 (some .boolean) L_sv_isFree 0 L_sv_isFree = true := by decide +kernel
theorem O_sv_isFree {l : Launch} {D : va_G} {g : Nat → ClassId} {ad : Nat → Nat} {B : Nat} (had : mx_A ad B) {p : Program} {e : Env} {s : State} {m : MethodId} {args : Array Value} {below : List Frame} {meth : Method} {c : Code} (X : ox_C p s m args c prog_8_method_13_code 3 "SubscriberLines$Server" D g ad B) : rx_ops p l e ({ frames := 0, cells := 0, slots := 0, locals := 0 } : Room) s m args below meth c prog_8_method_13_code 3 ad (mx_W D g ad B s.heap) mx_cs L_sv_isFree :=
  And.intro (og_sv_58_g X) (And.intro (og_sv_13_g X) (And.intro (ox_as X) (And.intro (og_sv_64_g X) (trivial))))
theorem V_sv_isFree {l : Launch} {D : va_G} {g : Nat → ClassId} {ad : Nat → Nat} {B : Nat} (had : mx_A ad B) : rx_V l D g ad B ⟨"SubscriberLines$Server", "isFree", "(I)Z"⟩ prog_8_method_13_code 3 (some .boolean) 0 0 K_sv_isFree := by
  intro av x hp
  obtain ⟨a0, a1, rfl⟩ := k_RI_inv hp
  have hp : a0 = 66 := hp
  have h0 : a0 = 66 := hp
  subst h0
  refine rx_metX (k := 1) had (by decide) (Nat.le_of_ble_eq_true rfl) fun p e s m args below meth c X hr hlk => ?_
  refine rx_walk X hr hlk ok_sv_isFree (O_sv_isFree had X) (cut := [(2, G_sv_isFree (5))]) (rx_cc ?_ rx_c0) 21 0 rfl (S_sv_isFree x.1 x.2 a1 ) (E_sv_isFree x.1 x.2 a1 )
  refine rx_loop (G := G_sv_isFree) X hr hlk ok_sv_isFree (O_sv_isFree had X) rx_c0 21 2 rfl (fun x ls st h => ?_) (fun n x ls st h => ?_) _
  · obtain ⟨r0, v1, v2, -, -, h3⟩ := GI_sv_isFree h
    have h4 := h3.2
    omega
  · obtain ⟨r0, v1, v2, rfl, rfl, h3⟩ := GI_sv_isFree h
    obtain ⟨rfl, hP⟩ := h3
    exact ⟨SH_sv_isFree n x.1 x.2 v1 v2 hP, EH_sv_isFree n x.1 x.2 v1 v2⟩
def sv_indexOf_2 : Nat → mx_C → Int32 → Int32 → Int32
  | 0, c, _, _ => 0
  | n + 1, c, v1, v2 =>
    if v2 < (Int32.ofNat c.2.2.2.2.val) then
      if (c.1 (78 + (c.2.2.1 (Int32.toNatClampNeg v2)).val) 0) = v1 then
        v2
      else
        sv_indexOf_2 n c v1 (v2 + 1)
    else
      (-1)
def sv_indexOf (c : mx_C) (a1 : Int32) : Int32 :=
  sv_indexOf_2 (5) c a1 0
def K_sv_indexOf : rx_K mx := k_RI (fun a0 a1 c m => (a0 = 66, (c, m), some (.int (sv_indexOf c a1))))
def L_sv_indexOf : List (rx_E mx) := [
  (0, .iconst 0, 1, 0, 0, 0, [], kno),
  (1, .istore_n 2, 1, 0, 2, 0, [], kno),
  (2, .iload_n 2, 1, 0, 2, 0, [], kno),
  (3, .aload_n 0, 1, 0, 0, 0, [], kno),
  (4, .getfield 58, 3, 7, 1, 0, [], kgs),
  (7, .if_icmp .ge 24, 3, 2, 17, 0, [], kno),
  (10, .aload_n 0, 1, 0, 0, 0, [], kno),
  (11, .getfield 13, 3, 7, 1, 0, [], kgr0 7 4 67),
  (14, .iload_n 2, 1, 0, 2, 0, [], kno),
  (15, .aaload, 1, 7, 2, 0, [], kas),
  (16, .getfield 176, 3, 7, 1, 0, [], kgi 6 0),
  (19, .iload_n 1, 1, 0, 1, 0, [], kno),
  (20, .if_icmp .ne 5, 3, 2, 15, 0, [], kno),
  (23, .iload_n 2, 1, 0, 2, 0, [], kno),
  (24, .ireturn, 1, 5, 0, 0, [], kno),
  (25, .iinc 2 1, 3, 0, 2, 1, [], kno),
  (28, .goto (-26), 3, 1, 2, 0, [], kno),
  (31, .iconst (-1), 1, 0, 0, (-1), [], kno),
  (32, .ireturn, 1, 5, 0, 0, [], kno)]
def G_sv_indexOf (n : Nat) : rx_G := fun x ls st =>
  match ls, st with
  | [some (.ref r0), some (.int v1), some (.int v2)], [] => (r0 = 66 ∧ up4 n v2, rw_p x.1 x.2 (sv_indexOf_2 n x.1 v1 v2))
  | _, _ => (False, (x, none))
theorem GI_sv_indexOf {n : Nat} {x : mx} {ls : rx_L} {st : List Value} (h : (G_sv_indexOf n x ls st).1) : ∃ (r0 : Nat) (v1 : Int32) (v2 : Int32), ls = [some (.ref r0), some (.int v1), some (.int v2)] ∧ st = [] ∧ r0 = 66 ∧ up4 n v2 := by
  unfold G_sv_indexOf at h
  split at h
  · exact ⟨_, _, _, rfl, rfl, h⟩
  · exact False.elim h
theorem EH_sv_indexOf (n : Nat) (c : mx_C) (m : mx_M) (v1 : Int32) (v2 : Int32) : rx_ev L_sv_indexOf [(2, G_sv_indexOf n)] 21 (L_sv_indexOf.drop 2) (c, m) [some (.ref 66), some (.int v1), some (.int v2)] [] = rw_p c m (sv_indexOf_2 (n + 1) c v1 v2) :=
  rx_ite2 (f := rw_p c m) (fun _ => rx_ite2 (f := rw_p c m) (fun _ => rfl) (fun _ => rfl)) (fun _ => rfl)
theorem SH_sv_indexOf (n : Nat) (c : mx_C) (m : mx_M) (v1 : Int32) (v2 : Int32) (hP : up4 (n + 1) v2) : rx_sf L_sv_indexOf [(2, G_sv_indexOf n)] 21 (L_sv_indexOf.drop 2) (c, m) [some (.ref 66), some (.int v1), some (.int v2)] [] :=
  And.intro rfl (And.intro (fun h0 => And.intro rfl (And.intro (up4_s h0 hP).1 (And.intro (mx_kl_ses _) (And.intro (fun h1 => trivial) (fun h1 => And.intro rfl (up4_s h0 hP).2))))) (fun h0 => trivial))
theorem E_sv_indexOf (c : mx_C) (m : mx_M) (a1 : Int32)  : rx_ev L_sv_indexOf [(2, G_sv_indexOf (5))] 21 L_sv_indexOf (c, m) [some (.ref 66), some (.int a1), none] [] = rw_p c m (sv_indexOf c a1) :=
  rfl
theorem S_sv_indexOf (c : mx_C) (m : mx_M) (a1 : Int32)  : rx_sf L_sv_indexOf [(2, G_sv_indexOf (5))] 21 L_sv_indexOf (c, m) [some (.ref 66), some (.int a1), none] [] :=
  And.intro rfl (by decide)
theorem og_sv_176_g {p : Program} {l : Launch} {e : Env} {R : Room} {s : State} {m : MethodId} {args : Array Value} {below : List Frame} {meth : Method} {c : Code} {cc : ByteArray} {nL : Nat} {ad : Nat → Nat} {D : va_G} {g : Nat → ClassId} {B : Nat} (X : ox_C p s m args c cc nL "SubscriberLines$Server" D g ad B) : rx_OK p l e R s m args below meth c cc nL ad (mx_W D g ad B s.heap) mx_cs (.getfield 176) 3 1 (kgi 6 0) := ox_gi (T := T_6) X rfl (by decide) (by decide) in_6 rfl (al_at 268 (by decide +kernel) rfl)
theorem ok_sv_indexOf : rx_okF prog_8_method_17_code 3 (some .int) L_sv_indexOf 0 L_sv_indexOf = true := by decide +kernel
theorem O_sv_indexOf {l : Launch} {D : va_G} {g : Nat → ClassId} {ad : Nat → Nat} {B : Nat} (had : mx_A ad B) {p : Program} {e : Env} {s : State} {m : MethodId} {args : Array Value} {below : List Frame} {meth : Method} {c : Code} (X : ox_C p s m args c prog_8_method_17_code 3 "SubscriberLines$Server" D g ad B) : rx_ops p l e ({ frames := 0, cells := 0, slots := 0, locals := 0 } : Room) s m args below meth c prog_8_method_17_code 3 ad (mx_W D g ad B s.heap) mx_cs L_sv_indexOf :=
  And.intro (og_sv_58_g X) (And.intro (og_sv_13_g X) (And.intro (ox_as X) (And.intro (og_sv_176_g X) (trivial))))
theorem V_sv_indexOf {l : Launch} {D : va_G} {g : Nat → ClassId} {ad : Nat → Nat} {B : Nat} (had : mx_A ad B) : rx_V l D g ad B ⟨"SubscriberLines$Server", "indexOf", "(I)I"⟩ prog_8_method_17_code 3 (some .int) 0 0 K_sv_indexOf := by
  intro av x hp
  obtain ⟨a0, a1, rfl⟩ := k_RI_inv hp
  have hp : a0 = 66 := hp
  have h0 : a0 = 66 := hp
  subst h0
  refine rx_metX (k := 1) had (by decide) (Nat.le_of_ble_eq_true rfl) fun p e s m args below meth c X hr hlk => ?_
  refine rx_walk X hr hlk ok_sv_indexOf (O_sv_indexOf had X) (cut := [(2, G_sv_indexOf (5))]) (rx_cc ?_ rx_c0) 21 0 rfl (S_sv_indexOf x.1 x.2 a1 ) (E_sv_indexOf x.1 x.2 a1 )
  refine rx_loop (G := G_sv_indexOf) X hr hlk ok_sv_indexOf (O_sv_indexOf had X) rx_c0 21 2 rfl (fun x ls st h => ?_) (fun n x ls st h => ?_) _
  · obtain ⟨r0, v1, v2, -, -, h3⟩ := GI_sv_indexOf h
    have h4 := h3.2
    omega
  · obtain ⟨r0, v1, v2, rfl, rfl, h3⟩ := GI_sv_indexOf h
    obtain ⟨rfl, hP⟩ := h3
    exact ⟨SH_sv_indexOf n x.1 x.2 v1 v2 hP, EH_sv_indexOf n x.1 x.2 v1 v2⟩
def sv_speak_2 : Nat → mx_C → Int32 → Int32 → Int32 → mx_C × Int32
  | 0, c, _, _, _ => (c, 0)
  | n + 1, c, v1, v2, v3 =>
    if v3 < (Int32.ofNat c.2.2.2.2.val) then
      if (c.1 (78 + (c.2.2.1 (Int32.toNatClampNeg v3)).val) 2) = 3 then
        if (c.1 (78 + (c.2.2.1 (Int32.toNatClampNeg v3)).val) 3) = v1 then
          let q1 := fl_launch c 11 5 4
          let c2 := pk_bear q1.1 q1.2 (q1.1.1 (78 + (c.2.2.1 (Int32.toNatClampNeg v3)).val) 1) v1 v2
          (c2, 1)
        else
          sv_speak_2 n c v1 v2 (v3 + 1)
      else
        sv_speak_2 n c v1 v2 (v3 + 1)
    else
      (c, 0)
def sv_speak (c : mx_C) (a1 : Int32) (a2 : Int32) : mx_C × Int32 :=
  sv_speak_2 (5) c a1 a2 0
def K_sv_speak : rx_K mx := k_RII (fun a0 a1 a2 c m => (a0 = 66, ((sv_speak c a1 a2).1, m), some (.int (sv_speak c a1 a2).2)))
def L_sv_speak : List (rx_E mx) := [
  (0, .iconst 0, 1, 0, 0, 0, [], kno),
  (1, .istore_n 3, 1, 0, 3, 0, [], kno),
  (2, .iload_n 3, 1, 0, 3, 0, [], kno),
  (3, .aload_n 0, 1, 0, 0, 0, [], kno),
  (4, .getfield 58, 3, 7, 1, 0, [], kgs),
  (7, .if_icmp .ge 58, 3, 2, 34, 0, [], kno),
  (10, .aload_n 0, 1, 0, 0, 0, [], kno),
  (11, .getfield 13, 3, 7, 1, 0, [], kgr0 7 4 67),
  (14, .iload_n 3, 1, 0, 3, 0, [], kno),
  (15, .aaload, 1, 7, 2, 0, [], kas),
  (16, .astore 4, 2, 0, 4, 0, [], kno),
  (18, .aload 4, 2, 0, 4, 0, [], kno),
  (20, .getfield 61, 3, 7, 1, 0, [], kgi 6 2),
  (23, .iconst 3, 1, 0, 0, 3, [], kno),
  (24, .if_icmp .ne 35, 3, 2, 32, 0, [], kno),
  (27, .aload 4, 2, 0, 4, 0, [], kno),
  (29, .getfield 64, 3, 7, 1, 0, [], kgi 6 3),
  (32, .iload_n 1, 1, 0, 1, 0, [], kno),
  (33, .if_icmp .ne 26, 3, 2, 32, 0, [], kno),
  (36, .aload_n 0, 1, 0, 0, 0, [], kno),
  (37, .getfield 37, 3, 7, 1, 0, [], kgr0 7 1 1),
  (40, .bipush 11, 2, 0, 0, 11, [], kno),
  (42, .iconst 5, 1, 0, 0, 5, [], kno),
  (43, .iconst 4, 1, 0, 0, 4, [], kno),
  (44, .invokevirtual 67, 3, 7, 4, 0, [], K_fl_launch),
  (47, .aload 4, 2, 0, 4, 0, [], kno),
  (49, .getfield 73, 3, 7, 1, 0, [], kgi 6 1),
  (52, .iload_n 1, 1, 0, 1, 0, [], kno),
  (53, .iload_n 2, 1, 0, 2, 0, [], kno),
  (54, .invokevirtual 76, 3, 7, 4, 0, [], K_pk_bear),
  (57, .iconst 1, 1, 0, 0, 1, [], kno),
  (58, .ireturn, 1, 5, 1, 0, [], kno),
  (59, .iinc 3 1, 3, 0, 3, 1, [], kno),
  (62, .goto (-60), 3, 1, 2, 0, [], kno),
  (65, .iconst 0, 1, 0, 0, 0, [], kno),
  (66, .ireturn, 1, 5, 1, 0, [], kno)]
def G_sv_speak (n : Nat) : rx_G := fun x ls st =>
  match ls, st with
  | [some (.ref r0), some (.int v1), some (.int v2), some (.int v3), o4], [] => (r0 = 66 ∧ up4 n v3, rw_i x.2 (sv_speak_2 n x.1 v1 v2 v3))
  | _, _ => (False, (x, none))
theorem GI_sv_speak {n : Nat} {x : mx} {ls : rx_L} {st : List Value} (h : (G_sv_speak n x ls st).1) : ∃ (r0 : Nat) (v1 : Int32) (v2 : Int32) (v3 : Int32) (o4 : Option Value), ls = [some (.ref r0), some (.int v1), some (.int v2), some (.int v3), o4] ∧ st = [] ∧ r0 = 66 ∧ up4 n v3 := by
  unfold G_sv_speak at h
  split at h
  · exact ⟨_, _, _, _, _, rfl, rfl, h⟩
  · exact False.elim h
theorem EH_sv_speak (n : Nat) (c : mx_C) (m : mx_M) (v1 : Int32) (v2 : Int32) (v3 : Int32) (o4 : Option Value) : rx_ev L_sv_speak [(2, G_sv_speak n)] 38 (L_sv_speak.drop 2) (c, m) [some (.ref 66), some (.int v1), some (.int v2), some (.int v3), o4] [] = rw_i m (sv_speak_2 (n + 1) c v1 v2 v3) :=
  rx_ite2 (f := rw_i m) (fun _ => rx_ite2 (f := rw_i m) (fun _ => rx_ite2 (f := rw_i m) (fun _ => rfl) (fun _ => rfl)) (fun _ => rfl)) (fun _ => rfl)
theorem SH_sv_speak (n : Nat) (c : mx_C) (m : mx_M) (v1 : Int32) (v2 : Int32) (v3 : Int32) (o4 : Option Value) (hP : up4 (n + 1) v3) : rx_sf L_sv_speak [(2, G_sv_speak n)] 38 (L_sv_speak.drop 2) (c, m) [some (.ref 66), some (.int v1), some (.int v2), some (.int v3), o4] [] :=
  And.intro rfl (And.intro (fun h0 => And.intro rfl (And.intro (up4_s h0 hP).1 (And.intro (mx_kl_ses _) (And.intro (fun h1 => And.intro (mx_kl_ses _) (And.intro (fun h2 => And.intro rfl (And.intro rfl (And.intro (mx_kl_ses _) (And.intro (fl_launch_pk _ _ _ _) (Or.inr rfl))))) (fun h2 => And.intro rfl (up4_s h0 hP).2))) (fun h1 => And.intro rfl (up4_s h0 hP).2))))) (fun h0 => Or.inl rfl))
theorem E_sv_speak (c : mx_C) (m : mx_M) (a1 : Int32) (a2 : Int32)  : rx_ev L_sv_speak [(2, G_sv_speak (5))] 38 L_sv_speak (c, m) [some (.ref 66), some (.int a1), some (.int a2), none, none] [] = rw_i m (sv_speak c a1 a2) :=
  rfl
theorem S_sv_speak (c : mx_C) (m : mx_M) (a1 : Int32) (a2 : Int32)  : rx_sf L_sv_speak [(2, G_sv_speak (5))] 38 L_sv_speak (c, m) [some (.ref 66), some (.int a1), some (.int a2), none, none] [] :=
  And.intro rfl (by decide)
theorem og_sv_61_g {p : Program} {l : Launch} {e : Env} {R : Room} {s : State} {m : MethodId} {args : Array Value} {below : List Frame} {meth : Method} {c : Code} {cc : ByteArray} {nL : Nat} {ad : Nat → Nat} {D : va_G} {g : Nat → ClassId} {B : Nat} (X : ox_C p s m args c cc nL "SubscriberLines$Server" D g ad B) : rx_OK p l e R s m args below meth c cc nL ad (mx_W D g ad B s.heap) mx_cs (.getfield 61) 3 1 (kgi 6 2) := ox_gi (T := T_6) X rfl (by decide) (by decide) in_6 rfl (al_at 272 (by decide +kernel) rfl)
theorem ok_sv_speak : rx_okF prog_8_method_4_code 5 (some .boolean) L_sv_speak 0 L_sv_speak = true := by decide +kernel
theorem O_sv_speak {l : Launch} {D : va_G} {g : Nat → ClassId} {ad : Nat → Nat} {B : Nat} (had : mx_A ad B) {p : Program} {e : Env} {s : State} {m : MethodId} {args : Array Value} {below : List Frame} {meth : Method} {c : Code} (X : ox_C p s m args c prog_8_method_4_code 5 "SubscriberLines$Server" D g ad B) : rx_ops p l e ({ frames := 1, cells := 0, slots := 0, locals := 24 } : Room) s m args below meth c prog_8_method_4_code 5 ad (mx_W D g ad B s.heap) mx_cs L_sv_speak :=
  And.intro (og_sv_58_g X) (And.intro (og_sv_13_g X) (And.intro (ox_as X) (And.intro (og_sv_61_g X) (And.intro (og_sv_64_g X) (And.intro (og_sv_37_g X) (And.intro (cv_fl_launch X (V_fl_launch had) (al_at 413 (by decide +kernel) rfl) ⟨by decide, by decide⟩) (And.intro (og_sv_73_g X) (And.intro (cv_pk_bear X (V_pk_bear had) (al_at 414 (by decide +kernel) rfl) ⟨by decide, by decide⟩) (trivial)))))))))
theorem V_sv_speak {l : Launch} {D : va_G} {g : Nat → ClassId} {ad : Nat → Nat} {B : Nat} (had : mx_A ad B) : rx_V l D g ad B ⟨"SubscriberLines$Server", "speak", "(II)Z"⟩ prog_8_method_4_code 5 (some .boolean) 1 24 K_sv_speak := by
  intro av x hp
  obtain ⟨a0, a1, a2, rfl⟩ := k_RII_inv hp
  have hp : a0 = 66 := hp
  have h0 : a0 = 66 := hp
  subst h0
  refine rx_metX (k := 2) had (by decide) (Nat.le_of_ble_eq_true rfl) fun p e s m args below meth c X hr hlk => ?_
  refine rx_walk X hr hlk ok_sv_speak (O_sv_speak had X) (cut := [(2, G_sv_speak (5))]) (rx_cc ?_ rx_c0) 38 0 rfl (S_sv_speak x.1 x.2 a1 a2 ) (E_sv_speak x.1 x.2 a1 a2 )
  refine rx_loop (G := G_sv_speak) X hr hlk ok_sv_speak (O_sv_speak had X) rx_c0 38 2 rfl (fun x ls st h => ?_) (fun n x ls st h => ?_) _
  · obtain ⟨r0, v1, v2, v3, o4, -, -, h3⟩ := GI_sv_speak h
    have h4 := h3.2
    omega
  · obtain ⟨r0, v1, v2, v3, o4, rfl, rfl, h3⟩ := GI_sv_speak h
    obtain ⟨rfl, hP⟩ := h3
    exact ⟨SH_sv_speak n x.1 x.2 v1 v2 v3 o4 hP, EH_sv_speak n x.1 x.2 v1 v2 v3 o4⟩
theorem sv_idxL (c : mx_C) (a : Int32) : ∀ (n : Nat) (v : Int32), up4 n v → ¬ sv_indexOf_2 n c a v < 0 → sv_at c (sv_indexOf_2 n c a v) := by
  intro n
  induction n with
  | zero => intro v hP; omega
  | succ n ih =>
    intro v hP
    unfold sv_indexOf_2
    split
    · rename_i h
      split
      · intro _
        rw [i_lt, i_of _ (by omega)] at h
        exact ⟨hP.1, h⟩
      · exact ih _ (up4_s h hP).2
    · intro h; exact absurd (by decide) h
theorem sv_idx_in {c : mx_C} {a : Int32} (h : ¬ sv_indexOf c a < 0) : sv_at c (sv_indexOf c a) := sv_idxL c a 5 0 (by decide) h
abbrev sv_pool (c : mx_C) : Prop := (c.1 66 3).toInt ≤ 4
abbrev up5 (n : Nat) (v : Int32) : Prop := 1 ≤ v.toInt ∧ v.toInt ≤ 5 ∧ 5 < (n : Int) + v.toInt
theorem up5_1 {n : Nat} {v q : Int32} (hq : q.toInt ≤ 4) (h : ¬ q < v) (hP : up5 (n + 1) v) : up5 n (v + 1) := by
  rw [i_lt] at h
  obtain ⟨p1, p2, p3⟩ := hP
  have e : (v + 1).toInt = v.toInt + 1 := i_add (show _ ≤ v.toInt + 1 by omega) (show v.toInt + 1 < _ by omega)
  unfold up5
  rw [e]
  omega
def sv_lowestFreeAddress_2 : Nat → mx_C → Int32 → Int32
  | 0, c, _ => 0
  | n + 1, c, v1 =>
    if (c.1 66 3) < v1 then
      0
    else
      if (sv_isFree c v1) = 0 then
        sv_lowestFreeAddress_2 n c (v1 + 1)
      else
        v1
def sv_lowestFreeAddress (c : mx_C)  : Int32 :=
  sv_lowestFreeAddress_2 (5) c 1
def K_sv_lowestFreeAddress : rx_K mx := k_R (fun a0 c m => (a0 = 66 ∧ sv_pool c, (c, m), some (.int (sv_lowestFreeAddress c))))
def L_sv_lowestFreeAddress : List (rx_E mx) := [
  (0, .iconst 1, 1, 0, 0, 1, [], kno),
  (1, .istore_n 1, 1, 0, 1, 0, [], kno),
  (2, .iload_n 1, 1, 0, 1, 0, [], kno),
  (3, .aload_n 0, 1, 0, 0, 0, [], kno),
  (4, .getfield 41, 3, 7, 1, 0, [], kgi 7 3),
  (7, .if_icmp .gt 19, 3, 2, 14, 0, [], kno),
  (10, .aload_n 0, 1, 0, 0, 0, [], kno),
  (11, .iload_n 1, 1, 0, 1, 0, [], kno),
  (12, .invokevirtual 167, 3, 7, 2, 0, [], K_sv_isFree),
  (15, .ifCond .eq 5, 3, 2, 12, 0, [], kno),
  (18, .iload_n 1, 1, 0, 1, 0, [], kno),
  (19, .ireturn, 1, 5, 0, 0, [], kno),
  (20, .iinc 1 1, 3, 0, 1, 1, [], kno),
  (23, .goto (-21), 3, 1, 2, 0, [], kno),
  (26, .iconst 0, 1, 0, 0, 0, [], kno),
  (27, .ireturn, 1, 5, 0, 0, [], kno)]
def G_sv_lowestFreeAddress (n : Nat) : rx_G := fun x ls st =>
  match ls, st with
  | [some (.ref r0), some (.int v1)], [] => (r0 = 66 ∧ (up5 n v1 ∧ sv_pool x.1), rw_p x.1 x.2 (sv_lowestFreeAddress_2 n x.1 v1))
  | _, _ => (False, (x, none))
theorem GI_sv_lowestFreeAddress {n : Nat} {x : mx} {ls : rx_L} {st : List Value} (h : (G_sv_lowestFreeAddress n x ls st).1) : ∃ (r0 : Nat) (v1 : Int32), ls = [some (.ref r0), some (.int v1)] ∧ st = [] ∧ r0 = 66 ∧ (up5 n v1 ∧ sv_pool x.1) := by
  unfold G_sv_lowestFreeAddress at h
  split at h
  · exact ⟨_, _, rfl, rfl, h⟩
  · exact False.elim h
theorem EH_sv_lowestFreeAddress (n : Nat) (c : mx_C) (m : mx_M) (v1 : Int32) : rx_ev L_sv_lowestFreeAddress [(2, G_sv_lowestFreeAddress n)] 18 (L_sv_lowestFreeAddress.drop 2) (c, m) [some (.ref 66), some (.int v1)] [] = rw_p c m (sv_lowestFreeAddress_2 (n + 1) c v1) :=
  rx_ite2 (f := rw_p c m) (fun _ => rfl) (fun _ => rx_ite2 (f := rw_p c m) (fun _ => rfl) (fun _ => rfl))
theorem SH_sv_lowestFreeAddress (n : Nat) (c : mx_C) (m : mx_M) (v1 : Int32) (hP : (up5 (n + 1) v1 ∧ sv_pool c)) : rx_sf L_sv_lowestFreeAddress [(2, G_sv_lowestFreeAddress n)] 18 (L_sv_lowestFreeAddress.drop 2) (c, m) [some (.ref 66), some (.int v1)] [] :=
  And.intro rfl (And.intro (fun h0 => trivial) (fun h0 => And.intro rfl (And.intro (fun h1 => And.intro rfl (And.intro (up5_1 hP.2 h0 hP.1) hP.2)) (fun h1 => trivial))))
theorem E_sv_lowestFreeAddress (c : mx_C) (m : mx_M)   : rx_ev L_sv_lowestFreeAddress [(2, G_sv_lowestFreeAddress (5))] 18 L_sv_lowestFreeAddress (c, m) [some (.ref 66), none] [] = rw_p c m (sv_lowestFreeAddress c) :=
  rfl
theorem S_sv_lowestFreeAddress (c : mx_C) (m : mx_M)  (hq : sv_pool c) : rx_sf L_sv_lowestFreeAddress [(2, G_sv_lowestFreeAddress (5))] 18 L_sv_lowestFreeAddress (c, m) [some (.ref 66), none] [] :=
  And.intro rfl (And.intro (by decide) hq)
theorem og_sv_41_g {p : Program} {l : Launch} {e : Env} {R : Room} {s : State} {m : MethodId} {args : Array Value} {below : List Frame} {meth : Method} {c : Code} {cc : ByteArray} {nL : Nat} {ad : Nat → Nat} {D : va_G} {g : Nat → ClassId} {B : Nat} (X : ox_C p s m args c cc nL "SubscriberLines$Server" D g ad B) : rx_OK p l e R s m args below meth c cc nL ad (mx_W D g ad B s.heap) mx_cs (.getfield 41) 3 1 (kgi 7 3) := ox_gi (T := T_7) X rfl (by decide) (by decide) in_7 rfl (al_at 292 (by decide +kernel) rfl)
theorem cv_sv_isFree {p : Program} {l : Launch} {e : Env} {R : Room} {s : State} {m : MethodId} {args : Array Value} {below : List Frame} {meth : Method} {c : Code} {cc : ByteArray} {nL : Nat} {ad : Nat → Nat} {D : va_G} {g : Nat → ClassId} {B : Nat} {own : String} {idx : Nat} (X : ox_C p s m args c cc nL own D g ad B) (hV : rx_V l D g ad B ⟨"SubscriberLines$Server", "isFree", "(I)Z"⟩ prog_8_method_13_code 3 (some .boolean) 0 0 K_sv_isFree) (hl : Cond.methodLink own idx ⟨"SubscriberLines$Server", "isFree", "(I)Z"⟩ ∈ al) (hR : 0 + 1 ≤ R.frames ∧ 8 + (3 + 11) + 0 ≤ R.locals) : rx_OK p l e R s m args below meth c cc nL ad (mx_W D g ad B s.heap) mx_cs (.invokevirtual idx) 3 2 (K_sv_isFree) :=
  ox_callV (q := 7) (T := T_7) X hV (fun av x h => by obtain ⟨a0, a1, rfl⟩ := k_RI_inv h; exact ⟨a0, _, rfl, by have h2 : a0 = 66 := h; rw [h2]; rfl⟩) (by decide) rfl hl (al_at 545 (by decide +kernel) rfl) (al_pr (y := (⟨"SubscriberLines$Server", "isFree", "(I)Z"⟩, _)) 19 rfl) (al_at 9 (by decide +kernel) rfl) (al_at 546 (by decide +kernel) rfl) ⟨by decide, by decide, by decide +kernel⟩ hR
theorem ok_sv_lowestFreeAddress : rx_okF prog_8_method_12_code 2 (some .int) L_sv_lowestFreeAddress 0 L_sv_lowestFreeAddress = true := by decide +kernel
theorem O_sv_lowestFreeAddress {l : Launch} {D : va_G} {g : Nat → ClassId} {ad : Nat → Nat} {B : Nat} (had : mx_A ad B) {p : Program} {e : Env} {s : State} {m : MethodId} {args : Array Value} {below : List Frame} {meth : Method} {c : Code} (X : ox_C p s m args c prog_8_method_12_code 2 "SubscriberLines$Server" D g ad B) : rx_ops p l e ({ frames := 1, cells := 0, slots := 0, locals := 22 } : Room) s m args below meth c prog_8_method_12_code 2 ad (mx_W D g ad B s.heap) mx_cs L_sv_lowestFreeAddress :=
  And.intro (og_sv_41_g X) (And.intro (cv_sv_isFree X (V_sv_isFree had) (al_at 543 (by decide +kernel) rfl) ⟨by decide, by decide⟩) (trivial))
theorem V_sv_lowestFreeAddress {l : Launch} {D : va_G} {g : Nat → ClassId} {ad : Nat → Nat} {B : Nat} (had : mx_A ad B) : rx_V l D g ad B ⟨"SubscriberLines$Server", "lowestFreeAddress", "()I"⟩ prog_8_method_12_code 2 (some .int) 1 22 K_sv_lowestFreeAddress := by
  intro av x hp
  obtain ⟨a0, rfl⟩ := k_R_inv hp
  have hp : a0 = 66 ∧ sv_pool x.1 := hp
  have h0 : a0 = 66 := hp.1
  subst h0
  refine rx_metX (k := 1) had (by decide) (Nat.le_of_ble_eq_true rfl) fun p e s m args below meth c X hr hlk => ?_
  refine rx_walk X hr hlk ok_sv_lowestFreeAddress (O_sv_lowestFreeAddress had X) (cut := [(2, G_sv_lowestFreeAddress (5))]) (rx_cc ?_ rx_c0) 18 0 rfl (S_sv_lowestFreeAddress x.1 x.2  hp.2) (E_sv_lowestFreeAddress x.1 x.2  )
  refine rx_loop (G := G_sv_lowestFreeAddress) X hr hlk ok_sv_lowestFreeAddress (O_sv_lowestFreeAddress had X) rx_c0 18 2 rfl (fun x ls st h => ?_) (fun n x ls st h => ?_) _
  · obtain ⟨r0, v1, -, -, h3⟩ := GI_sv_lowestFreeAddress h
    have h4 := h3.2
    omega
  · obtain ⟨r0, v1, rfl, rfl, h3⟩ := GI_sv_lowestFreeAddress h
    obtain ⟨rfl, hP⟩ := h3
    exact ⟨SH_sv_lowestFreeAddress n x.1 x.2 v1 hP, EH_sv_lowestFreeAddress n x.1 x.2 v1⟩
def sv_remove_9 : Nat → mx_C → Int32 → Nat → Int32 → mx_C
  | 0, c, _, _, _ => c
  | n + 1, c, v1, r2, v3 =>
    if v3 < ((Int32.ofNat c.2.2.2.2.val) - 1) then
      let c1 := mx_ps c (Int32.toNatClampNeg v3) (Fin.ofNat 4 ((78 + (c.2.2.1 (Int32.toNatClampNeg (v3 + 1))).val) - 78))
      sv_remove_9 n c1 v1 r2 (v3 + 1)
    else
      let c2 := mx_pc c ((Int32.ofNat c.2.2.2.2.val) - 1)
      let c3 := mx_ps c2 (Int32.toNatClampNeg (Int32.ofNat c2.2.2.2.2.val)) (Fin.ofNat 4 (r2 - 78))
      c3
def sv_remove (c : mx_C) (a1 : Int32) : mx_C :=
  sv_remove_9 (6) c a1 (78 + (c.2.2.1 (Int32.toNatClampNeg a1)).val) a1
def K_sv_remove : rx_K mx := k_RI (fun a0 a1 c m => (a0 = 66 ∧ sv_at c a1, (sv_remove c a1, m), none))
def L_sv_remove : List (rx_E mx) := [
  (0, .aload_n 0, 1, 0, 0, 0, [], kno),
  (1, .getfield 13, 3, 7, 1, 0, [], kgr0 7 4 67),
  (4, .iload_n 1, 1, 0, 1, 0, [], kno),
  (5, .aaload, 1, 7, 2, 0, [], kas),
  (6, .astore_n 2, 1, 0, 2, 0, [], kno),
  (7, .iload_n 1, 1, 0, 1, 0, [], kno),
  (8, .istore_n 3, 1, 0, 3, 0, [], kno),
  (9, .iload_n 3, 1, 0, 3, 0, [], kno),
  (10, .aload_n 0, 1, 0, 0, 0, [], kno),
  (11, .getfield 58, 3, 7, 1, 0, [], kgs),
  (14, .iconst 1, 1, 0, 0, 1, [], kno),
  (15, .isub, 1, 0, 0, 0, [], kno),
  (16, .if_icmp .ge 23, 3, 2, 25, 0, [], kno),
  (19, .aload_n 0, 1, 0, 0, 0, [], kno),
  (20, .getfield 13, 3, 7, 1, 0, [], kgr0 7 4 67),
  (23, .iload_n 3, 1, 0, 3, 0, [], kno),
  (24, .aload_n 0, 1, 0, 0, 0, [], kno),
  (25, .getfield 13, 3, 7, 1, 0, [], kgr0 7 4 67),
  (28, .iload_n 3, 1, 0, 3, 0, [], kno),
  (29, .iconst 1, 1, 0, 0, 1, [], kno),
  (30, .iadd, 1, 0, 0, 0, [], kno),
  (31, .aaload, 1, 7, 2, 0, [], kas),
  (32, .aastore, 1, 7, 3, 0, [], kpq),
  (33, .iinc 3 1, 3, 0, 3, 1, [], kno),
  (36, .goto (-27), 3, 1, 7, 0, [], kno),
  (39, .aload_n 0, 1, 0, 0, 0, [], kno),
  (40, .dup, 1, 0, 0, 0, [], kno),
  (41, .getfield 58, 3, 7, 1, 0, [], kgs),
  (44, .iconst 1, 1, 0, 0, 1, [], kno),
  (45, .isub, 1, 0, 0, 0, [], kno),
  (46, .putfield 58, 3, 7, 2, 0, [], kps),
  (49, .aload_n 0, 1, 0, 0, 0, [], kno),
  (50, .getfield 13, 3, 7, 1, 0, [], kgr0 7 4 67),
  (53, .aload_n 0, 1, 0, 0, 0, [], kno),
  (54, .getfield 58, 3, 7, 1, 0, [], kgs),
  (57, .aload_n 2, 1, 0, 2, 0, [], kno),
  (58, .aastore, 1, 7, 3, 0, [], kpq),
  (59, .return_, 1, 6, 0, 0, [], kno)]
def G_sv_remove (n : Nat) : rx_G := fun x ls st =>
  match ls, st with
  | [some (.ref r0), some (.int v1), some (.ref r2), some (.int v3)], [] => (r0 = 66 ∧ sv_rP n v3 r2 x.1.2.2.2.2, rw_v x.2 (sv_remove_9 n x.1 v1 r2 v3))
  | _, _ => (False, (x, none))
theorem GI_sv_remove {n : Nat} {x : mx} {ls : rx_L} {st : List Value} (h : (G_sv_remove n x ls st).1) : ∃ (r0 : Nat) (v1 : Int32) (r2 : Nat) (v3 : Int32), ls = [some (.ref r0), some (.int v1), some (.ref r2), some (.int v3)] ∧ st = [] ∧ r0 = 66 ∧ sv_rP n v3 r2 x.1.2.2.2.2 := by
  unfold G_sv_remove at h
  split at h
  · exact ⟨_, _, _, _, rfl, rfl, h⟩
  · exact False.elim h
theorem EH_sv_remove (n : Nat) (c : mx_C) (m : mx_M) (v1 : Int32) (r2 : Nat) (v3 : Int32) : rx_ev L_sv_remove [(9, G_sv_remove n)] 40 (L_sv_remove.drop 7) (c, m) [some (.ref 66), some (.int v1), some (.ref r2), some (.int v3)] [] = rw_v m (sv_remove_9 (n + 1) c v1 r2 v3) :=
  rx_ite2 (f := rw_v m) (fun _ => rfl) (fun _ => rfl)
theorem SH_sv_remove (n : Nat) (c : mx_C) (m : mx_M) (v1 : Int32) (r2 : Nat) (v3 : Int32) (hP : sv_rP (n + 1) v3 r2 c.2.2.2.2) : rx_sf L_sv_remove [(9, G_sv_remove n)] 40 (L_sv_remove.drop 7) (c, m) [some (.ref 66), some (.int v1), some (.ref r2), some (.int v3)] [] :=
  And.intro rfl (And.intro (fun h0 => And.intro rfl (And.intro rfl (And.intro (sv_rP1 h0 hP).1.2 (And.intro (And.intro (sv_rP1 h0 hP).1.1 (sv_ses_in _)) (And.intro rfl (sv_rP1 h0 hP).2))))) (fun h0 => And.intro rfl (And.intro (And.intro rfl (sc_dec hP.2.2.2.2)) (And.intro rfl (And.intro rfl (And.intro (And.intro (sc_ix hP.2.2.2.2) hP.2.2.2.1) (trivial)))))))
theorem E_sv_remove (c : mx_C) (m : mx_M) (a1 : Int32)  : rx_ev L_sv_remove [(9, G_sv_remove (6))] 40 L_sv_remove (c, m) [some (.ref 66), some (.int a1), none, none] [] = rw_v m (sv_remove c a1) :=
  rfl
theorem S_sv_remove (c : mx_C) (m : mx_M) (a1 : Int32) (ha : sv_at c a1) : rx_sf L_sv_remove [(9, G_sv_remove (6))] 40 L_sv_remove (c, m) [some (.ref 66), some (.int a1), none, none] [] :=
  And.intro rfl (And.intro (sv_at_in ha) (And.intro rfl (sv_rP0 ha)))
theorem ok_sv_remove : rx_okF prog_8_method_19_code 4 none L_sv_remove 0 L_sv_remove = true := by decide +kernel
theorem O_sv_remove {l : Launch} {D : va_G} {g : Nat → ClassId} {ad : Nat → Nat} {B : Nat} (had : mx_A ad B) {p : Program} {e : Env} {s : State} {m : MethodId} {args : Array Value} {below : List Frame} {meth : Method} {c : Code} (X : ox_C p s m args c prog_8_method_19_code 4 "SubscriberLines$Server" D g ad B) : rx_ops p l e ({ frames := 0, cells := 0, slots := 0, locals := 0 } : Room) s m args below meth c prog_8_method_19_code 4 ad (mx_W D g ad B s.heap) mx_cs L_sv_remove :=
  And.intro (og_sv_13_g X) (And.intro (ox_as X) (And.intro (og_sv_58_g X) (And.intro (og_sv_13_g X) (And.intro (og_sv_13_g X) (And.intro (ox_as X) (And.intro (ox_pq X) (And.intro (og_sv_58_g X) (And.intro (og_sv_58_p X) (And.intro (og_sv_13_g X) (And.intro (og_sv_58_g X) (And.intro (ox_pq X) (trivial))))))))))))
theorem V_sv_remove {l : Launch} {D : va_G} {g : Nat → ClassId} {ad : Nat → Nat} {B : Nat} (had : mx_A ad B) : rx_V l D g ad B ⟨"SubscriberLines$Server", "remove", "(I)V"⟩ prog_8_method_19_code 4 none 0 0 K_sv_remove := by
  intro av x hp
  obtain ⟨a0, a1, rfl⟩ := k_RI_inv hp
  have hp : a0 = 66 ∧ sv_at x.1 a1 := hp
  have h0 : a0 = 66 := hp.1
  subst h0
  refine rx_metX (k := 2) had (by decide) (Nat.le_of_ble_eq_true rfl) fun p e s m args below meth c X hr hlk => ?_
  refine rx_walk X hr hlk ok_sv_remove (O_sv_remove had X) (cut := [(9, G_sv_remove (6))]) (rx_cc ?_ rx_c0) 40 0 rfl (S_sv_remove x.1 x.2 a1 hp.2) (E_sv_remove x.1 x.2 a1 )
  refine rx_loop (G := G_sv_remove) X hr hlk ok_sv_remove (O_sv_remove had X) rx_c0 40 7 rfl (fun x ls st h => ?_) (fun n x ls st h => ?_) _
  · obtain ⟨r0, v1, r2, v3, -, -, h3⟩ := GI_sv_remove h
    have h4 := h3.2
    omega
  · obtain ⟨r0, v1, r2, v3, rfl, rfl, h3⟩ := GI_sv_remove h
    obtain ⟨rfl, hP⟩ := h3
    exact ⟨SH_sv_remove n x.1 x.2 v1 r2 v3 hP, EH_sv_remove n x.1 x.2 v1 r2 v3⟩
def sv_endSession (c : mx_C) (a1 : Int32) : mx_C :=
  let c1 := sv_remove c a1
  let c2 := en_put c1 74 15 (c.1 (78 + (c.2.2.1 (Int32.toNatClampNeg a1)).val) 1) 0
  c2
def K_sv_endSession : rx_K mx := k_RI (fun a0 a1 c m => (a0 = 66 ∧ sv_at c a1, (sv_endSession c a1, m), none))
def L_sv_endSession : List (rx_E mx) := [
  (0, .aload_n 0, 1, 0, 0, 0, [], kno),
  (1, .getfield 13, 3, 7, 1, 0, [], kgr0 7 4 67),
  (4, .iload_n 1, 1, 0, 1, 0, [], kno),
  (5, .aaload, 1, 7, 2, 0, [], kas),
  (6, .getfield 73, 3, 7, 1, 0, [], kgi 6 1),
  (9, .istore_n 2, 1, 0, 2, 0, [], kno),
  (10, .aload_n 0, 1, 0, 0, 0, [], kno),
  (11, .iload_n 1, 1, 0, 1, 0, [], kno),
  (12, .invokevirtual 123, 3, 7, 2, 0, [], K_sv_remove),
  (15, .aload_n 0, 1, 0, 0, 0, [], kno),
  (16, .getfield 50, 3, 7, 1, 0, [], kgr0 7 2 74),
  (19, .bipush 15, 2, 0, 0, 15, [], kno),
  (21, .iload_n 2, 1, 0, 2, 0, [], kno),
  (22, .iconst 0, 1, 0, 0, 0, [], kno),
  (23, .invokevirtual 126, 3, 7, 4, 0, [], K_en_put),
  (26, .return_, 1, 6, 0, 0, [], kno)]
theorem E_sv_endSession (c : mx_C) (m : mx_M) (a1 : Int32)  : rx_ev L_sv_endSession [] 18 L_sv_endSession (c, m) [some (.ref 66), some (.int a1), none] [] = rw_v m (sv_endSession c a1) :=
  rfl
theorem S_sv_endSession (c : mx_C) (m : mx_M) (a1 : Int32) (ha : sv_at c a1) : rx_sf L_sv_endSession [] 18 L_sv_endSession (c, m) [some (.ref 66), some (.int a1), none] [] :=
  And.intro rfl (And.intro (sv_at_in ha) (And.intro (mx_kl_ses _) (And.intro (And.intro rfl ha) (And.intro rfl (And.intro rfl (trivial))))))

theorem cv_sv_remove {p : Program} {l : Launch} {e : Env} {R : Room} {s : State} {m : MethodId} {args : Array Value} {below : List Frame} {meth : Method} {c : Code} {cc : ByteArray} {nL : Nat} {ad : Nat → Nat} {D : va_G} {g : Nat → ClassId} {B : Nat} {own : String} {idx : Nat} (X : ox_C p s m args c cc nL own D g ad B) (hV : rx_V l D g ad B ⟨"SubscriberLines$Server", "remove", "(I)V"⟩ prog_8_method_19_code 4 none 0 0 K_sv_remove) (hl : Cond.methodLink own idx ⟨"SubscriberLines$Server", "remove", "(I)V"⟩ ∈ al) (hR : 0 + 1 ≤ R.frames ∧ 8 + (4 + 11) + 0 ≤ R.locals) : rx_OK p l e R s m args below meth c cc nL ad (mx_W D g ad B s.heap) mx_cs (.invokevirtual idx) 3 2 (K_sv_remove) :=
  ox_callV (q := 7) (T := T_7) X hV (fun av x h => by obtain ⟨a0, a1, rfl⟩ := k_RI_inv h; exact ⟨a0, _, rfl, by have h2 : a0 = 66 := h.1; rw [h2]; rfl⟩) (by decide) rfl hl (al_at 561 (by decide +kernel) rfl) (al_pr (y := (⟨"SubscriberLines$Server", "remove", "(I)V"⟩, _)) 23 rfl) (al_at 9 (by decide +kernel) rfl) (al_at 562 (by decide +kernel) rfl) ⟨by decide, by decide, by decide +kernel⟩ hR
theorem ok_sv_endSession : rx_okF prog_8_method_18_code 3 none L_sv_endSession 0 L_sv_endSession = true := by decide +kernel
theorem V_sv_endSession {l : Launch} {D : va_G} {g : Nat → ClassId} {ad : Nat → Nat} {B : Nat} (had : mx_A ad B) : rx_V l D g ad B ⟨"SubscriberLines$Server", "endSession", "(I)V"⟩ prog_8_method_18_code 3 none 3 71 K_sv_endSession := by
  intro av x hp
  obtain ⟨a0, a1, rfl⟩ := k_RI_inv hp
  have hp : a0 = 66 ∧ sv_at x.1 a1 := hp
  have h0 : a0 = 66 := hp.1
  subst h0
  exact rx_met (k := 1) had (by decide) (Nat.le_of_ble_eq_true rfl) ok_sv_endSession rfl rfl 18 (fun p e s m args below meth c X => And.intro (og_sv_13_g X) (And.intro (ox_as X) (And.intro (og_sv_73_g X) (And.intro (cv_sv_remove X (V_sv_remove had) (al_at 559 (by decide +kernel) rfl) ⟨by decide, by decide⟩) (And.intro (og_sv_50_g X) (And.intro (cv_en_put X (V_en_put had) (al_at 563 (by decide +kernel) rfl) ⟨by decide, by decide⟩) (trivial))))))) (S_sv_endSession x.1 x.2 a1 hp.2) (E_sv_endSession x.1 x.2 a1)
def sv_passToCore (c : mx_C) (a1 : Nat) (a2 : Nat) : mx_C :=
  if (c.1 a1 2) = 3 then
    if (c.1 a2 4) = (c.1 a1 3) then
      let c1 := hi_add c 70 (c.1 a2 5)
      let c2 := hi_add c1 72 (c1.1 a2 4)
      c2
    else
      let c3 := mx_pi c 66 10 ((c.1 66 10) + 1)
      c3
  else
    let c4 := mx_pi c 66 10 ((c.1 66 10) + 1)
    c4
def K_sv_passToCore : rx_K mx := k_RRR (fun a0 a1 a2 c m => (a0 = 66 ∧ mx_kl a1 = 6 ∧ mx_kl a2 = 2, (sv_passToCore c a1 a2, m), none))
def L_sv_passToCore : List (rx_E mx) := [
  (0, .aload_n 1, 1, 0, 1, 0, [], kno),
  (1, .getfield 61, 3, 7, 1, 0, [], kgi 6 2),
  (4, .iconst 3, 1, 0, 0, 3, [], kno),
  (5, .if_icmp .ne 39, 3, 2, 20, 0, [], kno),
  (8, .aload_n 2, 1, 0, 2, 0, [], kno),
  (9, .getfield 157, 3, 7, 1, 0, [], kgi 2 4),
  (12, .aload_n 1, 1, 0, 1, 0, [], kno),
  (13, .getfield 64, 3, 7, 1, 0, [], kgi 6 3),
  (16, .if_icmp .ne 28, 3, 2, 20, 0, [], kno),
  (19, .aload_n 0, 1, 0, 0, 0, [], kno),
  (20, .getfield 30, 3, 7, 1, 0, [], kgr0 7 8 70),
  (23, .aload_n 2, 1, 0, 2, 0, [], kno),
  (24, .getfield 160, 3, 7, 1, 0, [], kgi 2 5),
  (27, .invokevirtual 170, 3, 7, 2, 0, [], K_hi_add),
  (30, .aload_n 0, 1, 0, 0, 0, [], kno),
  (31, .getfield 34, 3, 7, 1, 0, [], kgr0 7 9 72),
  (34, .aload_n 2, 1, 0, 2, 0, [], kno),
  (35, .getfield 157, 3, 7, 1, 0, [], kgi 2 4),
  (38, .invokevirtual 170, 3, 7, 2, 0, [], K_hi_add),
  (41, .goto 13, 3, 1, 26, 0, [], kno),
  (44, .aload_n 0, 1, 0, 0, 0, [], kno),
  (45, .dup, 1, 0, 0, 0, [], kno),
  (46, .getfield 173, 3, 7, 1, 0, [], kgi 7 10),
  (49, .iconst 1, 1, 0, 0, 1, [], kno),
  (50, .iadd, 1, 0, 0, 0, [], kno),
  (51, .putfield 173, 3, 7, 2, 0, [], kpi 7 10),
  (54, .return_, 1, 6, 0, 0, [], kno)]
theorem E_sv_passToCore (c : mx_C) (m : mx_M) (a1 : Nat) (a2 : Nat)  : rx_ev L_sv_passToCore [] 29 L_sv_passToCore (c, m) [some (.ref 66), some (.ref a1), some (.ref a2)] [] = rw_v m (sv_passToCore c a1 a2) :=
  rx_ite2 (f := rw_v m) (fun _ => rx_ite2 (f := rw_v m) (fun _ => rfl) (fun _ => rfl)) (fun _ => rfl)
theorem S_sv_passToCore (c : mx_C) (m : mx_M) (a1 : Nat) (a2 : Nat) (ha1 : mx_kl a1 = 6) (ha2 : mx_kl a2 = 2) : rx_sf L_sv_passToCore [] 29 L_sv_passToCore (c, m) [some (.ref 66), some (.ref a1), some (.ref a2)] [] :=
  And.intro ha1 (And.intro (fun h0 => And.intro ha2 (And.intro ha1 (And.intro (fun h1 => And.intro rfl (And.intro ha2 (And.intro rfl (And.intro rfl (And.intro ha2 (And.intro rfl (trivial))))))) (fun h1 => And.intro rfl (And.intro rfl (trivial)))))) (fun h0 => And.intro rfl (And.intro rfl (trivial))))

theorem og_sv_157_g {p : Program} {l : Launch} {e : Env} {R : Room} {s : State} {m : MethodId} {args : Array Value} {below : List Frame} {meth : Method} {c : Code} {cc : ByteArray} {nL : Nat} {ad : Nat → Nat} {D : va_G} {g : Nat → ClassId} {B : Nat} (X : ox_C p s m args c cc nL "SubscriberLines$Server" D g ad B) : rx_OK p l e R s m args below meth c cc nL ad (mx_W D g ad B s.heap) mx_cs (.getfield 157) 3 1 (kgi 2 4) := ox_gi (T := T_2) X rfl (by decide) (by decide) in_2 rfl (al_at 55 (by decide +kernel) rfl)
theorem og_sv_30_g {p : Program} {l : Launch} {e : Env} {R : Room} {s : State} {m : MethodId} {args : Array Value} {below : List Frame} {meth : Method} {c : Code} {cc : ByteArray} {nL : Nat} {ad : Nat → Nat} {D : va_G} {g : Nat → ClassId} {B : Nat} (X : ox_C p s m args c cc nL "SubscriberLines$Server" D g ad B) : rx_OK p l e R s m args below meth c cc nL ad (mx_W D g ad B s.heap) mx_cs (.getfield 30) 3 1 (kgr0 7 8 70) := ox_gr0 (T := T_7) X rfl (by decide) (by decide) in_7 rfl (al_at 299 (by decide +kernel) rfl)
theorem og_sv_160_g {p : Program} {l : Launch} {e : Env} {R : Room} {s : State} {m : MethodId} {args : Array Value} {below : List Frame} {meth : Method} {c : Code} {cc : ByteArray} {nL : Nat} {ad : Nat → Nat} {D : va_G} {g : Nat → ClassId} {B : Nat} (X : ox_C p s m args c cc nL "SubscriberLines$Server" D g ad B) : rx_OK p l e R s m args below meth c cc nL ad (mx_W D g ad B s.heap) mx_cs (.getfield 160) 3 1 (kgi 2 5) := ox_gi (T := T_2) X rfl (by decide) (by decide) in_2 rfl (al_at 60 (by decide +kernel) rfl)
theorem og_sv_34_g {p : Program} {l : Launch} {e : Env} {R : Room} {s : State} {m : MethodId} {args : Array Value} {below : List Frame} {meth : Method} {c : Code} {cc : ByteArray} {nL : Nat} {ad : Nat → Nat} {D : va_G} {g : Nat → ClassId} {B : Nat} (X : ox_C p s m args c cc nL "SubscriberLines$Server" D g ad B) : rx_OK p l e R s m args below meth c cc nL ad (mx_W D g ad B s.heap) mx_cs (.getfield 34) 3 1 (kgr0 7 9 72) := ox_gr0 (T := T_7) X rfl (by decide) (by decide) in_7 rfl (al_at 301 (by decide +kernel) rfl)
theorem og_sv_173_g {p : Program} {l : Launch} {e : Env} {R : Room} {s : State} {m : MethodId} {args : Array Value} {below : List Frame} {meth : Method} {c : Code} {cc : ByteArray} {nL : Nat} {ad : Nat → Nat} {D : va_G} {g : Nat → ClassId} {B : Nat} (X : ox_C p s m args c cc nL "SubscriberLines$Server" D g ad B) : rx_OK p l e R s m args below meth c cc nL ad (mx_W D g ad B s.heap) mx_cs (.getfield 173) 3 1 (kgi 7 10) := ox_gi (T := T_7) X rfl (by decide) (by decide) in_7 rfl (al_at 303 (by decide +kernel) rfl)
theorem og_sv_173_p {p : Program} {l : Launch} {e : Env} {R : Room} {s : State} {m : MethodId} {args : Array Value} {below : List Frame} {meth : Method} {c : Code} {cc : ByteArray} {nL : Nat} {ad : Nat → Nat} {D : va_G} {g : Nat → ClassId} {B : Nat} (X : ox_C p s m args c cc nL "SubscriberLines$Server" D g ad B) : rx_OK p l e R s m args below meth c cc nL ad (mx_W D g ad B s.heap) mx_cs (.putfield 173) 3 2 (kpi 7 10) := ox_pi (T := T_7) X rfl (by decide) (by decide) in_7 rfl ty_7 ty_7_ok nm_7 rfl rfl rfl (al_at 303 (by decide +kernel) rfl)
theorem ok_sv_passToCore : rx_okF prog_8_method_14_code 3 none L_sv_passToCore 0 L_sv_passToCore = true := by decide +kernel
theorem V_sv_passToCore {l : Launch} {D : va_G} {g : Nat → ClassId} {ad : Nat → Nat} {B : Nat} (had : mx_A ad B) : rx_V l D g ad B ⟨"SubscriberLines$Server", "passToCore", "(LSubscriberLines$Session;LSubscriberLines$Packet;)V"⟩ prog_8_method_14_code 3 none 1 22 K_sv_passToCore := by
  intro av x hp
  obtain ⟨a0, a1, a2, rfl⟩ := k_RRR_inv hp
  have hp : a0 = 66 ∧ mx_kl a1 = 6 ∧ mx_kl a2 = 2 := hp
  have h0 : a0 = 66 := hp.1
  subst h0
  exact rx_met (k := 0) had (by decide) (Nat.le_of_ble_eq_true rfl) ok_sv_passToCore rfl rfl 29 (fun p e s m args below meth c X => And.intro (og_sv_61_g X) (And.intro (og_sv_157_g X) (And.intro (og_sv_64_g X) (And.intro (og_sv_30_g X) (And.intro (og_sv_160_g X) (And.intro (cv_hi_add X (V_hi_add had) (al_at 568 (by decide +kernel) rfl) ⟨by decide, by decide⟩) (And.intro (og_sv_34_g X) (And.intro (og_sv_157_g X) (And.intro (cv_hi_add X (V_hi_add had) (al_at 568 (by decide +kernel) rfl) ⟨by decide, by decide⟩) (And.intro (og_sv_173_g X) (And.intro (og_sv_173_p X) (trivial)))))))))))) (S_sv_passToCore x.1 x.2 a1 a2 hp.2.1 hp.2.2) (E_sv_passToCore x.1 x.2 a1 a2)
def sv_endsAtTimer (c : mx_C) (a1 : Int32) : mx_C × Int32 :=
  let c1 := mx_pi c (78 + (c.2.2.1 (Int32.toNatClampNeg a1)).val) 4 ((c.1 (78 + (c.2.2.1 (Int32.toNatClampNeg a1)).val) 4) + 1)
  if (c1.1 (78 + (c.2.2.1 (Int32.toNatClampNeg a1)).val) 4) = 12 then
    let c2 := sv_endSession c1 a1
    (c2, 1)
  else
    if (c1.1 (78 + (c.2.2.1 (Int32.toNatClampNeg a1)).val) 2) = 2 then
      if ((c1.1 (78 + (c.2.2.1 (Int32.toNatClampNeg a1)).val) 4) - (c1.1 (78 + (c.2.2.1 (Int32.toNatClampNeg a1)).val) 4) / 3 * 3) = 0 then
        let c3 := sv_sendAccept c1 (78 + (c.2.2.1 (Int32.toNatClampNeg a1)).val)
        (c3, 0)
      else
        if (c1.1 (78 + (c.2.2.1 (Int32.toNatClampNeg a1)).val) 2) = 3 then
          if ((c1.1 (78 + (c.2.2.1 (Int32.toNatClampNeg a1)).val) 4) - (c1.1 (78 + (c.2.2.1 (Int32.toNatClampNeg a1)).val) 4) / 4 * 4) = 0 then
            let q4 := fl_launch c1 8 5 4
            let c5 := pk_bear q4.1 q4.2 (q4.1.1 (78 + (c.2.2.1 (Int32.toNatClampNeg a1)).val) 1) 0 0
            (c5, 0)
          else
            (c1, 0)
        else
          (c1, 0)
    else
      if (c1.1 (78 + (c.2.2.1 (Int32.toNatClampNeg a1)).val) 2) = 3 then
        if ((c1.1 (78 + (c.2.2.1 (Int32.toNatClampNeg a1)).val) 4) - (c1.1 (78 + (c.2.2.1 (Int32.toNatClampNeg a1)).val) 4) / 4 * 4) = 0 then
          let q6 := fl_launch c1 8 5 4
          let c7 := pk_bear q6.1 q6.2 (q6.1.1 (78 + (c.2.2.1 (Int32.toNatClampNeg a1)).val) 1) 0 0
          (c7, 0)
        else
          (c1, 0)
      else
        (c1, 0)
def K_sv_endsAtTimer : rx_K mx := k_RI (fun a0 a1 c m => (a0 = 66 ∧ sv_at c a1, ((sv_endsAtTimer c a1).1, m), some (.int (sv_endsAtTimer c a1).2)))
def L_sv_endsAtTimer : List (rx_E mx) := [
  (0, .aload_n 0, 1, 0, 0, 0, [], kno),
  (1, .getfield 13, 3, 7, 1, 0, [], kgr0 7 4 67),
  (4, .iload_n 1, 1, 0, 1, 0, [], kno),
  (5, .aaload, 1, 7, 2, 0, [], kas),
  (6, .astore_n 2, 1, 0, 2, 0, [], kno),
  (7, .aload_n 2, 1, 0, 2, 0, [], kno),
  (8, .dup, 1, 0, 0, 0, [], kno),
  (9, .getfield 135, 3, 7, 1, 0, [], kgi 6 4),
  (12, .iconst 1, 1, 0, 0, 1, [], kno),
  (13, .iadd, 1, 0, 0, 0, [], kno),
  (14, .putfield 135, 3, 7, 2, 0, [], kpi 6 4),
  (17, .aload_n 2, 1, 0, 2, 0, [], kno),
  (18, .getfield 135, 3, 7, 1, 0, [], kgi 6 4),
  (21, .bipush 12, 2, 0, 0, 12, [], kno),
  (23, .if_icmp .ne 10, 3, 2, 20, 0, [], kno),
  (26, .aload_n 0, 1, 0, 0, 0, [], kno),
  (27, .iload_n 1, 1, 0, 1, 0, [], kno),
  (28, .invokevirtual 142, 3, 7, 2, 0, [], K_sv_endSession),
  (31, .iconst 1, 1, 0, 0, 1, [], kno),
  (32, .ireturn, 1, 5, 1, 0, [], kno),
  (33, .aload_n 2, 1, 0, 2, 0, [], kno),
  (34, .getfield 61, 3, 7, 1, 0, [], kgi 6 2),
  (37, .iconst 2, 1, 0, 0, 2, [], kno),
  (38, .if_icmp .ne 20, 3, 2, 33, 0, [], kno),
  (41, .aload_n 2, 1, 0, 2, 0, [], kno),
  (42, .getfield 135, 3, 7, 1, 0, [], kgi 6 4),
  (45, .iconst 3, 1, 0, 0, 3, [], kno),
  (46, .irem, 1, 0, 0, 0, [], kno),
  (47, .ifCond .ne 11, 3, 2, 33, 0, [], kno),
  (50, .aload_n 0, 1, 0, 0, 0, [], kno),
  (51, .aload_n 2, 1, 0, 2, 0, [], kno),
  (52, .invokevirtual 145, 3, 7, 2, 0, [], K_sv_sendAccept),
  (55, .goto 40, 3, 1, 53, 0, [], kno),
  (58, .aload_n 2, 1, 0, 2, 0, [], kno),
  (59, .getfield 61, 3, 7, 1, 0, [], kgi 6 2),
  (62, .iconst 3, 1, 0, 0, 3, [], kno),
  (63, .if_icmp .ne 32, 3, 2, 53, 0, [], kno),
  (66, .aload_n 2, 1, 0, 2, 0, [], kno),
  (67, .getfield 135, 3, 7, 1, 0, [], kgi 6 4),
  (70, .iconst 4, 1, 0, 0, 4, [], kno),
  (71, .irem, 1, 0, 0, 0, [], kno),
  (72, .ifCond .ne 23, 3, 2, 53, 0, [], kno),
  (75, .aload_n 0, 1, 0, 0, 0, [], kno),
  (76, .getfield 37, 3, 7, 1, 0, [], kgr0 7 1 1),
  (79, .bipush 8, 2, 0, 0, 8, [], kno),
  (81, .iconst 5, 1, 0, 0, 5, [], kno),
  (82, .iconst 4, 1, 0, 0, 4, [], kno),
  (83, .invokevirtual 67, 3, 7, 4, 0, [], K_fl_launch),
  (86, .aload_n 2, 1, 0, 2, 0, [], kno),
  (87, .getfield 73, 3, 7, 1, 0, [], kgi 6 1),
  (90, .iconst 0, 1, 0, 0, 0, [], kno),
  (91, .iconst 0, 1, 0, 0, 0, [], kno),
  (92, .invokevirtual 76, 3, 7, 4, 0, [], K_pk_bear),
  (95, .iconst 0, 1, 0, 0, 0, [], kno),
  (96, .ireturn, 1, 5, 1, 0, [], kno)]
theorem E_sv_endsAtTimer (c : mx_C) (m : mx_M) (a1 : Int32)  : rx_ev L_sv_endsAtTimer [] 57 L_sv_endsAtTimer (c, m) [some (.ref 66), some (.int a1), none] [] = rw_i m (sv_endsAtTimer c a1) :=
  rx_ite2 (f := rw_i m) (fun _ => rfl) (fun _ => rx_ite2 (f := rw_i m) (fun _ => rx_ite2 (f := rw_i m) (fun _ => rfl) (fun _ => rx_ite2 (f := rw_i m) (fun _ => rx_ite2 (f := rw_i m) (fun _ => rfl) (fun _ => rfl)) (fun _ => rfl))) (fun _ => rx_ite2 (f := rw_i m) (fun _ => rx_ite2 (f := rw_i m) (fun _ => rfl) (fun _ => rfl)) (fun _ => rfl)))
theorem S_sv_endsAtTimer (c : mx_C) (m : mx_M) (a1 : Int32) (ha : sv_at c a1) : rx_sf L_sv_endsAtTimer [] 57 L_sv_endsAtTimer (c, m) [some (.ref 66), some (.int a1), none] [] :=
  And.intro rfl (And.intro (sv_at_in ha) (And.intro (mx_kl_ses _) (And.intro (mx_kl_ses _) (And.intro (mx_kl_ses _) (And.intro (fun h0 => And.intro (And.intro rfl ha) (Or.inr rfl)) (fun h0 => And.intro (mx_kl_ses _) (And.intro (fun h1 => And.intro (mx_kl_ses _) (And.intro (fun h2 => And.intro (And.intro rfl (mx_kl_ses _)) (Or.inl rfl)) (fun h2 => And.intro (mx_kl_ses _) (And.intro (fun h3 => And.intro (mx_kl_ses _) (And.intro (fun h4 => And.intro rfl (And.intro rfl (And.intro (mx_kl_ses _) (And.intro (fl_launch_pk _ _ _ _) (Or.inl rfl))))) (fun h4 => Or.inl rfl))) (fun h3 => Or.inl rfl))))) (fun h1 => And.intro (mx_kl_ses _) (And.intro (fun h2 => And.intro (mx_kl_ses _) (And.intro (fun h3 => And.intro rfl (And.intro rfl (And.intro (mx_kl_ses _) (And.intro (fl_launch_pk _ _ _ _) (Or.inl rfl))))) (fun h3 => Or.inl rfl))) (fun h2 => Or.inl rfl))))))))))

theorem og_sv_135_g {p : Program} {l : Launch} {e : Env} {R : Room} {s : State} {m : MethodId} {args : Array Value} {below : List Frame} {meth : Method} {c : Code} {cc : ByteArray} {nL : Nat} {ad : Nat → Nat} {D : va_G} {g : Nat → ClassId} {B : Nat} (X : ox_C p s m args c cc nL "SubscriberLines$Server" D g ad B) : rx_OK p l e R s m args below meth c cc nL ad (mx_W D g ad B s.heap) mx_cs (.getfield 135) 3 1 (kgi 6 4) := ox_gi (T := T_6) X rfl (by decide) (by decide) in_6 rfl (al_at 276 (by decide +kernel) rfl)
theorem og_sv_135_p {p : Program} {l : Launch} {e : Env} {R : Room} {s : State} {m : MethodId} {args : Array Value} {below : List Frame} {meth : Method} {c : Code} {cc : ByteArray} {nL : Nat} {ad : Nat → Nat} {D : va_G} {g : Nat → ClassId} {B : Nat} (X : ox_C p s m args c cc nL "SubscriberLines$Server" D g ad B) : rx_OK p l e R s m args below meth c cc nL ad (mx_W D g ad B s.heap) mx_cs (.putfield 135) 3 2 (kpi 6 4) := ox_pi (T := T_6) X rfl (by decide) (by decide) in_6 rfl ty_6 ty_6_ok nm_6 rfl rfl rfl (al_at 276 (by decide +kernel) rfl)
theorem cv_sv_endSession {p : Program} {l : Launch} {e : Env} {R : Room} {s : State} {m : MethodId} {args : Array Value} {below : List Frame} {meth : Method} {c : Code} {cc : ByteArray} {nL : Nat} {ad : Nat → Nat} {D : va_G} {g : Nat → ClassId} {B : Nat} {own : String} {idx : Nat} (X : ox_C p s m args c cc nL own D g ad B) (hV : rx_V l D g ad B ⟨"SubscriberLines$Server", "endSession", "(I)V"⟩ prog_8_method_18_code 3 none 3 71 K_sv_endSession) (hl : Cond.methodLink own idx ⟨"SubscriberLines$Server", "endSession", "(I)V"⟩ ∈ al) (hR : 3 + 1 ≤ R.frames ∧ 8 + (3 + 11) + 71 ≤ R.locals) : rx_OK p l e R s m args below meth c cc nL ad (mx_W D g ad B s.heap) mx_cs (.invokevirtual idx) 3 2 (K_sv_endSession) :=
  ox_callV (q := 7) (T := T_7) X hV (fun av x h => by obtain ⟨a0, a1, rfl⟩ := k_RI_inv h; exact ⟨a0, _, rfl, by have h2 : a0 = 66 := h.1; rw [h2]; rfl⟩) (by decide) rfl hl (al_at 557 (by decide +kernel) rfl) (al_pr (y := (⟨"SubscriberLines$Server", "endSession", "(I)V"⟩, _)) 22 rfl) (al_at 9 (by decide +kernel) rfl) (al_at 558 (by decide +kernel) rfl) ⟨by decide, by decide, by decide +kernel⟩ hR
theorem cv_sv_sendAccept {p : Program} {l : Launch} {e : Env} {R : Room} {s : State} {m : MethodId} {args : Array Value} {below : List Frame} {meth : Method} {c : Code} {cc : ByteArray} {nL : Nat} {ad : Nat → Nat} {D : va_G} {g : Nat → ClassId} {B : Nat} {own : String} {idx : Nat} (X : ox_C p s m args c cc nL own D g ad B) (hV : rx_V l D g ad B ⟨"SubscriberLines$Server", "sendAccept", "(LSubscriberLines$Session;)V"⟩ prog_8_method_16_code 2 none 1 24 K_sv_sendAccept) (hl : Cond.methodLink own idx ⟨"SubscriberLines$Server", "sendAccept", "(LSubscriberLines$Session;)V"⟩ ∈ al) (hR : 1 + 1 ≤ R.frames ∧ 8 + (2 + 11) + 24 ≤ R.locals) : rx_OK p l e R s m args below meth c cc nL ad (mx_W D g ad B s.heap) mx_cs (.invokevirtual idx) 3 2 (K_sv_sendAccept) :=
  ox_callV (q := 7) (T := T_7) X hV (fun av x h => by obtain ⟨a0, a1, rfl⟩ := k_RR_inv h; exact ⟨a0, _, rfl, by have h2 : a0 = 66 := h.1; rw [h2]; rfl⟩) (by decide) rfl hl (al_at 553 (by decide +kernel) rfl) (al_pr (y := (⟨"SubscriberLines$Server", "sendAccept", "(LSubscriberLines$Session;)V"⟩, _)) 21 rfl) (al_at 9 (by decide +kernel) rfl) (al_at 554 (by decide +kernel) rfl) ⟨by decide, by decide, by decide +kernel⟩ hR
theorem ok_sv_endsAtTimer : rx_okF prog_8_method_15_code 3 (some .boolean) L_sv_endsAtTimer 0 L_sv_endsAtTimer = true := by decide +kernel
theorem V_sv_endsAtTimer {l : Launch} {D : va_G} {g : Nat → ClassId} {ad : Nat → Nat} {B : Nat} (had : mx_A ad B) : rx_V l D g ad B ⟨"SubscriberLines$Server", "endsAtTimer", "(I)Z"⟩ prog_8_method_15_code 3 (some .boolean) 4 93 K_sv_endsAtTimer := by
  intro av x hp
  obtain ⟨a0, a1, rfl⟩ := k_RI_inv hp
  have hp : a0 = 66 ∧ sv_at x.1 a1 := hp
  have h0 : a0 = 66 := hp.1
  subst h0
  exact rx_met (k := 1) had (by decide) (Nat.le_of_ble_eq_true rfl) ok_sv_endsAtTimer rfl rfl 57 (fun p e s m args below meth c X => And.intro (og_sv_13_g X) (And.intro (ox_as X) (And.intro (og_sv_135_g X) (And.intro (og_sv_135_p X) (And.intro (og_sv_135_g X) (And.intro (cv_sv_endSession X (V_sv_endSession had) (al_at 555 (by decide +kernel) rfl) ⟨by decide, by decide⟩) (And.intro (og_sv_61_g X) (And.intro (og_sv_135_g X) (And.intro (cv_sv_sendAccept X (V_sv_sendAccept had) (al_at 551 (by decide +kernel) rfl) ⟨by decide, by decide⟩) (And.intro (og_sv_61_g X) (And.intro (og_sv_135_g X) (And.intro (og_sv_37_g X) (And.intro (cv_fl_launch X (V_fl_launch had) (al_at 413 (by decide +kernel) rfl) ⟨by decide, by decide⟩) (And.intro (og_sv_73_g X) (And.intro (cv_pk_bear X (V_pk_bear had) (al_at 414 (by decide +kernel) rfl) ⟨by decide, by decide⟩) (trivial)))))))))))))))) (S_sv_endsAtTimer x.1 x.2 a1 hp.2) (E_sv_endsAtTimer x.1 x.2 a1)
def sv_grantOrDrop (c : mx_C) (a1 : Int32) : mx_C :=
  if (Int32.ofNat c.2.2.2.2.val) = 4 then
    let c1 := en_put c 74 15 a1 0
    c1
  else
    let c2 := mx_pi c 66 11 ((c.1 66 11) + 1)
    let c3 := se_begin c2 (78 + (c2.2.2.1 (Int32.toNatClampNeg (Int32.ofNat c2.2.2.2.2.val))).val) (c2.1 66 11) a1
    let c4 := mx_pc c3 ((Int32.ofNat c3.2.2.2.2.val) + 1)
    let c5 := en_put c4 74 14 a1 (c4.1 66 11)
    c5
def K_sv_grantOrDrop : rx_K mx := k_RI (fun a0 a1 c m => (a0 = 66, (sv_grantOrDrop c a1, m), none))
def L_sv_grantOrDrop : List (rx_E mx) := [
  (0, .aload_n 0, 1, 0, 0, 0, [], kno),
  (1, .getfield 58, 3, 7, 1, 0, [], kgs),
  (4, .iconst 4, 1, 0, 0, 4, [], kno),
  (5, .if_icmp .ne 15, 3, 2, 11, 0, [], kno),
  (8, .aload_n 0, 1, 0, 0, 0, [], kno),
  (9, .getfield 50, 3, 7, 1, 0, [], kgr0 7 2 74),
  (12, .bipush 15, 2, 0, 0, 15, [], kno),
  (14, .iload_n 1, 1, 0, 1, 0, [], kno),
  (15, .iconst 0, 1, 0, 0, 0, [], kno),
  (16, .invokevirtual 126, 3, 7, 4, 0, [], K_en_put),
  (19, .return_, 1, 6, 0, 0, [], kno),
  (20, .aload_n 0, 1, 0, 0, 0, [], kno),
  (21, .dup, 1, 0, 0, 0, [], kno),
  (22, .getfield 129, 3, 7, 1, 0, [], kgi 7 11),
  (25, .iconst 1, 1, 0, 0, 1, [], kno),
  (26, .iadd, 1, 0, 0, 0, [], kno),
  (27, .putfield 129, 3, 7, 2, 0, [], kpi 7 11),
  (30, .aload_n 0, 1, 0, 0, 0, [], kno),
  (31, .getfield 13, 3, 7, 1, 0, [], kgr0 7 4 67),
  (34, .aload_n 0, 1, 0, 0, 0, [], kno),
  (35, .getfield 58, 3, 7, 1, 0, [], kgs),
  (38, .aaload, 1, 7, 2, 0, [], kas),
  (39, .aload_n 0, 1, 0, 0, 0, [], kno),
  (40, .getfield 129, 3, 7, 1, 0, [], kgi 7 11),
  (43, .iload_n 1, 1, 0, 1, 0, [], kno),
  (44, .invokevirtual 132, 3, 7, 3, 0, [], K_se_begin),
  (47, .aload_n 0, 1, 0, 0, 0, [], kno),
  (48, .dup, 1, 0, 0, 0, [], kno),
  (49, .getfield 58, 3, 7, 1, 0, [], kgs),
  (52, .iconst 1, 1, 0, 0, 1, [], kno),
  (53, .iadd, 1, 0, 0, 0, [], kno),
  (54, .putfield 58, 3, 7, 2, 0, [], kps),
  (57, .aload_n 0, 1, 0, 0, 0, [], kno),
  (58, .getfield 50, 3, 7, 1, 0, [], kgr0 7 2 74),
  (61, .bipush 14, 2, 0, 0, 14, [], kno),
  (63, .iload_n 1, 1, 0, 1, 0, [], kno),
  (64, .aload_n 0, 1, 0, 0, 0, [], kno),
  (65, .getfield 129, 3, 7, 1, 0, [], kgi 7 11),
  (68, .invokevirtual 126, 3, 7, 4, 0, [], K_en_put),
  (71, .return_, 1, 6, 0, 0, [], kno)]
theorem E_sv_grantOrDrop (c : mx_C) (m : mx_M) (a1 : Int32)  : rx_ev L_sv_grantOrDrop [] 42 L_sv_grantOrDrop (c, m) [some (.ref 66), some (.int a1)] [] = rw_v m (sv_grantOrDrop c a1) :=
  rx_ite2 (f := rw_v m) (fun _ => rfl) (fun _ => rfl)
theorem S_sv_grantOrDrop (c : mx_C) (m : mx_M) (a1 : Int32)  : rx_sf L_sv_grantOrDrop [] 42 L_sv_grantOrDrop (c, m) [some (.ref 66), some (.int a1)] [] :=
  And.intro rfl (And.intro (fun h0 => And.intro rfl (And.intro rfl (trivial))) (fun h0 => And.intro rfl (And.intro rfl (And.intro rfl (And.intro rfl (And.intro (sc_inc h0).1 (And.intro rfl (And.intro (mx_kl_ses _) (And.intro rfl (And.intro (And.intro rfl (sc_inc h0).2) (And.intro rfl (And.intro rfl (And.intro rfl (trivial))))))))))))))

theorem og_sv_129_g {p : Program} {l : Launch} {e : Env} {R : Room} {s : State} {m : MethodId} {args : Array Value} {below : List Frame} {meth : Method} {c : Code} {cc : ByteArray} {nL : Nat} {ad : Nat → Nat} {D : va_G} {g : Nat → ClassId} {B : Nat} (X : ox_C p s m args c cc nL "SubscriberLines$Server" D g ad B) : rx_OK p l e R s m args below meth c cc nL ad (mx_W D g ad B s.heap) mx_cs (.getfield 129) 3 1 (kgi 7 11) := ox_gi (T := T_7) X rfl (by decide) (by decide) in_7 rfl (al_at 305 (by decide +kernel) rfl)
theorem og_sv_129_p {p : Program} {l : Launch} {e : Env} {R : Room} {s : State} {m : MethodId} {args : Array Value} {below : List Frame} {meth : Method} {c : Code} {cc : ByteArray} {nL : Nat} {ad : Nat → Nat} {D : va_G} {g : Nat → ClassId} {B : Nat} (X : ox_C p s m args c cc nL "SubscriberLines$Server" D g ad B) : rx_OK p l e R s m args below meth c cc nL ad (mx_W D g ad B s.heap) mx_cs (.putfield 129) 3 2 (kpi 7 11) := ox_pi (T := T_7) X rfl (by decide) (by decide) in_7 rfl ty_7 ty_7_ok nm_7 rfl rfl rfl (al_at 305 (by decide +kernel) rfl)
theorem cv_se_begin {p : Program} {l : Launch} {e : Env} {R : Room} {s : State} {m : MethodId} {args : Array Value} {below : List Frame} {meth : Method} {c : Code} {cc : ByteArray} {nL : Nat} {ad : Nat → Nat} {D : va_G} {g : Nat → ClassId} {B : Nat} {own : String} {idx : Nat} (X : ox_C p s m args c cc nL own D g ad B) (hV : rx_V l D g ad B ⟨"SubscriberLines$Session", "begin", "(II)V"⟩ prog_9_method_2_code 3 none 0 0 K_se_begin) (hl : Cond.methodLink own idx ⟨"SubscriberLines$Session", "begin", "(II)V"⟩ ∈ al) (hR : 0 + 1 ≤ R.frames ∧ 8 + (3 + 11) + 0 ≤ R.locals) : rx_OK p l e R s m args below meth c cc nL ad (mx_W D g ad B s.heap) mx_cs (.invokevirtual idx) 3 3 (K_se_begin) :=
  ox_callV (q := 6) (T := T_6) X hV (fun av x h => by obtain ⟨a0, a1, a2, rfl⟩ := k_RII_inv h; exact ⟨a0, _, rfl, h⟩) (by decide) rfl hl (al_at 582 (by decide +kernel) rfl) (al_at 583 (by decide +kernel) rfl) (al_at 11 (by decide +kernel) rfl) (al_at 584 (by decide +kernel) rfl) ⟨by decide, by decide, by decide +kernel⟩ hR
theorem ok_sv_grantOrDrop : rx_okF prog_8_method_8_code 2 none L_sv_grantOrDrop 0 L_sv_grantOrDrop = true := by decide +kernel
theorem V_sv_grantOrDrop {l : Launch} {D : va_G} {g : Nat → ClassId} {ad : Nat → Nat} {B : Nat} (had : mx_A ad B) : rx_V l D g ad B ⟨"SubscriberLines$Server", "grantOrDrop", "(I)V"⟩ prog_8_method_8_code 2 none 3 71 K_sv_grantOrDrop := by
  intro av x hp
  obtain ⟨a0, a1, rfl⟩ := k_RI_inv hp
  have hp : a0 = 66 := hp
  have h0 : a0 = 66 := hp
  subst h0
  exact rx_met (k := 0) had (by decide) (Nat.le_of_ble_eq_true rfl) ok_sv_grantOrDrop rfl rfl 42 (fun p e s m args below meth c X => And.intro (og_sv_58_g X) (And.intro (og_sv_50_g X) (And.intro (cv_en_put X (V_en_put had) (al_at 563 (by decide +kernel) rfl) ⟨by decide, by decide⟩) (And.intro (og_sv_129_g X) (And.intro (og_sv_129_p X) (And.intro (og_sv_13_g X) (And.intro (og_sv_58_g X) (And.intro (ox_as X) (And.intro (og_sv_129_g X) (And.intro (cv_se_begin X (V_se_begin had) (al_at 581 (by decide +kernel) rfl) ⟨by decide, by decide⟩) (And.intro (og_sv_58_g X) (And.intro (og_sv_58_p X) (And.intro (og_sv_50_g X) (And.intro (og_sv_129_g X) (And.intro (cv_en_put X (V_en_put had) (al_at 563 (by decide +kernel) rfl) ⟨by decide, by decide⟩) (trivial)))))))))))))))) (S_sv_grantOrDrop x.1 x.2 a1 ) (E_sv_grantOrDrop x.1 x.2 a1)
def sv_logsIn (c : mx_C) (a1 : Nat) (a2 : Nat) : mx_C × Int32 :=
  if (sv_lowestFreeAddress c) = 0 then
    let q1 := fl_launch c 6 5 4
    let c2 := pk_bear q1.1 q1.2 (q1.1.1 a1 1) 0 0
    (c2, 0)
  else
    if (sv_isAllowed c (c.1 a2 4) (c.1 a2 5)) = 0 then
      let q3 := fl_launch c 6 5 4
      let c4 := pk_bear q3.1 q3.2 (q3.1.1 a1 1) 0 0
      (c4, 0)
    else
      let c5 := mx_pi c a1 2 2
      let c6 := mx_pi c5 a1 3 (sv_lowestFreeAddress c)
      let c7 := sv_sendAccept c6 a1
      (c7, 1)
def K_sv_logsIn : rx_K mx := k_RRR (fun a0 a1 a2 c m => (a0 = 66 ∧ mx_kl a1 = 6 ∧ mx_kl a2 = 2 ∧ sv_pool c, ((sv_logsIn c a1 a2).1, m), some (.int (sv_logsIn c a1 a2).2)))
def L_sv_logsIn : List (rx_E mx) := [
  (0, .aload_n 0, 1, 0, 0, 0, [], kno),
  (1, .invokevirtual 153, 3, 7, 1, 0, [], K_sv_lowestFreeAddress),
  (4, .istore_n 3, 1, 0, 3, 0, [], kno),
  (5, .iload_n 3, 1, 0, 3, 0, [], kno),
  (6, .ifCond .eq 18, 3, 2, 12, 0, [], kno),
  (9, .aload_n 0, 1, 0, 0, 0, [], kno),
  (10, .aload_n 2, 1, 0, 2, 0, [], kno),
  (11, .getfield 157, 3, 7, 1, 0, [], kgi 2 4),
  (14, .aload_n 2, 1, 0, 2, 0, [], kno),
  (15, .getfield 160, 3, 7, 1, 0, [], kgi 2 5),
  (18, .invokevirtual 163, 3, 7, 3, 0, [], K_sv_isAllowed),
  (21, .ifCond .ne 25, 3, 2, 25, 0, [], kno),
  (24, .aload_n 0, 1, 0, 0, 0, [], kno),
  (25, .getfield 37, 3, 7, 1, 0, [], kgr0 7 1 1),
  (28, .bipush 6, 2, 0, 0, 6, [], kno),
  (30, .iconst 5, 1, 0, 0, 5, [], kno),
  (31, .iconst 4, 1, 0, 0, 4, [], kno),
  (32, .invokevirtual 67, 3, 7, 4, 0, [], K_fl_launch),
  (35, .aload_n 1, 1, 0, 1, 0, [], kno),
  (36, .getfield 73, 3, 7, 1, 0, [], kgi 6 1),
  (39, .iconst 0, 1, 0, 0, 0, [], kno),
  (40, .iconst 0, 1, 0, 0, 0, [], kno),
  (41, .invokevirtual 76, 3, 7, 4, 0, [], K_pk_bear),
  (44, .iconst 0, 1, 0, 0, 0, [], kno),
  (45, .ireturn, 1, 5, 1, 0, [], kno),
  (46, .aload_n 1, 1, 0, 1, 0, [], kno),
  (47, .iconst 2, 1, 0, 0, 2, [], kno),
  (48, .putfield 61, 3, 7, 2, 0, [], kpi 6 2),
  (51, .aload_n 1, 1, 0, 1, 0, [], kno),
  (52, .iload_n 3, 1, 0, 3, 0, [], kno),
  (53, .putfield 64, 3, 7, 2, 0, [], kpi 6 3),
  (56, .aload_n 0, 1, 0, 0, 0, [], kno),
  (57, .aload_n 1, 1, 0, 1, 0, [], kno),
  (58, .invokevirtual 145, 3, 7, 2, 0, [], K_sv_sendAccept),
  (61, .iconst 1, 1, 0, 0, 1, [], kno),
  (62, .ireturn, 1, 5, 1, 0, [], kno)]
theorem E_sv_logsIn (c : mx_C) (m : mx_M) (a1 : Nat) (a2 : Nat)  : rx_ev L_sv_logsIn [] 38 L_sv_logsIn (c, m) [some (.ref 66), some (.ref a1), some (.ref a2), none] [] = rw_i m (sv_logsIn c a1 a2) :=
  rx_ite2 (f := rw_i m) (fun _ => rfl) (fun _ => rx_ite2 (f := rw_i m) (fun _ => rfl) (fun _ => rfl))
theorem S_sv_logsIn (c : mx_C) (m : mx_M) (a1 : Nat) (a2 : Nat) (ha1 : mx_kl a1 = 6) (ha2 : mx_kl a2 = 2) (hq : sv_pool c) : rx_sf L_sv_logsIn [] 38 L_sv_logsIn (c, m) [some (.ref 66), some (.ref a1), some (.ref a2), none] [] :=
  And.intro (And.intro rfl hq) (And.intro (fun h0 => And.intro rfl (And.intro rfl (And.intro ha1 (And.intro (fl_launch_pk _ _ _ _) (Or.inl rfl))))) (fun h0 => And.intro ha2 (And.intro ha2 (And.intro rfl (And.intro (fun h1 => And.intro rfl (And.intro rfl (And.intro ha1 (And.intro (fl_launch_pk _ _ _ _) (Or.inl rfl))))) (fun h1 => And.intro ha1 (And.intro ha1 (And.intro (And.intro rfl ha1) (Or.inr rfl)))))))))

theorem cv_sv_lowestFreeAddress {p : Program} {l : Launch} {e : Env} {R : Room} {s : State} {m : MethodId} {args : Array Value} {below : List Frame} {meth : Method} {c : Code} {cc : ByteArray} {nL : Nat} {ad : Nat → Nat} {D : va_G} {g : Nat → ClassId} {B : Nat} {own : String} {idx : Nat} (X : ox_C p s m args c cc nL own D g ad B) (hV : rx_V l D g ad B ⟨"SubscriberLines$Server", "lowestFreeAddress", "()I"⟩ prog_8_method_12_code 2 (some .int) 1 22 K_sv_lowestFreeAddress) (hl : Cond.methodLink own idx ⟨"SubscriberLines$Server", "lowestFreeAddress", "()I"⟩ ∈ al) (hR : 1 + 1 ≤ R.frames ∧ 8 + (2 + 11) + 22 ≤ R.locals) : rx_OK p l e R s m args below meth c cc nL ad (mx_W D g ad B s.heap) mx_cs (.invokevirtual idx) 3 1 (K_sv_lowestFreeAddress) :=
  ox_callV (q := 7) (T := T_7) X hV (fun av x h => by obtain ⟨a0, rfl⟩ := k_R_inv h; exact ⟨a0, _, rfl, by have h2 : a0 = 66 := h.1; rw [h2]; rfl⟩) (by decide) rfl hl (al_at 541 (by decide +kernel) rfl) (al_pr (y := (⟨"SubscriberLines$Server", "lowestFreeAddress", "()I"⟩, _)) 18 rfl) (al_at 9 (by decide +kernel) rfl) (al_at 542 (by decide +kernel) rfl) ⟨by decide, by decide, by decide +kernel⟩ hR
theorem cv_sv_isAllowed {p : Program} {l : Launch} {e : Env} {R : Room} {s : State} {m : MethodId} {args : Array Value} {below : List Frame} {meth : Method} {c : Code} {cc : ByteArray} {nL : Nat} {ad : Nat → Nat} {D : va_G} {g : Nat → ClassId} {B : Nat} {own : String} {idx : Nat} (X : ox_C p s m args c cc nL own D g ad B) (hV : rx_V l D g ad B ⟨"SubscriberLines$Server", "isAllowed", "(II)Z"⟩ prog_8_method_11_code 3 (some .boolean) 0 0 K_sv_isAllowed) (hl : Cond.methodLink own idx ⟨"SubscriberLines$Server", "isAllowed", "(II)Z"⟩ ∈ al) (hR : 0 + 1 ≤ R.frames ∧ 8 + (3 + 11) + 0 ≤ R.locals) : rx_OK p l e R s m args below meth c cc nL ad (mx_W D g ad B s.heap) mx_cs (.invokevirtual idx) 3 3 (K_sv_isAllowed) :=
  ox_callV (q := 7) (T := T_7) X hV (fun av x h => by obtain ⟨a0, a1, a2, rfl⟩ := k_RII_inv h; exact ⟨a0, _, rfl, by have h2 : a0 = 66 := h; rw [h2]; rfl⟩) (by decide) rfl hl (al_at 549 (by decide +kernel) rfl) (al_pr (y := (⟨"SubscriberLines$Server", "isAllowed", "(II)Z"⟩, _)) 20 rfl) (al_at 9 (by decide +kernel) rfl) (al_at 550 (by decide +kernel) rfl) ⟨by decide, by decide, by decide +kernel⟩ hR
theorem og_sv_61_p {p : Program} {l : Launch} {e : Env} {R : Room} {s : State} {m : MethodId} {args : Array Value} {below : List Frame} {meth : Method} {c : Code} {cc : ByteArray} {nL : Nat} {ad : Nat → Nat} {D : va_G} {g : Nat → ClassId} {B : Nat} (X : ox_C p s m args c cc nL "SubscriberLines$Server" D g ad B) : rx_OK p l e R s m args below meth c cc nL ad (mx_W D g ad B s.heap) mx_cs (.putfield 61) 3 2 (kpi 6 2) := ox_pi (T := T_6) X rfl (by decide) (by decide) in_6 rfl ty_6 ty_6_ok nm_6 rfl rfl rfl (al_at 272 (by decide +kernel) rfl)
theorem og_sv_64_p {p : Program} {l : Launch} {e : Env} {R : Room} {s : State} {m : MethodId} {args : Array Value} {below : List Frame} {meth : Method} {c : Code} {cc : ByteArray} {nL : Nat} {ad : Nat → Nat} {D : va_G} {g : Nat → ClassId} {B : Nat} (X : ox_C p s m args c cc nL "SubscriberLines$Server" D g ad B) : rx_OK p l e R s m args below meth c cc nL ad (mx_W D g ad B s.heap) mx_cs (.putfield 64) 3 2 (kpi 6 3) := ox_pi (T := T_6) X rfl (by decide) (by decide) in_6 rfl ty_6 ty_6_ok nm_6 rfl rfl rfl (al_at 274 (by decide +kernel) rfl)
theorem ok_sv_logsIn : rx_okF prog_8_method_10_code 4 (some .boolean) L_sv_logsIn 0 L_sv_logsIn = true := by decide +kernel
theorem V_sv_logsIn {l : Launch} {D : va_G} {g : Nat → ClassId} {ad : Nat → Nat} {B : Nat} (had : mx_A ad B) : rx_V l D g ad B ⟨"SubscriberLines$Server", "logsIn", "(LSubscriberLines$Session;LSubscriberLines$Packet;)Z"⟩ prog_8_method_10_code 4 (some .boolean) 2 45 K_sv_logsIn := by
  intro av x hp
  obtain ⟨a0, a1, a2, rfl⟩ := k_RRR_inv hp
  have hp : a0 = 66 ∧ mx_kl a1 = 6 ∧ mx_kl a2 = 2 ∧ sv_pool x.1 := hp
  have h0 : a0 = 66 := hp.1
  subst h0
  exact rx_met (k := 1) had (by decide) (Nat.le_of_ble_eq_true rfl) ok_sv_logsIn rfl rfl 38 (fun p e s m args below meth c X => And.intro (cv_sv_lowestFreeAddress X (V_sv_lowestFreeAddress had) (al_at 539 (by decide +kernel) rfl) ⟨by decide, by decide⟩) (And.intro (og_sv_157_g X) (And.intro (og_sv_160_g X) (And.intro (cv_sv_isAllowed X (V_sv_isAllowed had) (al_at 547 (by decide +kernel) rfl) ⟨by decide, by decide⟩) (And.intro (og_sv_37_g X) (And.intro (cv_fl_launch X (V_fl_launch had) (al_at 413 (by decide +kernel) rfl) ⟨by decide, by decide⟩) (And.intro (og_sv_73_g X) (And.intro (cv_pk_bear X (V_pk_bear had) (al_at 414 (by decide +kernel) rfl) ⟨by decide, by decide⟩) (And.intro (og_sv_61_p X) (And.intro (og_sv_64_p X) (And.intro (cv_sv_sendAccept X (V_sv_sendAccept had) (al_at 551 (by decide +kernel) rfl) ⟨by decide, by decide⟩) (trivial)))))))))))) (S_sv_logsIn x.1 x.2 a1 a2 hp.2.1 hp.2.2.1 hp.2.2.2) (E_sv_logsIn x.1 x.2 a1 a2)
def sv_perform (c : mx_C) (a1 : Nat) : mx_C :=
  if (c.1 a1 0) = 13 then
    let c1 := sv_grantOrDrop c (c.1 a1 3)
    c1
  else
    if (c.1 a1 0) = 15 then
      if (sv_indexOf c (c.1 a1 3)) < 0 then
        c
      else
        let c2 := sv_remove c (sv_indexOf c (c.1 a1 3))
        c2
    else
      c
def K_sv_perform : rx_K mx := k_RR (fun a0 a1 c m => (a0 = 66 ∧ mx_kl a1 = 2, (sv_perform c a1, m), none))
def L_sv_perform : List (rx_E mx) := [
  (0, .aload_n 1, 1, 0, 1, 0, [], kno),
  (1, .getfield 82, 3, 7, 1, 0, [], kgi 2 0),
  (4, .bipush 13, 2, 0, 0, 13, [], kno),
  (6, .if_icmp .ne 14, 3, 2, 9, 0, [], kno),
  (9, .aload_n 0, 1, 0, 0, 0, [], kno),
  (10, .aload_n 1, 1, 0, 1, 0, [], kno),
  (11, .getfield 113, 3, 7, 1, 0, [], kgi 2 3),
  (14, .invokevirtual 116, 3, 7, 2, 0, [], K_sv_grantOrDrop),
  (17, .goto 30, 3, 1, 23, 0, [], kno),
  (20, .aload_n 1, 1, 0, 1, 0, [], kno),
  (21, .getfield 82, 3, 7, 1, 0, [], kgi 2 0),
  (24, .bipush 15, 2, 0, 0, 15, [], kno),
  (26, .if_icmp .ne 21, 3, 2, 23, 0, [], kno),
  (29, .aload_n 0, 1, 0, 0, 0, [], kno),
  (30, .aload_n 1, 1, 0, 1, 0, [], kno),
  (31, .getfield 113, 3, 7, 1, 0, [], kgi 2 3),
  (34, .invokevirtual 119, 3, 7, 2, 0, [], K_sv_indexOf),
  (37, .istore_n 2, 1, 0, 2, 0, [], kno),
  (38, .iload_n 2, 1, 0, 2, 0, [], kno),
  (39, .ifCond .lt 8, 3, 2, 23, 0, [], kno),
  (42, .aload_n 0, 1, 0, 0, 0, [], kno),
  (43, .iload_n 2, 1, 0, 2, 0, [], kno),
  (44, .invokevirtual 123, 3, 7, 2, 0, [], K_sv_remove),
  (47, .return_, 1, 6, 0, 0, [], kno)]
theorem E_sv_perform (c : mx_C) (m : mx_M) (a1 : Nat)  : rx_ev L_sv_perform [] 26 L_sv_perform (c, m) [some (.ref 66), some (.ref a1), none] [] = rw_v m (sv_perform c a1) :=
  rx_ite2 (f := rw_v m) (fun _ => rfl) (fun _ => rx_ite2 (f := rw_v m) (fun _ => rx_ite2 (f := rw_v m) (fun _ => rfl) (fun _ => rfl)) (fun _ => rfl))
theorem S_sv_perform (c : mx_C) (m : mx_M) (a1 : Nat) (ha1 : mx_kl a1 = 2) : rx_sf L_sv_perform [] 26 L_sv_perform (c, m) [some (.ref 66), some (.ref a1), none] [] :=
  And.intro ha1 (And.intro (fun h0 => And.intro ha1 (And.intro rfl (trivial))) (fun h0 => And.intro ha1 (And.intro (fun h1 => And.intro ha1 (And.intro rfl (And.intro (fun h2 => trivial) (fun h2 => And.intro (And.intro rfl (sv_idx_in (by assumption))) (trivial))))) (fun h1 => trivial))))

theorem og_sv_82_g {p : Program} {l : Launch} {e : Env} {R : Room} {s : State} {m : MethodId} {args : Array Value} {below : List Frame} {meth : Method} {c : Code} {cc : ByteArray} {nL : Nat} {ad : Nat → Nat} {D : va_G} {g : Nat → ClassId} {B : Nat} (X : ox_C p s m args c cc nL "SubscriberLines$Server" D g ad B) : rx_OK p l e R s m args below meth c cc nL ad (mx_W D g ad B s.heap) mx_cs (.getfield 82) 3 1 (kgi 2 0) := ox_gi (T := T_2) X rfl (by decide) (by decide) in_2 rfl (al_at 37 (by decide +kernel) rfl)
theorem og_sv_113_g {p : Program} {l : Launch} {e : Env} {R : Room} {s : State} {m : MethodId} {args : Array Value} {below : List Frame} {meth : Method} {c : Code} {cc : ByteArray} {nL : Nat} {ad : Nat → Nat} {D : va_G} {g : Nat → ClassId} {B : Nat} (X : ox_C p s m args c cc nL "SubscriberLines$Server" D g ad B) : rx_OK p l e R s m args below meth c cc nL ad (mx_W D g ad B s.heap) mx_cs (.getfield 113) 3 1 (kgi 2 3) := ox_gi (T := T_2) X rfl (by decide) (by decide) in_2 rfl (al_at 50 (by decide +kernel) rfl)
theorem cv_sv_grantOrDrop {p : Program} {l : Launch} {e : Env} {R : Room} {s : State} {m : MethodId} {args : Array Value} {below : List Frame} {meth : Method} {c : Code} {cc : ByteArray} {nL : Nat} {ad : Nat → Nat} {D : va_G} {g : Nat → ClassId} {B : Nat} {own : String} {idx : Nat} (X : ox_C p s m args c cc nL own D g ad B) (hV : rx_V l D g ad B ⟨"SubscriberLines$Server", "grantOrDrop", "(I)V"⟩ prog_8_method_8_code 2 none 3 71 K_sv_grantOrDrop) (hl : Cond.methodLink own idx ⟨"SubscriberLines$Server", "grantOrDrop", "(I)V"⟩ ∈ al) (hR : 3 + 1 ≤ R.frames ∧ 8 + (2 + 11) + 71 ≤ R.locals) : rx_OK p l e R s m args below meth c cc nL ad (mx_W D g ad B s.heap) mx_cs (.invokevirtual idx) 3 2 (K_sv_grantOrDrop) :=
  ox_callV (q := 7) (T := T_7) X hV (fun av x h => by obtain ⟨a0, a1, rfl⟩ := k_RI_inv h; exact ⟨a0, _, rfl, by have h2 : a0 = 66 := h; rw [h2]; rfl⟩) (by decide) rfl hl (al_at 579 (by decide +kernel) rfl) (al_pr (y := (⟨"SubscriberLines$Server", "grantOrDrop", "(I)V"⟩, _)) 26 rfl) (al_at 9 (by decide +kernel) rfl) (al_at 580 (by decide +kernel) rfl) ⟨by decide, by decide, by decide +kernel⟩ hR
theorem cv_sv_indexOf {p : Program} {l : Launch} {e : Env} {R : Room} {s : State} {m : MethodId} {args : Array Value} {below : List Frame} {meth : Method} {c : Code} {cc : ByteArray} {nL : Nat} {ad : Nat → Nat} {D : va_G} {g : Nat → ClassId} {B : Nat} {own : String} {idx : Nat} (X : ox_C p s m args c cc nL own D g ad B) (hV : rx_V l D g ad B ⟨"SubscriberLines$Server", "indexOf", "(I)I"⟩ prog_8_method_17_code 3 (some .int) 0 0 K_sv_indexOf) (hl : Cond.methodLink own idx ⟨"SubscriberLines$Server", "indexOf", "(I)I"⟩ ∈ al) (hR : 0 + 1 ≤ R.frames ∧ 8 + (3 + 11) + 0 ≤ R.locals) : rx_OK p l e R s m args below meth c cc nL ad (mx_W D g ad B s.heap) mx_cs (.invokevirtual idx) 3 2 (K_sv_indexOf) :=
  ox_callV (q := 7) (T := T_7) X hV (fun av x h => by obtain ⟨a0, a1, rfl⟩ := k_RI_inv h; exact ⟨a0, _, rfl, by have h2 : a0 = 66 := h; rw [h2]; rfl⟩) (by decide) rfl hl (al_at 533 (by decide +kernel) rfl) (al_pr (y := (⟨"SubscriberLines$Server", "indexOf", "(I)I"⟩, _)) 16 rfl) (al_at 9 (by decide +kernel) rfl) (al_at 534 (by decide +kernel) rfl) ⟨by decide, by decide, by decide +kernel⟩ hR
theorem ok_sv_perform : rx_okF prog_8_method_7_code 3 none L_sv_perform 0 L_sv_perform = true := by decide +kernel
theorem V_sv_perform {l : Launch} {D : va_G} {g : Nat → ClassId} {ad : Nat → Nat} {B : Nat} (had : mx_A ad B) : rx_V l D g ad B ⟨"SubscriberLines$Server", "perform", "(LSubscriberLines$Packet;)V"⟩ prog_8_method_7_code 3 none 4 92 K_sv_perform := by
  intro av x hp
  obtain ⟨a0, a1, rfl⟩ := k_RR_inv hp
  have hp : a0 = 66 ∧ mx_kl a1 = 2 := hp
  have h0 : a0 = 66 := hp.1
  subst h0
  exact rx_met (k := 1) had (by decide) (Nat.le_of_ble_eq_true rfl) ok_sv_perform rfl rfl 26 (fun p e s m args below meth c X => And.intro (og_sv_82_g X) (And.intro (og_sv_113_g X) (And.intro (cv_sv_grantOrDrop X (V_sv_grantOrDrop had) (al_at 577 (by decide +kernel) rfl) ⟨by decide, by decide⟩) (And.intro (og_sv_82_g X) (And.intro (og_sv_113_g X) (And.intro (cv_sv_indexOf X (V_sv_indexOf had) (al_at 531 (by decide +kernel) rfl) ⟨by decide, by decide⟩) (And.intro (cv_sv_remove X (V_sv_remove had) (al_at 559 (by decide +kernel) rfl) ⟨by decide, by decide⟩) (trivial)))))))) (S_sv_perform x.1 x.2 a1 hp.2) (E_sv_perform x.1 x.2 a1)
