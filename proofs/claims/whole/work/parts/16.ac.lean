def ac_removeCircuit (c : mx_C) (a1 : Int32) : mx_C :=
  let c1 := mx_pi c 60 (Int32.toNatClampNeg a1) 0
  let c2 := mx_pi c1 61 (Int32.toNatClampNeg a1) 0
  c2
def K_ac_removeCircuit : rx_K mx := k_RI (fun a0 a1 c m => (a0 = 59 ∧ vp_in a1 4, (ac_removeCircuit c a1, m), none))
def L_ac_removeCircuit : List (rx_E mx) := [
  (0, .aload_n 0, 1, 0, 0, 0, [], kno),
  (1, .getfield 9, 3, 7, 1, 0, [], kgr0 5 3 60),
  (4, .iload_n 1, 1, 0, 1, 0, [], kno),
  (5, .iconst 0, 1, 0, 0, 0, [], kno),
  (6, .iastore, 1, 7, 3, 0, [], kpa),
  (7, .aload_n 0, 1, 0, 0, 0, [], kno),
  (8, .getfield 15, 3, 7, 1, 0, [], kgr0 5 4 61),
  (11, .iload_n 1, 1, 0, 1, 0, [], kno),
  (12, .iconst 0, 1, 0, 0, 0, [], kno),
  (13, .iastore, 1, 7, 3, 0, [], kpa),
  (14, .return_, 1, 6, 0, 0, [], kno)]
theorem E_ac_removeCircuit (c : mx_C) (m : mx_M) (a1 : Int32)  : rx_ev L_ac_removeCircuit [] 13 L_ac_removeCircuit (c, m) [some (.ref 59), some (.int a1)] [] = rw_v m (ac_removeCircuit c a1) :=
  rfl
theorem S_ac_removeCircuit (c : mx_C) (m : mx_M) (a1 : Int32) (hs : vp_in a1 4) : rx_sf L_ac_removeCircuit [] 13 L_ac_removeCircuit (c, m) [some (.ref 59), some (.int a1)] [] :=
  And.intro rfl (And.intro hs (And.intro rfl (And.intro hs (trivial))))

theorem og_ac_9_g {p : Program} {l : Launch} {e : Env} {R : Room} {s : State} {m : MethodId} {args : Array Value} {below : List Frame} {meth : Method} {c : Code} {cc : ByteArray} {nL : Nat} {ad : Nat → Nat} {D : va_G} {g : Nat → ClassId} {B : Nat} (X : ox_C p s m args c cc nL "SubscriberLines$Access" D g ad B) : rx_OK p l e R s m args below meth c cc nL ad (mx_W D g ad B s.heap) mx_cs (.getfield 9) 3 1 (kgr0 5 3 60) := ox_gr0 (T := T_5) X rfl (by decide) (by decide) in_5 rfl (al_at 223 (by decide +kernel) rfl)
theorem og_ac_15_g {p : Program} {l : Launch} {e : Env} {R : Room} {s : State} {m : MethodId} {args : Array Value} {below : List Frame} {meth : Method} {c : Code} {cc : ByteArray} {nL : Nat} {ad : Nat → Nat} {D : va_G} {g : Nat → ClassId} {B : Nat} (X : ox_C p s m args c cc nL "SubscriberLines$Access" D g ad B) : rx_OK p l e R s m args below meth c cc nL ad (mx_W D g ad B s.heap) mx_cs (.getfield 15) 3 1 (kgr0 5 4 61) := ox_gr0 (T := T_5) X rfl (by decide) (by decide) in_5 rfl (al_at 224 (by decide +kernel) rfl)
theorem ok_ac_removeCircuit : rx_okF prog_2_method_13_code 2 none L_ac_removeCircuit 0 L_ac_removeCircuit = true := by decide +kernel
theorem V_ac_removeCircuit {l : Launch} {D : va_G} {g : Nat → ClassId} {ad : Nat → Nat} {B : Nat} (had : mx_A ad B) : rx_V l D g ad B ⟨"SubscriberLines$Access", "removeCircuit", "(I)V"⟩ prog_2_method_13_code 2 none 0 0 K_ac_removeCircuit := by
  intro av x hp
  obtain ⟨a0, a1, rfl⟩ := k_RI_inv hp
  have hp : a0 = 59 ∧ vp_in a1 4 := hp
  have h0 : a0 = 59 := hp.1
  subst h0
  exact rx_met (k := 0) had (by decide) (Nat.le_of_ble_eq_true rfl) ok_ac_removeCircuit rfl rfl 13 (fun p e s m args below meth c X => And.intro (og_ac_9_g X) (And.intro (ox_pa X) (And.intro (og_ac_15_g X) (And.intro (ox_pa X) (trivial))))) (S_ac_removeCircuit x.1 x.2 a1 hp.2) (E_ac_removeCircuit x.1 x.2 a1)
def ac_tell (c : mx_C) (a1 : Int32) (a2 : Int32) : Int32 :=
  if a2 = 0 then
    (c.1 60 (Int32.toNatClampNeg a1))
  else
    if a2 = 1 then
      (c.1 61 (Int32.toNatClampNeg a1))
    else
      0
def K_ac_tell : rx_K mx := k_RII (fun a0 a1 a2 c m => (a0 = 59 ∧ vp_in a1 4, (c, m), some (.int (ac_tell c a1 a2))))
def L_ac_tell : List (rx_E mx) := [
  (0, .iload_n 2, 1, 0, 2, 0, [], kno),
  (1, .ifCond .ne 10, 3, 2, 7, 0, [], kno),
  (4, .aload_n 0, 1, 0, 0, 0, [], kno),
  (5, .getfield 9, 3, 7, 1, 0, [], kgr0 5 3 60),
  (8, .iload_n 1, 1, 0, 1, 0, [], kno),
  (9, .iaload, 1, 7, 2, 0, [], kai),
  (10, .ireturn, 1, 5, 0, 0, [], kno),
  (11, .iload_n 2, 1, 0, 2, 0, [], kno),
  (12, .iconst 1, 1, 0, 0, 1, [], kno),
  (13, .if_icmp .ne 12, 3, 2, 15, 0, [], kno),
  (16, .aload_n 0, 1, 0, 0, 0, [], kno),
  (17, .getfield 15, 3, 7, 1, 0, [], kgr0 5 4 61),
  (20, .iload_n 1, 1, 0, 1, 0, [], kno),
  (21, .iaload, 1, 7, 2, 0, [], kai),
  (22, .goto 4, 3, 1, 16, 0, [], kno),
  (25, .iconst 0, 1, 0, 0, 0, [], kno),
  (26, .ireturn, 1, 5, 0, 0, [], kno)]
theorem E_ac_tell (c : mx_C) (m : mx_M) (a1 : Int32) (a2 : Int32)  : rx_ev L_ac_tell [] 19 L_ac_tell (c, m) [some (.ref 59), some (.int a1), some (.int a2)] [] = rw_p c m (ac_tell c a1 a2) :=
  rx_ite2 (f := rw_p c m) (fun _ => rfl) (fun _ => rx_ite2 (f := rw_p c m) (fun _ => rfl) (fun _ => rfl))
theorem S_ac_tell (c : mx_C) (m : mx_M) (a1 : Int32) (a2 : Int32) (hs : vp_in a1 4) : rx_sf L_ac_tell [] 19 L_ac_tell (c, m) [some (.ref 59), some (.int a1), some (.int a2)] [] :=
  And.intro (fun h0 => And.intro rfl (And.intro hs (trivial))) (fun h0 => And.intro (fun h1 => And.intro rfl (And.intro hs (trivial))) (fun h1 => trivial))

theorem ok_ac_tell : rx_okF prog_2_method_3_code 3 (some .int) L_ac_tell 0 L_ac_tell = true := by decide +kernel
theorem V_ac_tell {l : Launch} {D : va_G} {g : Nat → ClassId} {ad : Nat → Nat} {B : Nat} (had : mx_A ad B) : rx_V l D g ad B ⟨"SubscriberLines$Access", "tell", "(II)I"⟩ prog_2_method_3_code 3 (some .int) 0 0 K_ac_tell := by
  intro av x hp
  obtain ⟨a0, a1, a2, rfl⟩ := k_RII_inv hp
  have hp : a0 = 59 ∧ vp_in a1 4 := hp
  have h0 : a0 = 59 := hp.1
  subst h0
  exact rx_met (k := 0) had (by decide) (Nat.le_of_ble_eq_true rfl) ok_ac_tell rfl rfl 19 (fun p e s m args below meth c X => And.intro (og_ac_9_g X) (And.intro (ox_ai X) (And.intro (og_ac_15_g X) (And.intro (ox_ai X) (trivial))))) (S_ac_tell x.1 x.2 a1 a2 hp.2) (E_ac_tell x.1 x.2 a1 a2)
def ac_takeDown (c : mx_C) (a1 : Int32) : mx_C :=
  let c1 := ac_removeCircuit c a1
  if (c.1 61 (Int32.toNatClampNeg a1)) = 0 then
    c1
  else
    let c2 := en_put c1 62 15 (c.1 61 (Int32.toNatClampNeg a1)) 0
    c2
def K_ac_takeDown : rx_K mx := k_RI (fun a0 a1 c m => (a0 = 59 ∧ vp_in a1 4, (ac_takeDown c a1, m), none))
def L_ac_takeDown : List (rx_E mx) := [
  (0, .aload_n 0, 1, 0, 0, 0, [], kno),
  (1, .getfield 15, 3, 7, 1, 0, [], kgr0 5 4 61),
  (4, .iload_n 1, 1, 0, 1, 0, [], kno),
  (5, .iaload, 1, 7, 2, 0, [], kai),
  (6, .istore_n 2, 1, 0, 2, 0, [], kno),
  (7, .aload_n 0, 1, 0, 0, 0, [], kno),
  (8, .iload_n 1, 1, 0, 1, 0, [], kno),
  (9, .invokevirtual 39, 3, 7, 2, 0, [], K_ac_removeCircuit),
  (12, .iload_n 2, 1, 0, 2, 0, [], kno),
  (13, .ifCond .eq 14, 3, 2, 16, 0, [], kno),
  (16, .aload_n 0, 1, 0, 0, 0, [], kno),
  (17, .getfield 27, 3, 7, 1, 0, [], kgr0 5 2 62),
  (20, .bipush 15, 2, 0, 0, 15, [], kno),
  (22, .iload_n 2, 1, 0, 2, 0, [], kno),
  (23, .iconst 0, 1, 0, 0, 0, [], kno),
  (24, .invokevirtual 86, 3, 7, 4, 0, [], K_en_put),
  (27, .return_, 1, 6, 0, 0, [], kno)]
theorem E_ac_takeDown (c : mx_C) (m : mx_M) (a1 : Int32)  : rx_ev L_ac_takeDown [] 19 L_ac_takeDown (c, m) [some (.ref 59), some (.int a1), none] [] = rw_v m (ac_takeDown c a1) :=
  rx_ite2 (f := rw_v m) (fun _ => rfl) (fun _ => rfl)
theorem S_ac_takeDown (c : mx_C) (m : mx_M) (a1 : Int32) (hs : vp_in a1 4) : rx_sf L_ac_takeDown [] 19 L_ac_takeDown (c, m) [some (.ref 59), some (.int a1), none] [] :=
  And.intro rfl (And.intro hs (And.intro (And.intro rfl hs) (And.intro (fun h0 => trivial) (fun h0 => And.intro rfl (And.intro rfl (trivial))))))

theorem cv_ac_removeCircuit {p : Program} {l : Launch} {e : Env} {R : Room} {s : State} {m : MethodId} {args : Array Value} {below : List Frame} {meth : Method} {c : Code} {cc : ByteArray} {nL : Nat} {ad : Nat → Nat} {D : va_G} {g : Nat → ClassId} {B : Nat} {own : String} {idx : Nat} (X : ox_C p s m args c cc nL own D g ad B) (hV : rx_V l D g ad B ⟨"SubscriberLines$Access", "removeCircuit", "(I)V"⟩ prog_2_method_13_code 2 none 0 0 K_ac_removeCircuit) (hl : Cond.methodLink own idx ⟨"SubscriberLines$Access", "removeCircuit", "(I)V"⟩ ∈ al) (hR : 0 + 1 ≤ R.frames ∧ 8 + (2 + 11) + 0 ≤ R.locals) : rx_OK p l e R s m args below meth c cc nL ad (mx_W D g ad B s.heap) mx_cs (.invokevirtual idx) 3 2 (K_ac_removeCircuit) :=
  ox_callV (q := 5) (T := T_5) X hV (fun av x h => by obtain ⟨a0, a1, rfl⟩ := k_RI_inv h; exact ⟨a0, _, rfl, by have h2 : a0 = 59 := h.1; rw [h2]; rfl⟩) (by decide) rfl hl (al_at 429 (by decide +kernel) rfl) (al_pr (y := (⟨"SubscriberLines$Access", "removeCircuit", "(I)V"⟩, _)) 4 rfl) (al_at 7 (by decide +kernel) rfl) (al_at 430 (by decide +kernel) rfl) ⟨by decide, by decide, by decide +kernel⟩ hR
theorem og_ac_27_g {p : Program} {l : Launch} {e : Env} {R : Room} {s : State} {m : MethodId} {args : Array Value} {below : List Frame} {meth : Method} {c : Code} {cc : ByteArray} {nL : Nat} {ad : Nat → Nat} {D : va_G} {g : Nat → ClassId} {B : Nat} (X : ox_C p s m args c cc nL "SubscriberLines$Access" D g ad B) : rx_OK p l e R s m args below meth c cc nL ad (mx_W D g ad B s.heap) mx_cs (.getfield 27) 3 1 (kgr0 5 2 62) := ox_gr0 (T := T_5) X rfl (by decide) (by decide) in_5 rfl (al_at 221 (by decide +kernel) rfl)
theorem cv_en_put {p : Program} {l : Launch} {e : Env} {R : Room} {s : State} {m : MethodId} {args : Array Value} {below : List Frame} {meth : Method} {c : Code} {cc : ByteArray} {nL : Nat} {ad : Nat → Nat} {D : va_G} {g : Nat → ClassId} {B : Nat} {own : String} {idx : Nat} (X : ox_C p s m args c cc nL own D g ad B) (hV : rx_V l D g ad B ⟨"SubscriberLines$End", "put", "(III)V"⟩ prog_3_method_4_code 5 none 2 47 K_en_put) (hl : Cond.methodLink own idx ⟨"SubscriberLines$End", "put", "(III)V"⟩ ∈ al) (hR : 2 + 1 ≤ R.frames ∧ 8 + (5 + 11) + 47 ≤ R.locals) : rx_OK p l e R s m args below meth c cc nL ad (mx_W D g ad B s.heap) mx_cs (.invokevirtual idx) 3 4 (K_en_put) :=
  ox_callV (q := 8) (T := T_8) X hV (fun av x h => by obtain ⟨a0, a1, a2, a3, rfl⟩ := k_RIII_inv h; exact ⟨a0, _, rfl, h⟩) (by decide) rfl hl (al_at 500 (by decide +kernel) rfl) (al_at 501 (by decide +kernel) rfl) (al_at 8 (by decide +kernel) rfl) (al_at 502 (by decide +kernel) rfl) ⟨by decide, by decide, by decide +kernel⟩ hR
theorem ok_ac_takeDown : rx_okF prog_2_method_11_code 3 none L_ac_takeDown 0 L_ac_takeDown = true := by decide +kernel
theorem V_ac_takeDown {l : Launch} {D : va_G} {g : Nat → ClassId} {ad : Nat → Nat} {B : Nat} (had : mx_A ad B) : rx_V l D g ad B ⟨"SubscriberLines$Access", "takeDown", "(I)V"⟩ prog_2_method_11_code 3 none 3 71 K_ac_takeDown := by
  intro av x hp
  obtain ⟨a0, a1, rfl⟩ := k_RI_inv hp
  have hp : a0 = 59 ∧ vp_in a1 4 := hp
  have h0 : a0 = 59 := hp.1
  subst h0
  exact rx_met (k := 1) had (by decide) (Nat.le_of_ble_eq_true rfl) ok_ac_takeDown rfl rfl 19 (fun p e s m args below meth c X => And.intro (og_ac_15_g X) (And.intro (ox_ai X) (And.intro (cv_ac_removeCircuit X (V_ac_removeCircuit had) (al_at 427 (by decide +kernel) rfl) ⟨by decide, by decide⟩) (And.intro (og_ac_27_g X) (And.intro (cv_en_put X (V_en_put had) (al_at 499 (by decide +kernel) rfl) ⟨by decide, by decide⟩) (trivial)))))) (S_ac_takeDown x.1 x.2 a1 hp.2) (E_ac_takeDown x.1 x.2 a1)
def ac_closeCircuit (c : mx_C) (a1 : Int32) : mx_C :=
  if (c.1 60 (Int32.toNatClampNeg a1)) = 0 then
    c
  else
    let q1 := fl_launch c 3 4 a1
    let c2 := pk_bear q1.1 q1.2 (q1.1.1 60 (Int32.toNatClampNeg a1)) 0 0
    let c3 := ac_removeCircuit c2 a1
    c3
def K_ac_closeCircuit : rx_K mx := k_RI (fun a0 a1 c m => (a0 = 59 ∧ vp_in a1 4, (ac_closeCircuit c a1, m), none))
def L_ac_closeCircuit : List (rx_E mx) := [
  (0, .aload_n 0, 1, 0, 0, 0, [], kno),
  (1, .getfield 9, 3, 7, 1, 0, [], kgr0 5 3 60),
  (4, .iload_n 1, 1, 0, 1, 0, [], kno),
  (5, .iaload, 1, 7, 2, 0, [], kai),
  (6, .ifCond .eq 29, 3, 2, 21, 0, [], kno),
  (9, .aload_n 0, 1, 0, 0, 0, [], kno),
  (10, .getfield 18, 3, 7, 1, 0, [], kgr0 5 1 1),
  (13, .iconst 3, 1, 0, 0, 3, [], kno),
  (14, .iconst 4, 1, 0, 0, 4, [], kno),
  (15, .iload_n 1, 1, 0, 1, 0, [], kno),
  (16, .invokevirtual 96, 3, 7, 4, 0, [], K_fl_launch),
  (19, .aload_n 0, 1, 0, 0, 0, [], kno),
  (20, .getfield 9, 3, 7, 1, 0, [], kgr0 5 3 60),
  (23, .iload_n 1, 1, 0, 1, 0, [], kno),
  (24, .iaload, 1, 7, 2, 0, [], kai),
  (25, .iconst 0, 1, 0, 0, 0, [], kno),
  (26, .iconst 0, 1, 0, 0, 0, [], kno),
  (27, .invokevirtual 102, 3, 7, 4, 0, [], K_pk_bear),
  (30, .aload_n 0, 1, 0, 0, 0, [], kno),
  (31, .iload_n 1, 1, 0, 1, 0, [], kno),
  (32, .invokevirtual 39, 3, 7, 2, 0, [], K_ac_removeCircuit),
  (35, .return_, 1, 6, 0, 0, [], kno)]
theorem E_ac_closeCircuit (c : mx_C) (m : mx_M) (a1 : Int32)  : rx_ev L_ac_closeCircuit [] 24 L_ac_closeCircuit (c, m) [some (.ref 59), some (.int a1)] [] = rw_v m (ac_closeCircuit c a1) :=
  rx_ite2 (f := rw_v m) (fun _ => rfl) (fun _ => rfl)
theorem S_ac_closeCircuit (c : mx_C) (m : mx_M) (a1 : Int32) (hs : vp_in a1 4) : rx_sf L_ac_closeCircuit [] 24 L_ac_closeCircuit (c, m) [some (.ref 59), some (.int a1)] [] :=
  And.intro rfl (And.intro hs (And.intro (fun h0 => trivial) (fun h0 => And.intro rfl (And.intro rfl (And.intro rfl (And.intro hs (And.intro (fl_launch_pk _ _ _ _) (And.intro (And.intro rfl hs) (trivial)))))))))

theorem og_ac_18_g {p : Program} {l : Launch} {e : Env} {R : Room} {s : State} {m : MethodId} {args : Array Value} {below : List Frame} {meth : Method} {c : Code} {cc : ByteArray} {nL : Nat} {ad : Nat → Nat} {D : va_G} {g : Nat → ClassId} {B : Nat} (X : ox_C p s m args c cc nL "SubscriberLines$Access" D g ad B) : rx_OK p l e R s m args below meth c cc nL ad (mx_W D g ad B s.heap) mx_cs (.getfield 18) 3 1 (kgr0 5 1 1) := ox_gr0 (T := T_5) X rfl (by decide) (by decide) in_5 rfl (al_at 220 (by decide +kernel) rfl)
theorem ok_ac_closeCircuit : rx_okF prog_2_method_12_code 2 none L_ac_closeCircuit 0 L_ac_closeCircuit = true := by decide +kernel
theorem V_ac_closeCircuit {l : Launch} {D : va_G} {g : Nat → ClassId} {ad : Nat → Nat} {B : Nat} (had : mx_A ad B) : rx_V l D g ad B ⟨"SubscriberLines$Access", "closeCircuit", "(I)V"⟩ prog_2_method_12_code 2 none 1 24 K_ac_closeCircuit := by
  intro av x hp
  obtain ⟨a0, a1, rfl⟩ := k_RI_inv hp
  have hp : a0 = 59 ∧ vp_in a1 4 := hp
  have h0 : a0 = 59 := hp.1
  subst h0
  exact rx_met (k := 0) had (by decide) (Nat.le_of_ble_eq_true rfl) ok_ac_closeCircuit rfl rfl 24 (fun p e s m args below meth c X => And.intro (og_ac_9_g X) (And.intro (ox_ai X) (And.intro (og_ac_18_g X) (And.intro (cv_fl_launch X (V_fl_launch had) (al_at 497 (by decide +kernel) rfl) ⟨by decide, by decide⟩) (And.intro (og_ac_9_g X) (And.intro (ox_ai X) (And.intro (cv_pk_bear X (V_pk_bear had) (al_at 498 (by decide +kernel) rfl) ⟨by decide, by decide⟩) (And.intro (cv_ac_removeCircuit X (V_ac_removeCircuit had) (al_at 427 (by decide +kernel) rfl) ⟨by decide, by decide⟩) (trivial))))))))) (S_ac_closeCircuit x.1 x.2 a1 hp.2) (E_ac_closeCircuit x.1 x.2 a1)
abbrev up4 (n : Nat) (v : Int32) : Prop := 0 ≤ v.toInt ∧ v.toInt ≤ 4 ∧ 4 < (n : Int) + v.toInt
theorem up4_in {n : Nat} {v : Int32} (h : v < 4) (hP : up4 n v) : vp_in v 4 := by
  rw [i_lt] at h
  have h : v.toInt < 4 := h
  rw [i_in]
  exact ⟨hP.1, h⟩
theorem up4_1 {n : Nat} {v : Int32} (h : v < 4) (hP : up4 (n + 1) v) : up4 n (v + 1) := by
  rw [i_lt] at h
  have h : v.toInt < 4 := h
  obtain ⟨p1, p2, p3⟩ := hP
  have e : (v + 1).toInt = v.toInt + 1 := i_add (show _ ≤ v.toInt + 1 by omega) (show v.toInt + 1 < _ by omega)
  unfold up4
  rw [e]
  omega
def ac_forget_15 : Nat → mx_C → Int32 → mx_C
  | 0, c, _ => c
  | n + 1, c, v1 =>
    if v1 < 4 then
      let c1 := ac_removeCircuit c v1
      ac_forget_15 n c1 (v1 + 1)
    else
      c
def ac_forget (c : mx_C)  : mx_C :=
  let c1 := en_begin c 62 0
  let c2 := mx_pi c1 59 5 0
  ac_forget_15 (5) c2 0
def K_ac_forget : rx_K mx := k_R (fun a0 c m => (a0 = 59, (ac_forget c, m), none))
def L_ac_forget : List (rx_E mx) := [
  (0, .aload_n 0, 1, 0, 0, 0, [], kno),
  (1, .getfield 27, 3, 7, 1, 0, [], kgr0 5 2 62),
  (4, .iconst 0, 1, 0, 0, 0, [], kno),
  (5, .invokevirtual 31, 3, 7, 2, 0, [], K_en_begin),
  (8, .aload_n 0, 1, 0, 0, 0, [], kno),
  (9, .iconst 0, 1, 0, 0, 0, [], kno),
  (10, .putfield 35, 3, 7, 2, 0, [], kpi 5 5),
  (13, .iconst 0, 1, 0, 0, 0, [], kno),
  (14, .istore_n 1, 1, 0, 1, 0, [], kno),
  (15, .iload_n 1, 1, 0, 1, 0, [], kno),
  (16, .iconst 4, 1, 0, 0, 4, [], kno),
  (17, .if_icmp .ge 14, 3, 2, 17, 0, [], kno),
  (20, .aload_n 0, 1, 0, 0, 0, [], kno),
  (21, .iload_n 1, 1, 0, 1, 0, [], kno),
  (22, .invokevirtual 39, 3, 7, 2, 0, [], K_ac_removeCircuit),
  (25, .iinc 1 1, 3, 0, 1, 1, [], kno),
  (28, .goto (-13), 3, 1, 9, 0, [], kno),
  (31, .return_, 1, 6, 0, 0, [], kno)]
def G_ac_forget (n : Nat) : rx_G := fun x ls st =>
  match ls, st with
  | [some (.ref r0), some (.int v1)], [] => (r0 = 59 ∧ up4 n v1, rw_v x.2 (ac_forget_15 n x.1 v1))
  | _, _ => (False, (x, none))
theorem GI_ac_forget {n : Nat} {x : mx} {ls : rx_L} {st : List Value} (h : (G_ac_forget n x ls st).1) : ∃ (r0 : Nat) (v1 : Int32), ls = [some (.ref r0), some (.int v1)] ∧ st = [] ∧ r0 = 59 ∧ up4 n v1 := by
  unfold G_ac_forget at h
  split at h
  · exact ⟨_, _, rfl, rfl, h⟩
  · exact False.elim h
theorem EH_ac_forget (n : Nat) (c : mx_C) (m : mx_M) (v1 : Int32) : rx_ev L_ac_forget [(15, G_ac_forget n)] 20 (L_ac_forget.drop 9) (c, m) [some (.ref 59), some (.int v1)] [] = rw_v m (ac_forget_15 (n + 1) c v1) :=
  rx_ite2 (f := rw_v m) (fun _ => rfl) (fun _ => rfl)
theorem SH_ac_forget (n : Nat) (c : mx_C) (m : mx_M) (v1 : Int32) (hP : up4 (n + 1) v1) : rx_sf L_ac_forget [(15, G_ac_forget n)] 20 (L_ac_forget.drop 9) (c, m) [some (.ref 59), some (.int v1)] [] :=
  And.intro (fun h0 => And.intro (And.intro rfl (up4_in h0 hP)) (And.intro rfl (up4_1 h0 hP))) (fun h0 => trivial)
theorem E_ac_forget (c : mx_C) (m : mx_M)   : rx_ev L_ac_forget [(15, G_ac_forget (5))] 20 L_ac_forget (c, m) [some (.ref 59), none] [] = rw_v m (ac_forget c) :=
  rfl
theorem S_ac_forget (c : mx_C) (m : mx_M)   : rx_sf L_ac_forget [(15, G_ac_forget (5))] 20 L_ac_forget (c, m) [some (.ref 59), none] [] :=
  And.intro rfl (And.intro rfl (And.intro rfl (And.intro rfl (by decide))))
theorem og_ac_35_p {p : Program} {l : Launch} {e : Env} {R : Room} {s : State} {m : MethodId} {args : Array Value} {below : List Frame} {meth : Method} {c : Code} {cc : ByteArray} {nL : Nat} {ad : Nat → Nat} {D : va_G} {g : Nat → ClassId} {B : Nat} (X : ox_C p s m args c cc nL "SubscriberLines$Access" D g ad B) : rx_OK p l e R s m args below meth c cc nL ad (mx_W D g ad B s.heap) mx_cs (.putfield 35) 3 2 (kpi 5 5) := ox_pi (T := T_5) X rfl (by decide) (by decide) in_5 rfl ty_5 ty_5_ok nm_5 rfl rfl rfl (al_at 225 (by decide +kernel) rfl)
theorem ok_ac_forget : rx_okF prog_2_method_2_code 2 none L_ac_forget 0 L_ac_forget = true := by decide +kernel
theorem O_ac_forget {l : Launch} {D : va_G} {g : Nat → ClassId} {ad : Nat → Nat} {B : Nat} (had : mx_A ad B) {p : Program} {e : Env} {s : State} {m : MethodId} {args : Array Value} {below : List Frame} {meth : Method} {c : Code} (X : ox_C p s m args c prog_2_method_2_code 2 "SubscriberLines$Access" D g ad B) : rx_ops p l e ({ frames := 1, cells := 0, slots := 0, locals := 21 } : Room) s m args below meth c prog_2_method_2_code 2 ad (mx_W D g ad B s.heap) mx_cs L_ac_forget :=
  And.intro (og_ac_27_g X) (And.intro (cv_en_begin X (V_en_begin had) (al_at 423 (by decide +kernel) rfl) ⟨by decide, by decide⟩) (And.intro (og_ac_35_p X) (And.intro (cv_ac_removeCircuit X (V_ac_removeCircuit had) (al_at 427 (by decide +kernel) rfl) ⟨by decide, by decide⟩) (trivial))))
theorem V_ac_forget {l : Launch} {D : va_G} {g : Nat → ClassId} {ad : Nat → Nat} {B : Nat} (had : mx_A ad B) : rx_V l D g ad B ⟨"SubscriberLines$Access", "forget", "()V"⟩ prog_2_method_2_code 2 none 1 21 K_ac_forget := by
  intro av x hp
  obtain ⟨a0, rfl⟩ := k_R_inv hp
  have hp : a0 = 59 := hp
  have h0 : a0 = 59 := hp
  subst h0
  refine rx_metX (k := 1) had (by decide) (Nat.le_of_ble_eq_true rfl) fun p e s m args below meth c X hr hlk => ?_
  refine rx_walk X hr hlk ok_ac_forget (O_ac_forget had X) (cut := [(15, G_ac_forget (5))]) (rx_cc ?_ rx_c0) 20 0 rfl (S_ac_forget x.1 x.2  ) (E_ac_forget x.1 x.2  )
  refine rx_loop (G := G_ac_forget) X hr hlk ok_ac_forget (O_ac_forget had X) rx_c0 20 9 rfl (fun x ls st h => ?_) (fun n x ls st h => ?_) _
  · obtain ⟨r0, v1, -, -, h3⟩ := GI_ac_forget h
    have h4 := h3.2
    omega
  · obtain ⟨r0, v1, rfl, rfl, h3⟩ := GI_ac_forget h
    obtain ⟨rfl, hP⟩ := h3
    exact ⟨SH_ac_forget n x.1 x.2 v1 hP, EH_ac_forget n x.1 x.2 v1⟩
def ac_subscriberOf_2 : Nat → mx_C → Int32 → Int32 → Int32
  | 0, c, _, _ => 0
  | n + 1, c, v1, v2 =>
    if v2 < 4 then
      if v1 = 0 then
        ac_subscriberOf_2 n c v1 (v2 + 1)
      else
        if (c.1 60 (Int32.toNatClampNeg v2)) = v1 then
          v2
        else
          ac_subscriberOf_2 n c v1 (v2 + 1)
    else
      (-1)
def ac_subscriberOf (c : mx_C) (a1 : Int32) : Int32 :=
  ac_subscriberOf_2 (5) c a1 0
def K_ac_subscriberOf : rx_K mx := k_RI (fun a0 a1 c m => (a0 = 59, (c, m), some (.int (ac_subscriberOf c a1))))
def L_ac_subscriberOf : List (rx_E mx) := [
  (0, .iconst 0, 1, 0, 0, 0, [], kno),
  (1, .istore_n 2, 1, 0, 2, 0, [], kno),
  (2, .iload_n 2, 1, 0, 2, 0, [], kno),
  (3, .iconst 4, 1, 0, 0, 4, [], kno),
  (4, .if_icmp .ge 25, 3, 2, 17, 0, [], kno),
  (7, .iload_n 1, 1, 0, 1, 0, [], kno),
  (8, .ifCond .eq 15, 3, 2, 15, 0, [], kno),
  (11, .aload_n 0, 1, 0, 0, 0, [], kno),
  (12, .getfield 9, 3, 7, 1, 0, [], kgr0 5 3 60),
  (15, .iload_n 2, 1, 0, 2, 0, [], kno),
  (16, .iaload, 1, 7, 2, 0, [], kai),
  (17, .iload_n 1, 1, 0, 1, 0, [], kno),
  (18, .if_icmp .ne 5, 3, 2, 15, 0, [], kno),
  (21, .iload_n 2, 1, 0, 2, 0, [], kno),
  (22, .ireturn, 1, 5, 0, 0, [], kno),
  (23, .iinc 2 1, 3, 0, 2, 1, [], kno),
  (26, .goto (-24), 3, 1, 2, 0, [], kno),
  (29, .iconst (-1), 1, 0, 0, (-1), [], kno),
  (30, .ireturn, 1, 5, 0, 0, [], kno)]
def G_ac_subscriberOf (n : Nat) : rx_G := fun x ls st =>
  match ls, st with
  | [some (.ref r0), some (.int v1), some (.int v2)], [] => (r0 = 59 ∧ up4 n v2, rw_p x.1 x.2 (ac_subscriberOf_2 n x.1 v1 v2))
  | _, _ => (False, (x, none))
theorem GI_ac_subscriberOf {n : Nat} {x : mx} {ls : rx_L} {st : List Value} (h : (G_ac_subscriberOf n x ls st).1) : ∃ (r0 : Nat) (v1 : Int32) (v2 : Int32), ls = [some (.ref r0), some (.int v1), some (.int v2)] ∧ st = [] ∧ r0 = 59 ∧ up4 n v2 := by
  unfold G_ac_subscriberOf at h
  split at h
  · exact ⟨_, _, _, rfl, rfl, h⟩
  · exact False.elim h
theorem EH_ac_subscriberOf (n : Nat) (c : mx_C) (m : mx_M) (v1 : Int32) (v2 : Int32) : rx_ev L_ac_subscriberOf [(2, G_ac_subscriberOf n)] 21 (L_ac_subscriberOf.drop 2) (c, m) [some (.ref 59), some (.int v1), some (.int v2)] [] = rw_p c m (ac_subscriberOf_2 (n + 1) c v1 v2) :=
  rx_ite2 (f := rw_p c m) (fun _ => rx_ite2 (f := rw_p c m) (fun _ => rfl) (fun _ => rx_ite2 (f := rw_p c m) (fun _ => rfl) (fun _ => rfl))) (fun _ => rfl)
theorem SH_ac_subscriberOf (n : Nat) (c : mx_C) (m : mx_M) (v1 : Int32) (v2 : Int32) (hP : up4 (n + 1) v2) : rx_sf L_ac_subscriberOf [(2, G_ac_subscriberOf n)] 21 (L_ac_subscriberOf.drop 2) (c, m) [some (.ref 59), some (.int v1), some (.int v2)] [] :=
  And.intro (fun h0 => And.intro (fun h1 => And.intro rfl (up4_1 h0 hP)) (fun h1 => And.intro rfl (And.intro (up4_in h0 hP) (And.intro (fun h2 => trivial) (fun h2 => And.intro rfl (up4_1 h0 hP)))))) (fun h0 => trivial)
theorem E_ac_subscriberOf (c : mx_C) (m : mx_M) (a1 : Int32)  : rx_ev L_ac_subscriberOf [(2, G_ac_subscriberOf (5))] 21 L_ac_subscriberOf (c, m) [some (.ref 59), some (.int a1), none] [] = rw_p c m (ac_subscriberOf c a1) :=
  rfl
theorem S_ac_subscriberOf (c : mx_C) (m : mx_M) (a1 : Int32)  : rx_sf L_ac_subscriberOf [(2, G_ac_subscriberOf (5))] 21 L_ac_subscriberOf (c, m) [some (.ref 59), some (.int a1), none] [] :=
  And.intro rfl (by decide)
theorem ok_ac_subscriberOf : rx_okF prog_2_method_10_code 3 (some .int) L_ac_subscriberOf 0 L_ac_subscriberOf = true := by decide +kernel
theorem O_ac_subscriberOf {l : Launch} {D : va_G} {g : Nat → ClassId} {ad : Nat → Nat} {B : Nat} (had : mx_A ad B) {p : Program} {e : Env} {s : State} {m : MethodId} {args : Array Value} {below : List Frame} {meth : Method} {c : Code} (X : ox_C p s m args c prog_2_method_10_code 3 "SubscriberLines$Access" D g ad B) : rx_ops p l e ({ frames := 0, cells := 0, slots := 0, locals := 0 } : Room) s m args below meth c prog_2_method_10_code 3 ad (mx_W D g ad B s.heap) mx_cs L_ac_subscriberOf :=
  And.intro (og_ac_9_g X) (And.intro (ox_ai X) (trivial))
theorem V_ac_subscriberOf {l : Launch} {D : va_G} {g : Nat → ClassId} {ad : Nat → Nat} {B : Nat} (had : mx_A ad B) : rx_V l D g ad B ⟨"SubscriberLines$Access", "subscriberOf", "(I)I"⟩ prog_2_method_10_code 3 (some .int) 0 0 K_ac_subscriberOf := by
  intro av x hp
  obtain ⟨a0, a1, rfl⟩ := k_RI_inv hp
  have hp : a0 = 59 := hp
  have h0 : a0 = 59 := hp
  subst h0
  refine rx_metX (k := 1) had (by decide) (Nat.le_of_ble_eq_true rfl) fun p e s m args below meth c X hr hlk => ?_
  refine rx_walk X hr hlk ok_ac_subscriberOf (O_ac_subscriberOf had X) (cut := [(2, G_ac_subscriberOf (5))]) (rx_cc ?_ rx_c0) 21 0 rfl (S_ac_subscriberOf x.1 x.2 a1 ) (E_ac_subscriberOf x.1 x.2 a1 )
  refine rx_loop (G := G_ac_subscriberOf) X hr hlk ok_ac_subscriberOf (O_ac_subscriberOf had X) rx_c0 21 2 rfl (fun x ls st h => ?_) (fun n x ls st h => ?_) _
  · obtain ⟨r0, v1, v2, -, -, h3⟩ := GI_ac_subscriberOf h
    have h4 := h3.2
    omega
  · obtain ⟨r0, v1, v2, rfl, rfl, h3⟩ := GI_ac_subscriberOf h
    obtain ⟨rfl, hP⟩ := h3
    exact ⟨SH_ac_subscriberOf n x.1 x.2 v1 v2 hP, EH_ac_subscriberOf n x.1 x.2 v1 v2⟩
theorem ac_subL (c : mx_C) (l : Int32) : ∀ (n : Nat) (v : Int32), up4 n v → ¬ ac_subscriberOf_2 n c l v < 0 → vp_in (ac_subscriberOf_2 n c l v) 4 := by
  intro n
  induction n with
  | zero => intro v hP; omega
  | succ n ih =>
    intro v hP
    unfold ac_subscriberOf_2
    split
    · rename_i h
      split
      · exact ih _ (up4_1 h hP)
      · split
        · intro _; exact up4_in h hP
        · exact ih _ (up4_1 h hP)
    · intro h; exact absurd (by decide) h
theorem ac_sub_in {c : mx_C} {l : Int32} (h : ¬ ac_subscriberOf c l < 0) : vp_in (ac_subscriberOf c l) 4 := ac_subL c l 5 0 (by decide) h
def ac_runTimer_12 : Nat → mx_C → Int32 → mx_C
  | 0, c, _ => c
  | n + 1, c, v1 =>
    if v1 < 4 then
      let c1 := ac_closeCircuit c v1
      ac_runTimer_12 n c1 (v1 + 1)
    else
      if (c.1 62 3) = 0 then
        let c2 := mx_pi c 59 5 0
        c2
      else
        if (en_isEmpty c 62) = 0 then
          let c3 := mx_pi c 59 5 0
          c3
        else
          let c4 := mx_pi c 59 5 ((c.1 59 5) + 1)
          if (c4.1 59 5) = 10 then
            let c5 := en_put c4 62 16 0 0
            let c6 := mx_pi c5 59 5 0
            c6
          else
            c4
def ac_runTimer (c : mx_C)  : mx_C :=
  let q1 := en_breaksAtTimer c 62
  if q1.2 = 0 then
    if (q1.1.1 62 3) = 0 then
      let c2 := mx_pi q1.1 59 5 0
      c2
    else
      if (en_isEmpty q1.1 62) = 0 then
        let c3 := mx_pi q1.1 59 5 0
        c3
      else
        let c4 := mx_pi q1.1 59 5 ((q1.1.1 59 5) + 1)
        if (c4.1 59 5) = 10 then
          let c5 := en_put c4 62 16 0 0
          let c6 := mx_pi c5 59 5 0
          c6
        else
          c4
  else
    ac_runTimer_12 (5) q1.1 0
def K_ac_runTimer : rx_K mx := k_R (fun a0 c m => (a0 = 59, (ac_runTimer c, m), none))
def L_ac_runTimer : List (rx_E mx) := [
  (0, .aload_n 0, 1, 0, 0, 0, [], kno),
  (1, .getfield 27, 3, 7, 1, 0, [], kgr0 5 2 62),
  (4, .invokevirtual 73, 3, 7, 1, 0, [], K_en_breaksAtTimer),
  (7, .ifCond .eq 21, 3, 2, 14, 0, [], kno),
  (10, .iconst 0, 1, 0, 0, 0, [], kno),
  (11, .istore_n 1, 1, 0, 1, 0, [], kno),
  (12, .iload_n 1, 1, 0, 1, 0, [], kno),
  (13, .iconst 4, 1, 0, 0, 4, [], kno),
  (14, .if_icmp .ge 14, 3, 2, 14, 0, [], kno),
  (17, .aload_n 0, 1, 0, 0, 0, [], kno),
  (18, .iload_n 1, 1, 0, 1, 0, [], kno),
  (19, .invokevirtual 77, 3, 7, 2, 0, [], K_ac_closeCircuit),
  (22, .iinc 1 1, 3, 0, 1, 1, [], kno),
  (25, .goto (-13), 3, 1, 6, 0, [], kno),
  (28, .aload_n 0, 1, 0, 0, 0, [], kno),
  (29, .getfield 27, 3, 7, 1, 0, [], kgr0 5 2 62),
  (32, .getfield 80, 3, 7, 1, 0, [], kgi 8 3),
  (35, .ifCond .eq 26, 3, 2, 29, 0, [], kno),
  (38, .aload_n 0, 1, 0, 0, 0, [], kno),
  (39, .getfield 27, 3, 7, 1, 0, [], kgr0 5 2 62),
  (42, .invokevirtual 83, 3, 7, 1, 0, [], K_en_isEmpty),
  (45, .ifCond .eq 16, 3, 2, 29, 0, [], kno),
  (48, .aload_n 0, 1, 0, 0, 0, [], kno),
  (49, .dup, 1, 0, 0, 0, [], kno),
  (50, .getfield 35, 3, 7, 1, 0, [], kgi 5 5),
  (53, .iconst 1, 1, 0, 0, 1, [], kno),
  (54, .iadd, 1, 0, 0, 0, [], kno),
  (55, .putfield 35, 3, 7, 2, 0, [], kpi 5 5),
  (58, .goto 8, 3, 1, 32, 0, [], kno),
  (61, .aload_n 0, 1, 0, 0, 0, [], kno),
  (62, .iconst 0, 1, 0, 0, 0, [], kno),
  (63, .putfield 35, 3, 7, 2, 0, [], kpi 5 5),
  (66, .aload_n 0, 1, 0, 0, 0, [], kno),
  (67, .getfield 35, 3, 7, 1, 0, [], kgi 5 5),
  (70, .bipush 10, 2, 0, 0, 10, [], kno),
  (72, .if_icmp .ne 19, 3, 2, 45, 0, [], kno),
  (75, .aload_n 0, 1, 0, 0, 0, [], kno),
  (76, .getfield 27, 3, 7, 1, 0, [], kgr0 5 2 62),
  (79, .bipush 16, 2, 0, 0, 16, [], kno),
  (81, .iconst 0, 1, 0, 0, 0, [], kno),
  (82, .iconst 0, 1, 0, 0, 0, [], kno),
  (83, .invokevirtual 86, 3, 7, 4, 0, [], K_en_put),
  (86, .aload_n 0, 1, 0, 0, 0, [], kno),
  (87, .iconst 0, 1, 0, 0, 0, [], kno),
  (88, .putfield 35, 3, 7, 2, 0, [], kpi 5 5),
  (91, .return_, 1, 6, 0, 0, [], kno)]
def G_ac_runTimer (n : Nat) : rx_G := fun x ls st =>
  match ls, st with
  | [some (.ref r0), some (.int v1)], [] => (r0 = 59 ∧ up4 n v1, rw_v x.2 (ac_runTimer_12 n x.1 v1))
  | _, _ => (False, (x, none))
theorem GI_ac_runTimer {n : Nat} {x : mx} {ls : rx_L} {st : List Value} (h : (G_ac_runTimer n x ls st).1) : ∃ (r0 : Nat) (v1 : Int32), ls = [some (.ref r0), some (.int v1)] ∧ st = [] ∧ r0 = 59 ∧ up4 n v1 := by
  unfold G_ac_runTimer at h
  split at h
  · exact ⟨_, _, rfl, rfl, h⟩
  · exact False.elim h
theorem EH_ac_runTimer (n : Nat) (c : mx_C) (m : mx_M) (v1 : Int32) : rx_ev L_ac_runTimer [(12, G_ac_runTimer n)] 48 (L_ac_runTimer.drop 6) (c, m) [some (.ref 59), some (.int v1)] [] = rw_v m (ac_runTimer_12 (n + 1) c v1) :=
  rx_ite2 (f := rw_v m) (fun _ => rfl) (fun _ => rx_ite2 (f := rw_v m) (fun _ => rfl) (fun _ => rx_ite2 (f := rw_v m) (fun _ => rfl) (fun _ => rx_ite2 (f := rw_v m) (fun _ => rfl) (fun _ => rfl))))
theorem SH_ac_runTimer (n : Nat) (c : mx_C) (m : mx_M) (v1 : Int32) (hP : up4 (n + 1) v1) : rx_sf L_ac_runTimer [(12, G_ac_runTimer n)] 48 (L_ac_runTimer.drop 6) (c, m) [some (.ref 59), some (.int v1)] [] :=
  And.intro (fun h0 => And.intro (And.intro rfl (up4_in h0 hP)) (And.intro rfl (up4_1 h0 hP))) (fun h0 => And.intro rfl (And.intro rfl (And.intro (fun h1 => And.intro rfl (And.intro rfl (And.intro (fun h => absurd h (by decide : ¬ ((0 : Int32) = 10))) (fun _ => trivial)))) (fun h1 => And.intro rfl (And.intro rfl (And.intro (fun h2 => And.intro rfl (And.intro rfl (And.intro (fun h => absurd h (by decide : ¬ ((0 : Int32) = 10))) (fun _ => trivial)))) (fun h2 => And.intro rfl (And.intro rfl (And.intro rfl (And.intro (fun h3 => And.intro rfl (And.intro rfl (And.intro rfl (trivial)))) (fun h3 => trivial)))))))))))
theorem E_ac_runTimer (c : mx_C) (m : mx_M)   : rx_ev L_ac_runTimer [(12, G_ac_runTimer (5))] 48 L_ac_runTimer (c, m) [some (.ref 59), none] [] = rw_v m (ac_runTimer c) :=
  rx_ite2 (f := rw_v m) (fun _ => rx_ite2 (f := rw_v m) (fun _ => rfl) (fun _ => rx_ite2 (f := rw_v m) (fun _ => rfl) (fun _ => rx_ite2 (f := rw_v m) (fun _ => rfl) (fun _ => rfl)))) (fun _ => rfl)
theorem S_ac_runTimer (c : mx_C) (m : mx_M)   : rx_sf L_ac_runTimer [(12, G_ac_runTimer (5))] 48 L_ac_runTimer (c, m) [some (.ref 59), none] [] :=
  And.intro rfl (And.intro rfl (And.intro (fun h0 => And.intro rfl (And.intro rfl (And.intro (fun h1 => And.intro rfl (And.intro rfl (And.intro (fun h => absurd h (by decide : ¬ ((0 : Int32) = 10))) (fun _ => trivial)))) (fun h1 => And.intro rfl (And.intro rfl (And.intro (fun h2 => And.intro rfl (And.intro rfl (And.intro (fun h => absurd h (by decide : ¬ ((0 : Int32) = 10))) (fun _ => trivial)))) (fun h2 => And.intro rfl (And.intro rfl (And.intro rfl (And.intro (fun h3 => And.intro rfl (And.intro rfl (And.intro rfl (trivial)))) (fun h3 => trivial))))))))))) (fun h0 => And.intro rfl (by decide))))
theorem cv_en_breaksAtTimer {p : Program} {l : Launch} {e : Env} {R : Room} {s : State} {m : MethodId} {args : Array Value} {below : List Frame} {meth : Method} {c : Code} {cc : ByteArray} {nL : Nat} {ad : Nat → Nat} {D : va_G} {g : Nat → ClassId} {B : Nat} {own : String} {idx : Nat} (X : ox_C p s m args c cc nL own D g ad B) (hV : rx_V l D g ad B ⟨"SubscriberLines$End", "breaksAtTimer", "()Z"⟩ prog_3_method_7_code 1 (some .boolean) 2 47 K_en_breaksAtTimer) (hl : Cond.methodLink own idx ⟨"SubscriberLines$End", "breaksAtTimer", "()Z"⟩ ∈ al) (hR : 2 + 1 ≤ R.frames ∧ 8 + (1 + 11) + 47 ≤ R.locals) : rx_OK p l e R s m args below meth c cc nL ad (mx_W D g ad B s.heap) mx_cs (.invokevirtual idx) 3 1 (K_en_breaksAtTimer) :=
  ox_callV (q := 8) (T := T_8) X hV (fun av x h => by obtain ⟨a0, rfl⟩ := k_R_inv h; exact ⟨a0, _, rfl, h⟩) (by decide) rfl hl (al_at 609 (by decide +kernel) rfl) (al_at 610 (by decide +kernel) rfl) (al_at 8 (by decide +kernel) rfl) (al_at 611 (by decide +kernel) rfl) ⟨by decide, by decide, by decide +kernel⟩ hR
theorem cv_ac_closeCircuit {p : Program} {l : Launch} {e : Env} {R : Room} {s : State} {m : MethodId} {args : Array Value} {below : List Frame} {meth : Method} {c : Code} {cc : ByteArray} {nL : Nat} {ad : Nat → Nat} {D : va_G} {g : Nat → ClassId} {B : Nat} {own : String} {idx : Nat} (X : ox_C p s m args c cc nL own D g ad B) (hV : rx_V l D g ad B ⟨"SubscriberLines$Access", "closeCircuit", "(I)V"⟩ prog_2_method_12_code 2 none 1 24 K_ac_closeCircuit) (hl : Cond.methodLink own idx ⟨"SubscriberLines$Access", "closeCircuit", "(I)V"⟩ ∈ al) (hR : 1 + 1 ≤ R.frames ∧ 8 + (2 + 11) + 24 ≤ R.locals) : rx_OK p l e R s m args below meth c cc nL ad (mx_W D g ad B s.heap) mx_cs (.invokevirtual idx) 3 2 (K_ac_closeCircuit) :=
  ox_callV (q := 5) (T := T_5) X hV (fun av x h => by obtain ⟨a0, a1, rfl⟩ := k_RI_inv h; exact ⟨a0, _, rfl, by have h2 : a0 = 59 := h.1; rw [h2]; rfl⟩) (by decide) rfl hl (al_at 495 (by decide +kernel) rfl) (al_pr (y := (⟨"SubscriberLines$Access", "closeCircuit", "(I)V"⟩, _)) 10 rfl) (al_at 7 (by decide +kernel) rfl) (al_at 496 (by decide +kernel) rfl) ⟨by decide, by decide, by decide +kernel⟩ hR
theorem og_ac_80_g {p : Program} {l : Launch} {e : Env} {R : Room} {s : State} {m : MethodId} {args : Array Value} {below : List Frame} {meth : Method} {c : Code} {cc : ByteArray} {nL : Nat} {ad : Nat → Nat} {D : va_G} {g : Nat → ClassId} {B : Nat} (X : ox_C p s m args c cc nL "SubscriberLines$Access" D g ad B) : rx_OK p l e R s m args below meth c cc nL ad (mx_W D g ad B s.heap) mx_cs (.getfield 80) 3 1 (kgi 8 3) := ox_gi (T := T_8) X rfl (by decide) (by decide) in_8 rfl (al_at 186 (by decide +kernel) rfl)
theorem og_ac_35_g {p : Program} {l : Launch} {e : Env} {R : Room} {s : State} {m : MethodId} {args : Array Value} {below : List Frame} {meth : Method} {c : Code} {cc : ByteArray} {nL : Nat} {ad : Nat → Nat} {D : va_G} {g : Nat → ClassId} {B : Nat} (X : ox_C p s m args c cc nL "SubscriberLines$Access" D g ad B) : rx_OK p l e R s m args below meth c cc nL ad (mx_W D g ad B s.heap) mx_cs (.getfield 35) 3 1 (kgi 5 5) := ox_gi (T := T_5) X rfl (by decide) (by decide) in_5 rfl (al_at 225 (by decide +kernel) rfl)
theorem ok_ac_runTimer : rx_okF prog_2_method_5_code 2 none L_ac_runTimer 0 L_ac_runTimer = true := by decide +kernel
theorem O_ac_runTimer {l : Launch} {D : va_G} {g : Nat → ClassId} {ad : Nat → Nat} {B : Nat} (had : mx_A ad B) {p : Program} {e : Env} {s : State} {m : MethodId} {args : Array Value} {below : List Frame} {meth : Method} {c : Code} (X : ox_C p s m args c prog_2_method_5_code 2 "SubscriberLines$Access" D g ad B) : rx_ops p l e ({ frames := 3, cells := 0, slots := 0, locals := 71 } : Room) s m args below meth c prog_2_method_5_code 2 ad (mx_W D g ad B s.heap) mx_cs L_ac_runTimer :=
  And.intro (og_ac_27_g X) (And.intro (cv_en_breaksAtTimer X (V_en_breaksAtTimer had) (al_at 608 (by decide +kernel) rfl) ⟨by decide, by decide⟩) (And.intro (cv_ac_closeCircuit X (V_ac_closeCircuit had) (al_at 493 (by decide +kernel) rfl) ⟨by decide, by decide⟩) (And.intro (og_ac_27_g X) (And.intro (og_ac_80_g X) (And.intro (og_ac_27_g X) (And.intro (cv_en_isEmpty X (V_en_isEmpty had) (al_at 613 (by decide +kernel) rfl) ⟨by decide, by decide⟩) (And.intro (og_ac_35_g X) (And.intro (og_ac_35_p X) (And.intro (og_ac_35_p X) (And.intro (og_ac_35_g X) (And.intro (og_ac_27_g X) (And.intro (cv_en_put X (V_en_put had) (al_at 499 (by decide +kernel) rfl) ⟨by decide, by decide⟩) (And.intro (og_ac_35_p X) (trivial))))))))))))))
theorem V_ac_runTimer {l : Launch} {D : va_G} {g : Nat → ClassId} {ad : Nat → Nat} {B : Nat} (had : mx_A ad B) : rx_V l D g ad B ⟨"SubscriberLines$Access", "runTimer", "()V"⟩ prog_2_method_5_code 2 none 3 71 K_ac_runTimer := by
  intro av x hp
  obtain ⟨a0, rfl⟩ := k_R_inv hp
  have hp : a0 = 59 := hp
  have h0 : a0 = 59 := hp
  subst h0
  refine rx_metX (k := 1) had (by decide) (Nat.le_of_ble_eq_true rfl) fun p e s m args below meth c X hr hlk => ?_
  refine rx_walk X hr hlk ok_ac_runTimer (O_ac_runTimer had X) (cut := [(12, G_ac_runTimer (5))]) (rx_cc ?_ rx_c0) 48 0 rfl (S_ac_runTimer x.1 x.2  ) (E_ac_runTimer x.1 x.2  )
  refine rx_loop (G := G_ac_runTimer) X hr hlk ok_ac_runTimer (O_ac_runTimer had X) rx_c0 48 6 rfl (fun x ls st h => ?_) (fun n x ls st h => ?_) _
  · obtain ⟨r0, v1, -, -, h3⟩ := GI_ac_runTimer h
    have h4 := h3.2
    omega
  · obtain ⟨r0, v1, rfl, rfl, h3⟩ := GI_ac_runTimer h
    obtain ⟨rfl, hP⟩ := h3
    exact ⟨SH_ac_runTimer n x.1 x.2 v1 hP, EH_ac_runTimer n x.1 x.2 v1⟩
def ac_join (c : mx_C) (a1 : Int32) : mx_C :=
  let c1 := ac_takeDown c a1
  let c2 := mx_pi c1 59 6 ((c1.1 59 6) + 1)
  let c3 := mx_pi c2 60 (Int32.toNatClampNeg a1) (c2.1 59 6)
  let q4 := fl_launch c3 2 4 a1
  let c5 := pk_bear q4.1 q4.2 (q4.1.1 59 6) 0 0
  if (c5.1 62 3) = 0 then
    let c6 := mx_pi c5 59 7 ((c5.1 59 7) + 1)
    let c7 := en_begin c6 62 (c6.1 59 7)
    let c8 := mx_pi c7 59 5 0
    let c9 := en_put c8 62 12 0 0
    let c10 := en_put c9 62 13 (c9.1 59 6) 0
    c10
  else
    let c11 := en_put c5 62 13 (c5.1 59 6) 0
    c11
def K_ac_join : rx_K mx := k_RI (fun a0 a1 c m => (a0 = 59 ∧ vp_in a1 4, (ac_join c a1, m), none))
def L_ac_join : List (rx_E mx) := [
  (0, .aload_n 0, 1, 0, 0, 0, [], kno),
  (1, .iload_n 1, 1, 0, 1, 0, [], kno),
  (2, .invokevirtual 90, 3, 7, 2, 0, [], K_ac_takeDown),
  (5, .aload_n 0, 1, 0, 0, 0, [], kno),
  (6, .dup, 1, 0, 0, 0, [], kno),
  (7, .getfield 93, 3, 7, 1, 0, [], kgi 5 6),
  (10, .iconst 1, 1, 0, 0, 1, [], kno),
  (11, .iadd, 1, 0, 0, 0, [], kno),
  (12, .putfield 93, 3, 7, 2, 0, [], kpi 5 6),
  (15, .aload_n 0, 1, 0, 0, 0, [], kno),
  (16, .getfield 9, 3, 7, 1, 0, [], kgr0 5 3 60),
  (19, .iload_n 1, 1, 0, 1, 0, [], kno),
  (20, .aload_n 0, 1, 0, 0, 0, [], kno),
  (21, .getfield 93, 3, 7, 1, 0, [], kgi 5 6),
  (24, .iastore, 1, 7, 3, 0, [], kpa),
  (25, .aload_n 0, 1, 0, 0, 0, [], kno),
  (26, .getfield 18, 3, 7, 1, 0, [], kgr0 5 1 1),
  (29, .iconst 2, 1, 0, 0, 2, [], kno),
  (30, .iconst 4, 1, 0, 0, 4, [], kno),
  (31, .iload_n 1, 1, 0, 1, 0, [], kno),
  (32, .invokevirtual 96, 3, 7, 4, 0, [], K_fl_launch),
  (35, .aload_n 0, 1, 0, 0, 0, [], kno),
  (36, .getfield 93, 3, 7, 1, 0, [], kgi 5 6),
  (39, .iconst 0, 1, 0, 0, 0, [], kno),
  (40, .iconst 0, 1, 0, 0, 0, [], kno),
  (41, .invokevirtual 102, 3, 7, 4, 0, [], K_pk_bear),
  (44, .aload_n 0, 1, 0, 0, 0, [], kno),
  (45, .getfield 27, 3, 7, 1, 0, [], kgr0 5 2 62),
  (48, .getfield 80, 3, 7, 1, 0, [], kgi 8 3),
  (51, .ifCond .ne 40, 3, 2, 50, 0, [], kno),
  (54, .aload_n 0, 1, 0, 0, 0, [], kno),
  (55, .dup, 1, 0, 0, 0, [], kno),
  (56, .getfield 105, 3, 7, 1, 0, [], kgi 5 7),
  (59, .iconst 1, 1, 0, 0, 1, [], kno),
  (60, .iadd, 1, 0, 0, 0, [], kno),
  (61, .putfield 105, 3, 7, 2, 0, [], kpi 5 7),
  (64, .aload_n 0, 1, 0, 0, 0, [], kno),
  (65, .getfield 27, 3, 7, 1, 0, [], kgr0 5 2 62),
  (68, .aload_n 0, 1, 0, 0, 0, [], kno),
  (69, .getfield 105, 3, 7, 1, 0, [], kgi 5 7),
  (72, .invokevirtual 31, 3, 7, 2, 0, [], K_en_begin),
  (75, .aload_n 0, 1, 0, 0, 0, [], kno),
  (76, .iconst 0, 1, 0, 0, 0, [], kno),
  (77, .putfield 35, 3, 7, 2, 0, [], kpi 5 5),
  (80, .aload_n 0, 1, 0, 0, 0, [], kno),
  (81, .getfield 27, 3, 7, 1, 0, [], kgr0 5 2 62),
  (84, .bipush 12, 2, 0, 0, 12, [], kno),
  (86, .iconst 0, 1, 0, 0, 0, [], kno),
  (87, .iconst 0, 1, 0, 0, 0, [], kno),
  (88, .invokevirtual 86, 3, 7, 4, 0, [], K_en_put),
  (91, .aload_n 0, 1, 0, 0, 0, [], kno),
  (92, .getfield 27, 3, 7, 1, 0, [], kgr0 5 2 62),
  (95, .bipush 13, 2, 0, 0, 13, [], kno),
  (97, .aload_n 0, 1, 0, 0, 0, [], kno),
  (98, .getfield 93, 3, 7, 1, 0, [], kgi 5 6),
  (101, .iconst 0, 1, 0, 0, 0, [], kno),
  (102, .invokevirtual 86, 3, 7, 4, 0, [], K_en_put),
  (105, .return_, 1, 6, 0, 0, [], kno)]
theorem E_ac_join (c : mx_C) (m : mx_M) (a1 : Int32)  : rx_ev L_ac_join [] 60 L_ac_join (c, m) [some (.ref 59), some (.int a1)] [] = rw_v m (ac_join c a1) :=
  rx_ite2 (f := rw_v m) (fun _ => rfl) (fun _ => rfl)
theorem S_ac_join (c : mx_C) (m : mx_M) (a1 : Int32) (hs : vp_in a1 4) : rx_sf L_ac_join [] 60 L_ac_join (c, m) [some (.ref 59), some (.int a1)] [] :=
  And.intro (And.intro rfl hs) (And.intro rfl (And.intro rfl (And.intro rfl (And.intro rfl (And.intro hs (And.intro rfl (And.intro rfl (And.intro rfl (And.intro (fl_launch_pk _ _ _ _) (And.intro rfl (And.intro rfl (And.intro (fun h0 => And.intro rfl (And.intro rfl (And.intro rfl (And.intro rfl (And.intro rfl (And.intro rfl (And.intro rfl (And.intro rfl (And.intro rfl (And.intro rfl (And.intro rfl (trivial)))))))))))) (fun h0 => And.intro rfl (And.intro rfl (And.intro rfl (trivial))))))))))))))))

theorem cv_ac_takeDown {p : Program} {l : Launch} {e : Env} {R : Room} {s : State} {m : MethodId} {args : Array Value} {below : List Frame} {meth : Method} {c : Code} {cc : ByteArray} {nL : Nat} {ad : Nat → Nat} {D : va_G} {g : Nat → ClassId} {B : Nat} {own : String} {idx : Nat} (X : ox_C p s m args c cc nL own D g ad B) (hV : rx_V l D g ad B ⟨"SubscriberLines$Access", "takeDown", "(I)V"⟩ prog_2_method_11_code 3 none 3 71 K_ac_takeDown) (hl : Cond.methodLink own idx ⟨"SubscriberLines$Access", "takeDown", "(I)V"⟩ ∈ al) (hR : 3 + 1 ≤ R.frames ∧ 8 + (3 + 11) + 71 ≤ R.locals) : rx_OK p l e R s m args below meth c cc nL ad (mx_W D g ad B s.heap) mx_cs (.invokevirtual idx) 3 2 (K_ac_takeDown) :=
  ox_callV (q := 5) (T := T_5) X hV (fun av x h => by obtain ⟨a0, a1, rfl⟩ := k_RI_inv h; exact ⟨a0, _, rfl, by have h2 : a0 = 59 := h.1; rw [h2]; rfl⟩) (by decide) rfl hl (al_at 518 (by decide +kernel) rfl) (al_pr (y := (⟨"SubscriberLines$Access", "takeDown", "(I)V"⟩, _)) 13 rfl) (al_at 7 (by decide +kernel) rfl) (al_at 519 (by decide +kernel) rfl) ⟨by decide, by decide, by decide +kernel⟩ hR
theorem og_ac_93_g {p : Program} {l : Launch} {e : Env} {R : Room} {s : State} {m : MethodId} {args : Array Value} {below : List Frame} {meth : Method} {c : Code} {cc : ByteArray} {nL : Nat} {ad : Nat → Nat} {D : va_G} {g : Nat → ClassId} {B : Nat} (X : ox_C p s m args c cc nL "SubscriberLines$Access" D g ad B) : rx_OK p l e R s m args below meth c cc nL ad (mx_W D g ad B s.heap) mx_cs (.getfield 93) 3 1 (kgi 5 6) := ox_gi (T := T_5) X rfl (by decide) (by decide) in_5 rfl (al_at 226 (by decide +kernel) rfl)
theorem og_ac_93_p {p : Program} {l : Launch} {e : Env} {R : Room} {s : State} {m : MethodId} {args : Array Value} {below : List Frame} {meth : Method} {c : Code} {cc : ByteArray} {nL : Nat} {ad : Nat → Nat} {D : va_G} {g : Nat → ClassId} {B : Nat} (X : ox_C p s m args c cc nL "SubscriberLines$Access" D g ad B) : rx_OK p l e R s m args below meth c cc nL ad (mx_W D g ad B s.heap) mx_cs (.putfield 93) 3 2 (kpi 5 6) := ox_pi (T := T_5) X rfl (by decide) (by decide) in_5 rfl ty_5 ty_5_ok nm_5 rfl rfl rfl (al_at 226 (by decide +kernel) rfl)
theorem og_ac_105_g {p : Program} {l : Launch} {e : Env} {R : Room} {s : State} {m : MethodId} {args : Array Value} {below : List Frame} {meth : Method} {c : Code} {cc : ByteArray} {nL : Nat} {ad : Nat → Nat} {D : va_G} {g : Nat → ClassId} {B : Nat} (X : ox_C p s m args c cc nL "SubscriberLines$Access" D g ad B) : rx_OK p l e R s m args below meth c cc nL ad (mx_W D g ad B s.heap) mx_cs (.getfield 105) 3 1 (kgi 5 7) := ox_gi (T := T_5) X rfl (by decide) (by decide) in_5 rfl (al_at 227 (by decide +kernel) rfl)
theorem og_ac_105_p {p : Program} {l : Launch} {e : Env} {R : Room} {s : State} {m : MethodId} {args : Array Value} {below : List Frame} {meth : Method} {c : Code} {cc : ByteArray} {nL : Nat} {ad : Nat → Nat} {D : va_G} {g : Nat → ClassId} {B : Nat} (X : ox_C p s m args c cc nL "SubscriberLines$Access" D g ad B) : rx_OK p l e R s m args below meth c cc nL ad (mx_W D g ad B s.heap) mx_cs (.putfield 105) 3 2 (kpi 5 7) := ox_pi (T := T_5) X rfl (by decide) (by decide) in_5 rfl ty_5 ty_5_ok nm_5 rfl rfl rfl (al_at 227 (by decide +kernel) rfl)
theorem ok_ac_join : rx_okF prog_2_method_6_code 2 none L_ac_join 0 L_ac_join = true := by decide +kernel
theorem V_ac_join {l : Launch} {D : va_G} {g : Nat → ClassId} {ad : Nat → Nat} {B : Nat} (had : mx_A ad B) : rx_V l D g ad B ⟨"SubscriberLines$Access", "join", "(I)V"⟩ prog_2_method_6_code 2 none 4 93 K_ac_join := by
  intro av x hp
  obtain ⟨a0, a1, rfl⟩ := k_RI_inv hp
  have hp : a0 = 59 ∧ vp_in a1 4 := hp
  have h0 : a0 = 59 := hp.1
  subst h0
  exact rx_met (k := 0) had (by decide) (Nat.le_of_ble_eq_true rfl) ok_ac_join rfl rfl 60 (fun p e s m args below meth c X => And.intro (cv_ac_takeDown X (V_ac_takeDown had) (al_at 516 (by decide +kernel) rfl) ⟨by decide, by decide⟩) (And.intro (og_ac_93_g X) (And.intro (og_ac_93_p X) (And.intro (og_ac_9_g X) (And.intro (og_ac_93_g X) (And.intro (ox_pa X) (And.intro (og_ac_18_g X) (And.intro (cv_fl_launch X (V_fl_launch had) (al_at 497 (by decide +kernel) rfl) ⟨by decide, by decide⟩) (And.intro (og_ac_93_g X) (And.intro (cv_pk_bear X (V_pk_bear had) (al_at 498 (by decide +kernel) rfl) ⟨by decide, by decide⟩) (And.intro (og_ac_27_g X) (And.intro (og_ac_80_g X) (And.intro (og_ac_105_g X) (And.intro (og_ac_105_p X) (And.intro (og_ac_27_g X) (And.intro (og_ac_105_g X) (And.intro (cv_en_begin X (V_en_begin had) (al_at 423 (by decide +kernel) rfl) ⟨by decide, by decide⟩) (And.intro (og_ac_35_p X) (And.intro (og_ac_27_g X) (And.intro (cv_en_put X (V_en_put had) (al_at 499 (by decide +kernel) rfl) ⟨by decide, by decide⟩) (And.intro (og_ac_27_g X) (And.intro (og_ac_93_g X) (And.intro (cv_en_put X (V_en_put had) (al_at 499 (by decide +kernel) rfl) ⟨by decide, by decide⟩) (trivial)))))))))))))))))))))))) (S_ac_join x.1 x.2 a1 hp.2) (E_ac_join x.1 x.2 a1)
/-- a packet that no sending takes: none of the places that a sending may take holds it -/
def pk_safe (c : mx_C) (p : Nat) : Prop := ¬ p = 3 ∧ ∀ j : Nat, j < 40 → ¬ 4 + (c.2.1 j).val = p
theorem fl_launch_cell (c : mx_C) (k a b : Int32) {i : Nat} (h3 : ¬ i = 3) (h : ∀ j : Nat, j < 40 → ¬ 4 + (c.2.1 j).val = i) : (fl_launch c k a b).1.1 i = c.1 i := by
  unfold fl_launch
  split
  · rename_i hc
    have hc2 : c.2.2.2.1.val < 40 := by
      rw [i_lt, i_of _ (by omega)] at hc
      have hc : (c.2.2.2.1.val : Int) < 40 := hc
      omega
    have e : Int32.toNatClampNeg (Int32.ofNat c.2.2.2.1.val) = c.2.2.2.1.val := Int32.toNatClampNeg_ofNat_of_lt (by omega)
    have hn := h _ hc2
    simp only [mx_pi, mx_pf, e]
    repeat rw [mx_up_row _ _ _ _ (fun q => hn q.symm)]
  · simp only [mx_pi]
    repeat rw [mx_up_row _ _ _ _ h3]
def ac_rcP (c : mx_C) (p : Nat) : Prop := vp_in (c.1 p 1) 4 ∧ pk_safe c p
theorem ac_rc1 {c : mx_C} {p : Nat} (h : ac_rcP c p) (k a b : Int32) : vp_in ((fl_launch c k a b).1.1 p 1) 4 := by
  rw [fl_launch_cell c k a b h.2.1 h.2.2]
  exact h.1
def ac_reP (c : mx_C) (p : Nat) : Prop := c.1 p 0 < 12 → ¬ c.1 p 1 = 5 → ac_rcP c p
def ac_receiveOnCircuit (c : mx_C) (a1 : Nat) : mx_C :=
  if (c.1 a1 0) = 3 then
    let c1 := ac_takeDown c (c.1 a1 1)
    c1
  else
    if (c.1 61 (Int32.toNatClampNeg (c.1 a1 1))) = 0 then
      c
    else
      let q2 := fl_launch c (c.1 a1 0) 4 5
      let c3 := pk_bear q2.1 q2.2 (q2.1.1 61 (Int32.toNatClampNeg (q2.1.1 a1 1))) (q2.1.1 a1 4) (q2.1.1 a1 5)
      c3
def K_ac_receiveOnCircuit : rx_K mx := k_RR (fun a0 a1 c m => (a0 = 59 ∧ mx_kl a1 = 2 ∧ ac_rcP c a1, (ac_receiveOnCircuit c a1, m), none))
def L_ac_receiveOnCircuit : List (rx_E mx) := [
  (0, .aload_n 1, 1, 0, 1, 0, [], kno),
  (1, .getfield 42, 3, 7, 1, 0, [], kgi 2 0),
  (4, .iconst 3, 1, 0, 0, 3, [], kno),
  (5, .if_icmp .ne 14, 3, 2, 9, 0, [], kno),
  (8, .aload_n 0, 1, 0, 0, 0, [], kno),
  (9, .aload_n 1, 1, 0, 1, 0, [], kno),
  (10, .getfield 58, 3, 7, 1, 0, [], kgi 2 1),
  (13, .invokevirtual 90, 3, 7, 2, 0, [], K_ac_takeDown),
  (16, .goto 48, 3, 1, 32, 0, [], kno),
  (19, .aload_n 0, 1, 0, 0, 0, [], kno),
  (20, .getfield 15, 3, 7, 1, 0, [], kgr0 5 4 61),
  (23, .aload_n 1, 1, 0, 1, 0, [], kno),
  (24, .getfield 58, 3, 7, 1, 0, [], kgi 2 1),
  (27, .iaload, 1, 7, 2, 0, [], kai),
  (28, .ifCond .eq 36, 3, 2, 32, 0, [], kno),
  (31, .aload_n 0, 1, 0, 0, 0, [], kno),
  (32, .getfield 18, 3, 7, 1, 0, [], kgr0 5 1 1),
  (35, .aload_n 1, 1, 0, 1, 0, [], kno),
  (36, .getfield 42, 3, 7, 1, 0, [], kgi 2 0),
  (39, .iconst 4, 1, 0, 0, 4, [], kno),
  (40, .iconst 5, 1, 0, 0, 5, [], kno),
  (41, .invokevirtual 96, 3, 7, 4, 0, [], K_fl_launch),
  (44, .aload_n 0, 1, 0, 0, 0, [], kno),
  (45, .getfield 15, 3, 7, 1, 0, [], kgr0 5 4 61),
  (48, .aload_n 1, 1, 0, 1, 0, [], kno),
  (49, .getfield 58, 3, 7, 1, 0, [], kgi 2 1),
  (52, .iaload, 1, 7, 2, 0, [], kai),
  (53, .aload_n 1, 1, 0, 1, 0, [], kno),
  (54, .getfield 108, 3, 7, 1, 0, [], kgi 2 4),
  (57, .aload_n 1, 1, 0, 1, 0, [], kno),
  (58, .getfield 111, 3, 7, 1, 0, [], kgi 2 5),
  (61, .invokevirtual 102, 3, 7, 4, 0, [], K_pk_bear),
  (64, .return_, 1, 6, 0, 0, [], kno)]
theorem E_ac_receiveOnCircuit (c : mx_C) (m : mx_M) (a1 : Nat)  : rx_ev L_ac_receiveOnCircuit [] 35 L_ac_receiveOnCircuit (c, m) [some (.ref 59), some (.ref a1)] [] = rw_v m (ac_receiveOnCircuit c a1) :=
  rx_ite2 (f := rw_v m) (fun _ => rfl) (fun _ => rx_ite2 (f := rw_v m) (fun _ => rfl) (fun _ => rfl))
theorem S_ac_receiveOnCircuit (c : mx_C) (m : mx_M) (a1 : Nat) (ha1 : mx_kl a1 = 2) (hr : ac_rcP c a1) : rx_sf L_ac_receiveOnCircuit [] 35 L_ac_receiveOnCircuit (c, m) [some (.ref 59), some (.ref a1)] [] :=
  And.intro ha1 (And.intro (fun h0 => And.intro ha1 (And.intro (And.intro rfl hr.1) (trivial))) (fun h0 => And.intro rfl (And.intro ha1 (And.intro hr.1 (And.intro (fun h1 => trivial) (fun h1 => And.intro rfl (And.intro ha1 (And.intro rfl (And.intro rfl (And.intro ha1 (And.intro (ac_rc1 hr _ _ _) (And.intro ha1 (And.intro ha1 (And.intro (fl_launch_pk _ _ _ _) (trivial)))))))))))))))

theorem og_ac_42_g {p : Program} {l : Launch} {e : Env} {R : Room} {s : State} {m : MethodId} {args : Array Value} {below : List Frame} {meth : Method} {c : Code} {cc : ByteArray} {nL : Nat} {ad : Nat → Nat} {D : va_G} {g : Nat → ClassId} {B : Nat} (X : ox_C p s m args c cc nL "SubscriberLines$Access" D g ad B) : rx_OK p l e R s m args below meth c cc nL ad (mx_W D g ad B s.heap) mx_cs (.getfield 42) 3 1 (kgi 2 0) := ox_gi (T := T_2) X rfl (by decide) (by decide) in_2 rfl (al_at 35 (by decide +kernel) rfl)
theorem og_ac_58_g {p : Program} {l : Launch} {e : Env} {R : Room} {s : State} {m : MethodId} {args : Array Value} {below : List Frame} {meth : Method} {c : Code} {cc : ByteArray} {nL : Nat} {ad : Nat → Nat} {D : va_G} {g : Nat → ClassId} {B : Nat} (X : ox_C p s m args c cc nL "SubscriberLines$Access" D g ad B) : rx_OK p l e R s m args below meth c cc nL ad (mx_W D g ad B s.heap) mx_cs (.getfield 58) 3 1 (kgi 2 1) := ox_gi (T := T_2) X rfl (by decide) (by decide) in_2 rfl (al_at 41 (by decide +kernel) rfl)
theorem og_ac_108_g {p : Program} {l : Launch} {e : Env} {R : Room} {s : State} {m : MethodId} {args : Array Value} {below : List Frame} {meth : Method} {c : Code} {cc : ByteArray} {nL : Nat} {ad : Nat → Nat} {D : va_G} {g : Nat → ClassId} {B : Nat} (X : ox_C p s m args c cc nL "SubscriberLines$Access" D g ad B) : rx_OK p l e R s m args below meth c cc nL ad (mx_W D g ad B s.heap) mx_cs (.getfield 108) 3 1 (kgi 2 4) := ox_gi (T := T_2) X rfl (by decide) (by decide) in_2 rfl (al_at 53 (by decide +kernel) rfl)
theorem og_ac_111_g {p : Program} {l : Launch} {e : Env} {R : Room} {s : State} {m : MethodId} {args : Array Value} {below : List Frame} {meth : Method} {c : Code} {cc : ByteArray} {nL : Nat} {ad : Nat → Nat} {D : va_G} {g : Nat → ClassId} {B : Nat} (X : ox_C p s m args c cc nL "SubscriberLines$Access" D g ad B) : rx_OK p l e R s m args below meth c cc nL ad (mx_W D g ad B s.heap) mx_cs (.getfield 111) 3 1 (kgi 2 5) := ox_gi (T := T_2) X rfl (by decide) (by decide) in_2 rfl (al_at 58 (by decide +kernel) rfl)
theorem ok_ac_receiveOnCircuit : rx_okF prog_2_method_7_code 2 none L_ac_receiveOnCircuit 0 L_ac_receiveOnCircuit = true := by decide +kernel
theorem V_ac_receiveOnCircuit {l : Launch} {D : va_G} {g : Nat → ClassId} {ad : Nat → Nat} {B : Nat} (had : mx_A ad B) : rx_V l D g ad B ⟨"SubscriberLines$Access", "receiveOnCircuit", "(LSubscriberLines$Packet;)V"⟩ prog_2_method_7_code 2 none 4 93 K_ac_receiveOnCircuit := by
  intro av x hp
  obtain ⟨a0, a1, rfl⟩ := k_RR_inv hp
  have hp : a0 = 59 ∧ mx_kl a1 = 2 ∧ ac_rcP x.1 a1 := hp
  have h0 : a0 = 59 := hp.1
  subst h0
  exact rx_met (k := 0) had (by decide) (Nat.le_of_ble_eq_true rfl) ok_ac_receiveOnCircuit rfl rfl 35 (fun p e s m args below meth c X => And.intro (og_ac_42_g X) (And.intro (og_ac_58_g X) (And.intro (cv_ac_takeDown X (V_ac_takeDown had) (al_at 516 (by decide +kernel) rfl) ⟨by decide, by decide⟩) (And.intro (og_ac_15_g X) (And.intro (og_ac_58_g X) (And.intro (ox_ai X) (And.intro (og_ac_18_g X) (And.intro (og_ac_42_g X) (And.intro (cv_fl_launch X (V_fl_launch had) (al_at 497 (by decide +kernel) rfl) ⟨by decide, by decide⟩) (And.intro (og_ac_15_g X) (And.intro (og_ac_58_g X) (And.intro (ox_ai X) (And.intro (og_ac_108_g X) (And.intro (og_ac_111_g X) (And.intro (cv_pk_bear X (V_pk_bear had) (al_at 498 (by decide +kernel) rfl) ⟨by decide, by decide⟩) (trivial)))))))))))))))) (S_ac_receiveOnCircuit x.1 x.2 a1 hp.2.1 hp.2.2) (E_ac_receiveOnCircuit x.1 x.2 a1)
def ac_passToSubscriber (c : mx_C) (a1 : Nat) : mx_C :=
  if (ac_subscriberOf c (c.1 a1 3)) < 0 then
    c
  else
    let q1 := fl_launch c (c.1 a1 0) 4 (ac_subscriberOf c (c.1 a1 3))
    let c2 := pk_bear q1.1 q1.2 (q1.1.1 a1 3) (q1.1.1 a1 4) (q1.1.1 a1 5)
    c2
def K_ac_passToSubscriber : rx_K mx := k_RR (fun a0 a1 c m => (a0 = 59 ∧ mx_kl a1 = 2, (ac_passToSubscriber c a1, m), none))
def L_ac_passToSubscriber : List (rx_E mx) := [
  (0, .aload_n 0, 1, 0, 0, 0, [], kno),
  (1, .aload_n 1, 1, 0, 1, 0, [], kno),
  (2, .getfield 67, 3, 7, 1, 0, [], kgi 2 3),
  (5, .invokevirtual 114, 3, 7, 2, 0, [], K_ac_subscriberOf),
  (8, .istore_n 2, 1, 0, 2, 0, [], kno),
  (9, .iload_n 2, 1, 0, 2, 0, [], kno),
  (10, .ifCond .lt 31, 3, 2, 21, 0, [], kno),
  (13, .aload_n 0, 1, 0, 0, 0, [], kno),
  (14, .getfield 18, 3, 7, 1, 0, [], kgr0 5 1 1),
  (17, .aload_n 1, 1, 0, 1, 0, [], kno),
  (18, .getfield 42, 3, 7, 1, 0, [], kgi 2 0),
  (21, .iconst 4, 1, 0, 0, 4, [], kno),
  (22, .iload_n 2, 1, 0, 2, 0, [], kno),
  (23, .invokevirtual 96, 3, 7, 4, 0, [], K_fl_launch),
  (26, .aload_n 1, 1, 0, 1, 0, [], kno),
  (27, .getfield 67, 3, 7, 1, 0, [], kgi 2 3),
  (30, .aload_n 1, 1, 0, 1, 0, [], kno),
  (31, .getfield 108, 3, 7, 1, 0, [], kgi 2 4),
  (34, .aload_n 1, 1, 0, 1, 0, [], kno),
  (35, .getfield 111, 3, 7, 1, 0, [], kgi 2 5),
  (38, .invokevirtual 102, 3, 7, 4, 0, [], K_pk_bear),
  (41, .return_, 1, 6, 0, 0, [], kno)]
theorem E_ac_passToSubscriber (c : mx_C) (m : mx_M) (a1 : Nat)  : rx_ev L_ac_passToSubscriber [] 24 L_ac_passToSubscriber (c, m) [some (.ref 59), some (.ref a1), none] [] = rw_v m (ac_passToSubscriber c a1) :=
  rx_ite2 (f := rw_v m) (fun _ => rfl) (fun _ => rfl)
theorem S_ac_passToSubscriber (c : mx_C) (m : mx_M) (a1 : Nat) (ha1 : mx_kl a1 = 2) : rx_sf L_ac_passToSubscriber [] 24 L_ac_passToSubscriber (c, m) [some (.ref 59), some (.ref a1), none] [] :=
  And.intro ha1 (And.intro rfl (And.intro (fun h0 => trivial) (fun h0 => And.intro rfl (And.intro ha1 (And.intro rfl (And.intro ha1 (And.intro ha1 (And.intro ha1 (And.intro (fl_launch_pk _ _ _ _) (trivial))))))))))

theorem og_ac_67_g {p : Program} {l : Launch} {e : Env} {R : Room} {s : State} {m : MethodId} {args : Array Value} {below : List Frame} {meth : Method} {c : Code} {cc : ByteArray} {nL : Nat} {ad : Nat → Nat} {D : va_G} {g : Nat → ClassId} {B : Nat} (X : ox_C p s m args c cc nL "SubscriberLines$Access" D g ad B) : rx_OK p l e R s m args below meth c cc nL ad (mx_W D g ad B s.heap) mx_cs (.getfield 67) 3 1 (kgi 2 3) := ox_gi (T := T_2) X rfl (by decide) (by decide) in_2 rfl (al_at 48 (by decide +kernel) rfl)
theorem cv_ac_subscriberOf {p : Program} {l : Launch} {e : Env} {R : Room} {s : State} {m : MethodId} {args : Array Value} {below : List Frame} {meth : Method} {c : Code} {cc : ByteArray} {nL : Nat} {ad : Nat → Nat} {D : va_G} {g : Nat → ClassId} {B : Nat} {own : String} {idx : Nat} (X : ox_C p s m args c cc nL own D g ad B) (hV : rx_V l D g ad B ⟨"SubscriberLines$Access", "subscriberOf", "(I)I"⟩ prog_2_method_10_code 3 (some .int) 0 0 K_ac_subscriberOf) (hl : Cond.methodLink own idx ⟨"SubscriberLines$Access", "subscriberOf", "(I)I"⟩ ∈ al) (hR : 0 + 1 ≤ R.frames ∧ 8 + (3 + 11) + 0 ≤ R.locals) : rx_OK p l e R s m args below meth c cc nL ad (mx_W D g ad B s.heap) mx_cs (.invokevirtual idx) 3 2 (K_ac_subscriberOf) :=
  ox_callV (q := 5) (T := T_5) X hV (fun av x h => by obtain ⟨a0, a1, rfl⟩ := k_RI_inv h; exact ⟨a0, _, rfl, by have h2 : a0 = 59 := h; rw [h2]; rfl⟩) (by decide) rfl hl (al_at 491 (by decide +kernel) rfl) (al_pr (y := (⟨"SubscriberLines$Access", "subscriberOf", "(I)I"⟩, _)) 9 rfl) (al_at 7 (by decide +kernel) rfl) (al_at 492 (by decide +kernel) rfl) ⟨by decide, by decide, by decide +kernel⟩ hR
theorem ok_ac_passToSubscriber : rx_okF prog_2_method_8_code 3 none L_ac_passToSubscriber 0 L_ac_passToSubscriber = true := by decide +kernel
theorem V_ac_passToSubscriber {l : Launch} {D : va_G} {g : Nat → ClassId} {ad : Nat → Nat} {B : Nat} (had : mx_A ad B) : rx_V l D g ad B ⟨"SubscriberLines$Access", "passToSubscriber", "(LSubscriberLines$Packet;)V"⟩ prog_2_method_8_code 3 none 1 24 K_ac_passToSubscriber := by
  intro av x hp
  obtain ⟨a0, a1, rfl⟩ := k_RR_inv hp
  have hp : a0 = 59 ∧ mx_kl a1 = 2 := hp
  have h0 : a0 = 59 := hp.1
  subst h0
  exact rx_met (k := 1) had (by decide) (Nat.le_of_ble_eq_true rfl) ok_ac_passToSubscriber rfl rfl 24 (fun p e s m args below meth c X => And.intro (og_ac_67_g X) (And.intro (cv_ac_subscriberOf X (V_ac_subscriberOf had) (al_at 489 (by decide +kernel) rfl) ⟨by decide, by decide⟩) (And.intro (og_ac_18_g X) (And.intro (og_ac_42_g X) (And.intro (cv_fl_launch X (V_fl_launch had) (al_at 497 (by decide +kernel) rfl) ⟨by decide, by decide⟩) (And.intro (og_ac_67_g X) (And.intro (og_ac_108_g X) (And.intro (og_ac_111_g X) (And.intro (cv_pk_bear X (V_pk_bear had) (al_at 498 (by decide +kernel) rfl) ⟨by decide, by decide⟩) (trivial)))))))))) (S_ac_passToSubscriber x.1 x.2 a1 hp.2) (E_ac_passToSubscriber x.1 x.2 a1)
def ac_perform (c : mx_C) (a1 : Nat) : mx_C :=
  if (c.1 a1 0) = 15 then
    if (ac_subscriberOf c (c.1 a1 3)) < 0 then
      if (c.1 a1 0) = 14 then
        if (ac_subscriberOf c (c.1 a1 3)) < 0 then
          if (c.1 a1 0) = 14 then
            let c1 := en_put c 62 15 (c.1 a1 4) 0
            c1
          else
            c
        else
          let c2 := mx_pi c 61 (Int32.toNatClampNeg (ac_subscriberOf c (c.1 a1 3))) (c.1 a1 4)
          c2
      else
        if (c.1 a1 0) = 14 then
          let c3 := en_put c 62 15 (c.1 a1 4) 0
          c3
        else
          c
    else
      let c4 := ac_closeCircuit c (ac_subscriberOf c (c.1 a1 3))
      c4
  else
    if (c.1 a1 0) = 14 then
      if (ac_subscriberOf c (c.1 a1 3)) < 0 then
        if (c.1 a1 0) = 14 then
          let c5 := en_put c 62 15 (c.1 a1 4) 0
          c5
        else
          c
      else
        let c6 := mx_pi c 61 (Int32.toNatClampNeg (ac_subscriberOf c (c.1 a1 3))) (c.1 a1 4)
        c6
    else
      if (c.1 a1 0) = 14 then
        let c7 := en_put c 62 15 (c.1 a1 4) 0
        c7
      else
        c
def K_ac_perform : rx_K mx := k_RR (fun a0 a1 c m => (a0 = 59 ∧ mx_kl a1 = 2, (ac_perform c a1, m), none))
def L_ac_perform : List (rx_E mx) := [
  (0, .aload_n 0, 1, 0, 0, 0, [], kno),
  (1, .aload_n 1, 1, 0, 1, 0, [], kno),
  (2, .getfield 67, 3, 7, 1, 0, [], kgi 2 3),
  (5, .invokevirtual 114, 3, 7, 2, 0, [], K_ac_subscriberOf),
  (8, .istore_n 2, 1, 0, 2, 0, [], kno),
  (9, .aload_n 1, 1, 0, 1, 0, [], kno),
  (10, .getfield 42, 3, 7, 1, 0, [], kgi 2 0),
  (13, .bipush 15, 2, 0, 0, 15, [], kno),
  (15, .if_icmp .ne 15, 3, 2, 15, 0, [], kno),
  (18, .iload_n 2, 1, 0, 2, 0, [], kno),
  (19, .ifCond .lt 11, 3, 2, 15, 0, [], kno),
  (22, .aload_n 0, 1, 0, 0, 0, [], kno),
  (23, .iload_n 2, 1, 0, 2, 0, [], kno),
  (24, .invokevirtual 77, 3, 7, 2, 0, [], K_ac_closeCircuit),
  (27, .goto 52, 3, 1, 39, 0, [], kno),
  (30, .aload_n 1, 1, 0, 1, 0, [], kno),
  (31, .getfield 42, 3, 7, 1, 0, [], kgi 2 0),
  (34, .bipush 14, 2, 0, 0, 14, [], kno),
  (36, .if_icmp .ne 20, 3, 2, 28, 0, [], kno),
  (39, .iload_n 2, 1, 0, 2, 0, [], kno),
  (40, .ifCond .lt 16, 3, 2, 28, 0, [], kno),
  (43, .aload_n 0, 1, 0, 0, 0, [], kno),
  (44, .getfield 15, 3, 7, 1, 0, [], kgr0 5 4 61),
  (47, .iload_n 2, 1, 0, 2, 0, [], kno),
  (48, .aload_n 1, 1, 0, 1, 0, [], kno),
  (49, .getfield 108, 3, 7, 1, 0, [], kgi 2 4),
  (52, .iastore, 1, 7, 3, 0, [], kpa),
  (53, .goto 26, 3, 1, 39, 0, [], kno),
  (56, .aload_n 1, 1, 0, 1, 0, [], kno),
  (57, .getfield 42, 3, 7, 1, 0, [], kgi 2 0),
  (60, .bipush 14, 2, 0, 0, 14, [], kno),
  (62, .if_icmp .ne 17, 3, 2, 39, 0, [], kno),
  (65, .aload_n 0, 1, 0, 0, 0, [], kno),
  (66, .getfield 27, 3, 7, 1, 0, [], kgr0 5 2 62),
  (69, .bipush 15, 2, 0, 0, 15, [], kno),
  (71, .aload_n 1, 1, 0, 1, 0, [], kno),
  (72, .getfield 108, 3, 7, 1, 0, [], kgi 2 4),
  (75, .iconst 0, 1, 0, 0, 0, [], kno),
  (76, .invokevirtual 86, 3, 7, 4, 0, [], K_en_put),
  (79, .return_, 1, 6, 0, 0, [], kno)]
theorem E_ac_perform (c : mx_C) (m : mx_M) (a1 : Nat)  : rx_ev L_ac_perform [] 42 L_ac_perform (c, m) [some (.ref 59), some (.ref a1), none] [] = rw_v m (ac_perform c a1) :=
  rx_ite2 (f := rw_v m) (fun _ => rx_ite2 (f := rw_v m) (fun _ => rx_ite2 (f := rw_v m) (fun _ => rx_ite2 (f := rw_v m) (fun _ => rx_ite2 (f := rw_v m) (fun _ => rfl) (fun _ => rfl)) (fun _ => rfl)) (fun _ => rx_ite2 (f := rw_v m) (fun _ => rfl) (fun _ => rfl))) (fun _ => rfl)) (fun _ => rx_ite2 (f := rw_v m) (fun _ => rx_ite2 (f := rw_v m) (fun _ => rx_ite2 (f := rw_v m) (fun _ => rfl) (fun _ => rfl)) (fun _ => rfl)) (fun _ => rx_ite2 (f := rw_v m) (fun _ => rfl) (fun _ => rfl)))
theorem S_ac_perform (c : mx_C) (m : mx_M) (a1 : Nat) (ha1 : mx_kl a1 = 2) : rx_sf L_ac_perform [] 42 L_ac_perform (c, m) [some (.ref 59), some (.ref a1), none] [] :=
  And.intro ha1 (And.intro rfl (And.intro ha1 (And.intro (fun h0 => And.intro (fun h1 => And.intro ha1 (And.intro (fun h2 => And.intro (fun h3 => And.intro ha1 (And.intro (fun h4 => And.intro rfl (And.intro ha1 (And.intro rfl (trivial)))) (fun h4 => trivial))) (fun h3 => And.intro rfl (And.intro ha1 (And.intro (ac_sub_in (by assumption)) (trivial))))) (fun h2 => And.intro ha1 (And.intro (fun h3 => And.intro rfl (And.intro ha1 (And.intro rfl (trivial)))) (fun h3 => trivial))))) (fun h1 => And.intro (And.intro rfl (ac_sub_in (by assumption))) (trivial))) (fun h0 => And.intro ha1 (And.intro (fun h1 => And.intro (fun h2 => And.intro ha1 (And.intro (fun h3 => And.intro rfl (And.intro ha1 (And.intro rfl (trivial)))) (fun h3 => trivial))) (fun h2 => And.intro rfl (And.intro ha1 (And.intro (ac_sub_in (by assumption)) (trivial))))) (fun h1 => And.intro ha1 (And.intro (fun h2 => And.intro rfl (And.intro ha1 (And.intro rfl (trivial)))) (fun h2 => trivial))))))))

theorem ok_ac_perform : rx_okF prog_2_method_9_code 3 none L_ac_perform 0 L_ac_perform = true := by decide +kernel
theorem V_ac_perform {l : Launch} {D : va_G} {g : Nat → ClassId} {ad : Nat → Nat} {B : Nat} (had : mx_A ad B) : rx_V l D g ad B ⟨"SubscriberLines$Access", "perform", "(LSubscriberLines$Packet;)V"⟩ prog_2_method_9_code 3 none 3 71 K_ac_perform := by
  intro av x hp
  obtain ⟨a0, a1, rfl⟩ := k_RR_inv hp
  have hp : a0 = 59 ∧ mx_kl a1 = 2 := hp
  have h0 : a0 = 59 := hp.1
  subst h0
  exact rx_met (k := 1) had (by decide) (Nat.le_of_ble_eq_true rfl) ok_ac_perform rfl rfl 42 (fun p e s m args below meth c X => And.intro (og_ac_67_g X) (And.intro (cv_ac_subscriberOf X (V_ac_subscriberOf had) (al_at 489 (by decide +kernel) rfl) ⟨by decide, by decide⟩) (And.intro (og_ac_42_g X) (And.intro (cv_ac_closeCircuit X (V_ac_closeCircuit had) (al_at 493 (by decide +kernel) rfl) ⟨by decide, by decide⟩) (And.intro (og_ac_42_g X) (And.intro (og_ac_15_g X) (And.intro (og_ac_108_g X) (And.intro (ox_pa X) (And.intro (og_ac_42_g X) (And.intro (og_ac_27_g X) (And.intro (og_ac_108_g X) (And.intro (cv_en_put X (V_en_put had) (al_at 499 (by decide +kernel) rfl) ⟨by decide, by decide⟩) (trivial))))))))))))) (S_ac_perform x.1 x.2 a1 hp.2) (E_ac_perform x.1 x.2 a1)
def ac_receive (c : mx_C) (a1 : Nat) : mx_C :=
  if (c.1 a1 0) < 12 then
    if (c.1 a1 1) = 5 then
      let c1 := ac_passToSubscriber c a1
      c1
    else
      if (c.1 a1 0) = 1 then
        let c2 := ac_join c (c.1 a1 1)
        c2
      else
        if (c.1 a1 3) = (c.1 60 (Int32.toNatClampNeg (c.1 a1 1))) then
          let c3 := ac_receiveOnCircuit c a1
          c3
        else
          c
  else
    let q4 := en_isNext c 62 a1
    if q4.2 = 0 then
      q4.1
    else
      let c5 := ac_perform q4.1 a1
      let c6 := en_acknowledge c5 62
      c6
def K_ac_receive : rx_K mx := k_RR (fun a0 a1 c m => (a0 = 59 ∧ mx_kl a1 = 2 ∧ ac_reP c a1, (ac_receive c a1, m), none))
def L_ac_receive : List (rx_E mx) := [
  (0, .aload_n 1, 1, 0, 1, 0, [], kno),
  (1, .getfield 42, 3, 7, 1, 0, [], kgi 2 0),
  (4, .bipush 12, 2, 0, 0, 12, [], kno),
  (6, .if_icmp .lt 29, 3, 2, 16, 0, [], kno),
  (9, .aload_n 0, 1, 0, 0, 0, [], kno),
  (10, .getfield 27, 3, 7, 1, 0, [], kgr0 5 2 62),
  (13, .aload_n 1, 1, 0, 1, 0, [], kno),
  (14, .invokevirtual 47, 3, 7, 2, 0, [], K_en_isNext),
  (17, .ifCond .eq 74, 3, 2, 44, 0, [], kno),
  (20, .aload_n 0, 1, 0, 0, 0, [], kno),
  (21, .aload_n 1, 1, 0, 1, 0, [], kno),
  (22, .invokevirtual 51, 3, 7, 2, 0, [], K_ac_perform),
  (25, .aload_n 0, 1, 0, 0, 0, [], kno),
  (26, .getfield 27, 3, 7, 1, 0, [], kgr0 5 2 62),
  (29, .invokevirtual 55, 3, 7, 1, 0, [], K_en_acknowledge),
  (32, .goto 59, 3, 1, 44, 0, [], kno),
  (35, .aload_n 1, 1, 0, 1, 0, [], kno),
  (36, .getfield 58, 3, 7, 1, 0, [], kgi 2 1),
  (39, .iconst 5, 1, 0, 0, 5, [], kno),
  (40, .if_icmp .ne 11, 3, 2, 24, 0, [], kno),
  (43, .aload_n 0, 1, 0, 0, 0, [], kno),
  (44, .aload_n 1, 1, 0, 1, 0, [], kno),
  (45, .invokevirtual 61, 3, 7, 2, 0, [], K_ac_passToSubscriber),
  (48, .goto 43, 3, 1, 44, 0, [], kno),
  (51, .aload_n 1, 1, 0, 1, 0, [], kno),
  (52, .getfield 42, 3, 7, 1, 0, [], kgi 2 0),
  (55, .iconst 1, 1, 0, 0, 1, [], kno),
  (56, .if_icmp .ne 14, 3, 2, 33, 0, [], kno),
  (59, .aload_n 0, 1, 0, 0, 0, [], kno),
  (60, .aload_n 1, 1, 0, 1, 0, [], kno),
  (61, .getfield 58, 3, 7, 1, 0, [], kgi 2 1),
  (64, .invokevirtual 64, 3, 7, 2, 0, [], K_ac_join),
  (67, .goto 24, 3, 1, 44, 0, [], kno),
  (70, .aload_n 1, 1, 0, 1, 0, [], kno),
  (71, .getfield 67, 3, 7, 1, 0, [], kgi 2 3),
  (74, .aload_n 0, 1, 0, 0, 0, [], kno),
  (75, .getfield 9, 3, 7, 1, 0, [], kgr0 5 3 60),
  (78, .aload_n 1, 1, 0, 1, 0, [], kno),
  (79, .getfield 58, 3, 7, 1, 0, [], kgi 2 1),
  (82, .iaload, 1, 7, 2, 0, [], kai),
  (83, .if_icmp .ne 8, 3, 2, 44, 0, [], kno),
  (86, .aload_n 0, 1, 0, 0, 0, [], kno),
  (87, .aload_n 1, 1, 0, 1, 0, [], kno),
  (88, .invokevirtual 70, 3, 7, 2, 0, [], K_ac_receiveOnCircuit),
  (91, .return_, 1, 6, 0, 0, [], kno)]
theorem E_ac_receive (c : mx_C) (m : mx_M) (a1 : Nat)  : rx_ev L_ac_receive [] 47 L_ac_receive (c, m) [some (.ref 59), some (.ref a1)] [] = rw_v m (ac_receive c a1) :=
  rx_ite2 (f := rw_v m) (fun _ => rx_ite2 (f := rw_v m) (fun _ => rfl) (fun _ => rx_ite2 (f := rw_v m) (fun _ => rfl) (fun _ => rx_ite2 (f := rw_v m) (fun _ => rfl) (fun _ => rfl)))) (fun _ => rx_ite2 (f := rw_v m) (fun _ => rfl) (fun _ => rfl))
theorem S_ac_receive (c : mx_C) (m : mx_M) (a1 : Nat) (ha1 : mx_kl a1 = 2) (hr : ac_reP c a1) : rx_sf L_ac_receive [] 47 L_ac_receive (c, m) [some (.ref 59), some (.ref a1)] [] :=
  And.intro ha1 (And.intro (fun h0 => And.intro ha1 (And.intro (fun h1 => And.intro (And.intro rfl ha1) (trivial)) (fun h1 => And.intro ha1 (And.intro (fun h2 => And.intro ha1 (And.intro (And.intro rfl (hr h0 h1).1) (trivial))) (fun h2 => And.intro ha1 (And.intro rfl (And.intro ha1 (And.intro (hr h0 h1).1 (And.intro (fun h3 => And.intro (And.intro rfl (And.intro ha1 (hr h0 h1))) (trivial)) (fun h3 => trivial)))))))))) (fun h0 => And.intro rfl (And.intro (And.intro rfl ha1) (And.intro (fun h1 => trivial) (fun h1 => And.intro (And.intro rfl ha1) (And.intro rfl (And.intro rfl (trivial))))))))

theorem cv_en_isNext {p : Program} {l : Launch} {e : Env} {R : Room} {s : State} {m : MethodId} {args : Array Value} {below : List Frame} {meth : Method} {c : Code} {cc : ByteArray} {nL : Nat} {ad : Nat → Nat} {D : va_G} {g : Nat → ClassId} {B : Nat} {own : String} {idx : Nat} (X : ox_C p s m args c cc nL own D g ad B) (hV : rx_V l D g ad B ⟨"SubscriberLines$End", "isNext", "(LSubscriberLines$Packet;)Z"⟩ prog_3_method_5_code 2 (some .boolean) 3 72 K_en_isNext) (hl : Cond.methodLink own idx ⟨"SubscriberLines$End", "isNext", "(LSubscriberLines$Packet;)Z"⟩ ∈ al) (hR : 3 + 1 ≤ R.frames ∧ 8 + (2 + 11) + 72 ≤ R.locals) : rx_OK p l e R s m args below meth c cc nL ad (mx_W D g ad B s.heap) mx_cs (.invokevirtual idx) 3 2 (K_en_isNext) :=
  ox_callV (q := 8) (T := T_8) X hV (fun av x h => by obtain ⟨a0, a1, rfl⟩ := k_RR_inv h; exact ⟨a0, _, rfl, h.1⟩) (by decide) rfl hl (al_at 455 (by decide +kernel) rfl) (al_at 456 (by decide +kernel) rfl) (al_at 8 (by decide +kernel) rfl) (al_at 457 (by decide +kernel) rfl) ⟨by decide, by decide, by decide +kernel⟩ hR
theorem cv_ac_perform {p : Program} {l : Launch} {e : Env} {R : Room} {s : State} {m : MethodId} {args : Array Value} {below : List Frame} {meth : Method} {c : Code} {cc : ByteArray} {nL : Nat} {ad : Nat → Nat} {D : va_G} {g : Nat → ClassId} {B : Nat} {own : String} {idx : Nat} (X : ox_C p s m args c cc nL own D g ad B) (hV : rx_V l D g ad B ⟨"SubscriberLines$Access", "perform", "(LSubscriberLines$Packet;)V"⟩ prog_2_method_9_code 3 none 3 71 K_ac_perform) (hl : Cond.methodLink own idx ⟨"SubscriberLines$Access", "perform", "(LSubscriberLines$Packet;)V"⟩ ∈ al) (hR : 3 + 1 ≤ R.frames ∧ 8 + (3 + 11) + 71 ≤ R.locals) : rx_OK p l e R s m args below meth c cc nL ad (mx_W D g ad B s.heap) mx_cs (.invokevirtual idx) 3 2 (K_ac_perform) :=
  ox_callV (q := 5) (T := T_5) X hV (fun av x h => by obtain ⟨a0, a1, rfl⟩ := k_RR_inv h; exact ⟨a0, _, rfl, by have h2 : a0 = 59 := h.1; rw [h2]; rfl⟩) (by decide) rfl hl (al_at 487 (by decide +kernel) rfl) (al_pr (y := (⟨"SubscriberLines$Access", "perform", "(LSubscriberLines$Packet;)V"⟩, _)) 8 rfl) (al_at 7 (by decide +kernel) rfl) (al_at 488 (by decide +kernel) rfl) ⟨by decide, by decide, by decide +kernel⟩ hR
theorem cv_ac_passToSubscriber {p : Program} {l : Launch} {e : Env} {R : Room} {s : State} {m : MethodId} {args : Array Value} {below : List Frame} {meth : Method} {c : Code} {cc : ByteArray} {nL : Nat} {ad : Nat → Nat} {D : va_G} {g : Nat → ClassId} {B : Nat} {own : String} {idx : Nat} (X : ox_C p s m args c cc nL own D g ad B) (hV : rx_V l D g ad B ⟨"SubscriberLines$Access", "passToSubscriber", "(LSubscriberLines$Packet;)V"⟩ prog_2_method_8_code 3 none 1 24 K_ac_passToSubscriber) (hl : Cond.methodLink own idx ⟨"SubscriberLines$Access", "passToSubscriber", "(LSubscriberLines$Packet;)V"⟩ ∈ al) (hR : 1 + 1 ≤ R.frames ∧ 8 + (3 + 11) + 24 ≤ R.locals) : rx_OK p l e R s m args below meth c cc nL ad (mx_W D g ad B s.heap) mx_cs (.invokevirtual idx) 3 2 (K_ac_passToSubscriber) :=
  ox_callV (q := 5) (T := T_5) X hV (fun av x h => by obtain ⟨a0, a1, rfl⟩ := k_RR_inv h; exact ⟨a0, _, rfl, by have h2 : a0 = 59 := h.1; rw [h2]; rfl⟩) (by decide) rfl hl (al_at 510 (by decide +kernel) rfl) (al_pr (y := (⟨"SubscriberLines$Access", "passToSubscriber", "(LSubscriberLines$Packet;)V"⟩, _)) 11 rfl) (al_at 7 (by decide +kernel) rfl) (al_at 511 (by decide +kernel) rfl) ⟨by decide, by decide, by decide +kernel⟩ hR
theorem cv_ac_join {p : Program} {l : Launch} {e : Env} {R : Room} {s : State} {m : MethodId} {args : Array Value} {below : List Frame} {meth : Method} {c : Code} {cc : ByteArray} {nL : Nat} {ad : Nat → Nat} {D : va_G} {g : Nat → ClassId} {B : Nat} {own : String} {idx : Nat} (X : ox_C p s m args c cc nL own D g ad B) (hV : rx_V l D g ad B ⟨"SubscriberLines$Access", "join", "(I)V"⟩ prog_2_method_6_code 2 none 4 93 K_ac_join) (hl : Cond.methodLink own idx ⟨"SubscriberLines$Access", "join", "(I)V"⟩ ∈ al) (hR : 4 + 1 ≤ R.frames ∧ 8 + (2 + 11) + 93 ≤ R.locals) : rx_OK p l e R s m args below meth c cc nL ad (mx_W D g ad B s.heap) mx_cs (.invokevirtual idx) 3 2 (K_ac_join) :=
  ox_callV (q := 5) (T := T_5) X hV (fun av x h => by obtain ⟨a0, a1, rfl⟩ := k_RI_inv h; exact ⟨a0, _, rfl, by have h2 : a0 = 59 := h.1; rw [h2]; rfl⟩) (by decide) rfl hl (al_at 514 (by decide +kernel) rfl) (al_pr (y := (⟨"SubscriberLines$Access", "join", "(I)V"⟩, _)) 12 rfl) (al_at 7 (by decide +kernel) rfl) (al_at 515 (by decide +kernel) rfl) ⟨by decide, by decide, by decide +kernel⟩ hR
theorem cv_ac_receiveOnCircuit {p : Program} {l : Launch} {e : Env} {R : Room} {s : State} {m : MethodId} {args : Array Value} {below : List Frame} {meth : Method} {c : Code} {cc : ByteArray} {nL : Nat} {ad : Nat → Nat} {D : va_G} {g : Nat → ClassId} {B : Nat} {own : String} {idx : Nat} (X : ox_C p s m args c cc nL own D g ad B) (hV : rx_V l D g ad B ⟨"SubscriberLines$Access", "receiveOnCircuit", "(LSubscriberLines$Packet;)V"⟩ prog_2_method_7_code 2 none 4 93 K_ac_receiveOnCircuit) (hl : Cond.methodLink own idx ⟨"SubscriberLines$Access", "receiveOnCircuit", "(LSubscriberLines$Packet;)V"⟩ ∈ al) (hR : 4 + 1 ≤ R.frames ∧ 8 + (2 + 11) + 93 ≤ R.locals) : rx_OK p l e R s m args below meth c cc nL ad (mx_W D g ad B s.heap) mx_cs (.invokevirtual idx) 3 2 (K_ac_receiveOnCircuit) :=
  ox_callV (q := 5) (T := T_5) X hV (fun av x h => by obtain ⟨a0, a1, rfl⟩ := k_RR_inv h; exact ⟨a0, _, rfl, by have h2 : a0 = 59 := h.1; rw [h2]; rfl⟩) (by decide) rfl hl (al_at 522 (by decide +kernel) rfl) (al_pr (y := (⟨"SubscriberLines$Access", "receiveOnCircuit", "(LSubscriberLines$Packet;)V"⟩, _)) 14 rfl) (al_at 7 (by decide +kernel) rfl) (al_at 523 (by decide +kernel) rfl) ⟨by decide, by decide, by decide +kernel⟩ hR
theorem ok_ac_receive : rx_okF prog_2_method_4_code 2 none L_ac_receive 0 L_ac_receive = true := by decide +kernel
theorem V_ac_receive {l : Launch} {D : va_G} {g : Nat → ClassId} {ad : Nat → Nat} {B : Nat} (had : mx_A ad B) : rx_V l D g ad B ⟨"SubscriberLines$Access", "receive", "(LSubscriberLines$Packet;)V"⟩ prog_2_method_4_code 2 none 5 114 K_ac_receive := by
  intro av x hp
  obtain ⟨a0, a1, rfl⟩ := k_RR_inv hp
  have hp : a0 = 59 ∧ mx_kl a1 = 2 ∧ ac_reP x.1 a1 := hp
  have h0 : a0 = 59 := hp.1
  subst h0
  exact rx_met (k := 0) had (by decide) (Nat.le_of_ble_eq_true rfl) ok_ac_receive rfl rfl 47 (fun p e s m args below meth c X => And.intro (og_ac_42_g X) (And.intro (og_ac_27_g X) (And.intro (cv_en_isNext X (V_en_isNext had) (al_at 454 (by decide +kernel) rfl) ⟨by decide, by decide⟩) (And.intro (cv_ac_perform X (V_ac_perform had) (al_at 485 (by decide +kernel) rfl) ⟨by decide, by decide⟩) (And.intro (og_ac_27_g X) (And.intro (cv_en_acknowledge X (V_en_acknowledge had) (al_at 507 (by decide +kernel) rfl) ⟨by decide, by decide⟩) (And.intro (og_ac_58_g X) (And.intro (cv_ac_passToSubscriber X (V_ac_passToSubscriber had) (al_at 508 (by decide +kernel) rfl) ⟨by decide, by decide⟩) (And.intro (og_ac_42_g X) (And.intro (og_ac_58_g X) (And.intro (cv_ac_join X (V_ac_join had) (al_at 512 (by decide +kernel) rfl) ⟨by decide, by decide⟩) (And.intro (og_ac_67_g X) (And.intro (og_ac_9_g X) (And.intro (og_ac_58_g X) (And.intro (ox_ai X) (And.intro (cv_ac_receiveOnCircuit X (V_ac_receiveOnCircuit had) (al_at 520 (by decide +kernel) rfl) ⟨by decide, by decide⟩) (trivial))))))))))))))))) (S_ac_receive x.1 x.2 a1 hp.2.1 hp.2.2) (E_ac_receive x.1 x.2 a1)
