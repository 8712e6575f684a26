theorem en_len {t : Nat} (h : mx_kl t = 8) : mx_lenG 0 0 (t + 1) = 2048 ∧ mx_lenG 0 0 (t + 2) = 2048 ∧ mx_lenG 0 0 (t + 3) = 2048 := by
  have hi := mx_kl_lt h (by decide)
  have k : ∀ j : Fin 116, mx_kl j.val = 8 → mx_lenG 0 0 (j.val + 1) = 2048 ∧ mx_lenG 0 0 (j.val + 2) = 2048 ∧ mx_lenG 0 0 (j.val + 3) = 2048 := by decide +kernel
  exact k ⟨t, hi⟩ h
theorem en_and (n : Int32) : 0 ≤ (n &&& 2047).toInt ∧ (n &&& 2047).toInt < 2048 := by
  have h1 : (n &&& 2047).toBitVec.toNat ≤ 2047 := by
    rw [Int32.toBitVec_and, BitVec.toNat_and]
    exact Nat.and_le_right
  have h2 : (n &&& 2047).toInt = ((n &&& 2047).toBitVec.toNat : Int) := by
    show (n &&& 2047).toBitVec.toInt = _
    exact BitVec.toInt_eq_toNat_of_lt (by omega)
  omega
theorem en_in1 {c : mx_C} {t : Nat} (h : mx_kl t = 8) (n : Int32) : vp_in (en_placeOf c n) (mx_lenG 0 0 (t + 1)) ∧ vp_in (en_placeOf c n) (mx_lenG 0 0 (t + 2)) ∧ vp_in (en_placeOf c n) (mx_lenG 0 0 (t + 3)) := by
  obtain ⟨h1, h2, h3⟩ := en_len h
  rw [h1, h2, h3, i_in]
  have := en_and n
  exact ⟨this, this, this⟩
abbrev en_P (n : Nat) (v w : Int32) : Prop := w.toInt - v.toInt < (n : Int) ∧ 0 < n
theorem en_P1 {n : Nat} {v w : Int32} (h : v < w) (hP : en_P (n + 1) v w) : en_P n (v + 1) w := by
  rw [i_lt] at h
  have h1 := i_rng w
  have h2 := i_rng v
  obtain ⟨p1, p2⟩ := hP
  have e : (v + 1).toInt = v.toInt + 1 := i_add (show _ ≤ v.toInt + 1 by omega) (show v.toInt + 1 < _ by omega)
  unfold en_P
  rw [e]
  omega
theorem en_P0 (u o x : Int32) : en_P 4 (jx_max u o) (jx_min (o + 3) x) := by
  have h1 : o.toInt ≤ (jx_max u o).toInt := by
    unfold jx_max
    split
    · exact Int.le_refl _
    · rename_i h; rw [i_lt] at h; omega
  have h2 : (jx_min (o + 3) x).toInt ≤ (o + 3).toInt := by
    unfold jx_min
    split
    · rename_i h; rw [i_lt] at h; omega
    · exact Int.le_refl _
  have h3 : (o + 3).toInt ≤ o.toInt + 3 := by
    have hr := i_rng o
    rw [Int32.toInt_add]
    show (o.toInt + 3).bmod 4294967296 ≤ _
    rw [Int.bmod_eq_emod]
    split <;> omega
  unfold en_P
  omega
def en_transmit (c : mx_C) (t : Nat) (a1 : Int32) : mx_C :=
  let q1 := fl_launch c (c.1 (t + 1) (Int32.toNatClampNeg (en_placeOf c a1))) (c.1 t 0) (c.1 t 1)
  let c2 := pk_bear q1.1 q1.2 (q1.1.1 (t + 2) (Int32.toNatClampNeg (en_placeOf c a1))) (q1.1.1 (t + 3) (Int32.toNatClampNeg (en_placeOf c a1))) 0
  let c3 := pk_number c2 q1.2 (c2.1 t 3) a1 (c2.1 t 4)
  c3
def K_en_transmit : rx_K mx := k_RI (fun a0 a1 c m => (mx_kl a0 = 8, (en_transmit c a0 a1, m), none))
def L_en_transmit : List (rx_E mx) := [
  (0, .iload_n 1, 1, 0, 1, 0, [], kno),
  (1, .invokestatic 57, 3, 7, 1, 0, [], K_en_placeOf),
  (4, .istore_n 2, 1, 0, 2, 0, [], kno),
  (5, .aload_n 0, 1, 0, 0, 0, [], kno),
  (6, .getfield 28, 3, 7, 1, 0, [], kgr0 8 2 1),
  (9, .aload_n 0, 1, 0, 0, 0, [], kno),
  (10, .getfield 11, 3, 7, 1, 0, [], kgr1 8 9 1),
  (13, .iload_n 2, 1, 0, 2, 0, [], kno),
  (14, .iaload, 1, 7, 2, 0, [], kai),
  (15, .aload_n 0, 1, 0, 0, 0, [], kno),
  (16, .getfield 21, 3, 7, 1, 0, [], kgi 8 0),
  (19, .aload_n 0, 1, 0, 0, 0, [], kno),
  (20, .getfield 25, 3, 7, 1, 0, [], kgi 8 1),
  (23, .invokevirtual 83, 3, 7, 4, 0, [], K_fl_launch),
  (26, .astore_n 3, 1, 0, 3, 0, [], kno),
  (27, .aload_n 3, 1, 0, 3, 0, [], kno),
  (28, .aload_n 0, 1, 0, 0, 0, [], kno),
  (29, .getfield 15, 3, 7, 1, 0, [], kgr1 8 10 2),
  (32, .iload_n 2, 1, 0, 2, 0, [], kno),
  (33, .iaload, 1, 7, 2, 0, [], kai),
  (34, .aload_n 0, 1, 0, 0, 0, [], kno),
  (35, .getfield 18, 3, 7, 1, 0, [], kgr1 8 11 3),
  (38, .iload_n 2, 1, 0, 2, 0, [], kno),
  (39, .iaload, 1, 7, 2, 0, [], kai),
  (40, .iconst 0, 1, 0, 0, 0, [], kno),
  (41, .invokevirtual 104, 3, 7, 4, 0, [], K_pk_bear),
  (44, .aload_n 3, 1, 0, 3, 0, [], kno),
  (45, .aload_n 0, 1, 0, 0, 0, [], kno),
  (46, .getfield 32, 3, 7, 1, 0, [], kgi 8 3),
  (49, .iload_n 1, 1, 0, 1, 0, [], kno),
  (50, .aload_n 0, 1, 0, 0, 0, [], kno),
  (51, .getfield 35, 3, 7, 1, 0, [], kgi 8 4),
  (54, .invokevirtual 89, 3, 7, 4, 0, [], K_pk_number),
  (57, .return_, 1, 6, 0, 0, [], kno)]
theorem E_en_transmit (c : mx_C) (m : mx_M) (t : Nat) (a1 : Int32)  : rx_ev L_en_transmit [] 36 L_en_transmit (c, m) [some (.ref t), some (.int a1), none, none] [] = rw_v m (en_transmit c t a1) :=
  rfl
theorem S_en_transmit (c : mx_C) (m : mx_M) (t : Nat) (a1 : Int32) (ht : mx_kl t = 8) : rx_sf L_en_transmit [] 36 L_en_transmit (c, m) [some (.ref t), some (.int a1), none, none] [] :=
  And.intro trivial (And.intro ht (And.intro ht (And.intro (en_in1 ht _).1 (And.intro ht (And.intro ht (And.intro rfl (And.intro ht (And.intro (en_in1 ht _).2.1 (And.intro ht (And.intro (en_in1 ht _).2.2 (And.intro (fl_launch_pk _ _ _ _) (And.intro ht (And.intro ht (And.intro (fl_launch_pk _ _ _ _) (trivial)))))))))))))))

theorem cv_en_placeOf {p : Program} {l : Launch} {e : Env} {R : Room} {s : State} {m : MethodId} {args : Array Value} {below : List Frame} {meth : Method} {c : Code} {cc : ByteArray} {nL : Nat} {ad : Nat → Nat} {D : va_G} {g : Nat → ClassId} {B : Nat} {idx : Nat} (X : ox_C p s m args c cc nL "SubscriberLines$End" D g ad B) (hV : rx_V l D g ad B ⟨"SubscriberLines$End", "placeOf", "(I)I"⟩ prog_3_method_12_code 1 (some .int) 0 0 K_en_placeOf) (hl : Cond.methodLink "SubscriberLines$End" idx ⟨"SubscriberLines$End", "placeOf", "(I)I"⟩ ∈ al) (hR : 0 + 1 ≤ R.frames ∧ 8 + (1 + 11) + 0 ≤ R.locals) : rx_OK p l e R s m args below meth c cc nL ad (mx_W D g ad B s.heap) mx_cs (.invokestatic idx) 3 1 (K_en_placeOf) :=
  ox_callS X hV hl (al_at 473 (by decide +kernel) rfl) (al_at 8 (by decide +kernel) rfl) (al_at 474 (by decide +kernel) rfl) ⟨rfl, by decide, by decide, by decide +kernel⟩ hR
theorem og_en_28_g {p : Program} {l : Launch} {e : Env} {R : Room} {s : State} {m : MethodId} {args : Array Value} {below : List Frame} {meth : Method} {c : Code} {cc : ByteArray} {nL : Nat} {ad : Nat → Nat} {D : va_G} {g : Nat → ClassId} {B : Nat} (X : ox_C p s m args c cc nL "SubscriberLines$End" D g ad B) : rx_OK p l e R s m args below meth c cc nL ad (mx_W D g ad B s.heap) mx_cs (.getfield 28) 3 1 (kgr0 8 2 1) := ox_gr0 (T := T_8) X rfl (by decide) (by decide) in_8 rfl (al_at 183 (by decide +kernel) rfl)
theorem og_en_11_g {p : Program} {l : Launch} {e : Env} {R : Room} {s : State} {m : MethodId} {args : Array Value} {below : List Frame} {meth : Method} {c : Code} {cc : ByteArray} {nL : Nat} {ad : Nat → Nat} {D : va_G} {g : Nat → ClassId} {B : Nat} (X : ox_C p s m args c cc nL "SubscriberLines$End" D g ad B) : rx_OK p l e R s m args below meth c cc nL ad (mx_W D g ad B s.heap) mx_cs (.getfield 11) 3 1 (kgr1 8 9 1) := ox_gr1 (T := T_8) X rfl (by decide) (by decide) in_8 rfl (al_at 192 (by decide +kernel) rfl)
theorem og_en_21_g {p : Program} {l : Launch} {e : Env} {R : Room} {s : State} {m : MethodId} {args : Array Value} {below : List Frame} {meth : Method} {c : Code} {cc : ByteArray} {nL : Nat} {ad : Nat → Nat} {D : va_G} {g : Nat → ClassId} {B : Nat} (X : ox_C p s m args c cc nL "SubscriberLines$End" D g ad B) : rx_OK p l e R s m args below meth c cc nL ad (mx_W D g ad B s.heap) mx_cs (.getfield 21) 3 1 (kgi 8 0) := ox_gi (T := T_8) X rfl (by decide) (by decide) in_8 rfl (al_at 181 (by decide +kernel) rfl)
theorem og_en_25_g {p : Program} {l : Launch} {e : Env} {R : Room} {s : State} {m : MethodId} {args : Array Value} {below : List Frame} {meth : Method} {c : Code} {cc : ByteArray} {nL : Nat} {ad : Nat → Nat} {D : va_G} {g : Nat → ClassId} {B : Nat} (X : ox_C p s m args c cc nL "SubscriberLines$End" D g ad B) : rx_OK p l e R s m args below meth c cc nL ad (mx_W D g ad B s.heap) mx_cs (.getfield 25) 3 1 (kgi 8 1) := ox_gi (T := T_8) X rfl (by decide) (by decide) in_8 rfl (al_at 182 (by decide +kernel) rfl)
theorem og_en_15_g {p : Program} {l : Launch} {e : Env} {R : Room} {s : State} {m : MethodId} {args : Array Value} {below : List Frame} {meth : Method} {c : Code} {cc : ByteArray} {nL : Nat} {ad : Nat → Nat} {D : va_G} {g : Nat → ClassId} {B : Nat} (X : ox_C p s m args c cc nL "SubscriberLines$End" D g ad B) : rx_OK p l e R s m args below meth c cc nL ad (mx_W D g ad B s.heap) mx_cs (.getfield 15) 3 1 (kgr1 8 10 2) := ox_gr1 (T := T_8) X rfl (by decide) (by decide) in_8 rfl (al_at 193 (by decide +kernel) rfl)
theorem og_en_18_g {p : Program} {l : Launch} {e : Env} {R : Room} {s : State} {m : MethodId} {args : Array Value} {below : List Frame} {meth : Method} {c : Code} {cc : ByteArray} {nL : Nat} {ad : Nat → Nat} {D : va_G} {g : Nat → ClassId} {B : Nat} (X : ox_C p s m args c cc nL "SubscriberLines$End" D g ad B) : rx_OK p l e R s m args below meth c cc nL ad (mx_W D g ad B s.heap) mx_cs (.getfield 18) 3 1 (kgr1 8 11 3) := ox_gr1 (T := T_8) X rfl (by decide) (by decide) in_8 rfl (al_at 194 (by decide +kernel) rfl)
theorem og_en_32_g {p : Program} {l : Launch} {e : Env} {R : Room} {s : State} {m : MethodId} {args : Array Value} {below : List Frame} {meth : Method} {c : Code} {cc : ByteArray} {nL : Nat} {ad : Nat → Nat} {D : va_G} {g : Nat → ClassId} {B : Nat} (X : ox_C p s m args c cc nL "SubscriberLines$End" D g ad B) : rx_OK p l e R s m args below meth c cc nL ad (mx_W D g ad B s.heap) mx_cs (.getfield 32) 3 1 (kgi 8 3) := ox_gi (T := T_8) X rfl (by decide) (by decide) in_8 rfl (al_at 184 (by decide +kernel) rfl)
theorem og_en_35_g {p : Program} {l : Launch} {e : Env} {R : Room} {s : State} {m : MethodId} {args : Array Value} {below : List Frame} {meth : Method} {c : Code} {cc : ByteArray} {nL : Nat} {ad : Nat → Nat} {D : va_G} {g : Nat → ClassId} {B : Nat} (X : ox_C p s m args c cc nL "SubscriberLines$End" D g ad B) : rx_OK p l e R s m args below meth c cc nL ad (mx_W D g ad B s.heap) mx_cs (.getfield 35) 3 1 (kgi 8 4) := ox_gi (T := T_8) X rfl (by decide) (by decide) in_8 rfl (al_at 187 (by decide +kernel) rfl)
theorem cv_pk_number {p : Program} {l : Launch} {e : Env} {R : Room} {s : State} {m : MethodId} {args : Array Value} {below : List Frame} {meth : Method} {c : Code} {cc : ByteArray} {nL : Nat} {ad : Nat → Nat} {D : va_G} {g : Nat → ClassId} {B : Nat} {own : String} {idx : Nat} (X : ox_C p s m args c cc nL own D g ad B) (hV : rx_V l D g ad B ⟨"SubscriberLines$Packet", "number", "(III)V"⟩ prog_7_method_3_code 4 none 0 0 K_pk_number) (hl : Cond.methodLink own idx ⟨"SubscriberLines$Packet", "number", "(III)V"⟩ ∈ al) (hR : 0 + 1 ≤ R.frames ∧ 8 + (4 + 11) + 0 ≤ R.locals) : rx_OK p l e R s m args below meth c cc nL ad (mx_W D g ad B s.heap) mx_cs (.invokevirtual idx) 3 4 (K_pk_number) :=
  ox_callV (q := 2) (T := T_2) X hV (fun av x h => by obtain ⟨a0, a1, a2, a3, rfl⟩ := k_RIII_inv h; exact ⟨a0, _, rfl, h⟩) (by decide) rfl hl (al_at 478 (by decide +kernel) rfl) (al_at 479 (by decide +kernel) rfl) (al_at 3 (by decide +kernel) rfl) (al_at 480 (by decide +kernel) rfl) ⟨by decide, by decide, by decide +kernel⟩ hR
theorem ok_en_transmit : rx_okF prog_3_method_11_code 4 none L_en_transmit 0 L_en_transmit = true := by decide +kernel
theorem V_en_transmit {l : Launch} {D : va_G} {g : Nat → ClassId} {ad : Nat → Nat} {B : Nat} (had : mx_A ad B) : rx_V l D g ad B ⟨"SubscriberLines$End", "transmit", "(I)V"⟩ prog_3_method_11_code 4 none 1 24 K_en_transmit := by
  intro av x hp
  obtain ⟨a0, a1, rfl⟩ := k_RI_inv hp
  have hp : mx_kl a0 = 8 := hp
  exact rx_met (k := 2) had (by decide) (Nat.le_of_ble_eq_true rfl) ok_en_transmit rfl rfl 36 (fun p e s m args below meth c X => And.intro (cv_en_placeOf X (V_en_placeOf had) (al_at 472 (by decide +kernel) rfl) ⟨by decide, by decide⟩) (And.intro (og_en_28_g X) (And.intro (og_en_11_g X) (And.intro (ox_ai X) (And.intro (og_en_21_g X) (And.intro (og_en_25_g X) (And.intro (cv_fl_launch X (V_fl_launch had) (al_at 475 (by decide +kernel) rfl) ⟨by decide, by decide⟩) (And.intro (og_en_15_g X) (And.intro (ox_ai X) (And.intro (og_en_18_g X) (And.intro (ox_ai X) (And.intro (cv_pk_bear X (V_pk_bear had) (al_at 476 (by decide +kernel) rfl) ⟨by decide, by decide⟩) (And.intro (og_en_32_g X) (And.intro (og_en_35_g X) (And.intro (cv_pk_number X (V_pk_number had) (al_at 477 (by decide +kernel) rfl) ⟨by decide, by decide⟩) (trivial)))))))))))))))) (S_en_transmit x.1 x.2 a0 a1 hp) (E_en_transmit x.1 x.2 a0 a1)
def en_put (c : mx_C) (t : Nat) (a1 : Int32) (a2 : Int32) (a3 : Int32) : mx_C :=
  if (c.1 t 3) = 0 then
    c
  else
    if ((c.1 t 8) - (c.1 t 7)) = 2048 then
      c
    else
      if (en_isEmpty c t) = 0 then
        let c1 := mx_pi c (t + 1) (Int32.toNatClampNeg (en_placeOf c (c.1 t 8))) a1
        let c2 := mx_pi c1 (t + 2) (Int32.toNatClampNeg (en_placeOf c (c.1 t 8))) a2
        let c3 := mx_pi c2 (t + 3) (Int32.toNatClampNeg (en_placeOf c (c.1 t 8))) a3
        let c4 := mx_pi c3 t 8 ((c3.1 t 8) + 1)
        if 3 < ((c4.1 t 8) - (c4.1 t 7)) then
          c4
        else
          let c5 := en_transmit c4 t ((c4.1 t 8) - 1)
          c5
      else
        let c6 := en_startWaiting c t
        let c7 := mx_pi c6 (t + 1) (Int32.toNatClampNeg (en_placeOf c6 (c6.1 t 8))) a1
        let c8 := mx_pi c7 (t + 2) (Int32.toNatClampNeg (en_placeOf c6 (c6.1 t 8))) a2
        let c9 := mx_pi c8 (t + 3) (Int32.toNatClampNeg (en_placeOf c6 (c6.1 t 8))) a3
        let c10 := mx_pi c9 t 8 ((c9.1 t 8) + 1)
        if 3 < ((c10.1 t 8) - (c10.1 t 7)) then
          c10
        else
          let c11 := en_transmit c10 t ((c10.1 t 8) - 1)
          c11
def K_en_put : rx_K mx := k_RIII (fun a0 a1 a2 a3 c m => (mx_kl a0 = 8, (en_put c a0 a1 a2 a3, m), none))
def L_en_put : List (rx_E mx) := [
  (0, .aload_n 0, 1, 0, 0, 0, [], kno),
  (1, .getfield 32, 3, 7, 1, 0, [], kgi 8 3),
  (4, .ifCond .eq 18, 3, 2, 10, 0, [], kno),
  (7, .aload_n 0, 1, 0, 0, 0, [], kno),
  (8, .getfield 41, 3, 7, 1, 0, [], kgi 8 8),
  (11, .aload_n 0, 1, 0, 0, 0, [], kno),
  (12, .getfield 38, 3, 7, 1, 0, [], kgi 8 7),
  (15, .isub, 1, 0, 0, 0, [], kno),
  (16, .sipush 2048, 3, 0, 0, 2048, [], kno),
  (19, .if_icmp .ne 4, 3, 2, 11, 0, [], kno),
  (22, .return_, 1, 6, 0, 0, [], kno),
  (23, .aload_n 0, 1, 0, 0, 0, [], kno),
  (24, .invokevirtual 50, 3, 7, 1, 0, [], K_en_isEmpty),
  (27, .ifCond .eq 7, 3, 2, 16, 0, [], kno),
  (30, .aload_n 0, 1, 0, 0, 0, [], kno),
  (31, .invokevirtual 54, 3, 7, 1, 0, [], K_en_startWaiting),
  (34, .aload_n 0, 1, 0, 0, 0, [], kno),
  (35, .getfield 41, 3, 7, 1, 0, [], kgi 8 8),
  (38, .invokestatic 57, 3, 7, 1, 0, [], K_en_placeOf),
  (41, .istore 4, 2, 0, 4, 0, [], kno),
  (43, .aload_n 0, 1, 0, 0, 0, [], kno),
  (44, .getfield 11, 3, 7, 1, 0, [], kgr1 8 9 1),
  (47, .iload 4, 2, 0, 4, 0, [], kno),
  (49, .iload_n 1, 1, 0, 1, 0, [], kno),
  (50, .iastore, 1, 7, 3, 0, [], kpa),
  (51, .aload_n 0, 1, 0, 0, 0, [], kno),
  (52, .getfield 15, 3, 7, 1, 0, [], kgr1 8 10 2),
  (55, .iload 4, 2, 0, 4, 0, [], kno),
  (57, .iload_n 2, 1, 0, 2, 0, [], kno),
  (58, .iastore, 1, 7, 3, 0, [], kpa),
  (59, .aload_n 0, 1, 0, 0, 0, [], kno),
  (60, .getfield 18, 3, 7, 1, 0, [], kgr1 8 11 3),
  (63, .iload 4, 2, 0, 4, 0, [], kno),
  (65, .iload_n 3, 1, 0, 3, 0, [], kno),
  (66, .iastore, 1, 7, 3, 0, [], kpa),
  (67, .aload_n 0, 1, 0, 0, 0, [], kno),
  (68, .dup, 1, 0, 0, 0, [], kno),
  (69, .getfield 41, 3, 7, 1, 0, [], kgi 8 8),
  (72, .iconst 1, 1, 0, 0, 1, [], kno),
  (73, .iadd, 1, 0, 0, 0, [], kno),
  (74, .putfield 41, 3, 7, 2, 0, [], kpi 8 8),
  (77, .aload_n 0, 1, 0, 0, 0, [], kno),
  (78, .getfield 41, 3, 7, 1, 0, [], kgi 8 8),
  (81, .aload_n 0, 1, 0, 0, 0, [], kno),
  (82, .getfield 38, 3, 7, 1, 0, [], kgi 8 7),
  (85, .isub, 1, 0, 0, 0, [], kno),
  (86, .iconst 3, 1, 0, 0, 3, [], kno),
  (87, .if_icmp .gt 13, 3, 2, 54, 0, [], kno),
  (90, .aload_n 0, 1, 0, 0, 0, [], kno),
  (91, .aload_n 0, 1, 0, 0, 0, [], kno),
  (92, .getfield 41, 3, 7, 1, 0, [], kgi 8 8),
  (95, .iconst 1, 1, 0, 0, 1, [], kno),
  (96, .isub, 1, 0, 0, 0, [], kno),
  (97, .invokevirtual 61, 3, 7, 2, 0, [], K_en_transmit),
  (100, .return_, 1, 6, 0, 0, [], kno)]
theorem E_en_put (c : mx_C) (m : mx_M) (t : Nat) (a1 : Int32) (a2 : Int32) (a3 : Int32)  : rx_ev L_en_put [] 57 L_en_put (c, m) [some (.ref t), some (.int a1), some (.int a2), some (.int a3), none] [] = rw_v m (en_put c t a1 a2 a3) :=
  rx_ite2 (f := rw_v m) (fun _ => rfl) (fun _ => rx_ite2 (f := rw_v m) (fun _ => rfl) (fun _ => rx_ite2 (f := rw_v m) (fun _ => rx_ite2 (f := rw_v m) (fun _ => rfl) (fun _ => rfl)) (fun _ => rx_ite2 (f := rw_v m) (fun _ => rfl) (fun _ => rfl))))
theorem S_en_put (c : mx_C) (m : mx_M) (t : Nat) (a1 : Int32) (a2 : Int32) (a3 : Int32) (ht : mx_kl t = 8) : rx_sf L_en_put [] 57 L_en_put (c, m) [some (.ref t), some (.int a1), some (.int a2), some (.int a3), none] [] :=
  And.intro ht (And.intro (fun h0 => trivial) (fun h0 => And.intro ht (And.intro ht (And.intro (fun h1 => trivial) (fun h1 => And.intro ht (And.intro (fun h2 => And.intro ht (And.intro trivial (And.intro ht (And.intro (en_in1 ht _).1 (And.intro ht (And.intro (en_in1 ht _).2.1 (And.intro ht (And.intro (en_in1 ht _).2.2 (And.intro ht (And.intro ht (And.intro ht (And.intro ht (And.intro (fun h3 => trivial) (fun h3 => And.intro ht (And.intro ht (trivial)))))))))))))))) (fun h2 => And.intro ht (And.intro ht (And.intro trivial (And.intro ht (And.intro (en_in1 ht _).1 (And.intro ht (And.intro (en_in1 ht _).2.1 (And.intro ht (And.intro (en_in1 ht _).2.2 (And.intro ht (And.intro ht (And.intro ht (And.intro ht (And.intro (fun h3 => trivial) (fun h3 => And.intro ht (And.intro ht (trivial)))))))))))))))))))))))

theorem cv_en_isEmpty {p : Program} {l : Launch} {e : Env} {R : Room} {s : State} {m : MethodId} {args : Array Value} {below : List Frame} {meth : Method} {c : Code} {cc : ByteArray} {nL : Nat} {ad : Nat → Nat} {D : va_G} {g : Nat → ClassId} {B : Nat} {own : String} {idx : Nat} (X : ox_C p s m args c cc nL own D g ad B) (hV : rx_V l D g ad B ⟨"SubscriberLines$End", "isEmpty", "()Z"⟩ prog_3_method_3_code 1 (some .boolean) 0 0 K_en_isEmpty) (hl : Cond.methodLink own idx ⟨"SubscriberLines$End", "isEmpty", "()Z"⟩ ∈ al) (hR : 0 + 1 ≤ R.frames ∧ 8 + (1 + 11) + 0 ≤ R.locals) : rx_OK p l e R s m args below meth c cc nL ad (mx_W D g ad B s.heap) mx_cs (.invokevirtual idx) 3 1 (K_en_isEmpty) :=
  ox_callV (q := 8) (T := T_8) X hV (fun av x h => by obtain ⟨a0, rfl⟩ := k_R_inv h; exact ⟨a0, _, rfl, h⟩) (by decide) rfl hl (al_at 504 (by decide +kernel) rfl) (al_at 505 (by decide +kernel) rfl) (al_at 8 (by decide +kernel) rfl) (al_at 506 (by decide +kernel) rfl) ⟨by decide, by decide, by decide +kernel⟩ hR
theorem cv_en_startWaiting {p : Program} {l : Launch} {e : Env} {R : Room} {s : State} {m : MethodId} {args : Array Value} {below : List Frame} {meth : Method} {c : Code} {cc : ByteArray} {nL : Nat} {ad : Nat → Nat} {D : va_G} {g : Nat → ClassId} {B : Nat} {own : String} {idx : Nat} (X : ox_C p s m args c cc nL own D g ad B) (hV : rx_V l D g ad B ⟨"SubscriberLines$End", "startWaiting", "()V"⟩ prog_3_method_10_code 1 none 0 0 K_en_startWaiting) (hl : Cond.methodLink own idx ⟨"SubscriberLines$End", "startWaiting", "()V"⟩ ∈ al) (hR : 0 + 1 ≤ R.frames ∧ 8 + (1 + 11) + 0 ≤ R.locals) : rx_OK p l e R s m args below meth c cc nL ad (mx_W D g ad B s.heap) mx_cs (.invokevirtual idx) 3 1 (K_en_startWaiting) :=
  ox_callV (q := 8) (T := T_8) X hV (fun av x h => by obtain ⟨a0, rfl⟩ := k_R_inv h; exact ⟨a0, _, rfl, h⟩) (by decide) rfl hl (al_at 465 (by decide +kernel) rfl) (al_pr (y := (⟨"SubscriberLines$End", "startWaiting", "()V"⟩, _)) 6 rfl) (al_at 8 (by decide +kernel) rfl) (al_at 466 (by decide +kernel) rfl) ⟨by decide, by decide, by decide +kernel⟩ hR
theorem cv_en_transmit {p : Program} {l : Launch} {e : Env} {R : Room} {s : State} {m : MethodId} {args : Array Value} {below : List Frame} {meth : Method} {c : Code} {cc : ByteArray} {nL : Nat} {ad : Nat → Nat} {D : va_G} {g : Nat → ClassId} {B : Nat} {own : String} {idx : Nat} (X : ox_C p s m args c cc nL own D g ad B) (hV : rx_V l D g ad B ⟨"SubscriberLines$End", "transmit", "(I)V"⟩ prog_3_method_11_code 4 none 1 24 K_en_transmit) (hl : Cond.methodLink own idx ⟨"SubscriberLines$End", "transmit", "(I)V"⟩ ∈ al) (hR : 1 + 1 ≤ R.frames ∧ 8 + (4 + 11) + 24 ≤ R.locals) : rx_OK p l e R s m args below meth c cc nL ad (mx_W D g ad B s.heap) mx_cs (.invokevirtual idx) 3 2 (K_en_transmit) :=
  ox_callV (q := 8) (T := T_8) X hV (fun av x h => by obtain ⟨a0, a1, rfl⟩ := k_RI_inv h; exact ⟨a0, _, rfl, h⟩) (by decide) rfl hl (al_at 470 (by decide +kernel) rfl) (al_pr (y := (⟨"SubscriberLines$End", "transmit", "(I)V"⟩, _)) 7 rfl) (al_at 8 (by decide +kernel) rfl) (al_at 471 (by decide +kernel) rfl) ⟨by decide, by decide, by decide +kernel⟩ hR
theorem ok_en_put : rx_okF prog_3_method_4_code 5 none L_en_put 0 L_en_put = true := by decide +kernel
theorem V_en_put {l : Launch} {D : va_G} {g : Nat → ClassId} {ad : Nat → Nat} {B : Nat} (had : mx_A ad B) : rx_V l D g ad B ⟨"SubscriberLines$End", "put", "(III)V"⟩ prog_3_method_4_code 5 none 2 47 K_en_put := by
  intro av x hp
  obtain ⟨a0, a1, a2, a3, rfl⟩ := k_RIII_inv hp
  have hp : mx_kl a0 = 8 := hp
  exact rx_met (k := 1) had (by decide) (Nat.le_of_ble_eq_true rfl) ok_en_put rfl rfl 57 (fun p e s m args below meth c X => And.intro (og_en_32_g X) (And.intro (og_en_41_g X) (And.intro (og_en_38_g X) (And.intro (cv_en_isEmpty X (V_en_isEmpty had) (al_at 503 (by decide +kernel) rfl) ⟨by decide, by decide⟩) (And.intro (cv_en_startWaiting X (V_en_startWaiting had) (al_at 463 (by decide +kernel) rfl) ⟨by decide, by decide⟩) (And.intro (og_en_41_g X) (And.intro (cv_en_placeOf X (V_en_placeOf had) (al_at 472 (by decide +kernel) rfl) ⟨by decide, by decide⟩) (And.intro (og_en_11_g X) (And.intro (ox_pa X) (And.intro (og_en_15_g X) (And.intro (ox_pa X) (And.intro (og_en_18_g X) (And.intro (ox_pa X) (And.intro (og_en_41_g X) (And.intro (og_en_41_p X) (And.intro (og_en_41_g X) (And.intro (og_en_38_g X) (And.intro (og_en_41_g X) (And.intro (cv_en_transmit X (V_en_transmit had) (al_at 468 (by decide +kernel) rfl) ⟨by decide, by decide⟩) (trivial)))))))))))))))))))) (S_en_put x.1 x.2 a0 a1 a2 a3 hp) (E_en_put x.1 x.2 a0 a1 a2 a3)
def en_acknowledge (c : mx_C) (t : Nat) : mx_C :=
  let q1 := fl_launch c 17 (c.1 t 0) (c.1 t 1)
  let c2 := pk_number q1.1 q1.2 (q1.1.1 t 3) 0 (q1.1.1 t 4)
  c2
def K_en_acknowledge : rx_K mx := k_R (fun a0 c m => (mx_kl a0 = 8, (en_acknowledge c a0, m), none))
def L_en_acknowledge : List (rx_E mx) := [
  (0, .aload_n 0, 1, 0, 0, 0, [], kno),
  (1, .getfield 28, 3, 7, 1, 0, [], kgr0 8 2 1),
  (4, .bipush 17, 2, 0, 0, 17, [], kno),
  (6, .aload_n 0, 1, 0, 0, 0, [], kno),
  (7, .getfield 21, 3, 7, 1, 0, [], kgi 8 0),
  (10, .aload_n 0, 1, 0, 0, 0, [], kno),
  (11, .getfield 25, 3, 7, 1, 0, [], kgi 8 1),
  (14, .invokevirtual 83, 3, 7, 4, 0, [], K_fl_launch),
  (17, .aload_n 0, 1, 0, 0, 0, [], kno),
  (18, .getfield 32, 3, 7, 1, 0, [], kgi 8 3),
  (21, .iconst 0, 1, 0, 0, 0, [], kno),
  (22, .aload_n 0, 1, 0, 0, 0, [], kno),
  (23, .getfield 35, 3, 7, 1, 0, [], kgi 8 4),
  (26, .invokevirtual 89, 3, 7, 4, 0, [], K_pk_number),
  (29, .return_, 1, 6, 0, 0, [], kno)]
theorem E_en_acknowledge (c : mx_C) (m : mx_M) (t : Nat)  : rx_ev L_en_acknowledge [] 17 L_en_acknowledge (c, m) [some (.ref t)] [] = rw_v m (en_acknowledge c t) :=
  rfl
theorem S_en_acknowledge (c : mx_C) (m : mx_M) (t : Nat) (ht : mx_kl t = 8) : rx_sf L_en_acknowledge [] 17 L_en_acknowledge (c, m) [some (.ref t)] [] :=
  And.intro ht (And.intro ht (And.intro ht (And.intro rfl (And.intro ht (And.intro ht (And.intro (fl_launch_pk _ _ _ _) (trivial)))))))

theorem ok_en_acknowledge : rx_okF prog_3_method_6_code 1 none L_en_acknowledge 0 L_en_acknowledge = true := by decide +kernel
theorem V_en_acknowledge {l : Launch} {D : va_G} {g : Nat → ClassId} {ad : Nat → Nat} {B : Nat} (had : mx_A ad B) : rx_V l D g ad B ⟨"SubscriberLines$End", "acknowledge", "()V"⟩ prog_3_method_6_code 1 none 1 24 K_en_acknowledge := by
  intro av x hp
  obtain ⟨a0, rfl⟩ := k_R_inv hp
  have hp : mx_kl a0 = 8 := hp
  exact rx_met (k := 0) had (by decide) (Nat.le_of_ble_eq_true rfl) ok_en_acknowledge rfl rfl 17 (fun p e s m args below meth c X => And.intro (og_en_28_g X) (And.intro (og_en_21_g X) (And.intro (og_en_25_g X) (And.intro (cv_fl_launch X (V_fl_launch had) (al_at 475 (by decide +kernel) rfl) ⟨by decide, by decide⟩) (And.intro (og_en_32_g X) (And.intro (og_en_35_g X) (And.intro (cv_pk_number X (V_pk_number had) (al_at 477 (by decide +kernel) rfl) ⟨by decide, by decide⟩) (trivial)))))))) (S_en_acknowledge x.1 x.2 a0 hp) (E_en_acknowledge x.1 x.2 a0)
def en_settle_66 : Nat → mx_C → Nat → Int32 → Int32 → Int32 → Int32 → Int32 → mx_C
  | 0, c, _, _, _, _, _, _ => c
  | n + 1, c, r0, v1, v2, v3, v4, v5 =>
    if v5 < v4 then
      let c1 := en_transmit c r0 v5
      en_settle_66 n c1 r0 v1 v2 v3 v4 (v5 + 1)
    else
      c
def en_settle (c : mx_C) (t : Nat) (a1 : Int32) : mx_C :=
  if (c.1 t 7) < (jx_min a1 (c.1 t 8)) then
    let c1 := mx_pi c t 7 (jx_min a1 (c.1 t 8))
    let c2 := en_startWaiting c1 t
    en_settle_66 (4) c2 t a1 (jx_min ((c.1 t 7) + 3) (c.1 t 8)) (jx_min a1 (c.1 t 8)) (jx_min ((c2.1 t 7) + 3) (c2.1 t 8)) (jx_max (jx_min ((c.1 t 7) + 3) (c.1 t 8)) (c2.1 t 7))
  else
    c
def K_en_settle : rx_K mx := k_RI (fun a0 a1 c m => (mx_kl a0 = 8, (en_settle c a0 a1, m), none))
def L_en_settle : List (rx_E mx) := [
  (0, .aload_n 0, 1, 0, 0, 0, [], kno),
  (1, .getfield 38, 3, 7, 1, 0, [], kgi 8 7),
  (4, .iconst 3, 1, 0, 0, 3, [], kno),
  (5, .iadd, 1, 0, 0, 0, [], kno),
  (6, .aload_n 0, 1, 0, 0, 0, [], kno),
  (7, .getfield 41, 3, 7, 1, 0, [], kgi 8 8),
  (10, .invokestatic 95, 3, 7, 2, 0, [], kmin),
  (13, .istore_n 2, 1, 0, 2, 0, [], kno),
  (14, .iload_n 1, 1, 0, 1, 0, [], kno),
  (15, .aload_n 0, 1, 0, 0, 0, [], kno),
  (16, .getfield 41, 3, 7, 1, 0, [], kgi 8 8),
  (19, .invokestatic 95, 3, 7, 2, 0, [], kmin),
  (22, .istore_n 3, 1, 0, 3, 0, [], kno),
  (23, .iload_n 3, 1, 0, 3, 0, [], kno),
  (24, .aload_n 0, 1, 0, 0, 0, [], kno),
  (25, .getfield 38, 3, 7, 1, 0, [], kgi 8 7),
  (28, .if_icmp .gt 4, 3, 2, 18, 0, [], kno),
  (31, .return_, 1, 6, 0, 0, [], kno),
  (32, .aload_n 0, 1, 0, 0, 0, [], kno),
  (33, .iload_n 3, 1, 0, 3, 0, [], kno),
  (34, .putfield 38, 3, 7, 2, 0, [], kpi 8 7),
  (37, .aload_n 0, 1, 0, 0, 0, [], kno),
  (38, .invokevirtual 54, 3, 7, 1, 0, [], K_en_startWaiting),
  (41, .aload_n 0, 1, 0, 0, 0, [], kno),
  (42, .getfield 38, 3, 7, 1, 0, [], kgi 8 7),
  (45, .iconst 3, 1, 0, 0, 3, [], kno),
  (46, .iadd, 1, 0, 0, 0, [], kno),
  (47, .aload_n 0, 1, 0, 0, 0, [], kno),
  (48, .getfield 41, 3, 7, 1, 0, [], kgi 8 8),
  (51, .invokestatic 95, 3, 7, 2, 0, [], kmin),
  (54, .istore 4, 2, 0, 4, 0, [], kno),
  (56, .iload_n 2, 1, 0, 2, 0, [], kno),
  (57, .aload_n 0, 1, 0, 0, 0, [], kno),
  (58, .getfield 38, 3, 7, 1, 0, [], kgi 8 7),
  (61, .invokestatic 101, 3, 7, 2, 0, [], kmax),
  (64, .istore 5, 2, 0, 5, 0, [], kno),
  (66, .iload 5, 2, 0, 5, 0, [], kno),
  (68, .iload 4, 2, 0, 4, 0, [], kno),
  (70, .if_icmp .ge 15, 3, 2, 44, 0, [], kno),
  (73, .aload_n 0, 1, 0, 0, 0, [], kno),
  (74, .iload 5, 2, 0, 5, 0, [], kno),
  (76, .invokevirtual 61, 3, 7, 2, 0, [], K_en_transmit),
  (79, .iinc 5 1, 3, 0, 5, 1, [], kno),
  (82, .goto (-16), 3, 1, 36, 0, [], kno),
  (85, .return_, 1, 6, 0, 0, [], kno)]
def G_en_settle (n : Nat) : rx_G := fun x ls st =>
  match ls, st with
  | [some (.ref r0), some (.int v1), some (.int v2), some (.int v3), some (.int v4), some (.int v5)], [] => (mx_kl r0 = 8 ∧ en_P n v5 v4, rw_v x.2 (en_settle_66 n x.1 r0 v1 v2 v3 v4 v5))
  | _, _ => (False, (x, none))
theorem GI_en_settle {n : Nat} {x : mx} {ls : rx_L} {st : List Value} (h : (G_en_settle n x ls st).1) : ∃ (r0 : Nat) (v1 : Int32) (v2 : Int32) (v3 : Int32) (v4 : Int32) (v5 : Int32), ls = [some (.ref r0), some (.int v1), some (.int v2), some (.int v3), some (.int v4), some (.int v5)] ∧ st = [] ∧ mx_kl r0 = 8 ∧ en_P n v5 v4 := by
  unfold G_en_settle at h
  split at h
  · exact ⟨_, _, _, _, _, _, rfl, rfl, h⟩
  · exact False.elim h
theorem EH_en_settle (n : Nat) (c : mx_C) (m : mx_M) (r0 : Nat) (v1 : Int32) (v2 : Int32) (v3 : Int32) (v4 : Int32) (v5 : Int32) : rx_ev L_en_settle [(66, G_en_settle n)] 47 (L_en_settle.drop 36) (c, m) [some (.ref r0), some (.int v1), some (.int v2), some (.int v3), some (.int v4), some (.int v5)] [] = rw_v m (en_settle_66 (n + 1) c r0 v1 v2 v3 v4 v5) :=
  rx_ite2 (f := rw_v m) (fun _ => rfl) (fun _ => rfl)
theorem SH_en_settle (n : Nat) (c : mx_C) (m : mx_M) (r0 : Nat) (v1 : Int32) (v2 : Int32) (v3 : Int32) (v4 : Int32) (v5 : Int32) (hk : mx_kl r0 = 8) (hP : en_P (n + 1) v5 v4) : rx_sf L_en_settle [(66, G_en_settle n)] 47 (L_en_settle.drop 36) (c, m) [some (.ref r0), some (.int v1), some (.int v2), some (.int v3), some (.int v4), some (.int v5)] [] :=
  And.intro (fun h0 => And.intro hk (And.intro hk (en_P1 h0 hP))) (fun h0 => trivial)
theorem E_en_settle (c : mx_C) (m : mx_M) (t : Nat) (a1 : Int32)  : rx_ev L_en_settle [(66, G_en_settle (4))] 47 L_en_settle (c, m) [some (.ref t), some (.int a1), none, none, none, none] [] = rw_v m (en_settle c t a1) :=
  rx_ite2 (f := rw_v m) (fun _ => rfl) (fun _ => rfl)
theorem S_en_settle (c : mx_C) (m : mx_M) (t : Nat) (a1 : Int32) (ht : mx_kl t = 8) : rx_sf L_en_settle [(66, G_en_settle (4))] 47 L_en_settle (c, m) [some (.ref t), some (.int a1), none, none, none, none] [] :=
  And.intro ht (And.intro ht (And.intro trivial (And.intro ht (And.intro trivial (And.intro ht (And.intro (fun h0 => And.intro ht (And.intro ht (And.intro ht (And.intro ht (And.intro trivial (And.intro ht (And.intro trivial (And.intro ht (en_P0 _ _ _))))))))) (fun h0 => trivial)))))))
theorem ok_en_settle : rx_okF prog_3_method_9_code 6 none L_en_settle 0 L_en_settle = true := by decide +kernel
theorem O_en_settle {l : Launch} {D : va_G} {g : Nat → ClassId} {ad : Nat → Nat} {B : Nat} (had : mx_A ad B) {p : Program} {e : Env} {s : State} {m : MethodId} {args : Array Value} {below : List Frame} {meth : Method} {c : Code} (X : ox_C p s m args c prog_3_method_9_code 6 "SubscriberLines$End" D g ad B) : rx_ops p l e ({ frames := 2, cells := 0, slots := 0, locals := 47 } : Room) s m args below meth c prog_3_method_9_code 6 ad (mx_W D g ad B s.heap) mx_cs L_en_settle :=
  And.intro (og_en_38_g X) (And.intro (og_en_41_g X) (And.intro (ox_min X (al_at 462 (by decide +kernel) rfl) (by decide) (by decide)) (And.intro (og_en_41_g X) (And.intro (ox_min X (al_at 462 (by decide +kernel) rfl) (by decide) (by decide)) (And.intro (og_en_38_g X) (And.intro (og_en_38_p X) (And.intro (cv_en_startWaiting X (V_en_startWaiting had) (al_at 463 (by decide +kernel) rfl) ⟨by decide, by decide⟩) (And.intro (og_en_38_g X) (And.intro (og_en_41_g X) (And.intro (ox_min X (al_at 462 (by decide +kernel) rfl) (by decide) (by decide)) (And.intro (og_en_38_g X) (And.intro (ox_max X (al_at 467 (by decide +kernel) rfl) (by decide) (by decide)) (And.intro (cv_en_transmit X (V_en_transmit had) (al_at 468 (by decide +kernel) rfl) ⟨by decide, by decide⟩) (trivial))))))))))))))
theorem V_en_settle {l : Launch} {D : va_G} {g : Nat → ClassId} {ad : Nat → Nat} {B : Nat} (had : mx_A ad B) : rx_V l D g ad B ⟨"SubscriberLines$End", "settle", "(I)V"⟩ prog_3_method_9_code 6 none 2 47 K_en_settle := by
  intro av x hp
  obtain ⟨a0, a1, rfl⟩ := k_RI_inv hp
  have hp : mx_kl a0 = 8 := hp
  refine rx_metX (k := 4) had (by decide) (Nat.le_of_ble_eq_true rfl) fun p e s m args below meth c X hr hlk => ?_
  refine rx_walk X hr hlk ok_en_settle (O_en_settle had X) (cut := [(66, G_en_settle (4))]) (rx_cc ?_ rx_c0) 47 0 rfl (S_en_settle x.1 x.2 a0 a1 hp) (E_en_settle x.1 x.2 a0 a1 )
  refine rx_loop (G := G_en_settle) X hr hlk ok_en_settle (O_en_settle had X) rx_c0 47 36 rfl (fun x ls st h => ?_) (fun n x ls st h => ?_) _
  · obtain ⟨r0, v1, v2, v3, v4, v5, -, -, h3⟩ := GI_en_settle h
    have h4 := h3.2
    omega
  · obtain ⟨r0, v1, v2, v3, v4, v5, rfl, rfl, h3⟩ := GI_en_settle h
    obtain ⟨hk, hP⟩ := h3
    exact ⟨SH_en_settle n x.1 x.2 r0 v1 v2 v3 v4 v5 hk hP, EH_en_settle n x.1 x.2 r0 v1 v2 v3 v4 v5⟩
def en_isNext (c : mx_C) (t : Nat) (a1 : Nat) : mx_C × Int32 :=
  if (c.1 a1 6) = (c.1 t 3) then
    let c1 := en_settle c t (c.1 a1 8)
    if (c1.1 a1 0) = 17 then
      (c1, 0)
    else
      if (c1.1 a1 7) = (c1.1 t 4) then
        let c2 := mx_pi c1 t 4 ((c1.1 t 4) + 1)
        (c2, 1)
      else
        let c3 := en_acknowledge c1 t
        (c3, 0)
  else
    (c, 0)
def K_en_isNext : rx_K mx := k_RR (fun a0 a1 c m => (mx_kl a0 = 8 ∧ mx_kl a1 = 2, ((en_isNext c a0 a1).1, m), some (.int (en_isNext c a0 a1).2)))
def L_en_isNext : List (rx_E mx) := [
  (0, .aload_n 1, 1, 0, 1, 0, [], kno),
  (1, .getfield 65, 3, 7, 1, 0, [], kgi 2 6),
  (4, .aload_n 0, 1, 0, 0, 0, [], kno),
  (5, .getfield 32, 3, 7, 1, 0, [], kgi 8 3),
  (8, .if_icmp .eq 5, 3, 2, 7, 0, [], kno),
  (11, .iconst 0, 1, 0, 0, 0, [], kno),
  (12, .ireturn, 1, 5, 1, 0, [], kno),
  (13, .aload_n 0, 1, 0, 0, 0, [], kno),
  (14, .aload_n 1, 1, 0, 1, 0, [], kno),
  (15, .getfield 70, 3, 7, 1, 0, [], kgi 2 8),
  (18, .invokevirtual 71, 3, 7, 2, 0, [], K_en_settle),
  (21, .aload_n 1, 1, 0, 1, 0, [], kno),
  (22, .getfield 74, 3, 7, 1, 0, [], kgi 2 0),
  (25, .bipush 17, 2, 0, 0, 17, [], kno),
  (27, .if_icmp .ne 5, 3, 2, 17, 0, [], kno),
  (30, .iconst 0, 1, 0, 0, 0, [], kno),
  (31, .ireturn, 1, 5, 1, 0, [], kno),
  (32, .aload_n 1, 1, 0, 1, 0, [], kno),
  (33, .getfield 77, 3, 7, 1, 0, [], kgi 2 7),
  (36, .aload_n 0, 1, 0, 0, 0, [], kno),
  (37, .getfield 35, 3, 7, 1, 0, [], kgi 8 4),
  (40, .if_icmp .eq 9, 3, 2, 26, 0, [], kno),
  (43, .aload_n 0, 1, 0, 0, 0, [], kno),
  (44, .invokevirtual 80, 3, 7, 1, 0, [], K_en_acknowledge),
  (47, .iconst 0, 1, 0, 0, 0, [], kno),
  (48, .ireturn, 1, 5, 1, 0, [], kno),
  (49, .aload_n 0, 1, 0, 0, 0, [], kno),
  (50, .dup, 1, 0, 0, 0, [], kno),
  (51, .getfield 35, 3, 7, 1, 0, [], kgi 8 4),
  (54, .iconst 1, 1, 0, 0, 1, [], kno),
  (55, .iadd, 1, 0, 0, 0, [], kno),
  (56, .putfield 35, 3, 7, 2, 0, [], kpi 8 4),
  (59, .iconst 1, 1, 0, 0, 1, [], kno),
  (60, .ireturn, 1, 5, 1, 0, [], kno)]
theorem E_en_isNext (c : mx_C) (m : mx_M) (t : Nat) (a1 : Nat)  : rx_ev L_en_isNext [] 36 L_en_isNext (c, m) [some (.ref t), some (.ref a1)] [] = rw_i m (en_isNext c t a1) :=
  rx_ite2 (f := rw_i m) (fun _ => rx_ite2 (f := rw_i m) (fun _ => rfl) (fun _ => rx_ite2 (f := rw_i m) (fun _ => rfl) (fun _ => rfl))) (fun _ => rfl)
theorem S_en_isNext (c : mx_C) (m : mx_M) (t : Nat) (a1 : Nat) (ht : mx_kl t = 8) (ha1 : mx_kl a1 = 2) : rx_sf L_en_isNext [] 36 L_en_isNext (c, m) [some (.ref t), some (.ref a1)] [] :=
  And.intro ha1 (And.intro ht (And.intro (fun h0 => And.intro ha1 (And.intro ht (And.intro ha1 (And.intro (fun h1 => Or.inl rfl) (fun h1 => And.intro ha1 (And.intro ht (And.intro (fun h2 => And.intro ht (And.intro ht (Or.inr rfl))) (fun h2 => And.intro ht (Or.inl rfl))))))))) (fun h0 => Or.inl rfl)))

theorem og_en_65_g {p : Program} {l : Launch} {e : Env} {R : Room} {s : State} {m : MethodId} {args : Array Value} {below : List Frame} {meth : Method} {c : Code} {cc : ByteArray} {nL : Nat} {ad : Nat → Nat} {D : va_G} {g : Nat → ClassId} {B : Nat} (X : ox_C p s m args c cc nL "SubscriberLines$End" D g ad B) : rx_OK p l e R s m args below meth c cc nL ad (mx_W D g ad B s.heap) mx_cs (.getfield 65) 3 1 (kgi 2 6) := ox_gi (T := T_2) X rfl (by decide) (by decide) in_2 rfl (al_at 63 (by decide +kernel) rfl)
theorem og_en_70_g {p : Program} {l : Launch} {e : Env} {R : Room} {s : State} {m : MethodId} {args : Array Value} {below : List Frame} {meth : Method} {c : Code} {cc : ByteArray} {nL : Nat} {ad : Nat → Nat} {D : va_G} {g : Nat → ClassId} {B : Nat} (X : ox_C p s m args c cc nL "SubscriberLines$End" D g ad B) : rx_OK p l e R s m args below meth c cc nL ad (mx_W D g ad B s.heap) mx_cs (.getfield 70) 3 1 (kgi 2 8) := ox_gi (T := T_2) X rfl (by decide) (by decide) in_2 rfl (al_at 70 (by decide +kernel) rfl)
theorem cv_en_settle {p : Program} {l : Launch} {e : Env} {R : Room} {s : State} {m : MethodId} {args : Array Value} {below : List Frame} {meth : Method} {c : Code} {cc : ByteArray} {nL : Nat} {ad : Nat → Nat} {D : va_G} {g : Nat → ClassId} {B : Nat} {own : String} {idx : Nat} (X : ox_C p s m args c cc nL own D g ad B) (hV : rx_V l D g ad B ⟨"SubscriberLines$End", "settle", "(I)V"⟩ prog_3_method_9_code 6 none 2 47 K_en_settle) (hl : Cond.methodLink own idx ⟨"SubscriberLines$End", "settle", "(I)V"⟩ ∈ al) (hR : 2 + 1 ≤ R.frames ∧ 8 + (6 + 11) + 47 ≤ R.locals) : rx_OK p l e R s m args below meth c cc nL ad (mx_W D g ad B s.heap) mx_cs (.invokevirtual idx) 3 2 (K_en_settle) :=
  ox_callV (q := 8) (T := T_8) X hV (fun av x h => by obtain ⟨a0, a1, rfl⟩ := k_RI_inv h; exact ⟨a0, _, rfl, h⟩) (by decide) rfl hl (al_at 460 (by decide +kernel) rfl) (al_pr (y := (⟨"SubscriberLines$End", "settle", "(I)V"⟩, _)) 5 rfl) (al_at 8 (by decide +kernel) rfl) (al_at 461 (by decide +kernel) rfl) ⟨by decide, by decide, by decide +kernel⟩ hR
theorem og_en_74_g {p : Program} {l : Launch} {e : Env} {R : Room} {s : State} {m : MethodId} {args : Array Value} {below : List Frame} {meth : Method} {c : Code} {cc : ByteArray} {nL : Nat} {ad : Nat → Nat} {D : va_G} {g : Nat → ClassId} {B : Nat} (X : ox_C p s m args c cc nL "SubscriberLines$End" D g ad B) : rx_OK p l e R s m args below meth c cc nL ad (mx_W D g ad B s.heap) mx_cs (.getfield 74) 3 1 (kgi 2 0) := ox_gi (T := T_2) X rfl (by decide) (by decide) in_2 rfl (al_at 39 (by decide +kernel) rfl)
theorem og_en_77_g {p : Program} {l : Launch} {e : Env} {R : Room} {s : State} {m : MethodId} {args : Array Value} {below : List Frame} {meth : Method} {c : Code} {cc : ByteArray} {nL : Nat} {ad : Nat → Nat} {D : va_G} {g : Nat → ClassId} {B : Nat} (X : ox_C p s m args c cc nL "SubscriberLines$End" D g ad B) : rx_OK p l e R s m args below meth c cc nL ad (mx_W D g ad B s.heap) mx_cs (.getfield 77) 3 1 (kgi 2 7) := ox_gi (T := T_2) X rfl (by decide) (by decide) in_2 rfl (al_at 67 (by decide +kernel) rfl)
theorem cv_en_acknowledge {p : Program} {l : Launch} {e : Env} {R : Room} {s : State} {m : MethodId} {args : Array Value} {below : List Frame} {meth : Method} {c : Code} {cc : ByteArray} {nL : Nat} {ad : Nat → Nat} {D : va_G} {g : Nat → ClassId} {B : Nat} {own : String} {idx : Nat} (X : ox_C p s m args c cc nL own D g ad B) (hV : rx_V l D g ad B ⟨"SubscriberLines$End", "acknowledge", "()V"⟩ prog_3_method_6_code 1 none 1 24 K_en_acknowledge) (hl : Cond.methodLink own idx ⟨"SubscriberLines$End", "acknowledge", "()V"⟩ ∈ al) (hR : 1 + 1 ≤ R.frames ∧ 8 + (1 + 11) + 24 ≤ R.locals) : rx_OK p l e R s m args below meth c cc nL ad (mx_W D g ad B s.heap) mx_cs (.invokevirtual idx) 3 1 (K_en_acknowledge) :=
  ox_callV (q := 8) (T := T_8) X hV (fun av x h => by obtain ⟨a0, rfl⟩ := k_R_inv h; exact ⟨a0, _, rfl, h⟩) (by decide) rfl hl (al_at 482 (by decide +kernel) rfl) (al_at 483 (by decide +kernel) rfl) (al_at 8 (by decide +kernel) rfl) (al_at 484 (by decide +kernel) rfl) ⟨by decide, by decide, by decide +kernel⟩ hR
theorem ok_en_isNext : rx_okF prog_3_method_5_code 2 (some .boolean) L_en_isNext 0 L_en_isNext = true := by decide +kernel
theorem V_en_isNext {l : Launch} {D : va_G} {g : Nat → ClassId} {ad : Nat → Nat} {B : Nat} (had : mx_A ad B) : rx_V l D g ad B ⟨"SubscriberLines$End", "isNext", "(LSubscriberLines$Packet;)Z"⟩ prog_3_method_5_code 2 (some .boolean) 3 72 K_en_isNext := by
  intro av x hp
  obtain ⟨a0, a1, rfl⟩ := k_RR_inv hp
  have hp : mx_kl a0 = 8 ∧ mx_kl a1 = 2 := hp
  exact rx_met (k := 0) had (by decide) (Nat.le_of_ble_eq_true rfl) ok_en_isNext rfl rfl 36 (fun p e s m args below meth c X => And.intro (og_en_65_g X) (And.intro (og_en_32_g X) (And.intro (og_en_70_g X) (And.intro (cv_en_settle X (V_en_settle had) (al_at 458 (by decide +kernel) rfl) ⟨by decide, by decide⟩) (And.intro (og_en_74_g X) (And.intro (og_en_77_g X) (And.intro (og_en_35_g X) (And.intro (cv_en_acknowledge X (V_en_acknowledge had) (al_at 481 (by decide +kernel) rfl) ⟨by decide, by decide⟩) (And.intro (og_en_35_g X) (And.intro (og_en_35_p X) (trivial))))))))))) (S_en_isNext x.1 x.2 a0 a1 hp.1 hp.2) (E_en_isNext x.1 x.2 a0 a1)
def en_breaksAtTimer (c : mx_C) (t : Nat) : mx_C × Int32 :=
  if (en_isEmpty c t) = 0 then
    let c1 := mx_pi c t 6 ((c.1 t 6) - 1)
    if 0 < (c1.1 t 6) then
      (c1, 0)
    else
      if (c1.1 t 5) = 3 then
        let c2 := en_begin c1 t 0
        (c2, 1)
      else
        let c3 := mx_pi c1 t 5 ((c1.1 t 5) + 1)
        let c4 := mx_pi c3 t 6 (2 <<< ((c3.1 t 5) &&& 31))
        let c5 := en_transmit c4 t (c4.1 t 7)
        (c5, 0)
  else
    (c, 0)
def K_en_breaksAtTimer : rx_K mx := k_R (fun a0 c m => (mx_kl a0 = 8, ((en_breaksAtTimer c a0).1, m), some (.int (en_breaksAtTimer c a0).2)))
def L_en_breaksAtTimer : List (rx_E mx) := [
  (0, .aload_n 0, 1, 0, 0, 0, [], kno),
  (1, .invokevirtual 50, 3, 7, 1, 0, [], K_en_isEmpty),
  (4, .ifCond .eq 5, 3, 2, 5, 0, [], kno),
  (7, .iconst 0, 1, 0, 0, 0, [], kno),
  (8, .ireturn, 1, 5, 1, 0, [], kno),
  (9, .aload_n 0, 1, 0, 0, 0, [], kno),
  (10, .dup, 1, 0, 0, 0, [], kno),
  (11, .getfield 47, 3, 7, 1, 0, [], kgi 8 6),
  (14, .iconst 1, 1, 0, 0, 1, [], kno),
  (15, .isub, 1, 0, 0, 0, [], kno),
  (16, .putfield 47, 3, 7, 2, 0, [], kpi 8 6),
  (19, .aload_n 0, 1, 0, 0, 0, [], kno),
  (20, .getfield 47, 3, 7, 1, 0, [], kgi 8 6),
  (23, .ifCond .le 5, 3, 2, 16, 0, [], kno),
  (26, .iconst 0, 1, 0, 0, 0, [], kno),
  (27, .ireturn, 1, 5, 1, 0, [], kno),
  (28, .aload_n 0, 1, 0, 0, 0, [], kno),
  (29, .getfield 44, 3, 7, 1, 0, [], kgi 8 5),
  (32, .iconst 3, 1, 0, 0, 3, [], kno),
  (33, .if_icmp .ne 10, 3, 2, 25, 0, [], kno),
  (36, .aload_n 0, 1, 0, 0, 0, [], kno),
  (37, .iconst 0, 1, 0, 0, 0, [], kno),
  (38, .invokevirtual 92, 3, 7, 2, 0, [], K_en_begin),
  (41, .iconst 1, 1, 0, 0, 1, [], kno),
  (42, .ireturn, 1, 5, 1, 0, [], kno),
  (43, .aload_n 0, 1, 0, 0, 0, [], kno),
  (44, .dup, 1, 0, 0, 0, [], kno),
  (45, .getfield 44, 3, 7, 1, 0, [], kgi 8 5),
  (48, .iconst 1, 1, 0, 0, 1, [], kno),
  (49, .iadd, 1, 0, 0, 0, [], kno),
  (50, .putfield 44, 3, 7, 2, 0, [], kpi 8 5),
  (53, .aload_n 0, 1, 0, 0, 0, [], kno),
  (54, .iconst 2, 1, 0, 0, 2, [], kno),
  (55, .aload_n 0, 1, 0, 0, 0, [], kno),
  (56, .getfield 44, 3, 7, 1, 0, [], kgi 8 5),
  (59, .ishl, 1, 0, 0, 0, [], kno),
  (60, .putfield 47, 3, 7, 2, 0, [], kpi 8 6),
  (63, .aload_n 0, 1, 0, 0, 0, [], kno),
  (64, .aload_n 0, 1, 0, 0, 0, [], kno),
  (65, .getfield 38, 3, 7, 1, 0, [], kgi 8 7),
  (68, .invokevirtual 61, 3, 7, 2, 0, [], K_en_transmit),
  (71, .iconst 0, 1, 0, 0, 0, [], kno),
  (72, .ireturn, 1, 5, 1, 0, [], kno)]
theorem E_en_breaksAtTimer (c : mx_C) (m : mx_M) (t : Nat)  : rx_ev L_en_breaksAtTimer [] 45 L_en_breaksAtTimer (c, m) [some (.ref t)] [] = rw_i m (en_breaksAtTimer c t) :=
  rx_ite2 (f := rw_i m) (fun _ => rx_ite2 (f := rw_i m) (fun _ => rfl) (fun _ => rx_ite2 (f := rw_i m) (fun _ => rfl) (fun _ => rfl))) (fun _ => rfl)
theorem S_en_breaksAtTimer (c : mx_C) (m : mx_M) (t : Nat) (ht : mx_kl t = 8) : rx_sf L_en_breaksAtTimer [] 45 L_en_breaksAtTimer (c, m) [some (.ref t)] [] :=
  And.intro ht (And.intro (fun h0 => And.intro ht (And.intro ht (And.intro ht (And.intro (fun h1 => Or.inl rfl) (fun h1 => And.intro ht (And.intro (fun h2 => And.intro ht (Or.inr rfl)) (fun h2 => And.intro ht (And.intro ht (And.intro ht (And.intro ht (And.intro ht (And.intro ht (Or.inl rfl))))))))))))) (fun h0 => Or.inl rfl))

theorem og_en_47_g {p : Program} {l : Launch} {e : Env} {R : Room} {s : State} {m : MethodId} {args : Array Value} {below : List Frame} {meth : Method} {c : Code} {cc : ByteArray} {nL : Nat} {ad : Nat → Nat} {D : va_G} {g : Nat → ClassId} {B : Nat} (X : ox_C p s m args c cc nL "SubscriberLines$End" D g ad B) : rx_OK p l e R s m args below meth c cc nL ad (mx_W D g ad B s.heap) mx_cs (.getfield 47) 3 1 (kgi 8 6) := ox_gi (T := T_8) X rfl (by decide) (by decide) in_8 rfl (al_at 189 (by decide +kernel) rfl)
theorem og_en_44_g {p : Program} {l : Launch} {e : Env} {R : Room} {s : State} {m : MethodId} {args : Array Value} {below : List Frame} {meth : Method} {c : Code} {cc : ByteArray} {nL : Nat} {ad : Nat → Nat} {D : va_G} {g : Nat → ClassId} {B : Nat} (X : ox_C p s m args c cc nL "SubscriberLines$End" D g ad B) : rx_OK p l e R s m args below meth c cc nL ad (mx_W D g ad B s.heap) mx_cs (.getfield 44) 3 1 (kgi 8 5) := ox_gi (T := T_8) X rfl (by decide) (by decide) in_8 rfl (al_at 188 (by decide +kernel) rfl)
theorem cv_en_begin {p : Program} {l : Launch} {e : Env} {R : Room} {s : State} {m : MethodId} {args : Array Value} {below : List Frame} {meth : Method} {c : Code} {cc : ByteArray} {nL : Nat} {ad : Nat → Nat} {D : va_G} {g : Nat → ClassId} {B : Nat} {own : String} {idx : Nat} (X : ox_C p s m args c cc nL own D g ad B) (hV : rx_V l D g ad B ⟨"SubscriberLines$End", "begin", "(I)V"⟩ prog_3_method_2_code 2 none 0 0 K_en_begin) (hl : Cond.methodLink own idx ⟨"SubscriberLines$End", "begin", "(I)V"⟩ ∈ al) (hR : 0 + 1 ≤ R.frames ∧ 8 + (2 + 11) + 0 ≤ R.locals) : rx_OK p l e R s m args below meth c cc nL ad (mx_W D g ad B s.heap) mx_cs (.invokevirtual idx) 3 2 (K_en_begin) :=
  ox_callV (q := 8) (T := T_8) X hV (fun av x h => by obtain ⟨a0, a1, rfl⟩ := k_RI_inv h; exact ⟨a0, _, rfl, h⟩) (by decide) rfl hl (al_at 424 (by decide +kernel) rfl) (al_at 425 (by decide +kernel) rfl) (al_at 8 (by decide +kernel) rfl) (al_at 426 (by decide +kernel) rfl) ⟨by decide, by decide, by decide +kernel⟩ hR
theorem ok_en_breaksAtTimer : rx_okF prog_3_method_7_code 1 (some .boolean) L_en_breaksAtTimer 0 L_en_breaksAtTimer = true := by decide +kernel
theorem V_en_breaksAtTimer {l : Launch} {D : va_G} {g : Nat → ClassId} {ad : Nat → Nat} {B : Nat} (had : mx_A ad B) : rx_V l D g ad B ⟨"SubscriberLines$End", "breaksAtTimer", "()Z"⟩ prog_3_method_7_code 1 (some .boolean) 2 47 K_en_breaksAtTimer := by
  intro av x hp
  obtain ⟨a0, rfl⟩ := k_R_inv hp
  have hp : mx_kl a0 = 8 := hp
  exact rx_met (k := 0) had (by decide) (Nat.le_of_ble_eq_true rfl) ok_en_breaksAtTimer rfl rfl 45 (fun p e s m args below meth c X => And.intro (cv_en_isEmpty X (V_en_isEmpty had) (al_at 503 (by decide +kernel) rfl) ⟨by decide, by decide⟩) (And.intro (og_en_47_g X) (And.intro (og_en_47_p X) (And.intro (og_en_47_g X) (And.intro (og_en_44_g X) (And.intro (cv_en_begin X (V_en_begin had) (al_at 612 (by decide +kernel) rfl) ⟨by decide, by decide⟩) (And.intro (og_en_44_g X) (And.intro (og_en_44_p X) (And.intro (og_en_44_g X) (And.intro (og_en_47_p X) (And.intro (og_en_38_g X) (And.intro (cv_en_transmit X (V_en_transmit had) (al_at 468 (by decide +kernel) rfl) ⟨by decide, by decide⟩) (trivial))))))))))))) (S_en_breaksAtTimer x.1 x.2 a0 hp) (E_en_breaksAtTimer x.1 x.2 a0)
def en_tell (c : mx_C) (t : Nat) (a1 : Int32) : Int32 :=
  if a1 = 0 then
    (c.1 t 3)
  else
    if a1 = 1 then
      ((c.1 t 8) - (c.1 t 7))
    else
      if a1 = 2 then
        (c.1 t 4)
      else
        if a1 = 3 then
          if (en_isEmpty c t) = 0 then
            (c.1 t 5)
          else
            0
        else
          if a1 = 4 then
            if (en_isEmpty c t) = 0 then
              (c.1 t 6)
            else
              0
          else
            0
def K_en_tell : rx_K mx := k_RI (fun a0 a1 c m => (mx_kl a0 = 8, (c, m), some (.int (en_tell c a0 a1))))
def L_en_tell : List (rx_E mx) := [
  (0, .iload_n 1, 1, 0, 1, 0, [], kno),
  (1, .tableswitch 87 0 4 #[35, 40, 50, 55, 71], 35, 4, 30, 0, [(0, 2), (1, 5), (2, 11), (3, 14), (4, 22)], kno),
  (36, .aload_n 0, 1, 0, 0, 0, [], kno),
  (37, .getfield 32, 3, 7, 1, 0, [], kgi 8 3),
  (40, .ireturn, 1, 5, 0, 0, [], kno),
  (41, .aload_n 0, 1, 0, 0, 0, [], kno),
  (42, .getfield 41, 3, 7, 1, 0, [], kgi 8 8),
  (45, .aload_n 0, 1, 0, 0, 0, [], kno),
  (46, .getfield 38, 3, 7, 1, 0, [], kgi 8 7),
  (49, .isub, 1, 0, 0, 0, [], kno),
  (50, .ireturn, 1, 5, 0, 0, [], kno),
  (51, .aload_n 0, 1, 0, 0, 0, [], kno),
  (52, .getfield 35, 3, 7, 1, 0, [], kgi 8 4),
  (55, .ireturn, 1, 5, 0, 0, [], kno),
  (56, .aload_n 0, 1, 0, 0, 0, [], kno),
  (57, .invokevirtual 50, 3, 7, 1, 0, [], K_en_isEmpty),
  (60, .ifCond .eq 7, 3, 2, 19, 0, [], kno),
  (63, .iconst 0, 1, 0, 0, 0, [], kno),
  (64, .goto 7, 3, 1, 21, 0, [], kno),
  (67, .aload_n 0, 1, 0, 0, 0, [], kno),
  (68, .getfield 44, 3, 7, 1, 0, [], kgi 8 5),
  (71, .ireturn, 1, 5, 0, 0, [], kno),
  (72, .aload_n 0, 1, 0, 0, 0, [], kno),
  (73, .invokevirtual 50, 3, 7, 1, 0, [], K_en_isEmpty),
  (76, .ifCond .eq 7, 3, 2, 27, 0, [], kno),
  (79, .iconst 0, 1, 0, 0, 0, [], kno),
  (80, .goto 7, 3, 1, 29, 0, [], kno),
  (83, .aload_n 0, 1, 0, 0, 0, [], kno),
  (84, .getfield 47, 3, 7, 1, 0, [], kgi 8 6),
  (87, .ireturn, 1, 5, 0, 0, [], kno),
  (88, .iconst 0, 1, 0, 0, 0, [], kno),
  (89, .ireturn, 1, 5, 0, 0, [], kno)]
theorem E_en_tell (c : mx_C) (m : mx_M) (t : Nat) (a1 : Int32)  : rx_ev L_en_tell [] 34 L_en_tell (c, m) [some (.ref t), some (.int a1)] [] = rw_p c m (en_tell c t a1) :=
  rx_ite2 (f := rw_p c m) (fun _ => rfl) (fun _ => rx_ite2 (f := rw_p c m) (fun _ => rfl) (fun _ => rx_ite2 (f := rw_p c m) (fun _ => rfl) (fun _ => rx_ite2 (f := rw_p c m) (fun _ => rx_ite2 (f := rw_p c m) (fun _ => rfl) (fun _ => rfl)) (fun _ => rx_ite2 (f := rw_p c m) (fun _ => rx_ite2 (f := rw_p c m) (fun _ => rfl) (fun _ => rfl)) (fun _ => rfl)))))
theorem S_en_tell (c : mx_C) (m : mx_M) (t : Nat) (a1 : Int32) (ht : mx_kl t = 8) : rx_sf L_en_tell [] 34 L_en_tell (c, m) [some (.ref t), some (.int a1)] [] :=
  And.intro (fun h0 => And.intro ht (trivial)) (fun h0 => And.intro (fun h1 => And.intro ht (And.intro ht (trivial))) (fun h1 => And.intro (fun h2 => And.intro ht (trivial)) (fun h2 => And.intro (fun h3 => And.intro ht (And.intro (fun h4 => And.intro ht (trivial)) (fun h4 => trivial))) (fun h3 => And.intro (fun h4 => And.intro ht (And.intro (fun h5 => And.intro ht (trivial)) (fun h5 => trivial))) (fun h4 => trivial)))))

theorem ok_en_tell : rx_okF prog_3_method_8_code 2 (some .int) L_en_tell 0 L_en_tell = true := by decide +kernel
theorem V_en_tell {l : Launch} {D : va_G} {g : Nat → ClassId} {ad : Nat → Nat} {B : Nat} (had : mx_A ad B) : rx_V l D g ad B ⟨"SubscriberLines$End", "tell", "(I)I"⟩ prog_3_method_8_code 2 (some .int) 1 20 K_en_tell := by
  intro av x hp
  obtain ⟨a0, a1, rfl⟩ := k_RI_inv hp
  have hp : mx_kl a0 = 8 := hp
  exact rx_met (k := 0) had (by decide) (Nat.le_of_ble_eq_true rfl) ok_en_tell rfl rfl 34 (fun p e s m args below meth c X => And.intro (og_en_32_g X) (And.intro (og_en_41_g X) (And.intro (og_en_38_g X) (And.intro (og_en_35_g X) (And.intro (cv_en_isEmpty X (V_en_isEmpty had) (al_at 503 (by decide +kernel) rfl) ⟨by decide, by decide⟩) (And.intro (og_en_44_g X) (And.intro (cv_en_isEmpty X (V_en_isEmpty had) (al_at 503 (by decide +kernel) rfl) ⟨by decide, by decide⟩) (And.intro (og_en_47_g X) (trivial))))))))) (S_en_tell x.1 x.2 a0 a1 hp) (E_en_tell x.1 x.2 a0 a1)
