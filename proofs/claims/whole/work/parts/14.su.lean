theorem fl_ex {k : Int32} {q : Fin 41} (h0 : ¬ k < 0) (h1 : k < Int32.ofNat q.val - 1) : vp_in k (mx_lenG 2 2 2) ∧ vp_in (k + 1) (mx_lenG 2 2 2) := by
  rw [i_lt, Int32.toInt_zero] at h0
  rw [i_lt] at h1
  have e : (Int32.ofNat q.val - 1).toInt = (q.val : Int) - 1 := by
    rw [i_sub, i_of _ (by omega)]
    · rfl
    · rw [i_of _ (by omega)]; show _ ≤ (q.val : Int) - 1; omega
    · rw [i_of _ (by omega)]; show (q.val : Int) - 1 < _; omega
  rw [e] at h1
  have e2 : (k + 1).toInt = k.toInt + 1 := i_add (show _ ≤ k.toInt + 1 by omega) (show k.toInt + 1 < _ by omega)
  rw [i_in, i_in, e2]
  show (_ ∧ k.toInt < (41 : Int)) ∧ (_ ∧ k.toInt + 1 < (41 : Int))
  omega
def fl_exchange (c : mx_C) (a1 : Int32) : mx_C × Int32 :=
  if a1 < 0 then
    (c, 0)
  else
    if a1 < ((Int32.ofNat c.2.2.2.1.val) - 1) then
      let c1 := mx_pr c (Int32.toNatClampNeg a1) (Fin.ofNat 41 ((4 + (c.2.1 (Int32.toNatClampNeg (a1 + 1))).val) - 4))
      let c2 := mx_pr c1 (Int32.toNatClampNeg (a1 + 1)) (Fin.ofNat 41 ((4 + (c.2.1 (Int32.toNatClampNeg a1)).val) - 4))
      (c2, 1)
    else
      (c, 0)
def K_fl_exchange : rx_K mx := k_RI (fun a0 a1 c m => (a0 = 1, ((fl_exchange c a1).1, m), some (.int (fl_exchange c a1).2)))
def L_fl_exchange : List (rx_E mx) := [
  (0, .iload_n 1, 1, 0, 1, 0, [], kno),
  (1, .ifCond .lt 13, 3, 2, 8, 0, [], kno),
  (4, .iload_n 1, 1, 0, 1, 0, [], kno),
  (5, .aload_n 0, 1, 0, 0, 0, [], kno),
  (6, .getfield 22, 3, 7, 1, 0, [], kgf),
  (9, .iconst 1, 1, 0, 0, 1, [], kno),
  (10, .isub, 1, 0, 0, 0, [], kno),
  (11, .if_icmp .lt 5, 3, 2, 10, 0, [], kno),
  (14, .iconst 0, 1, 0, 0, 0, [], kno),
  (15, .ireturn, 1, 5, 1, 0, [], kno),
  (16, .aload_n 0, 1, 0, 0, 0, [], kno),
  (17, .getfield 11, 3, 7, 1, 0, [], kgr0 1 0 2),
  (20, .iload_n 1, 1, 0, 1, 0, [], kno),
  (21, .aaload, 1, 7, 2, 0, [], kar),
  (22, .astore_n 2, 1, 0, 2, 0, [], kno),
  (23, .aload_n 0, 1, 0, 0, 0, [], kno),
  (24, .getfield 11, 3, 7, 1, 0, [], kgr0 1 0 2),
  (27, .iload_n 1, 1, 0, 1, 0, [], kno),
  (28, .aload_n 0, 1, 0, 0, 0, [], kno),
  (29, .getfield 11, 3, 7, 1, 0, [], kgr0 1 0 2),
  (32, .iload_n 1, 1, 0, 1, 0, [], kno),
  (33, .iconst 1, 1, 0, 0, 1, [], kno),
  (34, .iadd, 1, 0, 0, 0, [], kno),
  (35, .aaload, 1, 7, 2, 0, [], kar),
  (36, .aastore, 1, 7, 3, 0, [], kpr),
  (37, .aload_n 0, 1, 0, 0, 0, [], kno),
  (38, .getfield 11, 3, 7, 1, 0, [], kgr0 1 0 2),
  (41, .iload_n 1, 1, 0, 1, 0, [], kno),
  (42, .iconst 1, 1, 0, 0, 1, [], kno),
  (43, .iadd, 1, 0, 0, 0, [], kno),
  (44, .aload_n 2, 1, 0, 2, 0, [], kno),
  (45, .aastore, 1, 7, 3, 0, [], kpr),
  (46, .iconst 1, 1, 0, 0, 1, [], kno),
  (47, .ireturn, 1, 5, 1, 0, [], kno)]
theorem E_fl_exchange (c : mx_C) (m : mx_M) (a1 : Int32)  : rx_ev L_fl_exchange [] 36 L_fl_exchange (c, m) [some (.ref 1), some (.int a1), none] [] = rw_i m (fl_exchange c a1) :=
  rx_ite2 (f := rw_i m) (fun _ => rfl) (fun _ => rx_ite2 (f := rw_i m) (fun _ => rfl) (fun _ => rfl))
theorem S_fl_exchange (c : mx_C) (m : mx_M) (a1 : Int32)  : rx_sf L_fl_exchange [] 36 L_fl_exchange (c, m) [some (.ref 1), some (.int a1), none] [] :=
  And.intro (fun h0 => Or.inl rfl) (fun h0 => And.intro rfl (And.intro (fun h1 => And.intro rfl (And.intro (fl_ex h0 h1).1 (And.intro rfl (And.intro rfl (And.intro (fl_ex h0 h1).2 (And.intro (And.intro (fl_ex h0 h1).1 (fl_row_in _)) (And.intro rfl (And.intro (And.intro (fl_ex h0 h1).2 (fl_row_in _)) (Or.inr rfl))))))))) (fun h1 => Or.inl rfl)))

theorem ok_fl_exchange : rx_okF prog_4_method_5_code 3 (some .boolean) L_fl_exchange 0 L_fl_exchange = true := by decide +kernel
theorem V_fl_exchange {l : Launch} {D : va_G} {g : Nat → ClassId} {ad : Nat → Nat} {B : Nat} (had : mx_A ad B) : rx_V l D g ad B ⟨"SubscriberLines$Flight", "exchange", "(I)Z"⟩ prog_4_method_5_code 3 (some .boolean) 0 0 K_fl_exchange := by
  intro av x hp
  obtain ⟨a0, a1, rfl⟩ := k_RI_inv hp
  have hp : a0 = 1 := hp
  have h0 : a0 = 1 := hp
  subst h0
  exact rx_met (k := 1) had (by decide) (Nat.le_of_ble_eq_true rfl) ok_fl_exchange rfl rfl 36 (fun p e s m args below meth c X => And.intro (og_fl_22_g X) (And.intro (og_fl_11_g X) (And.intro (ox_ar X) (And.intro (og_fl_11_g X) (And.intro (og_fl_11_g X) (And.intro (ox_ar X) (And.intro (ox_pr X) (And.intro (og_fl_11_g X) (And.intro (ox_pr X) (trivial)))))))))) (S_fl_exchange x.1 x.2 a1 ) (E_fl_exchange x.1 x.2 a1)
def K_fl_takeN : rx_K mx := k_RI (fun a0 a1 c m => (a0 = 1 ∧ fl_holds c a1 = 0, (c, m), some .null))
theorem E_fl_takeN (c : mx_C) (m : mx_M) (a1 : Int32) (hh : fl_holds c a1 = 0) : rx_ev L_fl_take [] 43 L_fl_take (c, m) [some (.ref 1), some (.int a1), none, none] [] = ((c, m), some .null) := rx_litT hh rfl
theorem S_fl_takeN (c : mx_C) (m : mx_M) (a1 : Int32) (hh : fl_holds c a1 = 0) : rx_sf L_fl_take [] 43 L_fl_take (c, m) [some (.ref 1), some (.int a1), none, none] [] := And.intro rfl (And.intro (fun _ => trivial) (fun h => absurd hh h))
theorem ok_fl_takeN : rx_okF prog_4_method_4_code 4 (some (.object "SubscriberLines$Packet")) L_fl_take 0 L_fl_take = true := by decide +kernel
theorem V_fl_takeN {l : Launch} {D : va_G} {g : Nat → ClassId} {ad : Nat → Nat} {B : Nat} (had : mx_A ad B) : rx_V l D g ad B ⟨"SubscriberLines$Flight", "take", "(I)LSubscriberLines$Packet;"⟩ prog_4_method_4_code 4 (some (.object "SubscriberLines$Packet")) 1 21 K_fl_takeN := by
  intro av x hp
  obtain ⟨a0, a1, rfl⟩ := k_RI_inv hp
  have hp : a0 = 1 ∧ fl_holds x.1 a1 = 0 := hp
  have h0 : a0 = 1 := hp.1
  subst h0
  exact rx_met (k := 2) had (by decide) (Nat.le_of_ble_eq_true rfl) ok_fl_takeN rfl rfl 43 (fun p e s m args below meth c X => And.intro (cv_fl_holds X (V_fl_holds had) (al_at 444 (by decide +kernel) rfl) ⟨by decide, by decide⟩) (And.intro (og_fl_11_g X) (And.intro (ox_ar X) (And.intro (og_fl_11_g X) (And.intro (og_fl_11_g X) (And.intro (ox_ar X) (And.intro (ox_pr X) (And.intro (og_fl_11_g X) (And.intro (ox_pr X) (And.intro (og_fl_22_g X) (And.intro (og_fl_22_p X) (trivial)))))))))))) (S_fl_takeN x.1 x.2 a1 hp.2) (E_fl_takeN x.1 x.2 a1 hp.2)
theorem hi_len {t : Nat} (h : mx_kl t = 3) : mx_lenG 0 0 (t + 1) = mx_len (t + 1) ∧ (mx_len (t + 1) = 4 ∨ mx_len (t + 1) = 8) := by
  have hi := mx_kl_lt h (by decide)
  have k : ∀ j : Fin 116, mx_kl j.val = 3 → mx_lenG 0 0 (j.val + 1) = mx_len (j.val + 1) ∧ (mx_len (j.val + 1) = 4 ∨ mx_len (j.val + 1) = 8) := by decide +kernel
  exact k ⟨t, hi⟩ h
abbrev hi_P (n : Nat) (v : Int32) (t : Nat) : Prop := 0 ≤ v.toInt ∧ v.toInt < (mx_len (t + 1) : Int) ∧ v.toInt < (n : Int)
theorem hi_P0 {t : Nat} (h : mx_kl t = 3) : 0 < mx_len (t + 1) ∧ hi_P 9 (Int32.ofNat (mx_len (t + 1)) - 1) t := by
  have hl := (hi_len h).2
  unfold hi_P
  rcases hl with hl | hl <;> rw [hl] <;> decide
theorem hi_in {v : Int32} {t : Nat} (h : mx_kl t = 3) (h1 : 0 ≤ v.toInt) (h2 : v.toInt < (mx_len (t + 1) : Int)) : vp_in v (mx_lenG 0 0 (t + 1)) := by
  rw [(hi_len h).1, i_in]
  exact ⟨h1, h2⟩
theorem hi_P1 {n : Nat} {v : Int32} {t : Nat} (hk : mx_kl t = 3) (h : 0 < v) (hP : hi_P (n + 1) v t) : (vp_in v (mx_lenG 0 0 (t + 1)) ∧ vp_in (v - 1) (mx_lenG 0 0 (t + 1))) ∧ hi_P n (v + -1) t := by
  rw [i_lt, Int32.toInt_zero] at h
  obtain ⟨p1, p2, p3⟩ := hP
  have hr := i_rng v
  have e : (v - 1).toInt = v.toInt - 1 := i_sub (show _ ≤ v.toInt - 1 by omega) (show v.toInt - 1 < _ by omega)
  have e2 : (v + -1).toInt = v.toInt + -1 := i_add (show _ ≤ v.toInt + -1 by omega) (show v.toInt + -1 < _ by omega)
  refine ⟨⟨hi_in hk p1 p2, hi_in hk (by rw [e]; omega) (by rw [e]; omega)⟩, ?_⟩
  unfold hi_P
  rw [e2]
  omega
theorem hi_z {t : Nat} (hk : mx_kl t = 3) : vp_in 0 (mx_lenG 0 0 (t + 1)) := by
  refine hi_in hk (by decide) ?_
  show (0 : Int) < _
  have := (hi_len hk).2
  omega
theorem hi_lt {t : Nat} {k : Int32} (hk : mx_kl t = 3) (h0 : ¬ k < 0) (h1 : k < Int32.ofNat (mx_len (t + 1))) : vp_in k (mx_lenG 0 0 (t + 1)) := by
  have hl := (hi_len hk).2
  rw [i_lt, Int32.toInt_zero] at h0
  rw [i_lt, i_of _ (by omega)] at h1
  exact hi_in hk (by omega) h1
def hi_add_8 : Nat → mx_C → Nat → Int32 → Int32 → mx_C
  | 0, c, _, _, _ => c
  | n + 1, c, r0, v1, v2 =>
    if 0 < v2 then
      let c1 := mx_pi c (r0 + 1) (Int32.toNatClampNeg v2) (c.1 (r0 + 1) (Int32.toNatClampNeg (v2 - 1)))
      hi_add_8 n c1 r0 v1 (v2 + (-1))
    else
      let c2 := mx_pi c (r0 + 1) 0 v1
      let c3 := mx_pi c2 r0 1 ((c2.1 r0 1) + 1)
      c3
def hi_add (c : mx_C) (t : Nat) (a1 : Int32) : mx_C :=
  hi_add_8 (9) c t a1 ((Int32.ofNat (mx_len (t + 1))) - 1)
def K_hi_add : rx_K mx := k_RI (fun a0 a1 c m => (mx_kl a0 = 3, (hi_add c a0 a1, m), none))
def L_hi_add : List (rx_E mx) := [
  (0, .aload_n 0, 1, 0, 0, 0, [], kno),
  (1, .getfield 7, 3, 7, 1, 0, [], kgr1 3 0 1),
  (4, .arraylength, 1, 7, 1, 0, [], kal),
  (5, .iconst 1, 1, 0, 0, 1, [], kno),
  (6, .isub, 1, 0, 0, 0, [], kno),
  (7, .istore_n 2, 1, 0, 2, 0, [], kno),
  (8, .iload_n 2, 1, 0, 2, 0, [], kno),
  (9, .ifCond .le 23, 3, 2, 20, 0, [], kno),
  (12, .aload_n 0, 1, 0, 0, 0, [], kno),
  (13, .getfield 7, 3, 7, 1, 0, [], kgr1 3 0 1),
  (16, .iload_n 2, 1, 0, 2, 0, [], kno),
  (17, .aload_n 0, 1, 0, 0, 0, [], kno),
  (18, .getfield 7, 3, 7, 1, 0, [], kgr1 3 0 1),
  (21, .iload_n 2, 1, 0, 2, 0, [], kno),
  (22, .iconst 1, 1, 0, 0, 1, [], kno),
  (23, .isub, 1, 0, 0, 0, [], kno),
  (24, .iaload, 1, 7, 2, 0, [], kai),
  (25, .iastore, 1, 7, 3, 0, [], kpa),
  (26, .iinc 2 (-1), 3, 0, 2, (-1), [], kno),
  (29, .goto (-21), 3, 1, 6, 0, [], kno),
  (32, .aload_n 0, 1, 0, 0, 0, [], kno),
  (33, .getfield 7, 3, 7, 1, 0, [], kgr1 3 0 1),
  (36, .iconst 0, 1, 0, 0, 0, [], kno),
  (37, .iload_n 1, 1, 0, 1, 0, [], kno),
  (38, .iastore, 1, 7, 3, 0, [], kpa),
  (39, .aload_n 0, 1, 0, 0, 0, [], kno),
  (40, .dup, 1, 0, 0, 0, [], kno),
  (41, .getfield 13, 3, 7, 1, 0, [], kgi 3 1),
  (44, .iconst 1, 1, 0, 0, 1, [], kno),
  (45, .iadd, 1, 0, 0, 0, [], kno),
  (46, .putfield 13, 3, 7, 2, 0, [], kpi 3 1),
  (49, .return_, 1, 6, 0, 0, [], kno)]
def G_hi_add (n : Nat) : rx_G := fun x ls st =>
  match ls, st with
  | [some (.ref r0), some (.int v1), some (.int v2)], [] => (mx_kl r0 = 3 ∧ hi_P n v2 r0, rw_v x.2 (hi_add_8 n x.1 r0 v1 v2))
  | _, _ => (False, (x, none))
theorem GI_hi_add {n : Nat} {x : mx} {ls : rx_L} {st : List Value} (h : (G_hi_add n x ls st).1) : ∃ (r0 : Nat) (v1 : Int32) (v2 : Int32), ls = [some (.ref r0), some (.int v1), some (.int v2)] ∧ st = [] ∧ mx_kl r0 = 3 ∧ hi_P n v2 r0 := by
  unfold G_hi_add at h
  split at h
  · exact ⟨_, _, _, rfl, rfl, h⟩
  · exact False.elim h
theorem EH_hi_add (n : Nat) (c : mx_C) (m : mx_M) (r0 : Nat) (v1 : Int32) (v2 : Int32) : rx_ev L_hi_add [(8, G_hi_add n)] 34 (L_hi_add.drop 6) (c, m) [some (.ref r0), some (.int v1), some (.int v2)] [] = rw_v m (hi_add_8 (n + 1) c r0 v1 v2) :=
  rx_ite2 (f := rw_v m) (fun _ => rfl) (fun _ => rfl)
theorem SH_hi_add (n : Nat) (c : mx_C) (m : mx_M) (r0 : Nat) (v1 : Int32) (v2 : Int32) (hk : mx_kl r0 = 3) (hP : hi_P (n + 1) v2 r0) : rx_sf L_hi_add [(8, G_hi_add n)] 34 (L_hi_add.drop 6) (c, m) [some (.ref r0), some (.int v1), some (.int v2)] [] :=
  And.intro (fun h0 => And.intro hk (And.intro hk (And.intro (hi_P1 hk h0 hP).1.2 (And.intro (hi_P1 hk h0 hP).1.1 (And.intro hk (hi_P1 hk h0 hP).2))))) (fun h0 => And.intro hk (And.intro (hi_z hk) (And.intro hk (And.intro hk (trivial)))))
theorem E_hi_add (c : mx_C) (m : mx_M) (t : Nat) (a1 : Int32)  : rx_ev L_hi_add [(8, G_hi_add (9))] 34 L_hi_add (c, m) [some (.ref t), some (.int a1), none] [] = rw_v m (hi_add c t a1) :=
  rfl
theorem S_hi_add (c : mx_C) (m : mx_M) (t : Nat) (a1 : Int32) (ht : mx_kl t = 3) : rx_sf L_hi_add [(8, G_hi_add (9))] 34 L_hi_add (c, m) [some (.ref t), some (.int a1), none] [] :=
  And.intro ht (And.intro (hi_P0 ht).1 (And.intro ht (hi_P0 ht).2))
theorem og_hi_7_g {p : Program} {l : Launch} {e : Env} {R : Room} {s : State} {m : MethodId} {args : Array Value} {below : List Frame} {meth : Method} {c : Code} {cc : ByteArray} {nL : Nat} {ad : Nat → Nat} {D : va_G} {g : Nat → ClassId} {B : Nat} (X : ox_C p s m args c cc nL "SubscriberLines$History" D g ad B) : rx_OK p l e R s m args below meth c cc nL ad (mx_W D g ad B s.heap) mx_cs (.getfield 7) 3 1 (kgr1 3 0 1) := ox_gr1 (T := T_3) X rfl (by decide) (by decide) in_3 rfl (al_at 120 (by decide +kernel) rfl)
theorem og_hi_13_g {p : Program} {l : Launch} {e : Env} {R : Room} {s : State} {m : MethodId} {args : Array Value} {below : List Frame} {meth : Method} {c : Code} {cc : ByteArray} {nL : Nat} {ad : Nat → Nat} {D : va_G} {g : Nat → ClassId} {B : Nat} (X : ox_C p s m args c cc nL "SubscriberLines$History" D g ad B) : rx_OK p l e R s m args below meth c cc nL ad (mx_W D g ad B s.heap) mx_cs (.getfield 13) 3 1 (kgi 3 1) := ox_gi (T := T_3) X rfl (by decide) (by decide) in_3 rfl (al_at 121 (by decide +kernel) rfl)
theorem og_hi_13_p {p : Program} {l : Launch} {e : Env} {R : Room} {s : State} {m : MethodId} {args : Array Value} {below : List Frame} {meth : Method} {c : Code} {cc : ByteArray} {nL : Nat} {ad : Nat → Nat} {D : va_G} {g : Nat → ClassId} {B : Nat} (X : ox_C p s m args c cc nL "SubscriberLines$History" D g ad B) : rx_OK p l e R s m args below meth c cc nL ad (mx_W D g ad B s.heap) mx_cs (.putfield 13) 3 2 (kpi 3 1) := ox_pi (T := T_3) X rfl (by decide) (by decide) in_3 rfl ty_3 ty_3_ok nm_3 rfl rfl rfl (al_at 121 (by decide +kernel) rfl)
theorem ok_hi_add : rx_okF prog_5_method_2_code 3 none L_hi_add 0 L_hi_add = true := by decide +kernel
theorem O_hi_add {l : Launch} {D : va_G} {g : Nat → ClassId} {ad : Nat → Nat} {B : Nat} (had : mx_A ad B) {p : Program} {e : Env} {s : State} {m : MethodId} {args : Array Value} {below : List Frame} {meth : Method} {c : Code} (X : ox_C p s m args c prog_5_method_2_code 3 "SubscriberLines$History" D g ad B) : rx_ops p l e ({ frames := 0, cells := 0, slots := 0, locals := 0 } : Room) s m args below meth c prog_5_method_2_code 3 ad (mx_W D g ad B s.heap) mx_cs L_hi_add :=
  And.intro (og_hi_7_g X) (And.intro (ox_al X) (And.intro (og_hi_7_g X) (And.intro (og_hi_7_g X) (And.intro (ox_ai X) (And.intro (ox_pa X) (And.intro (og_hi_7_g X) (And.intro (ox_pa X) (And.intro (og_hi_13_g X) (And.intro (og_hi_13_p X) (trivial))))))))))
theorem V_hi_add {l : Launch} {D : va_G} {g : Nat → ClassId} {ad : Nat → Nat} {B : Nat} (had : mx_A ad B) : rx_V l D g ad B ⟨"SubscriberLines$History", "add", "(I)V"⟩ prog_5_method_2_code 3 none 0 0 K_hi_add := by
  intro av x hp
  obtain ⟨a0, a1, rfl⟩ := k_RI_inv hp
  have hp : mx_kl a0 = 3 := hp
  refine rx_metX (k := 1) had (by decide) (Nat.le_of_ble_eq_true rfl) fun p e s m args below meth c X hr hlk => ?_
  refine rx_walk X hr hlk ok_hi_add (O_hi_add had X) (cut := [(8, G_hi_add (9))]) (rx_cc ?_ rx_c0) 34 0 rfl (S_hi_add x.1 x.2 a0 a1 hp) (E_hi_add x.1 x.2 a0 a1 )
  refine rx_loop (G := G_hi_add) X hr hlk ok_hi_add (O_hi_add had X) rx_c0 34 6 rfl (fun x ls st h => ?_) (fun n x ls st h => ?_) _
  · obtain ⟨r0, v1, v2, -, -, h3⟩ := GI_hi_add h
    have h4 := h3.2
    omega
  · obtain ⟨r0, v1, v2, rfl, rfl, h3⟩ := GI_hi_add h
    obtain ⟨hk, hP⟩ := h3
    exact ⟨SH_hi_add n x.1 x.2 r0 v1 v2 hk hP, EH_hi_add n x.1 x.2 r0 v1 v2⟩
def hi_latest (c : mx_C) (t : Nat) (a1 : Int32) : Int32 :=
  if a1 < 0 then
    0
  else
    if a1 < (Int32.ofNat (mx_len (t + 1))) then
      (c.1 (t + 1) (Int32.toNatClampNeg a1))
    else
      0
def K_hi_latest : rx_K mx := k_RI (fun a0 a1 c m => (mx_kl a0 = 3, (c, m), some (.int (hi_latest c a0 a1))))
def L_hi_latest : List (rx_E mx) := [
  (0, .iload_n 1, 1, 0, 1, 0, [], kno),
  (1, .ifCond .lt 21, 3, 2, 12, 0, [], kno),
  (4, .iload_n 1, 1, 0, 1, 0, [], kno),
  (5, .aload_n 0, 1, 0, 0, 0, [], kno),
  (6, .getfield 7, 3, 7, 1, 0, [], kgr1 3 0 1),
  (9, .arraylength, 1, 7, 1, 0, [], kal),
  (10, .if_icmp .ge 12, 3, 2, 12, 0, [], kno),
  (13, .aload_n 0, 1, 0, 0, 0, [], kno),
  (14, .getfield 7, 3, 7, 1, 0, [], kgr1 3 0 1),
  (17, .iload_n 1, 1, 0, 1, 0, [], kno),
  (18, .iaload, 1, 7, 2, 0, [], kai),
  (19, .goto 4, 3, 1, 13, 0, [], kno),
  (22, .iconst 0, 1, 0, 0, 0, [], kno),
  (23, .ireturn, 1, 5, 0, 0, [], kno)]
theorem E_hi_latest (c : mx_C) (m : mx_M) (t : Nat) (a1 : Int32)  : rx_ev L_hi_latest [] 16 L_hi_latest (c, m) [some (.ref t), some (.int a1)] [] = rw_p c m (hi_latest c t a1) :=
  rx_ite2 (f := rw_p c m) (fun _ => rfl) (fun _ => rx_ite2 (f := rw_p c m) (fun _ => rfl) (fun _ => rfl))
theorem S_hi_latest (c : mx_C) (m : mx_M) (t : Nat) (a1 : Int32) (ht : mx_kl t = 3) : rx_sf L_hi_latest [] 16 L_hi_latest (c, m) [some (.ref t), some (.int a1)] [] :=
  And.intro (fun h0 => trivial) (fun h0 => And.intro ht (And.intro (hi_P0 ht).1 (And.intro (fun h1 => And.intro ht (And.intro (hi_lt ht h0 h1) (trivial))) (fun h1 => trivial))))

theorem ok_hi_latest : rx_okF prog_5_method_3_code 2 (some .int) L_hi_latest 0 L_hi_latest = true := by decide +kernel
theorem V_hi_latest {l : Launch} {D : va_G} {g : Nat → ClassId} {ad : Nat → Nat} {B : Nat} (had : mx_A ad B) : rx_V l D g ad B ⟨"SubscriberLines$History", "latest", "(I)I"⟩ prog_5_method_3_code 2 (some .int) 0 0 K_hi_latest := by
  intro av x hp
  obtain ⟨a0, a1, rfl⟩ := k_RI_inv hp
  have hp : mx_kl a0 = 3 := hp
  exact rx_met (k := 0) had (by decide) (Nat.le_of_ble_eq_true rfl) ok_hi_latest rfl rfl 16 (fun p e s m args below meth c X => And.intro (og_hi_7_g X) (And.intro (ox_al X) (And.intro (og_hi_7_g X) (And.intro (ox_ai X) (trivial))))) (S_hi_latest x.1 x.2 a0 a1 hp) (E_hi_latest x.1 x.2 a0 a1)
theorem su_wcell {t : Nat} (h : mx_kl t = 4) : mx_kl (t + 1) = 3 := by
  have hi := mx_kl_lt h (by decide)
  have k : ∀ j : Fin 116, mx_kl j.val = 4 → mx_kl (j.val + 1) = 3 := by decide +kernel
  exact k ⟨t, hi⟩ h
def su_receiveOnLink (c : mx_C) (t : Nat) (a1 : Nat) : mx_C :=
  if (c.1 a1 0) = 3 then
    let c1 := su_turnOff c t
    c1
  else
    if (c.1 a1 0) = 5 then
      let c2 := su_becomeAccepted c t (c.1 a1 4)
      c2
    else
      if (c.1 a1 0) = 6 then
        if (c.1 t 4) = 2 then
          let c3 := su_leave c t
          c3
        else
          if (c.1 a1 0) = 8 then
            if (c.1 t 4) = 3 then
              let c4 := mx_pi c t 11 0
              let q5 := fl_launch c4 9 (c4.1 t 1) 4
              let c6 := pk_bear q5.1 q5.2 (q5.1.1 t 6) 0 0
              c6
            else
              if (c.1 a1 0) = 11 then
                if (c.1 t 4) = 3 then
                  if (c.1 a1 4) = (c.1 t 5) then
                    let c7 := mx_pi c t 11 0
                    let c8 := hi_add c7 (t + 1) (c7.1 a1 5)
                    c8
                  else
                    c
                else
                  c
              else
                c
          else
            if (c.1 a1 0) = 11 then
              if (c.1 t 4) = 3 then
                if (c.1 a1 4) = (c.1 t 5) then
                  let c9 := mx_pi c t 11 0
                  let c10 := hi_add c9 (t + 1) (c9.1 a1 5)
                  c10
                else
                  c
              else
                c
            else
              c
      else
        if (c.1 a1 0) = 8 then
          if (c.1 t 4) = 3 then
            let c11 := mx_pi c t 11 0
            let q12 := fl_launch c11 9 (c11.1 t 1) 4
            let c13 := pk_bear q12.1 q12.2 (q12.1.1 t 6) 0 0
            c13
          else
            if (c.1 a1 0) = 11 then
              if (c.1 t 4) = 3 then
                if (c.1 a1 4) = (c.1 t 5) then
                  let c14 := mx_pi c t 11 0
                  let c15 := hi_add c14 (t + 1) (c14.1 a1 5)
                  c15
                else
                  c
              else
                c
            else
              c
        else
          if (c.1 a1 0) = 11 then
            if (c.1 t 4) = 3 then
              if (c.1 a1 4) = (c.1 t 5) then
                let c16 := mx_pi c t 11 0
                let c17 := hi_add c16 (t + 1) (c16.1 a1 5)
                c17
              else
                c
            else
              c
          else
            c
def K_su_receiveOnLink : rx_K mx := k_RR (fun a0 a1 c m => (mx_kl a0 = 4 ∧ mx_kl a1 = 2, (su_receiveOnLink c a0 a1, m), none))
def L_su_receiveOnLink : List (rx_E mx) := [
  (0, .aload_n 1, 1, 0, 1, 0, [], kno),
  (1, .getfield 61, 3, 7, 1, 0, [], kgi 2 0),
  (4, .iconst 3, 1, 0, 0, 3, [], kno),
  (5, .if_icmp .ne 10, 3, 2, 7, 0, [], kno),
  (8, .aload_n 0, 1, 0, 0, 0, [], kno),
  (9, .invokevirtual 87, 3, 7, 1, 0, [], K_su_turnOff),
  (12, .goto 138, 3, 1, 72, 0, [], kno),
  (15, .aload_n 1, 1, 0, 1, 0, [], kno),
  (16, .getfield 61, 3, 7, 1, 0, [], kgi 2 0),
  (19, .iconst 5, 1, 0, 0, 5, [], kno),
  (20, .if_icmp .ne 14, 3, 2, 16, 0, [], kno),
  (23, .aload_n 0, 1, 0, 0, 0, [], kno),
  (24, .aload_n 1, 1, 0, 1, 0, [], kno),
  (25, .getfield 90, 3, 7, 1, 0, [], kgi 2 4),
  (28, .invokevirtual 93, 3, 7, 2, 0, [], K_su_becomeAccepted),
  (31, .goto 119, 3, 1, 72, 0, [], kno),
  (34, .aload_n 1, 1, 0, 1, 0, [], kno),
  (35, .getfield 61, 3, 7, 1, 0, [], kgi 2 0),
  (38, .bipush 6, 2, 0, 0, 6, [], kno),
  (40, .if_icmp .ne 18, 3, 2, 27, 0, [], kno),
  (43, .aload_n 0, 1, 0, 0, 0, [], kno),
  (44, .getfield 28, 3, 7, 1, 0, [], kgi 4 4),
  (47, .iconst 2, 1, 0, 0, 2, [], kno),
  (48, .if_icmp .ne 10, 3, 2, 27, 0, [], kno),
  (51, .aload_n 0, 1, 0, 0, 0, [], kno),
  (52, .invokevirtual 43, 3, 7, 1, 0, [], K_su_leave),
  (55, .goto 95, 3, 1, 72, 0, [], kno),
  (58, .aload_n 1, 1, 0, 1, 0, [], kno),
  (59, .getfield 61, 3, 7, 1, 0, [], kgi 2 0),
  (62, .bipush 8, 2, 0, 0, 8, [], kno),
  (64, .if_icmp .ne 42, 3, 2, 51, 0, [], kno),
  (67, .aload_n 0, 1, 0, 0, 0, [], kno),
  (68, .getfield 28, 3, 7, 1, 0, [], kgi 4 4),
  (71, .iconst 3, 1, 0, 0, 3, [], kno),
  (72, .if_icmp .ne 34, 3, 2, 51, 0, [], kno),
  (75, .aload_n 0, 1, 0, 0, 0, [], kno),
  (76, .iconst 0, 1, 0, 0, 0, [], kno),
  (77, .putfield 78, 3, 7, 2, 0, [], kpi 4 11),
  (80, .aload_n 0, 1, 0, 0, 0, [], kno),
  (81, .getfield 24, 3, 7, 1, 0, [], kgr0 4 2 1),
  (84, .bipush 9, 2, 0, 0, 9, [], kno),
  (86, .aload_n 0, 1, 0, 0, 0, [], kno),
  (87, .getfield 20, 3, 7, 1, 0, [], kgi 4 1),
  (90, .iconst 4, 1, 0, 0, 4, [], kno),
  (91, .invokevirtual 46, 3, 7, 4, 0, [], K_fl_launch),
  (94, .aload_n 0, 1, 0, 0, 0, [], kno),
  (95, .getfield 52, 3, 7, 1, 0, [], kgi 4 6),
  (98, .iconst 0, 1, 0, 0, 0, [], kno),
  (99, .iconst 0, 1, 0, 0, 0, [], kno),
  (100, .invokevirtual 55, 3, 7, 4, 0, [], K_pk_bear),
  (103, .goto 47, 3, 1, 72, 0, [], kno),
  (106, .aload_n 1, 1, 0, 1, 0, [], kno),
  (107, .getfield 61, 3, 7, 1, 0, [], kgi 2 0),
  (110, .bipush 11, 2, 0, 0, 11, [], kno),
  (112, .if_icmp .ne 38, 3, 2, 72, 0, [], kno),
  (115, .aload_n 0, 1, 0, 0, 0, [], kno),
  (116, .getfield 28, 3, 7, 1, 0, [], kgi 4 4),
  (119, .iconst 3, 1, 0, 0, 3, [], kno),
  (120, .if_icmp .ne 30, 3, 2, 72, 0, [], kno),
  (123, .aload_n 1, 1, 0, 1, 0, [], kno),
  (124, .getfield 90, 3, 7, 1, 0, [], kgi 2 4),
  (127, .aload_n 0, 1, 0, 0, 0, [], kno),
  (128, .getfield 96, 3, 7, 1, 0, [], kgi 4 5),
  (131, .if_icmp .ne 19, 3, 2, 72, 0, [], kno),
  (134, .aload_n 0, 1, 0, 0, 0, [], kno),
  (135, .iconst 0, 1, 0, 0, 0, [], kno),
  (136, .putfield 78, 3, 7, 2, 0, [], kpi 4 11),
  (139, .aload_n 0, 1, 0, 0, 0, [], kno),
  (140, .getfield 16, 3, 7, 1, 0, [], kgr1 4 3 1),
  (143, .aload_n 1, 1, 0, 1, 0, [], kno),
  (144, .getfield 99, 3, 7, 1, 0, [], kgi 2 5),
  (147, .invokevirtual 102, 3, 7, 2, 0, [], K_hi_add),
  (150, .return_, 1, 6, 0, 0, [], kno)]
theorem E_su_receiveOnLink (c : mx_C) (m : mx_M) (t : Nat) (a1 : Nat)  : rx_ev L_su_receiveOnLink [] 75 L_su_receiveOnLink (c, m) [some (.ref t), some (.ref a1)] [] = rw_v m (su_receiveOnLink c t a1) :=
  rx_ite2 (f := rw_v m) (fun _ => rfl) (fun _ => rx_ite2 (f := rw_v m) (fun _ => rfl) (fun _ => rx_ite2 (f := rw_v m) (fun _ => rx_ite2 (f := rw_v m) (fun _ => rfl) (fun _ => rx_ite2 (f := rw_v m) (fun _ => rx_ite2 (f := rw_v m) (fun _ => rfl) (fun _ => rx_ite2 (f := rw_v m) (fun _ => rx_ite2 (f := rw_v m) (fun _ => rx_ite2 (f := rw_v m) (fun _ => rfl) (fun _ => rfl)) (fun _ => rfl)) (fun _ => rfl))) (fun _ => rx_ite2 (f := rw_v m) (fun _ => rx_ite2 (f := rw_v m) (fun _ => rx_ite2 (f := rw_v m) (fun _ => rfl) (fun _ => rfl)) (fun _ => rfl)) (fun _ => rfl)))) (fun _ => rx_ite2 (f := rw_v m) (fun _ => rx_ite2 (f := rw_v m) (fun _ => rfl) (fun _ => rx_ite2 (f := rw_v m) (fun _ => rx_ite2 (f := rw_v m) (fun _ => rx_ite2 (f := rw_v m) (fun _ => rfl) (fun _ => rfl)) (fun _ => rfl)) (fun _ => rfl))) (fun _ => rx_ite2 (f := rw_v m) (fun _ => rx_ite2 (f := rw_v m) (fun _ => rx_ite2 (f := rw_v m) (fun _ => rfl) (fun _ => rfl)) (fun _ => rfl)) (fun _ => rfl)))))
theorem S_su_receiveOnLink (c : mx_C) (m : mx_M) (t : Nat) (a1 : Nat) (ht : mx_kl t = 4) (ha1 : mx_kl a1 = 2) : rx_sf L_su_receiveOnLink [] 75 L_su_receiveOnLink (c, m) [some (.ref t), some (.ref a1)] [] :=
  And.intro ha1 (And.intro (fun h0 => And.intro ht (trivial)) (fun h0 => And.intro ha1 (And.intro (fun h1 => And.intro ha1 (And.intro ht (trivial))) (fun h1 => And.intro ha1 (And.intro (fun h2 => And.intro ht (And.intro (fun h3 => And.intro ht (trivial)) (fun h3 => And.intro ha1 (And.intro (fun h4 => And.intro ht (And.intro (fun h5 => And.intro ht (And.intro ht (And.intro ht (And.intro rfl (And.intro ht (And.intro (fl_launch_pk _ _ _ _) (trivial))))))) (fun h5 => And.intro ha1 (And.intro (fun h6 => And.intro ht (And.intro (fun h7 => And.intro ha1 (And.intro ht (And.intro (fun h8 => And.intro ht (And.intro ht (And.intro ha1 (And.intro (su_wcell ht) (trivial))))) (fun h8 => trivial)))) (fun h7 => trivial))) (fun h6 => trivial))))) (fun h4 => And.intro ha1 (And.intro (fun h5 => And.intro ht (And.intro (fun h6 => And.intro ha1 (And.intro ht (And.intro (fun h7 => And.intro ht (And.intro ht (And.intro ha1 (And.intro (su_wcell ht) (trivial))))) (fun h7 => trivial)))) (fun h6 => trivial))) (fun h5 => trivial))))))) (fun h2 => And.intro ha1 (And.intro (fun h3 => And.intro ht (And.intro (fun h4 => And.intro ht (And.intro ht (And.intro ht (And.intro rfl (And.intro ht (And.intro (fl_launch_pk _ _ _ _) (trivial))))))) (fun h4 => And.intro ha1 (And.intro (fun h5 => And.intro ht (And.intro (fun h6 => And.intro ha1 (And.intro ht (And.intro (fun h7 => And.intro ht (And.intro ht (And.intro ha1 (And.intro (su_wcell ht) (trivial))))) (fun h7 => trivial)))) (fun h6 => trivial))) (fun h5 => trivial))))) (fun h3 => And.intro ha1 (And.intro (fun h4 => And.intro ht (And.intro (fun h5 => And.intro ha1 (And.intro ht (And.intro (fun h6 => And.intro ht (And.intro ht (And.intro ha1 (And.intro (su_wcell ht) (trivial))))) (fun h6 => trivial)))) (fun h5 => trivial))) (fun h4 => trivial))))))))))

theorem og_su_61_g {p : Program} {l : Launch} {e : Env} {R : Room} {s : State} {m : MethodId} {args : Array Value} {below : List Frame} {meth : Method} {c : Code} {cc : ByteArray} {nL : Nat} {ad : Nat → Nat} {D : va_G} {g : Nat → ClassId} {B : Nat} (X : ox_C p s m args c cc nL "SubscriberLines$Subscriber" D g ad B) : rx_OK p l e R s m args below meth c cc nL ad (mx_W D g ad B s.heap) mx_cs (.getfield 61) 3 1 (kgi 2 0) := ox_gi (T := T_2) X rfl (by decide) (by decide) in_2 rfl (al_at 38 (by decide +kernel) rfl)
theorem og_su_90_g {p : Program} {l : Launch} {e : Env} {R : Room} {s : State} {m : MethodId} {args : Array Value} {below : List Frame} {meth : Method} {c : Code} {cc : ByteArray} {nL : Nat} {ad : Nat → Nat} {D : va_G} {g : Nat → ClassId} {B : Nat} (X : ox_C p s m args c cc nL "SubscriberLines$Subscriber" D g ad B) : rx_OK p l e R s m args below meth c cc nL ad (mx_W D g ad B s.heap) mx_cs (.getfield 90) 3 1 (kgi 2 4) := ox_gi (T := T_2) X rfl (by decide) (by decide) in_2 rfl (al_at 54 (by decide +kernel) rfl)
theorem cv_su_becomeAccepted {p : Program} {l : Launch} {e : Env} {R : Room} {s : State} {m : MethodId} {args : Array Value} {below : List Frame} {meth : Method} {c : Code} {cc : ByteArray} {nL : Nat} {ad : Nat → Nat} {D : va_G} {g : Nat → ClassId} {B : Nat} {own : String} {idx : Nat} (X : ox_C p s m args c cc nL own D g ad B) (hV : rx_V l D g ad B ⟨"SubscriberLines$Subscriber", "becomeAccepted", "(I)V"⟩ prog_10_method_10_code 2 none 1 24 K_su_becomeAccepted) (hl : Cond.methodLink own idx ⟨"SubscriberLines$Subscriber", "becomeAccepted", "(I)V"⟩ ∈ al) (hR : 1 + 1 ≤ R.frames ∧ 8 + (2 + 11) + 24 ≤ R.locals) : rx_OK p l e R s m args below meth c cc nL ad (mx_W D g ad B s.heap) mx_cs (.invokevirtual idx) 3 2 (K_su_becomeAccepted) :=
  ox_callV (q := 4) (T := T_4) X hV (fun av x h => by obtain ⟨a0, a1, rfl⟩ := k_RI_inv h; exact ⟨a0, _, rfl, h⟩) (by decide) rfl hl (al_at 599 (by decide +kernel) rfl) (al_pr (y := (⟨"SubscriberLines$Subscriber", "becomeAccepted", "(I)V"⟩, _)) 29 rfl) (al_at 5 (by decide +kernel) rfl) (al_at 600 (by decide +kernel) rfl) ⟨by decide, by decide, by decide +kernel⟩ hR
theorem og_su_16_g {p : Program} {l : Launch} {e : Env} {R : Room} {s : State} {m : MethodId} {args : Array Value} {below : List Frame} {meth : Method} {c : Code} {cc : ByteArray} {nL : Nat} {ad : Nat → Nat} {D : va_G} {g : Nat → ClassId} {B : Nat} (X : ox_C p s m args c cc nL "SubscriberLines$Subscriber" D g ad B) : rx_OK p l e R s m args below meth c cc nL ad (mx_W D g ad B s.heap) mx_cs (.getfield 16) 3 1 (kgr1 4 3 1) := ox_gr1 (T := T_4) X rfl (by decide) (by decide) in_4 rfl (al_at 131 (by decide +kernel) rfl)
theorem og_su_99_g {p : Program} {l : Launch} {e : Env} {R : Room} {s : State} {m : MethodId} {args : Array Value} {below : List Frame} {meth : Method} {c : Code} {cc : ByteArray} {nL : Nat} {ad : Nat → Nat} {D : va_G} {g : Nat → ClassId} {B : Nat} (X : ox_C p s m args c cc nL "SubscriberLines$Subscriber" D g ad B) : rx_OK p l e R s m args below meth c cc nL ad (mx_W D g ad B s.heap) mx_cs (.getfield 99) 3 1 (kgi 2 5) := ox_gi (T := T_2) X rfl (by decide) (by decide) in_2 rfl (al_at 59 (by decide +kernel) rfl)
theorem cv_hi_add {p : Program} {l : Launch} {e : Env} {R : Room} {s : State} {m : MethodId} {args : Array Value} {below : List Frame} {meth : Method} {c : Code} {cc : ByteArray} {nL : Nat} {ad : Nat → Nat} {D : va_G} {g : Nat → ClassId} {B : Nat} {own : String} {idx : Nat} (X : ox_C p s m args c cc nL own D g ad B) (hV : rx_V l D g ad B ⟨"SubscriberLines$History", "add", "(I)V"⟩ prog_5_method_2_code 3 none 0 0 K_hi_add) (hl : Cond.methodLink own idx ⟨"SubscriberLines$History", "add", "(I)V"⟩ ∈ al) (hR : 0 + 1 ≤ R.frames ∧ 8 + (3 + 11) + 0 ≤ R.locals) : rx_OK p l e R s m args below meth c cc nL ad (mx_W D g ad B s.heap) mx_cs (.invokevirtual idx) 3 2 (K_hi_add) :=
  ox_callV (q := 3) (T := T_3) X hV (fun av x h => by obtain ⟨a0, a1, rfl⟩ := k_RI_inv h; exact ⟨a0, _, rfl, h⟩) (by decide) rfl hl (al_at 569 (by decide +kernel) rfl) (al_at 570 (by decide +kernel) rfl) (al_at 6 (by decide +kernel) rfl) (al_at 571 (by decide +kernel) rfl) ⟨by decide, by decide, by decide +kernel⟩ hR
theorem ok_su_receiveOnLink : rx_okF prog_10_method_9_code 2 none L_su_receiveOnLink 0 L_su_receiveOnLink = true := by decide +kernel
theorem V_su_receiveOnLink {l : Launch} {D : va_G} {g : Nat → ClassId} {ad : Nat → Nat} {B : Nat} (had : mx_A ad B) : rx_V l D g ad B ⟨"SubscriberLines$Subscriber", "receiveOnLink", "(LSubscriberLines$Packet;)V"⟩ prog_10_method_9_code 2 none 2 45 K_su_receiveOnLink := by
  intro av x hp
  obtain ⟨a0, a1, rfl⟩ := k_RR_inv hp
  have hp : mx_kl a0 = 4 ∧ mx_kl a1 = 2 := hp
  exact rx_met (k := 0) had (by decide) (Nat.le_of_ble_eq_true rfl) ok_su_receiveOnLink rfl rfl 75 (fun p e s m args below meth c X => And.intro (og_su_61_g X) (And.intro (cv_su_turnOff X (V_su_turnOff had) (al_at 393 (by decide +kernel) rfl) ⟨by decide, by decide⟩) (And.intro (og_su_61_g X) (And.intro (og_su_90_g X) (And.intro (cv_su_becomeAccepted X (V_su_becomeAccepted had) (al_at 597 (by decide +kernel) rfl) ⟨by decide, by decide⟩) (And.intro (og_su_61_g X) (And.intro (og_su_28_g X) (And.intro (cv_su_leave X (V_su_leave had) (al_at 385 (by decide +kernel) rfl) ⟨by decide, by decide⟩) (And.intro (og_su_61_g X) (And.intro (og_su_28_g X) (And.intro (og_su_78_p X) (And.intro (og_su_24_g X) (And.intro (og_su_20_g X) (And.intro (cv_fl_launch X (V_fl_launch had) (al_at 369 (by decide +kernel) rfl) ⟨by decide, by decide⟩) (And.intro (og_su_52_g X) (And.intro (cv_pk_bear X (V_pk_bear had) (al_at 373 (by decide +kernel) rfl) ⟨by decide, by decide⟩) (And.intro (og_su_61_g X) (And.intro (og_su_28_g X) (And.intro (og_su_90_g X) (And.intro (og_su_96_g X) (And.intro (og_su_78_p X) (And.intro (og_su_16_g X) (And.intro (og_su_99_g X) (And.intro (cv_hi_add X (V_hi_add had) (al_at 601 (by decide +kernel) rfl) ⟨by decide, by decide⟩) (trivial))))))))))))))))))))))))) (S_su_receiveOnLink x.1 x.2 a0 a1 hp.1 hp.2) (E_su_receiveOnLink x.1 x.2 a0 a1)
def su_receive (c : mx_C) (t : Nat) (a1 : Nat) : mx_C :=
  if (c.1 a1 0) = 2 then
    let c1 := su_becomeLinked c t (c.1 a1 3)
    c1
  else
    if (su_hasLink c t) = 0 then
      c
    else
      if (c.1 a1 3) = (c.1 t 6) then
        let c2 := su_receiveOnLink c t a1
        c2
      else
        c
def K_su_receive : rx_K mx := k_RR (fun a0 a1 c m => (mx_kl a0 = 4 ∧ mx_kl a1 = 2, (su_receive c a0 a1, m), none))
def L_su_receive : List (rx_E mx) := [
  (0, .aload_n 1, 1, 0, 1, 0, [], kno),
  (1, .getfield 61, 3, 7, 1, 0, [], kgi 2 0),
  (4, .iconst 2, 1, 0, 0, 2, [], kno),
  (5, .if_icmp .ne 14, 3, 2, 9, 0, [], kno),
  (8, .aload_n 0, 1, 0, 0, 0, [], kno),
  (9, .aload_n 1, 1, 0, 1, 0, [], kno),
  (10, .getfield 64, 3, 7, 1, 0, [], kgi 2 3),
  (13, .invokevirtual 67, 3, 7, 2, 0, [], K_su_becomeLinked),
  (16, .goto 26, 3, 1, 20, 0, [], kno),
  (19, .aload_n 0, 1, 0, 0, 0, [], kno),
  (20, .invokevirtual 70, 3, 7, 1, 0, [], K_su_hasLink),
  (23, .ifCond .eq 19, 3, 2, 20, 0, [], kno),
  (26, .aload_n 1, 1, 0, 1, 0, [], kno),
  (27, .getfield 64, 3, 7, 1, 0, [], kgi 2 3),
  (30, .aload_n 0, 1, 0, 0, 0, [], kno),
  (31, .getfield 52, 3, 7, 1, 0, [], kgi 4 6),
  (34, .if_icmp .ne 8, 3, 2, 20, 0, [], kno),
  (37, .aload_n 0, 1, 0, 0, 0, [], kno),
  (38, .aload_n 1, 1, 0, 1, 0, [], kno),
  (39, .invokevirtual 74, 3, 7, 2, 0, [], K_su_receiveOnLink),
  (42, .return_, 1, 6, 0, 0, [], kno)]
theorem E_su_receive (c : mx_C) (m : mx_M) (t : Nat) (a1 : Nat)  : rx_ev L_su_receive [] 23 L_su_receive (c, m) [some (.ref t), some (.ref a1)] [] = rw_v m (su_receive c t a1) :=
  rx_ite2 (f := rw_v m) (fun _ => rfl) (fun _ => rx_ite2 (f := rw_v m) (fun _ => rfl) (fun _ => rx_ite2 (f := rw_v m) (fun _ => rfl) (fun _ => rfl)))
theorem S_su_receive (c : mx_C) (m : mx_M) (t : Nat) (a1 : Nat) (ht : mx_kl t = 4) (ha1 : mx_kl a1 = 2) : rx_sf L_su_receive [] 23 L_su_receive (c, m) [some (.ref t), some (.ref a1)] [] :=
  And.intro ha1 (And.intro (fun h0 => And.intro ha1 (And.intro ht (trivial))) (fun h0 => And.intro ht (And.intro (fun h1 => trivial) (fun h1 => And.intro ha1 (And.intro ht (And.intro (fun h2 => And.intro (And.intro ht ha1) (trivial)) (fun h2 => trivial)))))))

theorem og_su_64_g {p : Program} {l : Launch} {e : Env} {R : Room} {s : State} {m : MethodId} {args : Array Value} {below : List Frame} {meth : Method} {c : Code} {cc : ByteArray} {nL : Nat} {ad : Nat → Nat} {D : va_G} {g : Nat → ClassId} {B : Nat} (X : ox_C p s m args c cc nL "SubscriberLines$Subscriber" D g ad B) : rx_OK p l e R s m args below meth c cc nL ad (mx_W D g ad B s.heap) mx_cs (.getfield 64) 3 1 (kgi 2 3) := ox_gi (T := T_2) X rfl (by decide) (by decide) in_2 rfl (al_at 49 (by decide +kernel) rfl)
theorem cv_su_becomeLinked {p : Program} {l : Launch} {e : Env} {R : Room} {s : State} {m : MethodId} {args : Array Value} {below : List Frame} {meth : Method} {c : Code} {cc : ByteArray} {nL : Nat} {ad : Nat → Nat} {D : va_G} {g : Nat → ClassId} {B : Nat} {own : String} {idx : Nat} (X : ox_C p s m args c cc nL own D g ad B) (hV : rx_V l D g ad B ⟨"SubscriberLines$Subscriber", "becomeLinked", "(I)V"⟩ prog_10_method_8_code 2 none 2 44 K_su_becomeLinked) (hl : Cond.methodLink own idx ⟨"SubscriberLines$Subscriber", "becomeLinked", "(I)V"⟩ ∈ al) (hR : 2 + 1 ≤ R.frames ∧ 8 + (2 + 11) + 44 ≤ R.locals) : rx_OK p l e R s m args below meth c cc nL ad (mx_W D g ad B s.heap) mx_cs (.invokevirtual idx) 3 2 (K_su_becomeLinked) :=
  ox_callV (q := 4) (T := T_4) X hV (fun av x h => by obtain ⟨a0, a1, rfl⟩ := k_RI_inv h; exact ⟨a0, _, rfl, h⟩) (by decide) rfl hl (al_at 591 (by decide +kernel) rfl) (al_pr (y := (⟨"SubscriberLines$Subscriber", "becomeLinked", "(I)V"⟩, _)) 27 rfl) (al_at 5 (by decide +kernel) rfl) (al_at 592 (by decide +kernel) rfl) ⟨by decide, by decide, by decide +kernel⟩ hR
theorem cv_su_receiveOnLink {p : Program} {l : Launch} {e : Env} {R : Room} {s : State} {m : MethodId} {args : Array Value} {below : List Frame} {meth : Method} {c : Code} {cc : ByteArray} {nL : Nat} {ad : Nat → Nat} {D : va_G} {g : Nat → ClassId} {B : Nat} {own : String} {idx : Nat} (X : ox_C p s m args c cc nL own D g ad B) (hV : rx_V l D g ad B ⟨"SubscriberLines$Subscriber", "receiveOnLink", "(LSubscriberLines$Packet;)V"⟩ prog_10_method_9_code 2 none 2 45 K_su_receiveOnLink) (hl : Cond.methodLink own idx ⟨"SubscriberLines$Subscriber", "receiveOnLink", "(LSubscriberLines$Packet;)V"⟩ ∈ al) (hR : 2 + 1 ≤ R.frames ∧ 8 + (2 + 11) + 45 ≤ R.locals) : rx_OK p l e R s m args below meth c cc nL ad (mx_W D g ad B s.heap) mx_cs (.invokevirtual idx) 3 2 (K_su_receiveOnLink) :=
  ox_callV (q := 4) (T := T_4) X hV (fun av x h => by obtain ⟨a0, a1, rfl⟩ := k_RR_inv h; exact ⟨a0, _, rfl, h.1⟩) (by decide) rfl hl (al_at 595 (by decide +kernel) rfl) (al_pr (y := (⟨"SubscriberLines$Subscriber", "receiveOnLink", "(LSubscriberLines$Packet;)V"⟩, _)) 28 rfl) (al_at 5 (by decide +kernel) rfl) (al_at 596 (by decide +kernel) rfl) ⟨by decide, by decide, by decide +kernel⟩ hR
theorem ok_su_receive : rx_okF prog_10_method_5_code 2 none L_su_receive 0 L_su_receive = true := by decide +kernel
theorem V_su_receive {l : Launch} {D : va_G} {g : Nat → ClassId} {ad : Nat → Nat} {B : Nat} (had : mx_A ad B) : rx_V l D g ad B ⟨"SubscriberLines$Subscriber", "receive", "(LSubscriberLines$Packet;)V"⟩ prog_10_method_5_code 2 none 3 66 K_su_receive := by
  intro av x hp
  obtain ⟨a0, a1, rfl⟩ := k_RR_inv hp
  have hp : mx_kl a0 = 4 ∧ mx_kl a1 = 2 := hp
  exact rx_met (k := 0) had (by decide) (Nat.le_of_ble_eq_true rfl) ok_su_receive rfl rfl 23 (fun p e s m args below meth c X => And.intro (og_su_61_g X) (And.intro (og_su_64_g X) (And.intro (cv_su_becomeLinked X (V_su_becomeLinked had) (al_at 589 (by decide +kernel) rfl) ⟨by decide, by decide⟩) (And.intro (cv_su_hasLink X (V_su_hasLink had) (al_at 389 (by decide +kernel) rfl) ⟨by decide, by decide⟩) (And.intro (og_su_64_g X) (And.intro (og_su_52_g X) (And.intro (cv_su_receiveOnLink X (V_su_receiveOnLink had) (al_at 593 (by decide +kernel) rfl) ⟨by decide, by decide⟩) (trivial)))))))) (S_su_receive x.1 x.2 a0 a1 hp.1 hp.2) (E_su_receive x.1 x.2 a0 a1)
def su_runTimer (c : mx_C) (t : Nat) : mx_C :=
  if (c.1 t 4) = 3 then
    let c1 := mx_pi c t 11 ((c.1 t 11) + 1)
    if (c1.1 t 11) = 16 then
      let c2 := su_leave c1 t
      c2
    else
      c1
  else
    if (c.1 t 4) = 0 then
      c
    else
      let c3 := mx_pi c t 10 ((c.1 t 10) + 1)
      if (c3.1 t 10) = 3 then
        let c4 := su_requestAgain c3 t
        c4
      else
        c3
def K_su_runTimer : rx_K mx := k_R (fun a0 c m => (mx_kl a0 = 4, (su_runTimer c a0, m), none))
def L_su_runTimer : List (rx_E mx) := [
  (0, .aload_n 0, 1, 0, 0, 0, [], kno),
  (1, .getfield 28, 3, 7, 1, 0, [], kgi 4 4),
  (4, .iconst 3, 1, 0, 0, 3, [], kno),
  (5, .if_icmp .ne 29, 3, 2, 17, 0, [], kno),
  (8, .aload_n 0, 1, 0, 0, 0, [], kno),
  (9, .dup, 1, 0, 0, 0, [], kno),
  (10, .getfield 78, 3, 7, 1, 0, [], kgi 4 11),
  (13, .iconst 1, 1, 0, 0, 1, [], kno),
  (14, .iadd, 1, 0, 0, 0, [], kno),
  (15, .putfield 78, 3, 7, 2, 0, [], kpi 4 11),
  (18, .aload_n 0, 1, 0, 0, 0, [], kno),
  (19, .getfield 78, 3, 7, 1, 0, [], kgi 4 11),
  (22, .bipush 16, 2, 0, 0, 16, [], kno),
  (24, .if_icmp .ne 39, 3, 2, 32, 0, [], kno),
  (27, .aload_n 0, 1, 0, 0, 0, [], kno),
  (28, .invokevirtual 43, 3, 7, 1, 0, [], K_su_leave),
  (31, .goto 32, 3, 1, 32, 0, [], kno),
  (34, .aload_n 0, 1, 0, 0, 0, [], kno),
  (35, .getfield 28, 3, 7, 1, 0, [], kgi 4 4),
  (38, .ifCond .eq 25, 3, 2, 32, 0, [], kno),
  (41, .aload_n 0, 1, 0, 0, 0, [], kno),
  (42, .dup, 1, 0, 0, 0, [], kno),
  (43, .getfield 81, 3, 7, 1, 0, [], kgi 4 10),
  (46, .iconst 1, 1, 0, 0, 1, [], kno),
  (47, .iadd, 1, 0, 0, 0, [], kno),
  (48, .putfield 81, 3, 7, 2, 0, [], kpi 4 10),
  (51, .aload_n 0, 1, 0, 0, 0, [], kno),
  (52, .getfield 81, 3, 7, 1, 0, [], kgi 4 10),
  (55, .iconst 3, 1, 0, 0, 3, [], kno),
  (56, .if_icmp .ne 7, 3, 2, 32, 0, [], kno),
  (59, .aload_n 0, 1, 0, 0, 0, [], kno),
  (60, .invokevirtual 84, 3, 7, 1, 0, [], K_su_requestAgain),
  (63, .return_, 1, 6, 0, 0, [], kno)]
theorem E_su_runTimer (c : mx_C) (m : mx_M) (t : Nat)  : rx_ev L_su_runTimer [] 35 L_su_runTimer (c, m) [some (.ref t)] [] = rw_v m (su_runTimer c t) :=
  rx_ite2 (f := rw_v m) (fun _ => rx_ite2 (f := rw_v m) (fun _ => rfl) (fun _ => rfl)) (fun _ => rx_ite2 (f := rw_v m) (fun _ => rfl) (fun _ => rx_ite2 (f := rw_v m) (fun _ => rfl) (fun _ => rfl)))
theorem S_su_runTimer (c : mx_C) (m : mx_M) (t : Nat) (ht : mx_kl t = 4) : rx_sf L_su_runTimer [] 35 L_su_runTimer (c, m) [some (.ref t)] [] :=
  And.intro ht (And.intro (fun h0 => And.intro ht (And.intro ht (And.intro ht (And.intro (fun h1 => And.intro ht (trivial)) (fun h1 => trivial))))) (fun h0 => And.intro ht (And.intro (fun h1 => trivial) (fun h1 => And.intro ht (And.intro ht (And.intro ht (And.intro (fun h2 => And.intro ht (trivial)) (fun h2 => trivial))))))))

theorem og_su_78_g {p : Program} {l : Launch} {e : Env} {R : Room} {s : State} {m : MethodId} {args : Array Value} {below : List Frame} {meth : Method} {c : Code} {cc : ByteArray} {nL : Nat} {ad : Nat → Nat} {D : va_G} {g : Nat → ClassId} {B : Nat} (X : ox_C p s m args c cc nL "SubscriberLines$Subscriber" D g ad B) : rx_OK p l e R s m args below meth c cc nL ad (mx_W D g ad B s.heap) mx_cs (.getfield 78) 3 1 (kgi 4 11) := ox_gi (T := T_4) X rfl (by decide) (by decide) in_4 rfl (al_at 142 (by decide +kernel) rfl)
theorem og_su_81_g {p : Program} {l : Launch} {e : Env} {R : Room} {s : State} {m : MethodId} {args : Array Value} {below : List Frame} {meth : Method} {c : Code} {cc : ByteArray} {nL : Nat} {ad : Nat → Nat} {D : va_G} {g : Nat → ClassId} {B : Nat} (X : ox_C p s m args c cc nL "SubscriberLines$Subscriber" D g ad B) : rx_OK p l e R s m args below meth c cc nL ad (mx_W D g ad B s.heap) mx_cs (.getfield 81) 3 1 (kgi 4 10) := ox_gi (T := T_4) X rfl (by decide) (by decide) in_4 rfl (al_at 141 (by decide +kernel) rfl)
theorem cv_su_requestAgain {p : Program} {l : Launch} {e : Env} {R : Room} {s : State} {m : MethodId} {args : Array Value} {below : List Frame} {meth : Method} {c : Code} {cc : ByteArray} {nL : Nat} {ad : Nat → Nat} {D : va_G} {g : Nat → ClassId} {B : Nat} {own : String} {idx : Nat} (X : ox_C p s m args c cc nL own D g ad B) (hV : rx_V l D g ad B ⟨"SubscriberLines$Subscriber", "requestAgain", "()V"⟩ prog_10_method_12_code 1 none 2 44 K_su_requestAgain) (hl : Cond.methodLink own idx ⟨"SubscriberLines$Subscriber", "requestAgain", "()V"⟩ ∈ al) (hR : 2 + 1 ≤ R.frames ∧ 8 + (1 + 11) + 44 ≤ R.locals) : rx_OK p l e R s m args below meth c cc nL ad (mx_W D g ad B s.heap) mx_cs (.invokevirtual idx) 3 1 (K_su_requestAgain) :=
  ox_callV (q := 4) (T := T_4) X hV (fun av x h => by obtain ⟨a0, rfl⟩ := k_R_inv h; exact ⟨a0, _, rfl, h⟩) (by decide) rfl hl (al_at 627 (by decide +kernel) rfl) (al_pr (y := (⟨"SubscriberLines$Subscriber", "requestAgain", "()V"⟩, _)) 31 rfl) (al_at 5 (by decide +kernel) rfl) (al_at 628 (by decide +kernel) rfl) ⟨by decide, by decide, by decide +kernel⟩ hR
theorem ok_su_runTimer : rx_okF prog_10_method_6_code 1 none L_su_runTimer 0 L_su_runTimer = true := by decide +kernel
theorem V_su_runTimer {l : Launch} {D : va_G} {g : Nat → ClassId} {ad : Nat → Nat} {B : Nat} (had : mx_A ad B) : rx_V l D g ad B ⟨"SubscriberLines$Subscriber", "runTimer", "()V"⟩ prog_10_method_6_code 1 none 3 64 K_su_runTimer := by
  intro av x hp
  obtain ⟨a0, rfl⟩ := k_R_inv hp
  have hp : mx_kl a0 = 4 := hp
  exact rx_met (k := 0) had (by decide) (Nat.le_of_ble_eq_true rfl) ok_su_runTimer rfl rfl 35 (fun p e s m args below meth c X => And.intro (og_su_28_g X) (And.intro (og_su_78_g X) (And.intro (og_su_78_p X) (And.intro (og_su_78_g X) (And.intro (cv_su_leave X (V_su_leave had) (al_at 385 (by decide +kernel) rfl) ⟨by decide, by decide⟩) (And.intro (og_su_28_g X) (And.intro (og_su_81_g X) (And.intro (og_su_81_p X) (And.intro (og_su_81_g X) (And.intro (cv_su_requestAgain X (V_su_requestAgain had) (al_at 625 (by decide +kernel) rfl) ⟨by decide, by decide⟩) (trivial))))))))))) (S_su_runTimer x.1 x.2 a0 hp) (E_su_runTimer x.1 x.2 a0)
