def pk_bear (c : mx_C) (t : Nat) (a1 : Int32) (a2 : Int32) (a3 : Int32) : mx_C :=
  let c1 := mx_pi c t 3 a1
  let c2 := mx_pi c1 t 4 a2
  let c3 := mx_pi c2 t 5 a3
  c3
def K_pk_bear : rx_K mx := k_RIII (fun a0 a1 a2 a3 c m => (mx_kl a0 = 2, (pk_bear c a0 a1 a2 a3, m), none))
def L_pk_bear : List (rx_E mx) := [
  (0, .aload_n 0, 1, 0, 0, 0, [], kno),
  (1, .iload_n 1, 1, 0, 1, 0, [], kno),
  (2, .putfield 7, 3, 7, 2, 0, [], kpi 2 3),
  (5, .aload_n 0, 1, 0, 0, 0, [], kno),
  (6, .iload_n 2, 1, 0, 2, 0, [], kno),
  (7, .putfield 13, 3, 7, 2, 0, [], kpi 2 4),
  (10, .aload_n 0, 1, 0, 0, 0, [], kno),
  (11, .iload_n 3, 1, 0, 3, 0, [], kno),
  (12, .putfield 16, 3, 7, 2, 0, [], kpi 2 5),
  (15, .return_, 1, 6, 0, 0, [], kno)]
theorem E_pk_bear (c : mx_C) (m : mx_M) (t : Nat) (a1 : Int32) (a2 : Int32) (a3 : Int32)  : rx_ev L_pk_bear [] 12 L_pk_bear (c, m) [some (.ref t), some (.int a1), some (.int a2), some (.int a3)] [] = rw_v m (pk_bear c t a1 a2 a3) :=
  rfl
theorem S_pk_bear (c : mx_C) (m : mx_M) (t : Nat) (a1 : Int32) (a2 : Int32) (a3 : Int32) (ht : mx_kl t = 2) : rx_sf L_pk_bear [] 12 L_pk_bear (c, m) [some (.ref t), some (.int a1), some (.int a2), some (.int a3)] [] :=
  And.intro ht (And.intro ht (And.intro ht (trivial)))

theorem og_pk_7_p {p : Program} {l : Launch} {e : Env} {R : Room} {s : State} {m : MethodId} {args : Array Value} {below : List Frame} {meth : Method} {c : Code} {cc : ByteArray} {nL : Nat} {ad : Nat → Nat} {D : va_G} {g : Nat → ClassId} {B : Nat} (X : ox_C p s m args c cc nL "SubscriberLines$Packet" D g ad B) : rx_OK p l e R s m args below meth c cc nL ad (mx_W D g ad B s.heap) mx_cs (.putfield 7) 3 2 (kpi 2 3) := ox_pi (T := T_2) X rfl (by decide) (by decide) in_2 rfl ty_2 ty_2_ok nm_2 rfl rfl rfl (al_at 46 (by decide +kernel) rfl)
theorem og_pk_13_p {p : Program} {l : Launch} {e : Env} {R : Room} {s : State} {m : MethodId} {args : Array Value} {below : List Frame} {meth : Method} {c : Code} {cc : ByteArray} {nL : Nat} {ad : Nat → Nat} {D : va_G} {g : Nat → ClassId} {B : Nat} (X : ox_C p s m args c cc nL "SubscriberLines$Packet" D g ad B) : rx_OK p l e R s m args below meth c cc nL ad (mx_W D g ad B s.heap) mx_cs (.putfield 13) 3 2 (kpi 2 4) := ox_pi (T := T_2) X rfl (by decide) (by decide) in_2 rfl ty_2 ty_2_ok nm_2 rfl rfl rfl (al_at 51 (by decide +kernel) rfl)
theorem og_pk_16_p {p : Program} {l : Launch} {e : Env} {R : Room} {s : State} {m : MethodId} {args : Array Value} {below : List Frame} {meth : Method} {c : Code} {cc : ByteArray} {nL : Nat} {ad : Nat → Nat} {D : va_G} {g : Nat → ClassId} {B : Nat} (X : ox_C p s m args c cc nL "SubscriberLines$Packet" D g ad B) : rx_OK p l e R s m args below meth c cc nL ad (mx_W D g ad B s.heap) mx_cs (.putfield 16) 3 2 (kpi 2 5) := ox_pi (T := T_2) X rfl (by decide) (by decide) in_2 rfl ty_2 ty_2_ok nm_2 rfl rfl rfl (al_at 56 (by decide +kernel) rfl)
theorem ok_pk_bear : rx_okF prog_7_method_2_code 4 none L_pk_bear 0 L_pk_bear = true := by decide +kernel
theorem V_pk_bear {l : Launch} {D : va_G} {g : Nat → ClassId} {ad : Nat → Nat} {B : Nat} (had : mx_A ad B) : rx_V l D g ad B ⟨"SubscriberLines$Packet", "bear", "(III)V"⟩ prog_7_method_2_code 4 none 0 0 K_pk_bear := by
  intro av x hp
  obtain ⟨a0, a1, a2, a3, rfl⟩ := k_RIII_inv hp
  have hp : mx_kl a0 = 2 := hp
  exact rx_met (k := 0) had (by decide) (Nat.le_of_ble_eq_true rfl) ok_pk_bear rfl rfl 12 (fun p e s m args below meth c X => And.intro (og_pk_7_p X) (And.intro (og_pk_13_p X) (And.intro (og_pk_16_p X) (trivial)))) (S_pk_bear x.1 x.2 a0 a1 a2 a3 hp) (E_pk_bear x.1 x.2 a0 a1 a2 a3)
def pk_number (c : mx_C) (t : Nat) (a1 : Int32) (a2 : Int32) (a3 : Int32) : mx_C :=
  let c1 := mx_pi c t 6 a1
  let c2 := mx_pi c1 t 7 a2
  let c3 := mx_pi c2 t 8 a3
  c3
def K_pk_number : rx_K mx := k_RIII (fun a0 a1 a2 a3 c m => (mx_kl a0 = 2, (pk_number c a0 a1 a2 a3, m), none))
def L_pk_number : List (rx_E mx) := [
  (0, .aload_n 0, 1, 0, 0, 0, [], kno),
  (1, .iload_n 1, 1, 0, 1, 0, [], kno),
  (2, .putfield 19, 3, 7, 2, 0, [], kpi 2 6),
  (5, .aload_n 0, 1, 0, 0, 0, [], kno),
  (6, .iload_n 2, 1, 0, 2, 0, [], kno),
  (7, .putfield 22, 3, 7, 2, 0, [], kpi 2 7),
  (10, .aload_n 0, 1, 0, 0, 0, [], kno),
  (11, .iload_n 3, 1, 0, 3, 0, [], kno),
  (12, .putfield 25, 3, 7, 2, 0, [], kpi 2 8),
  (15, .return_, 1, 6, 0, 0, [], kno)]
theorem E_pk_number (c : mx_C) (m : mx_M) (t : Nat) (a1 : Int32) (a2 : Int32) (a3 : Int32)  : rx_ev L_pk_number [] 12 L_pk_number (c, m) [some (.ref t), some (.int a1), some (.int a2), some (.int a3)] [] = rw_v m (pk_number c t a1 a2 a3) :=
  rfl
theorem S_pk_number (c : mx_C) (m : mx_M) (t : Nat) (a1 : Int32) (a2 : Int32) (a3 : Int32) (ht : mx_kl t = 2) : rx_sf L_pk_number [] 12 L_pk_number (c, m) [some (.ref t), some (.int a1), some (.int a2), some (.int a3)] [] :=
  And.intro ht (And.intro ht (And.intro ht (trivial)))

theorem og_pk_19_p {p : Program} {l : Launch} {e : Env} {R : Room} {s : State} {m : MethodId} {args : Array Value} {below : List Frame} {meth : Method} {c : Code} {cc : ByteArray} {nL : Nat} {ad : Nat → Nat} {D : va_G} {g : Nat → ClassId} {B : Nat} (X : ox_C p s m args c cc nL "SubscriberLines$Packet" D g ad B) : rx_OK p l e R s m args below meth c cc nL ad (mx_W D g ad B s.heap) mx_cs (.putfield 19) 3 2 (kpi 2 6) := ox_pi (T := T_2) X rfl (by decide) (by decide) in_2 rfl ty_2 ty_2_ok nm_2 rfl rfl rfl (al_at 61 (by decide +kernel) rfl)
theorem og_pk_22_p {p : Program} {l : Launch} {e : Env} {R : Room} {s : State} {m : MethodId} {args : Array Value} {below : List Frame} {meth : Method} {c : Code} {cc : ByteArray} {nL : Nat} {ad : Nat → Nat} {D : va_G} {g : Nat → ClassId} {B : Nat} (X : ox_C p s m args c cc nL "SubscriberLines$Packet" D g ad B) : rx_OK p l e R s m args below meth c cc nL ad (mx_W D g ad B s.heap) mx_cs (.putfield 22) 3 2 (kpi 2 7) := ox_pi (T := T_2) X rfl (by decide) (by decide) in_2 rfl ty_2 ty_2_ok nm_2 rfl rfl rfl (al_at 65 (by decide +kernel) rfl)
theorem og_pk_25_p {p : Program} {l : Launch} {e : Env} {R : Room} {s : State} {m : MethodId} {args : Array Value} {below : List Frame} {meth : Method} {c : Code} {cc : ByteArray} {nL : Nat} {ad : Nat → Nat} {D : va_G} {g : Nat → ClassId} {B : Nat} (X : ox_C p s m args c cc nL "SubscriberLines$Packet" D g ad B) : rx_OK p l e R s m args below meth c cc nL ad (mx_W D g ad B s.heap) mx_cs (.putfield 25) 3 2 (kpi 2 8) := ox_pi (T := T_2) X rfl (by decide) (by decide) in_2 rfl ty_2 ty_2_ok nm_2 rfl rfl rfl (al_at 68 (by decide +kernel) rfl)
theorem ok_pk_number : rx_okF prog_7_method_3_code 4 none L_pk_number 0 L_pk_number = true := by decide +kernel
theorem V_pk_number {l : Launch} {D : va_G} {g : Nat → ClassId} {ad : Nat → Nat} {B : Nat} (had : mx_A ad B) : rx_V l D g ad B ⟨"SubscriberLines$Packet", "number", "(III)V"⟩ prog_7_method_3_code 4 none 0 0 K_pk_number := by
  intro av x hp
  obtain ⟨a0, a1, a2, a3, rfl⟩ := k_RIII_inv hp
  have hp : mx_kl a0 = 2 := hp
  exact rx_met (k := 0) had (by decide) (Nat.le_of_ble_eq_true rfl) ok_pk_number rfl rfl 12 (fun p e s m args below meth c X => And.intro (og_pk_19_p X) (And.intro (og_pk_22_p X) (And.intro (og_pk_25_p X) (trivial)))) (S_pk_number x.1 x.2 a0 a1 a2 a3 hp) (E_pk_number x.1 x.2 a0 a1 a2 a3)
def pk_tell (c : mx_C) (t : Nat) (a1 : Int32) : Int32 :=
  if a1 = 0 then
    (c.1 t 0)
  else
    if a1 = 1 then
      (c.1 t 1)
    else
      if a1 = 2 then
        (c.1 t 2)
      else
        if a1 = 3 then
          (c.1 t 3)
        else
          if a1 = 4 then
            (c.1 t 4)
          else
            if a1 = 5 then
              (c.1 t 5)
            else
              if a1 = 6 then
                (c.1 t 6)
              else
                if a1 = 7 then
                  (c.1 t 7)
                else
                  if a1 = 8 then
                    (c.1 t 8)
                  else
                    0
def K_pk_tell : rx_K mx := k_RI (fun a0 a1 c m => (mx_kl a0 = 2, (c, m), some (.int (pk_tell c a0 a1))))
def L_pk_tell : List (rx_E mx) := [
  (0, .iload_n 1, 1, 0, 1, 0, [], kno),
  (1, .tableswitch 96 0 8 #[51, 56, 61, 66, 71, 76, 81, 86, 91], 51, 4, 29, 0, [(0, 2), (1, 5), (2, 8), (3, 11), (4, 14), (5, 17), (6, 20), (7, 23), (8, 26)], kno),
  (52, .aload_n 0, 1, 0, 0, 0, [], kno),
  (53, .getfield 28, 3, 7, 1, 0, [], kgi 2 0),
  (56, .ireturn, 1, 5, 0, 0, [], kno),
  (57, .aload_n 0, 1, 0, 0, 0, [], kno),
  (58, .getfield 31, 3, 7, 1, 0, [], kgi 2 1),
  (61, .ireturn, 1, 5, 0, 0, [], kno),
  (62, .aload_n 0, 1, 0, 0, 0, [], kno),
  (63, .getfield 34, 3, 7, 1, 0, [], kgi 2 2),
  (66, .ireturn, 1, 5, 0, 0, [], kno),
  (67, .aload_n 0, 1, 0, 0, 0, [], kno),
  (68, .getfield 7, 3, 7, 1, 0, [], kgi 2 3),
  (71, .ireturn, 1, 5, 0, 0, [], kno),
  (72, .aload_n 0, 1, 0, 0, 0, [], kno),
  (73, .getfield 13, 3, 7, 1, 0, [], kgi 2 4),
  (76, .ireturn, 1, 5, 0, 0, [], kno),
  (77, .aload_n 0, 1, 0, 0, 0, [], kno),
  (78, .getfield 16, 3, 7, 1, 0, [], kgi 2 5),
  (81, .ireturn, 1, 5, 0, 0, [], kno),
  (82, .aload_n 0, 1, 0, 0, 0, [], kno),
  (83, .getfield 19, 3, 7, 1, 0, [], kgi 2 6),
  (86, .ireturn, 1, 5, 0, 0, [], kno),
  (87, .aload_n 0, 1, 0, 0, 0, [], kno),
  (88, .getfield 22, 3, 7, 1, 0, [], kgi 2 7),
  (91, .ireturn, 1, 5, 0, 0, [], kno),
  (92, .aload_n 0, 1, 0, 0, 0, [], kno),
  (93, .getfield 25, 3, 7, 1, 0, [], kgi 2 8),
  (96, .ireturn, 1, 5, 0, 0, [], kno),
  (97, .iconst 0, 1, 0, 0, 0, [], kno),
  (98, .ireturn, 1, 5, 0, 0, [], kno)]
theorem E_pk_tell (c : mx_C) (m : mx_M) (t : Nat) (a1 : Int32)  : rx_ev L_pk_tell [] 33 L_pk_tell (c, m) [some (.ref t), some (.int a1)] [] = rw_p c m (pk_tell c t a1) :=
  rx_ite2 (f := rw_p c m) (fun _ => rfl) (fun _ => rx_ite2 (f := rw_p c m) (fun _ => rfl) (fun _ => rx_ite2 (f := rw_p c m) (fun _ => rfl) (fun _ => rx_ite2 (f := rw_p c m) (fun _ => rfl) (fun _ => rx_ite2 (f := rw_p c m) (fun _ => rfl) (fun _ => rx_ite2 (f := rw_p c m) (fun _ => rfl) (fun _ => rx_ite2 (f := rw_p c m) (fun _ => rfl) (fun _ => rx_ite2 (f := rw_p c m) (fun _ => rfl) (fun _ => rx_ite2 (f := rw_p c m) (fun _ => rfl) (fun _ => rfl)))))))))
theorem S_pk_tell (c : mx_C) (m : mx_M) (t : Nat) (a1 : Int32) (ht : mx_kl t = 2) : rx_sf L_pk_tell [] 33 L_pk_tell (c, m) [some (.ref t), some (.int a1)] [] :=
  And.intro (fun h0 => And.intro ht (trivial)) (fun h0 => And.intro (fun h1 => And.intro ht (trivial)) (fun h1 => And.intro (fun h2 => And.intro ht (trivial)) (fun h2 => And.intro (fun h3 => And.intro ht (trivial)) (fun h3 => And.intro (fun h4 => And.intro ht (trivial)) (fun h4 => And.intro (fun h5 => And.intro ht (trivial)) (fun h5 => And.intro (fun h6 => And.intro ht (trivial)) (fun h6 => And.intro (fun h7 => And.intro ht (trivial)) (fun h7 => And.intro (fun h8 => And.intro ht (trivial)) (fun h8 => trivial)))))))))

theorem og_pk_28_g {p : Program} {l : Launch} {e : Env} {R : Room} {s : State} {m : MethodId} {args : Array Value} {below : List Frame} {meth : Method} {c : Code} {cc : ByteArray} {nL : Nat} {ad : Nat → Nat} {D : va_G} {g : Nat → ClassId} {B : Nat} (X : ox_C p s m args c cc nL "SubscriberLines$Packet" D g ad B) : rx_OK p l e R s m args below meth c cc nL ad (mx_W D g ad B s.heap) mx_cs (.getfield 28) 3 1 (kgi 2 0) := ox_gi (T := T_2) X rfl (by decide) (by decide) in_2 rfl (al_at 36 (by decide +kernel) rfl)
theorem og_pk_31_g {p : Program} {l : Launch} {e : Env} {R : Room} {s : State} {m : MethodId} {args : Array Value} {below : List Frame} {meth : Method} {c : Code} {cc : ByteArray} {nL : Nat} {ad : Nat → Nat} {D : va_G} {g : Nat → ClassId} {B : Nat} (X : ox_C p s m args c cc nL "SubscriberLines$Packet" D g ad B) : rx_OK p l e R s m args below meth c cc nL ad (mx_W D g ad B s.heap) mx_cs (.getfield 31) 3 1 (kgi 2 1) := ox_gi (T := T_2) X rfl (by decide) (by decide) in_2 rfl (al_at 42 (by decide +kernel) rfl)
theorem og_pk_34_g {p : Program} {l : Launch} {e : Env} {R : Room} {s : State} {m : MethodId} {args : Array Value} {below : List Frame} {meth : Method} {c : Code} {cc : ByteArray} {nL : Nat} {ad : Nat → Nat} {D : va_G} {g : Nat → ClassId} {B : Nat} (X : ox_C p s m args c cc nL "SubscriberLines$Packet" D g ad B) : rx_OK p l e R s m args below meth c cc nL ad (mx_W D g ad B s.heap) mx_cs (.getfield 34) 3 1 (kgi 2 2) := ox_gi (T := T_2) X rfl (by decide) (by decide) in_2 rfl (al_at 44 (by decide +kernel) rfl)
theorem og_pk_7_g {p : Program} {l : Launch} {e : Env} {R : Room} {s : State} {m : MethodId} {args : Array Value} {below : List Frame} {meth : Method} {c : Code} {cc : ByteArray} {nL : Nat} {ad : Nat → Nat} {D : va_G} {g : Nat → ClassId} {B : Nat} (X : ox_C p s m args c cc nL "SubscriberLines$Packet" D g ad B) : rx_OK p l e R s m args below meth c cc nL ad (mx_W D g ad B s.heap) mx_cs (.getfield 7) 3 1 (kgi 2 3) := ox_gi (T := T_2) X rfl (by decide) (by decide) in_2 rfl (al_at 46 (by decide +kernel) rfl)
theorem og_pk_13_g {p : Program} {l : Launch} {e : Env} {R : Room} {s : State} {m : MethodId} {args : Array Value} {below : List Frame} {meth : Method} {c : Code} {cc : ByteArray} {nL : Nat} {ad : Nat → Nat} {D : va_G} {g : Nat → ClassId} {B : Nat} (X : ox_C p s m args c cc nL "SubscriberLines$Packet" D g ad B) : rx_OK p l e R s m args below meth c cc nL ad (mx_W D g ad B s.heap) mx_cs (.getfield 13) 3 1 (kgi 2 4) := ox_gi (T := T_2) X rfl (by decide) (by decide) in_2 rfl (al_at 51 (by decide +kernel) rfl)
theorem og_pk_16_g {p : Program} {l : Launch} {e : Env} {R : Room} {s : State} {m : MethodId} {args : Array Value} {below : List Frame} {meth : Method} {c : Code} {cc : ByteArray} {nL : Nat} {ad : Nat → Nat} {D : va_G} {g : Nat → ClassId} {B : Nat} (X : ox_C p s m args c cc nL "SubscriberLines$Packet" D g ad B) : rx_OK p l e R s m args below meth c cc nL ad (mx_W D g ad B s.heap) mx_cs (.getfield 16) 3 1 (kgi 2 5) := ox_gi (T := T_2) X rfl (by decide) (by decide) in_2 rfl (al_at 56 (by decide +kernel) rfl)
theorem og_pk_19_g {p : Program} {l : Launch} {e : Env} {R : Room} {s : State} {m : MethodId} {args : Array Value} {below : List Frame} {meth : Method} {c : Code} {cc : ByteArray} {nL : Nat} {ad : Nat → Nat} {D : va_G} {g : Nat → ClassId} {B : Nat} (X : ox_C p s m args c cc nL "SubscriberLines$Packet" D g ad B) : rx_OK p l e R s m args below meth c cc nL ad (mx_W D g ad B s.heap) mx_cs (.getfield 19) 3 1 (kgi 2 6) := ox_gi (T := T_2) X rfl (by decide) (by decide) in_2 rfl (al_at 61 (by decide +kernel) rfl)
theorem og_pk_22_g {p : Program} {l : Launch} {e : Env} {R : Room} {s : State} {m : MethodId} {args : Array Value} {below : List Frame} {meth : Method} {c : Code} {cc : ByteArray} {nL : Nat} {ad : Nat → Nat} {D : va_G} {g : Nat → ClassId} {B : Nat} (X : ox_C p s m args c cc nL "SubscriberLines$Packet" D g ad B) : rx_OK p l e R s m args below meth c cc nL ad (mx_W D g ad B s.heap) mx_cs (.getfield 22) 3 1 (kgi 2 7) := ox_gi (T := T_2) X rfl (by decide) (by decide) in_2 rfl (al_at 65 (by decide +kernel) rfl)
theorem og_pk_25_g {p : Program} {l : Launch} {e : Env} {R : Room} {s : State} {m : MethodId} {args : Array Value} {below : List Frame} {meth : Method} {c : Code} {cc : ByteArray} {nL : Nat} {ad : Nat → Nat} {D : va_G} {g : Nat → ClassId} {B : Nat} (X : ox_C p s m args c cc nL "SubscriberLines$Packet" D g ad B) : rx_OK p l e R s m args below meth c cc nL ad (mx_W D g ad B s.heap) mx_cs (.getfield 25) 3 1 (kgi 2 8) := ox_gi (T := T_2) X rfl (by decide) (by decide) in_2 rfl (al_at 68 (by decide +kernel) rfl)
theorem ok_pk_tell : rx_okF prog_7_method_4_code 2 (some .int) L_pk_tell 0 L_pk_tell = true := by decide +kernel
theorem V_pk_tell {l : Launch} {D : va_G} {g : Nat → ClassId} {ad : Nat → Nat} {B : Nat} (had : mx_A ad B) : rx_V l D g ad B ⟨"SubscriberLines$Packet", "tell", "(I)I"⟩ prog_7_method_4_code 2 (some .int) 0 0 K_pk_tell := by
  intro av x hp
  obtain ⟨a0, a1, rfl⟩ := k_RI_inv hp
  have hp : mx_kl a0 = 2 := hp
  exact rx_met (k := 0) had (by decide) (Nat.le_of_ble_eq_true rfl) ok_pk_tell rfl rfl 33 (fun p e s m args below meth c X => And.intro (og_pk_28_g X) (And.intro (og_pk_31_g X) (And.intro (og_pk_34_g X) (And.intro (og_pk_7_g X) (And.intro (og_pk_13_g X) (And.intro (og_pk_16_g X) (And.intro (og_pk_19_g X) (And.intro (og_pk_22_g X) (And.intro (og_pk_25_g X) (trivial)))))))))) (S_pk_tell x.1 x.2 a0 a1 hp) (E_pk_tell x.1 x.2 a0 a1)
def fl_holds (c : mx_C) (a1 : Int32) : Int32 :=
  if a1 < 0 then
    0
  else
    if a1 < (Int32.ofNat c.2.2.2.1.val) then
      1
    else
      0
def K_fl_holds : rx_K mx := k_RI (fun a0 a1 c m => (a0 = 1, (c, m), some (.int (fl_holds c a1))))
def L_fl_holds : List (rx_E mx) := [
  (0, .iload_n 1, 1, 0, 1, 0, [], kno),
  (1, .ifCond .lt 15, 3, 2, 8, 0, [], kno),
  (4, .iload_n 1, 1, 0, 1, 0, [], kno),
  (5, .aload_n 0, 1, 0, 0, 0, [], kno),
  (6, .getfield 22, 3, 7, 1, 0, [], kgf),
  (9, .if_icmp .ge 7, 3, 2, 8, 0, [], kno),
  (12, .iconst 1, 1, 0, 0, 1, [], kno),
  (13, .goto 4, 3, 1, 9, 0, [], kno),
  (16, .iconst 0, 1, 0, 0, 0, [], kno),
  (17, .ireturn, 1, 5, 1, 0, [], kno)]
theorem E_fl_holds (c : mx_C) (m : mx_M) (a1 : Int32)  : rx_ev L_fl_holds [] 12 L_fl_holds (c, m) [some (.ref 1), some (.int a1)] [] = rw_p c m (fl_holds c a1) :=
  rx_ite2 (f := rw_p c m) (fun _ => rfl) (fun _ => rx_ite2 (f := rw_p c m) (fun _ => rfl) (fun _ => rfl))
theorem S_fl_holds (c : mx_C) (m : mx_M) (a1 : Int32)  : rx_sf L_fl_holds [] 12 L_fl_holds (c, m) [some (.ref 1), some (.int a1)] [] :=
  And.intro (fun h0 => Or.inl rfl) (fun h0 => And.intro rfl (And.intro (fun h1 => Or.inr rfl) (fun h1 => Or.inl rfl)))

theorem og_fl_22_g {p : Program} {l : Launch} {e : Env} {R : Room} {s : State} {m : MethodId} {args : Array Value} {below : List Frame} {meth : Method} {c : Code} {cc : ByteArray} {nL : Nat} {ad : Nat → Nat} {D : va_G} {g : Nat → ClassId} {B : Nat} (X : ox_C p s m args c cc nL "SubscriberLines$Flight" D g ad B) : rx_OK p l e R s m args below meth c cc nL ad (mx_W D g ad B s.heap) mx_cs (.getfield 22) 3 1 (kgf) := ox_gf X (al_at 93 (by decide +kernel) rfl)
theorem ok_fl_holds : rx_okF prog_4_method_2_code 2 (some .boolean) L_fl_holds 0 L_fl_holds = true := by decide +kernel
theorem V_fl_holds {l : Launch} {D : va_G} {g : Nat → ClassId} {ad : Nat → Nat} {B : Nat} (had : mx_A ad B) : rx_V l D g ad B ⟨"SubscriberLines$Flight", "holds", "(I)Z"⟩ prog_4_method_2_code 2 (some .boolean) 0 0 K_fl_holds := by
  intro av x hp
  obtain ⟨a0, a1, rfl⟩ := k_RI_inv hp
  have hp : a0 = 1 := hp
  have h0 : a0 = 1 := hp
  subst h0
  exact rx_met (k := 0) had (by decide) (Nat.le_of_ble_eq_true rfl) ok_fl_holds rfl rfl 12 (fun p e s m args below meth c X => And.intro (og_fl_22_g X) (trivial)) (S_fl_holds x.1 x.2 a1 ) (E_fl_holds x.1 x.2 a1)
theorem fl_in0 (q : Fin 41) (h : Int32.ofNat q.val < 40) : vp_in (Int32.ofNat q.val) (mx_lenG 2 2 2) ∧ vp_in (Int32.ofNat q.val + 1) 41 := by
  have h1 : (Int32.ofNat q.val).toInt = (q.val : Int) := Int32.toInt_ofNat_of_lt (by omega)
  rw [Int32.lt_iff_toInt_lt, h1] at h
  have h2 : (40 : Int32).toInt = 40 := rfl
  rw [h2] at h
  have h3 : Int32.ofNat q.val + 1 = Int32.ofNat (q.val + 1) := by rw [Int32.ofNat_add]; rfl
  have key : ∀ n : Nat, n < 41 → vp_in (Int32.ofNat n) 41 := by
    intro n hn hc
    rcases hc with hc | hc
    · rw [Int32.lt_iff_toInt_lt, Int32.toInt_ofNat_of_lt (by omega), Int32.toInt_zero] at hc
      omega
    · rw [Int32.toNatClampNeg_ofNat_of_lt (by omega)] at hc
      omega
  exact ⟨key q.val q.isLt, by rw [h3]; exact key _ (by omega)⟩
def fl_launch (c : mx_C) (a1 : Int32) (a2 : Int32) (a3 : Int32) : mx_C × Nat :=
  if (Int32.ofNat c.2.2.2.1.val) < 40 then
    let c1 := mx_pf c ((Int32.ofNat c.2.2.2.1.val) + 1)
    let c2 := mx_pi c1 (4 + (c.2.1 (Int32.toNatClampNeg (Int32.ofNat c.2.2.2.1.val))).val) 0 a1
    let c3 := mx_pi c2 (4 + (c.2.1 (Int32.toNatClampNeg (Int32.ofNat c.2.2.2.1.val))).val) 1 a2
    let c4 := mx_pi c3 (4 + (c.2.1 (Int32.toNatClampNeg (Int32.ofNat c.2.2.2.1.val))).val) 2 a3
    let c5 := mx_pi c4 (4 + (c.2.1 (Int32.toNatClampNeg (Int32.ofNat c.2.2.2.1.val))).val) 3 0
    let c6 := mx_pi c5 (4 + (c.2.1 (Int32.toNatClampNeg (Int32.ofNat c.2.2.2.1.val))).val) 4 0
    let c7 := mx_pi c6 (4 + (c.2.1 (Int32.toNatClampNeg (Int32.ofNat c.2.2.2.1.val))).val) 5 0
    let c8 := mx_pi c7 (4 + (c.2.1 (Int32.toNatClampNeg (Int32.ofNat c.2.2.2.1.val))).val) 6 0
    let c9 := mx_pi c8 (4 + (c.2.1 (Int32.toNatClampNeg (Int32.ofNat c.2.2.2.1.val))).val) 7 0
    let c10 := mx_pi c9 (4 + (c.2.1 (Int32.toNatClampNeg (Int32.ofNat c.2.2.2.1.val))).val) 8 0
    (c10, (4 + (c.2.1 (Int32.toNatClampNeg (Int32.ofNat c.2.2.2.1.val))).val))
  else
    let c11 := mx_pi c 3 0 a1
    let c12 := mx_pi c11 3 1 a2
    let c13 := mx_pi c12 3 2 a3
    let c14 := mx_pi c13 3 3 0
    let c15 := mx_pi c14 3 4 0
    let c16 := mx_pi c15 3 5 0
    let c17 := mx_pi c16 3 6 0
    let c18 := mx_pi c17 3 7 0
    let c19 := mx_pi c18 3 8 0
    (c19, 3)
def K_fl_launch : rx_K mx := k_RIII (fun a0 a1 a2 a3 c m => (a0 = 1, ((fl_launch c a1 a2 a3).1, m), some (.ref (fl_launch c a1 a2 a3).2)))
def L_fl_launch : List (rx_E mx) := [
  (0, .aload_n 0, 1, 0, 0, 0, [], kno),
  (1, .getfield 18, 3, 7, 1, 0, [], kgr0 1 1 3),
  (4, .astore 4, 2, 0, 4, 0, [], kno),
  (6, .aload_n 0, 1, 0, 0, 0, [], kno),
  (7, .getfield 22, 3, 7, 1, 0, [], kgf),
  (10, .bipush 40, 2, 0, 0, 40, [], kno),
  (12, .if_icmp .ge 24, 3, 2, 19, 0, [], kno),
  (15, .aload_n 0, 1, 0, 0, 0, [], kno),
  (16, .getfield 11, 3, 7, 1, 0, [], kgr0 1 0 2),
  (19, .aload_n 0, 1, 0, 0, 0, [], kno),
  (20, .getfield 22, 3, 7, 1, 0, [], kgf),
  (23, .aaload, 1, 7, 2, 0, [], kar),
  (24, .astore 4, 2, 0, 4, 0, [], kno),
  (26, .aload_n 0, 1, 0, 0, 0, [], kno),
  (27, .dup, 1, 0, 0, 0, [], kno),
  (28, .getfield 22, 3, 7, 1, 0, [], kgf),
  (31, .iconst 1, 1, 0, 0, 1, [], kno),
  (32, .iadd, 1, 0, 0, 0, [], kno),
  (33, .putfield 22, 3, 7, 2, 0, [], kpf),
  (36, .aload 4, 2, 0, 4, 0, [], kno),
  (38, .iload_n 1, 1, 0, 1, 0, [], kno),
  (39, .putfield 26, 3, 7, 2, 0, [], kpi 2 0),
  (42, .aload 4, 2, 0, 4, 0, [], kno),
  (44, .iload_n 2, 1, 0, 2, 0, [], kno),
  (45, .putfield 29, 3, 7, 2, 0, [], kpi 2 1),
  (48, .aload 4, 2, 0, 4, 0, [], kno),
  (50, .iload_n 3, 1, 0, 3, 0, [], kno),
  (51, .putfield 32, 3, 7, 2, 0, [], kpi 2 2),
  (54, .aload 4, 2, 0, 4, 0, [], kno),
  (56, .iconst 0, 1, 0, 0, 0, [], kno),
  (57, .putfield 35, 3, 7, 2, 0, [], kpi 2 3),
  (60, .aload 4, 2, 0, 4, 0, [], kno),
  (62, .iconst 0, 1, 0, 0, 0, [], kno),
  (63, .putfield 38, 3, 7, 2, 0, [], kpi 2 4),
  (66, .aload 4, 2, 0, 4, 0, [], kno),
  (68, .iconst 0, 1, 0, 0, 0, [], kno),
  (69, .putfield 41, 3, 7, 2, 0, [], kpi 2 5),
  (72, .aload 4, 2, 0, 4, 0, [], kno),
  (74, .iconst 0, 1, 0, 0, 0, [], kno),
  (75, .putfield 44, 3, 7, 2, 0, [], kpi 2 6),
  (78, .aload 4, 2, 0, 4, 0, [], kno),
  (80, .iconst 0, 1, 0, 0, 0, [], kno),
  (81, .putfield 47, 3, 7, 2, 0, [], kpi 2 7),
  (84, .aload 4, 2, 0, 4, 0, [], kno),
  (86, .iconst 0, 1, 0, 0, 0, [], kno),
  (87, .putfield 50, 3, 7, 2, 0, [], kpi 2 8),
  (90, .aload 4, 2, 0, 4, 0, [], kno),
  (92, .areturn, 1, 5, 2, 0, [], kno)]
theorem E_fl_launch (c : mx_C) (m : mx_M) (a1 : Int32) (a2 : Int32) (a3 : Int32)  : rx_ev L_fl_launch [] 50 L_fl_launch (c, m) [some (.ref 1), some (.int a1), some (.int a2), some (.int a3), none] [] = rw_r m (fl_launch c a1 a2 a3) :=
  rx_ite2 (f := rw_r m) (fun _ => rfl) (fun _ => rfl)
theorem S_fl_launch (c : mx_C) (m : mx_M) (a1 : Int32) (a2 : Int32) (a3 : Int32)  : rx_sf L_fl_launch [] 50 L_fl_launch (c, m) [some (.ref 1), some (.int a1), some (.int a2), some (.int a3), none] [] :=
  And.intro rfl (And.intro rfl (And.intro (fun h0 => And.intro rfl (And.intro rfl (And.intro (fl_in0 _ h0).1 (And.intro rfl (And.intro (And.intro rfl (fl_in0 _ h0).2) (And.intro (mx_kl_row _) (And.intro (mx_kl_row _) (And.intro (mx_kl_row _) (And.intro (mx_kl_row _) (And.intro (mx_kl_row _) (And.intro (mx_kl_row _) (And.intro (mx_kl_row _) (And.intro (mx_kl_row _) (And.intro (mx_kl_row _) (trivial))))))))))))))) (fun h0 => And.intro rfl (And.intro rfl (And.intro rfl (And.intro rfl (And.intro rfl (And.intro rfl (And.intro rfl (And.intro rfl (And.intro rfl (trivial))))))))))))

theorem og_fl_18_g {p : Program} {l : Launch} {e : Env} {R : Room} {s : State} {m : MethodId} {args : Array Value} {below : List Frame} {meth : Method} {c : Code} {cc : ByteArray} {nL : Nat} {ad : Nat → Nat} {D : va_G} {g : Nat → ClassId} {B : Nat} (X : ox_C p s m args c cc nL "SubscriberLines$Flight" D g ad B) : rx_OK p l e R s m args below meth c cc nL ad (mx_W D g ad B s.heap) mx_cs (.getfield 18) 3 1 (kgr0 1 1 3) := ox_gr0 (T := T_1) X rfl (by decide) (by decide) in_1 rfl (al_at 92 (by decide +kernel) rfl)
theorem og_fl_11_g {p : Program} {l : Launch} {e : Env} {R : Room} {s : State} {m : MethodId} {args : Array Value} {below : List Frame} {meth : Method} {c : Code} {cc : ByteArray} {nL : Nat} {ad : Nat → Nat} {D : va_G} {g : Nat → ClassId} {B : Nat} (X : ox_C p s m args c cc nL "SubscriberLines$Flight" D g ad B) : rx_OK p l e R s m args below meth c cc nL ad (mx_W D g ad B s.heap) mx_cs (.getfield 11) 3 1 (kgr0 1 0 2) := ox_gr0 (T := T_1) X rfl (by decide) (by decide) in_1 rfl (al_at 90 (by decide +kernel) rfl)
theorem og_fl_22_p {p : Program} {l : Launch} {e : Env} {R : Room} {s : State} {m : MethodId} {args : Array Value} {below : List Frame} {meth : Method} {c : Code} {cc : ByteArray} {nL : Nat} {ad : Nat → Nat} {D : va_G} {g : Nat → ClassId} {B : Nat} (X : ox_C p s m args c cc nL "SubscriberLines$Flight" D g ad B) : rx_OK p l e R s m args below meth c cc nL ad (mx_W D g ad B s.heap) mx_cs (.putfield 22) 3 2 (kpf) := ox_pf X (al_at 93 (by decide +kernel) rfl)
theorem og_fl_26_p {p : Program} {l : Launch} {e : Env} {R : Room} {s : State} {m : MethodId} {args : Array Value} {below : List Frame} {meth : Method} {c : Code} {cc : ByteArray} {nL : Nat} {ad : Nat → Nat} {D : va_G} {g : Nat → ClassId} {B : Nat} (X : ox_C p s m args c cc nL "SubscriberLines$Flight" D g ad B) : rx_OK p l e R s m args below meth c cc nL ad (mx_W D g ad B s.heap) mx_cs (.putfield 26) 3 2 (kpi 2 0) := ox_pi (T := T_2) X rfl (by decide) (by decide) in_2 rfl ty_2 ty_2_ok nm_2 rfl rfl rfl (al_at 34 (by decide +kernel) rfl)
theorem og_fl_29_p {p : Program} {l : Launch} {e : Env} {R : Room} {s : State} {m : MethodId} {args : Array Value} {below : List Frame} {meth : Method} {c : Code} {cc : ByteArray} {nL : Nat} {ad : Nat → Nat} {D : va_G} {g : Nat → ClassId} {B : Nat} (X : ox_C p s m args c cc nL "SubscriberLines$Flight" D g ad B) : rx_OK p l e R s m args below meth c cc nL ad (mx_W D g ad B s.heap) mx_cs (.putfield 29) 3 2 (kpi 2 1) := ox_pi (T := T_2) X rfl (by decide) (by decide) in_2 rfl ty_2 ty_2_ok nm_2 rfl rfl rfl (al_at 40 (by decide +kernel) rfl)
theorem og_fl_32_p {p : Program} {l : Launch} {e : Env} {R : Room} {s : State} {m : MethodId} {args : Array Value} {below : List Frame} {meth : Method} {c : Code} {cc : ByteArray} {nL : Nat} {ad : Nat → Nat} {D : va_G} {g : Nat → ClassId} {B : Nat} (X : ox_C p s m args c cc nL "SubscriberLines$Flight" D g ad B) : rx_OK p l e R s m args below meth c cc nL ad (mx_W D g ad B s.heap) mx_cs (.putfield 32) 3 2 (kpi 2 2) := ox_pi (T := T_2) X rfl (by decide) (by decide) in_2 rfl ty_2 ty_2_ok nm_2 rfl rfl rfl (al_at 43 (by decide +kernel) rfl)
theorem og_fl_35_p {p : Program} {l : Launch} {e : Env} {R : Room} {s : State} {m : MethodId} {args : Array Value} {below : List Frame} {meth : Method} {c : Code} {cc : ByteArray} {nL : Nat} {ad : Nat → Nat} {D : va_G} {g : Nat → ClassId} {B : Nat} (X : ox_C p s m args c cc nL "SubscriberLines$Flight" D g ad B) : rx_OK p l e R s m args below meth c cc nL ad (mx_W D g ad B s.heap) mx_cs (.putfield 35) 3 2 (kpi 2 3) := ox_pi (T := T_2) X rfl (by decide) (by decide) in_2 rfl ty_2 ty_2_ok nm_2 rfl rfl rfl (al_at 47 (by decide +kernel) rfl)
theorem og_fl_38_p {p : Program} {l : Launch} {e : Env} {R : Room} {s : State} {m : MethodId} {args : Array Value} {below : List Frame} {meth : Method} {c : Code} {cc : ByteArray} {nL : Nat} {ad : Nat → Nat} {D : va_G} {g : Nat → ClassId} {B : Nat} (X : ox_C p s m args c cc nL "SubscriberLines$Flight" D g ad B) : rx_OK p l e R s m args below meth c cc nL ad (mx_W D g ad B s.heap) mx_cs (.putfield 38) 3 2 (kpi 2 4) := ox_pi (T := T_2) X rfl (by decide) (by decide) in_2 rfl ty_2 ty_2_ok nm_2 rfl rfl rfl (al_at 52 (by decide +kernel) rfl)
theorem og_fl_41_p {p : Program} {l : Launch} {e : Env} {R : Room} {s : State} {m : MethodId} {args : Array Value} {below : List Frame} {meth : Method} {c : Code} {cc : ByteArray} {nL : Nat} {ad : Nat → Nat} {D : va_G} {g : Nat → ClassId} {B : Nat} (X : ox_C p s m args c cc nL "SubscriberLines$Flight" D g ad B) : rx_OK p l e R s m args below meth c cc nL ad (mx_W D g ad B s.heap) mx_cs (.putfield 41) 3 2 (kpi 2 5) := ox_pi (T := T_2) X rfl (by decide) (by decide) in_2 rfl ty_2 ty_2_ok nm_2 rfl rfl rfl (al_at 57 (by decide +kernel) rfl)
theorem og_fl_44_p {p : Program} {l : Launch} {e : Env} {R : Room} {s : State} {m : MethodId} {args : Array Value} {below : List Frame} {meth : Method} {c : Code} {cc : ByteArray} {nL : Nat} {ad : Nat → Nat} {D : va_G} {g : Nat → ClassId} {B : Nat} (X : ox_C p s m args c cc nL "SubscriberLines$Flight" D g ad B) : rx_OK p l e R s m args below meth c cc nL ad (mx_W D g ad B s.heap) mx_cs (.putfield 44) 3 2 (kpi 2 6) := ox_pi (T := T_2) X rfl (by decide) (by decide) in_2 rfl ty_2 ty_2_ok nm_2 rfl rfl rfl (al_at 62 (by decide +kernel) rfl)
theorem og_fl_47_p {p : Program} {l : Launch} {e : Env} {R : Room} {s : State} {m : MethodId} {args : Array Value} {below : List Frame} {meth : Method} {c : Code} {cc : ByteArray} {nL : Nat} {ad : Nat → Nat} {D : va_G} {g : Nat → ClassId} {B : Nat} (X : ox_C p s m args c cc nL "SubscriberLines$Flight" D g ad B) : rx_OK p l e R s m args below meth c cc nL ad (mx_W D g ad B s.heap) mx_cs (.putfield 47) 3 2 (kpi 2 7) := ox_pi (T := T_2) X rfl (by decide) (by decide) in_2 rfl ty_2 ty_2_ok nm_2 rfl rfl rfl (al_at 66 (by decide +kernel) rfl)
theorem og_fl_50_p {p : Program} {l : Launch} {e : Env} {R : Room} {s : State} {m : MethodId} {args : Array Value} {below : List Frame} {meth : Method} {c : Code} {cc : ByteArray} {nL : Nat} {ad : Nat → Nat} {D : va_G} {g : Nat → ClassId} {B : Nat} (X : ox_C p s m args c cc nL "SubscriberLines$Flight" D g ad B) : rx_OK p l e R s m args below meth c cc nL ad (mx_W D g ad B s.heap) mx_cs (.putfield 50) 3 2 (kpi 2 8) := ox_pi (T := T_2) X rfl (by decide) (by decide) in_2 rfl ty_2 ty_2_ok nm_2 rfl rfl rfl (al_at 69 (by decide +kernel) rfl)
theorem ok_fl_launch : rx_okF prog_4_method_3_code 5 (some (.object "SubscriberLines$Packet")) L_fl_launch 0 L_fl_launch = true := by decide +kernel
theorem V_fl_launch {l : Launch} {D : va_G} {g : Nat → ClassId} {ad : Nat → Nat} {B : Nat} (had : mx_A ad B) : rx_V l D g ad B ⟨"SubscriberLines$Flight", "launch", "(III)LSubscriberLines$Packet;"⟩ prog_4_method_3_code 5 (some (.object "SubscriberLines$Packet")) 0 0 K_fl_launch := by
  intro av x hp
  obtain ⟨a0, a1, a2, a3, rfl⟩ := k_RIII_inv hp
  have hp : a0 = 1 := hp
  have h0 : a0 = 1 := hp
  subst h0
  exact rx_met (k := 1) had (by decide) (Nat.le_of_ble_eq_true rfl) ok_fl_launch rfl rfl 50 (fun p e s m args below meth c X => And.intro (og_fl_18_g X) (And.intro (og_fl_22_g X) (And.intro (og_fl_11_g X) (And.intro (og_fl_22_g X) (And.intro (ox_ar X) (And.intro (og_fl_22_g X) (And.intro (og_fl_22_p X) (And.intro (og_fl_26_p X) (And.intro (og_fl_29_p X) (And.intro (og_fl_32_p X) (And.intro (og_fl_35_p X) (And.intro (og_fl_38_p X) (And.intro (og_fl_41_p X) (And.intro (og_fl_44_p X) (And.intro (og_fl_47_p X) (And.intro (og_fl_50_p X) (trivial))))))))))))))))) (S_fl_launch x.1 x.2 a1 a2 a3 ) (E_fl_launch x.1 x.2 a1 a2 a3)
theorem fl_launch_pk (c : mx_C) (k a b : Int32) : mx_kl (fl_launch c k a b).2 = 2 := by
  unfold fl_launch
  split
  · exact mx_kl_row _
  · rfl
def su_hasLink (c : mx_C) (t : Nat) : Int32 :=
  if (c.1 t 4) = 2 then
    1
  else
    if (c.1 t 4) = 3 then
      1
    else
      0
def K_su_hasLink : rx_K mx := k_R (fun a0 c m => (mx_kl a0 = 4, (c, m), some (.int (su_hasLink c a0))))
def L_su_hasLink : List (rx_E mx) := [
  (0, .aload_n 0, 1, 0, 0, 0, [], kno),
  (1, .getfield 28, 3, 7, 1, 0, [], kgi 4 4),
  (4, .iconst 2, 1, 0, 0, 2, [], kno),
  (5, .if_icmp .eq 11, 3, 2, 8, 0, [], kno),
  (8, .aload_n 0, 1, 0, 0, 0, [], kno),
  (9, .getfield 28, 3, 7, 1, 0, [], kgi 4 4),
  (12, .iconst 3, 1, 0, 0, 3, [], kno),
  (13, .if_icmp .ne 7, 3, 2, 10, 0, [], kno),
  (16, .iconst 1, 1, 0, 0, 1, [], kno),
  (17, .goto 4, 3, 1, 11, 0, [], kno),
  (20, .iconst 0, 1, 0, 0, 0, [], kno),
  (21, .ireturn, 1, 5, 1, 0, [], kno)]
theorem E_su_hasLink (c : mx_C) (m : mx_M) (t : Nat)  : rx_ev L_su_hasLink [] 14 L_su_hasLink (c, m) [some (.ref t)] [] = rw_p c m (su_hasLink c t) :=
  rx_ite2 (f := rw_p c m) (fun _ => rfl) (fun _ => rx_ite2 (f := rw_p c m) (fun _ => rfl) (fun _ => rfl))
theorem S_su_hasLink (c : mx_C) (m : mx_M) (t : Nat) (ht : mx_kl t = 4) : rx_sf L_su_hasLink [] 14 L_su_hasLink (c, m) [some (.ref t)] [] :=
  And.intro ht (And.intro (fun h0 => Or.inr rfl) (fun h0 => And.intro ht (And.intro (fun h1 => Or.inr rfl) (fun h1 => Or.inl rfl))))

theorem og_su_28_g {p : Program} {l : Launch} {e : Env} {R : Room} {s : State} {m : MethodId} {args : Array Value} {below : List Frame} {meth : Method} {c : Code} {cc : ByteArray} {nL : Nat} {ad : Nat → Nat} {D : va_G} {g : Nat → ClassId} {B : Nat} (X : ox_C p s m args c cc nL "SubscriberLines$Subscriber" D g ad B) : rx_OK p l e R s m args below meth c cc nL ad (mx_W D g ad B s.heap) mx_cs (.getfield 28) 3 1 (kgi 4 4) := ox_gi (T := T_4) X rfl (by decide) (by decide) in_4 rfl (al_at 133 (by decide +kernel) rfl)
theorem ok_su_hasLink : rx_okF prog_10_method_7_code 1 (some .boolean) L_su_hasLink 0 L_su_hasLink = true := by decide +kernel
theorem V_su_hasLink {l : Launch} {D : va_G} {g : Nat → ClassId} {ad : Nat → Nat} {B : Nat} (had : mx_A ad B) : rx_V l D g ad B ⟨"SubscriberLines$Subscriber", "hasLink", "()Z"⟩ prog_10_method_7_code 1 (some .boolean) 0 0 K_su_hasLink := by
  intro av x hp
  obtain ⟨a0, rfl⟩ := k_R_inv hp
  have hp : mx_kl a0 = 4 := hp
  exact rx_met (k := 0) had (by decide) (Nat.le_of_ble_eq_true rfl) ok_su_hasLink rfl rfl 14 (fun p e s m args below meth c X => And.intro (og_su_28_g X) (And.intro (og_su_28_g X) (trivial))) (S_su_hasLink x.1 x.2 a0 hp) (E_su_hasLink x.1 x.2 a0)
def su_turnOff (c : mx_C) (t : Nat) : mx_C :=
  let c1 := mx_pi c t 4 0
  let c2 := mx_pi c1 t 6 0
  let c3 := mx_pi c2 t 5 0
  c3
def K_su_turnOff : rx_K mx := k_R (fun a0 c m => (mx_kl a0 = 4, (su_turnOff c a0, m), none))
def L_su_turnOff : List (rx_E mx) := [
  (0, .aload_n 0, 1, 0, 0, 0, [], kno),
  (1, .iconst 0, 1, 0, 0, 0, [], kno),
  (2, .putfield 28, 3, 7, 2, 0, [], kpi 4 4),
  (5, .aload_n 0, 1, 0, 0, 0, [], kno),
  (6, .iconst 0, 1, 0, 0, 0, [], kno),
  (7, .putfield 52, 3, 7, 2, 0, [], kpi 4 6),
  (10, .aload_n 0, 1, 0, 0, 0, [], kno),
  (11, .iconst 0, 1, 0, 0, 0, [], kno),
  (12, .putfield 96, 3, 7, 2, 0, [], kpi 4 5),
  (15, .return_, 1, 6, 0, 0, [], kno)]
theorem E_su_turnOff (c : mx_C) (m : mx_M) (t : Nat)  : rx_ev L_su_turnOff [] 12 L_su_turnOff (c, m) [some (.ref t)] [] = rw_v m (su_turnOff c t) :=
  rfl
theorem S_su_turnOff (c : mx_C) (m : mx_M) (t : Nat) (ht : mx_kl t = 4) : rx_sf L_su_turnOff [] 12 L_su_turnOff (c, m) [some (.ref t)] [] :=
  And.intro ht (And.intro ht (And.intro ht (trivial)))

theorem og_su_28_p {p : Program} {l : Launch} {e : Env} {R : Room} {s : State} {m : MethodId} {args : Array Value} {below : List Frame} {meth : Method} {c : Code} {cc : ByteArray} {nL : Nat} {ad : Nat → Nat} {D : va_G} {g : Nat → ClassId} {B : Nat} (X : ox_C p s m args c cc nL "SubscriberLines$Subscriber" D g ad B) : rx_OK p l e R s m args below meth c cc nL ad (mx_W D g ad B s.heap) mx_cs (.putfield 28) 3 2 (kpi 4 4) := ox_pi (T := T_4) X rfl (by decide) (by decide) in_4 rfl ty_4 ty_4_ok nm_4 rfl rfl rfl (al_at 133 (by decide +kernel) rfl)
theorem og_su_52_p {p : Program} {l : Launch} {e : Env} {R : Room} {s : State} {m : MethodId} {args : Array Value} {below : List Frame} {meth : Method} {c : Code} {cc : ByteArray} {nL : Nat} {ad : Nat → Nat} {D : va_G} {g : Nat → ClassId} {B : Nat} (X : ox_C p s m args c cc nL "SubscriberLines$Subscriber" D g ad B) : rx_OK p l e R s m args below meth c cc nL ad (mx_W D g ad B s.heap) mx_cs (.putfield 52) 3 2 (kpi 4 6) := ox_pi (T := T_4) X rfl (by decide) (by decide) in_4 rfl ty_4 ty_4_ok nm_4 rfl rfl rfl (al_at 137 (by decide +kernel) rfl)
theorem og_su_96_p {p : Program} {l : Launch} {e : Env} {R : Room} {s : State} {m : MethodId} {args : Array Value} {below : List Frame} {meth : Method} {c : Code} {cc : ByteArray} {nL : Nat} {ad : Nat → Nat} {D : va_G} {g : Nat → ClassId} {B : Nat} (X : ox_C p s m args c cc nL "SubscriberLines$Subscriber" D g ad B) : rx_OK p l e R s m args below meth c cc nL ad (mx_W D g ad B s.heap) mx_cs (.putfield 96) 3 2 (kpi 4 5) := ox_pi (T := T_4) X rfl (by decide) (by decide) in_4 rfl ty_4 ty_4_ok nm_4 rfl rfl rfl (al_at 135 (by decide +kernel) rfl)
theorem ok_su_turnOff : rx_okF prog_10_method_14_code 1 none L_su_turnOff 0 L_su_turnOff = true := by decide +kernel
theorem V_su_turnOff {l : Launch} {D : va_G} {g : Nat → ClassId} {ad : Nat → Nat} {B : Nat} (had : mx_A ad B) : rx_V l D g ad B ⟨"SubscriberLines$Subscriber", "turnOff", "()V"⟩ prog_10_method_14_code 1 none 0 0 K_su_turnOff := by
  intro av x hp
  obtain ⟨a0, rfl⟩ := k_R_inv hp
  have hp : mx_kl a0 = 4 := hp
  exact rx_met (k := 0) had (by decide) (Nat.le_of_ble_eq_true rfl) ok_su_turnOff rfl rfl 12 (fun p e s m args below meth c X => And.intro (og_su_28_p X) (And.intro (og_su_52_p X) (And.intro (og_su_96_p X) (trivial)))) (S_su_turnOff x.1 x.2 a0 hp) (E_su_turnOff x.1 x.2 a0)
def su_leave (c : mx_C) (t : Nat) : mx_C :=
  if (su_hasLink c t) = 0 then
    let c1 := su_turnOff c t
    c1
  else
    let q2 := fl_launch c 3 (c.1 t 1) 4
    let c3 := pk_bear q2.1 q2.2 (q2.1.1 t 6) 0 0
    let c4 := su_turnOff c3 t
    c4
def K_su_leave : rx_K mx := k_R (fun a0 c m => (mx_kl a0 = 4, (su_leave c a0, m), none))
def L_su_leave : List (rx_E mx) := [
  (0, .aload_n 0, 1, 0, 0, 0, [], kno),
  (1, .invokevirtual 70, 3, 7, 1, 0, [], K_su_hasLink),
  (4, .ifCond .eq 25, 3, 2, 15, 0, [], kno),
  (7, .aload_n 0, 1, 0, 0, 0, [], kno),
  (8, .getfield 24, 3, 7, 1, 0, [], kgr0 4 2 1),
  (11, .iconst 3, 1, 0, 0, 3, [], kno),
  (12, .aload_n 0, 1, 0, 0, 0, [], kno),
  (13, .getfield 20, 3, 7, 1, 0, [], kgi 4 1),
  (16, .iconst 4, 1, 0, 0, 4, [], kno),
  (17, .invokevirtual 46, 3, 7, 4, 0, [], K_fl_launch),
  (20, .aload_n 0, 1, 0, 0, 0, [], kno),
  (21, .getfield 52, 3, 7, 1, 0, [], kgi 4 6),
  (24, .iconst 0, 1, 0, 0, 0, [], kno),
  (25, .iconst 0, 1, 0, 0, 0, [], kno),
  (26, .invokevirtual 55, 3, 7, 4, 0, [], K_pk_bear),
  (29, .aload_n 0, 1, 0, 0, 0, [], kno),
  (30, .invokevirtual 87, 3, 7, 1, 0, [], K_su_turnOff),
  (33, .return_, 1, 6, 0, 0, [], kno)]
theorem E_su_leave (c : mx_C) (m : mx_M) (t : Nat)  : rx_ev L_su_leave [] 20 L_su_leave (c, m) [some (.ref t)] [] = rw_v m (su_leave c t) :=
  rx_ite2 (f := rw_v m) (fun _ => rfl) (fun _ => rfl)
theorem S_su_leave (c : mx_C) (m : mx_M) (t : Nat) (ht : mx_kl t = 4) : rx_sf L_su_leave [] 20 L_su_leave (c, m) [some (.ref t)] [] :=
  And.intro ht (And.intro (fun h0 => And.intro ht (trivial)) (fun h0 => And.intro ht (And.intro ht (And.intro rfl (And.intro ht (And.intro (fl_launch_pk _ _ _ _) (And.intro ht (trivial))))))))

theorem cv_su_hasLink {p : Program} {l : Launch} {e : Env} {R : Room} {s : State} {m : MethodId} {args : Array Value} {below : List Frame} {meth : Method} {c : Code} {cc : ByteArray} {nL : Nat} {ad : Nat → Nat} {D : va_G} {g : Nat → ClassId} {B : Nat} {own : String} {idx : Nat} (X : ox_C p s m args c cc nL own D g ad B) (hV : rx_V l D g ad B ⟨"SubscriberLines$Subscriber", "hasLink", "()Z"⟩ prog_10_method_7_code 1 (some .boolean) 0 0 K_su_hasLink) (hl : Cond.methodLink own idx ⟨"SubscriberLines$Subscriber", "hasLink", "()Z"⟩ ∈ al) (hR : 0 + 1 ≤ R.frames ∧ 8 + (1 + 11) + 0 ≤ R.locals) : rx_OK p l e R s m args below meth c cc nL ad (mx_W D g ad B s.heap) mx_cs (.invokevirtual idx) 3 1 (K_su_hasLink) :=
  ox_callV (q := 4) (T := T_4) X hV (fun av x h => by obtain ⟨a0, rfl⟩ := k_R_inv h; exact ⟨a0, _, rfl, h⟩) (by decide) rfl hl (al_at 391 (by decide +kernel) rfl) (al_pr (y := (⟨"SubscriberLines$Subscriber", "hasLink", "()Z"⟩, _)) 2 rfl) (al_at 5 (by decide +kernel) rfl) (al_at 392 (by decide +kernel) rfl) ⟨by decide, by decide, by decide +kernel⟩ hR
theorem og_su_24_g {p : Program} {l : Launch} {e : Env} {R : Room} {s : State} {m : MethodId} {args : Array Value} {below : List Frame} {meth : Method} {c : Code} {cc : ByteArray} {nL : Nat} {ad : Nat → Nat} {D : va_G} {g : Nat → ClassId} {B : Nat} (X : ox_C p s m args c cc nL "SubscriberLines$Subscriber" D g ad B) : rx_OK p l e R s m args below meth c cc nL ad (mx_W D g ad B s.heap) mx_cs (.getfield 24) 3 1 (kgr0 4 2 1) := ox_gr0 (T := T_4) X rfl (by decide) (by decide) in_4 rfl (al_at 130 (by decide +kernel) rfl)
theorem og_su_20_g {p : Program} {l : Launch} {e : Env} {R : Room} {s : State} {m : MethodId} {args : Array Value} {below : List Frame} {meth : Method} {c : Code} {cc : ByteArray} {nL : Nat} {ad : Nat → Nat} {D : va_G} {g : Nat → ClassId} {B : Nat} (X : ox_C p s m args c cc nL "SubscriberLines$Subscriber" D g ad B) : rx_OK p l e R s m args below meth c cc nL ad (mx_W D g ad B s.heap) mx_cs (.getfield 20) 3 1 (kgi 4 1) := ox_gi (T := T_4) X rfl (by decide) (by decide) in_4 rfl (al_at 129 (by decide +kernel) rfl)
theorem cv_fl_launch {p : Program} {l : Launch} {e : Env} {R : Room} {s : State} {m : MethodId} {args : Array Value} {below : List Frame} {meth : Method} {c : Code} {cc : ByteArray} {nL : Nat} {ad : Nat → Nat} {D : va_G} {g : Nat → ClassId} {B : Nat} {own : String} {idx : Nat} (X : ox_C p s m args c cc nL own D g ad B) (hV : rx_V l D g ad B ⟨"SubscriberLines$Flight", "launch", "(III)LSubscriberLines$Packet;"⟩ prog_4_method_3_code 5 (some (.object "SubscriberLines$Packet")) 0 0 K_fl_launch) (hl : Cond.methodLink own idx ⟨"SubscriberLines$Flight", "launch", "(III)LSubscriberLines$Packet;"⟩ ∈ al) (hR : 0 + 1 ≤ R.frames ∧ 8 + (5 + 11) + 0 ≤ R.locals) : rx_OK p l e R s m args below meth c cc nL ad (mx_W D g ad B s.heap) mx_cs (.invokevirtual idx) 3 4 (K_fl_launch) :=
  ox_callV (q := 1) (T := T_1) X hV (fun av x h => by obtain ⟨a0, a1, a2, a3, rfl⟩ := k_RIII_inv h; exact ⟨a0, _, rfl, by have h2 : a0 = 1 := h; rw [h2]; rfl⟩) (by decide) rfl hl (al_at 370 (by decide +kernel) rfl) (al_at 371 (by decide +kernel) rfl) (al_at 2 (by decide +kernel) rfl) (al_at 372 (by decide +kernel) rfl) ⟨by decide, by decide, by decide +kernel⟩ hR
theorem og_su_52_g {p : Program} {l : Launch} {e : Env} {R : Room} {s : State} {m : MethodId} {args : Array Value} {below : List Frame} {meth : Method} {c : Code} {cc : ByteArray} {nL : Nat} {ad : Nat → Nat} {D : va_G} {g : Nat → ClassId} {B : Nat} (X : ox_C p s m args c cc nL "SubscriberLines$Subscriber" D g ad B) : rx_OK p l e R s m args below meth c cc nL ad (mx_W D g ad B s.heap) mx_cs (.getfield 52) 3 1 (kgi 4 6) := ox_gi (T := T_4) X rfl (by decide) (by decide) in_4 rfl (al_at 137 (by decide +kernel) rfl)
theorem cv_pk_bear {p : Program} {l : Launch} {e : Env} {R : Room} {s : State} {m : MethodId} {args : Array Value} {below : List Frame} {meth : Method} {c : Code} {cc : ByteArray} {nL : Nat} {ad : Nat → Nat} {D : va_G} {g : Nat → ClassId} {B : Nat} {own : String} {idx : Nat} (X : ox_C p s m args c cc nL own D g ad B) (hV : rx_V l D g ad B ⟨"SubscriberLines$Packet", "bear", "(III)V"⟩ prog_7_method_2_code 4 none 0 0 K_pk_bear) (hl : Cond.methodLink own idx ⟨"SubscriberLines$Packet", "bear", "(III)V"⟩ ∈ al) (hR : 0 + 1 ≤ R.frames ∧ 8 + (4 + 11) + 0 ≤ R.locals) : rx_OK p l e R s m args below meth c cc nL ad (mx_W D g ad B s.heap) mx_cs (.invokevirtual idx) 3 4 (K_pk_bear) :=
  ox_callV (q := 2) (T := T_2) X hV (fun av x h => by obtain ⟨a0, a1, a2, a3, rfl⟩ := k_RIII_inv h; exact ⟨a0, _, rfl, h⟩) (by decide) rfl hl (al_at 374 (by decide +kernel) rfl) (al_at 375 (by decide +kernel) rfl) (al_at 3 (by decide +kernel) rfl) (al_at 376 (by decide +kernel) rfl) ⟨by decide, by decide, by decide +kernel⟩ hR
theorem cv_su_turnOff {p : Program} {l : Launch} {e : Env} {R : Room} {s : State} {m : MethodId} {args : Array Value} {below : List Frame} {meth : Method} {c : Code} {cc : ByteArray} {nL : Nat} {ad : Nat → Nat} {D : va_G} {g : Nat → ClassId} {B : Nat} {own : String} {idx : Nat} (X : ox_C p s m args c cc nL own D g ad B) (hV : rx_V l D g ad B ⟨"SubscriberLines$Subscriber", "turnOff", "()V"⟩ prog_10_method_14_code 1 none 0 0 K_su_turnOff) (hl : Cond.methodLink own idx ⟨"SubscriberLines$Subscriber", "turnOff", "()V"⟩ ∈ al) (hR : 0 + 1 ≤ R.frames ∧ 8 + (1 + 11) + 0 ≤ R.locals) : rx_OK p l e R s m args below meth c cc nL ad (mx_W D g ad B s.heap) mx_cs (.invokevirtual idx) 3 1 (K_su_turnOff) :=
  ox_callV (q := 4) (T := T_4) X hV (fun av x h => by obtain ⟨a0, rfl⟩ := k_R_inv h; exact ⟨a0, _, rfl, h⟩) (by decide) rfl hl (al_at 395 (by decide +kernel) rfl) (al_pr (y := (⟨"SubscriberLines$Subscriber", "turnOff", "()V"⟩, _)) 3 rfl) (al_at 5 (by decide +kernel) rfl) (al_at 396 (by decide +kernel) rfl) ⟨by decide, by decide, by decide +kernel⟩ hR
theorem ok_su_leave : rx_okF prog_10_method_13_code 1 none L_su_leave 0 L_su_leave = true := by decide +kernel
theorem V_su_leave {l : Launch} {D : va_G} {g : Nat → ClassId} {ad : Nat → Nat} {B : Nat} (had : mx_A ad B) : rx_V l D g ad B ⟨"SubscriberLines$Subscriber", "leave", "()V"⟩ prog_10_method_13_code 1 none 1 24 K_su_leave := by
  intro av x hp
  obtain ⟨a0, rfl⟩ := k_R_inv hp
  have hp : mx_kl a0 = 4 := hp
  exact rx_met (k := 0) had (by decide) (Nat.le_of_ble_eq_true rfl) ok_su_leave rfl rfl 20 (fun p e s m args below meth c X => And.intro (cv_su_hasLink X (V_su_hasLink had) (al_at 389 (by decide +kernel) rfl) ⟨by decide, by decide⟩) (And.intro (og_su_24_g X) (And.intro (og_su_20_g X) (And.intro (cv_fl_launch X (V_fl_launch had) (al_at 369 (by decide +kernel) rfl) ⟨by decide, by decide⟩) (And.intro (og_su_52_g X) (And.intro (cv_pk_bear X (V_pk_bear had) (al_at 373 (by decide +kernel) rfl) ⟨by decide, by decide⟩) (And.intro (cv_su_turnOff X (V_su_turnOff had) (al_at 393 (by decide +kernel) rfl) ⟨by decide, by decide⟩) (trivial)))))))) (S_su_leave x.1 x.2 a0 hp) (E_su_leave x.1 x.2 a0)
def su_request (c : mx_C) (t : Nat) : mx_C :=
  let c1 := mx_pi c t 9 ((c.1 t 9) + 1)
  let c2 := mx_pi c1 t 10 0
  if (c2.1 t 4) = 1 then
    let q3 := fl_launch c2 1 (c2.1 t 1) 4
    q3.1
  else
    let q4 := fl_launch c2 4 (c2.1 t 1) 4
    let c5 := pk_bear q4.1 q4.2 (q4.1.1 t 6) (q4.1.1 t 7) (q4.1.1 t 8)
    c5
def K_su_request : rx_K mx := k_R (fun a0 c m => (mx_kl a0 = 4, (su_request c a0, m), none))
def L_su_request : List (rx_E mx) := [
  (0, .aload_n 0, 1, 0, 0, 0, [], kno),
  (1, .dup, 1, 0, 0, 0, [], kno),
  (2, .getfield 37, 3, 7, 1, 0, [], kgi 4 9),
  (5, .iconst 1, 1, 0, 0, 1, [], kno),
  (6, .iadd, 1, 0, 0, 0, [], kno),
  (7, .putfield 37, 3, 7, 2, 0, [], kpi 4 9),
  (10, .aload_n 0, 1, 0, 0, 0, [], kno),
  (11, .iconst 0, 1, 0, 0, 0, [], kno),
  (12, .putfield 81, 3, 7, 2, 0, [], kpi 4 10),
  (15, .aload_n 0, 1, 0, 0, 0, [], kno),
  (16, .getfield 28, 3, 7, 1, 0, [], kgi 4 4),
  (19, .iconst 1, 1, 0, 0, 1, [], kno),
  (20, .if_icmp .ne 20, 3, 2, 22, 0, [], kno),
  (23, .aload_n 0, 1, 0, 0, 0, [], kno),
  (24, .getfield 24, 3, 7, 1, 0, [], kgr0 4 2 1),
  (27, .iconst 1, 1, 0, 0, 1, [], kno),
  (28, .aload_n 0, 1, 0, 0, 0, [], kno),
  (29, .getfield 20, 3, 7, 1, 0, [], kgi 4 1),
  (32, .iconst 4, 1, 0, 0, 4, [], kno),
  (33, .invokevirtual 46, 3, 7, 4, 0, [], K_fl_launch),
  (36, .pop, 1, 0, 0, 0, [], kno),
  (37, .goto 31, 3, 1, 36, 0, [], kno),
  (40, .aload_n 0, 1, 0, 0, 0, [], kno),
  (41, .getfield 24, 3, 7, 1, 0, [], kgr0 4 2 1),
  (44, .iconst 4, 1, 0, 0, 4, [], kno),
  (45, .aload_n 0, 1, 0, 0, 0, [], kno),
  (46, .getfield 20, 3, 7, 1, 0, [], kgi 4 1),
  (49, .iconst 4, 1, 0, 0, 4, [], kno),
  (50, .invokevirtual 46, 3, 7, 4, 0, [], K_fl_launch),
  (53, .aload_n 0, 1, 0, 0, 0, [], kno),
  (54, .getfield 52, 3, 7, 1, 0, [], kgi 4 6),
  (57, .aload_n 0, 1, 0, 0, 0, [], kno),
  (58, .getfield 31, 3, 7, 1, 0, [], kgi 4 7),
  (61, .aload_n 0, 1, 0, 0, 0, [], kno),
  (62, .getfield 34, 3, 7, 1, 0, [], kgi 4 8),
  (65, .invokevirtual 55, 3, 7, 4, 0, [], K_pk_bear),
  (68, .return_, 1, 6, 0, 0, [], kno)]
theorem E_su_request (c : mx_C) (m : mx_M) (t : Nat)  : rx_ev L_su_request [] 39 L_su_request (c, m) [some (.ref t)] [] = rw_v m (su_request c t) :=
  rx_ite2 (f := rw_v m) (fun _ => rfl) (fun _ => rfl)
theorem S_su_request (c : mx_C) (m : mx_M) (t : Nat) (ht : mx_kl t = 4) : rx_sf L_su_request [] 39 L_su_request (c, m) [some (.ref t)] [] :=
  And.intro ht (And.intro ht (And.intro ht (And.intro ht (And.intro (fun h0 => And.intro ht (And.intro ht (And.intro rfl (trivial)))) (fun h0 => And.intro ht (And.intro ht (And.intro rfl (And.intro ht (And.intro ht (And.intro ht (And.intro (fl_launch_pk _ _ _ _) (trivial))))))))))))

theorem og_su_37_g {p : Program} {l : Launch} {e : Env} {R : Room} {s : State} {m : MethodId} {args : Array Value} {below : List Frame} {meth : Method} {c : Code} {cc : ByteArray} {nL : Nat} {ad : Nat → Nat} {D : va_G} {g : Nat → ClassId} {B : Nat} (X : ox_C p s m args c cc nL "SubscriberLines$Subscriber" D g ad B) : rx_OK p l e R s m args below meth c cc nL ad (mx_W D g ad B s.heap) mx_cs (.getfield 37) 3 1 (kgi 4 9) := ox_gi (T := T_4) X rfl (by decide) (by decide) in_4 rfl (al_at 140 (by decide +kernel) rfl)
theorem og_su_37_p {p : Program} {l : Launch} {e : Env} {R : Room} {s : State} {m : MethodId} {args : Array Value} {below : List Frame} {meth : Method} {c : Code} {cc : ByteArray} {nL : Nat} {ad : Nat → Nat} {D : va_G} {g : Nat → ClassId} {B : Nat} (X : ox_C p s m args c cc nL "SubscriberLines$Subscriber" D g ad B) : rx_OK p l e R s m args below meth c cc nL ad (mx_W D g ad B s.heap) mx_cs (.putfield 37) 3 2 (kpi 4 9) := ox_pi (T := T_4) X rfl (by decide) (by decide) in_4 rfl ty_4 ty_4_ok nm_4 rfl rfl rfl (al_at 140 (by decide +kernel) rfl)
theorem og_su_81_p {p : Program} {l : Launch} {e : Env} {R : Room} {s : State} {m : MethodId} {args : Array Value} {below : List Frame} {meth : Method} {c : Code} {cc : ByteArray} {nL : Nat} {ad : Nat → Nat} {D : va_G} {g : Nat → ClassId} {B : Nat} (X : ox_C p s m args c cc nL "SubscriberLines$Subscriber" D g ad B) : rx_OK p l e R s m args below meth c cc nL ad (mx_W D g ad B s.heap) mx_cs (.putfield 81) 3 2 (kpi 4 10) := ox_pi (T := T_4) X rfl (by decide) (by decide) in_4 rfl ty_4 ty_4_ok nm_4 rfl rfl rfl (al_at 141 (by decide +kernel) rfl)
theorem og_su_31_g {p : Program} {l : Launch} {e : Env} {R : Room} {s : State} {m : MethodId} {args : Array Value} {below : List Frame} {meth : Method} {c : Code} {cc : ByteArray} {nL : Nat} {ad : Nat → Nat} {D : va_G} {g : Nat → ClassId} {B : Nat} (X : ox_C p s m args c cc nL "SubscriberLines$Subscriber" D g ad B) : rx_OK p l e R s m args below meth c cc nL ad (mx_W D g ad B s.heap) mx_cs (.getfield 31) 3 1 (kgi 4 7) := ox_gi (T := T_4) X rfl (by decide) (by decide) in_4 rfl (al_at 138 (by decide +kernel) rfl)
theorem og_su_34_g {p : Program} {l : Launch} {e : Env} {R : Room} {s : State} {m : MethodId} {args : Array Value} {below : List Frame} {meth : Method} {c : Code} {cc : ByteArray} {nL : Nat} {ad : Nat → Nat} {D : va_G} {g : Nat → ClassId} {B : Nat} (X : ox_C p s m args c cc nL "SubscriberLines$Subscriber" D g ad B) : rx_OK p l e R s m args below meth c cc nL ad (mx_W D g ad B s.heap) mx_cs (.getfield 34) 3 1 (kgi 4 8) := ox_gi (T := T_4) X rfl (by decide) (by decide) in_4 rfl (al_at 139 (by decide +kernel) rfl)
theorem ok_su_request : rx_okF prog_10_method_11_code 1 none L_su_request 0 L_su_request = true := by decide +kernel
theorem V_su_request {l : Launch} {D : va_G} {g : Nat → ClassId} {ad : Nat → Nat} {B : Nat} (had : mx_A ad B) : rx_V l D g ad B ⟨"SubscriberLines$Subscriber", "request", "()V"⟩ prog_10_method_11_code 1 none 1 24 K_su_request := by
  intro av x hp
  obtain ⟨a0, rfl⟩ := k_R_inv hp
  have hp : mx_kl a0 = 4 := hp
  exact rx_met (k := 0) had (by decide) (Nat.le_of_ble_eq_true rfl) ok_su_request rfl rfl 39 (fun p e s m args below meth c X => And.intro (og_su_37_g X) (And.intro (og_su_37_p X) (And.intro (og_su_81_p X) (And.intro (og_su_28_g X) (And.intro (og_su_24_g X) (And.intro (og_su_20_g X) (And.intro (cv_fl_launch X (V_fl_launch had) (al_at 369 (by decide +kernel) rfl) ⟨by decide, by decide⟩) (And.intro (og_su_24_g X) (And.intro (og_su_20_g X) (And.intro (cv_fl_launch X (V_fl_launch had) (al_at 369 (by decide +kernel) rfl) ⟨by decide, by decide⟩) (And.intro (og_su_52_g X) (And.intro (og_su_31_g X) (And.intro (og_su_34_g X) (And.intro (cv_pk_bear X (V_pk_bear had) (al_at 373 (by decide +kernel) rfl) ⟨by decide, by decide⟩) (trivial))))))))))))))) (S_su_request x.1 x.2 a0 hp) (E_su_request x.1 x.2 a0)
def su_requestAgain (c : mx_C) (t : Nat) : mx_C :=
  if (c.1 t 9) = 4 then
    let c1 := su_leave c t
    c1
  else
    let c2 := su_request c t
    c2
def K_su_requestAgain : rx_K mx := k_R (fun a0 c m => (mx_kl a0 = 4, (su_requestAgain c a0, m), none))
def L_su_requestAgain : List (rx_E mx) := [
  (0, .aload_n 0, 1, 0, 0, 0, [], kno),
  (1, .getfield 37, 3, 7, 1, 0, [], kgi 4 9),
  (4, .iconst 4, 1, 0, 0, 4, [], kno),
  (5, .if_icmp .ne 10, 3, 2, 7, 0, [], kno),
  (8, .aload_n 0, 1, 0, 0, 0, [], kno),
  (9, .invokevirtual 43, 3, 7, 1, 0, [], K_su_leave),
  (12, .goto 7, 3, 1, 9, 0, [], kno),
  (15, .aload_n 0, 1, 0, 0, 0, [], kno),
  (16, .invokevirtual 40, 3, 7, 1, 0, [], K_su_request),
  (19, .return_, 1, 6, 0, 0, [], kno)]
theorem E_su_requestAgain (c : mx_C) (m : mx_M) (t : Nat)  : rx_ev L_su_requestAgain [] 12 L_su_requestAgain (c, m) [some (.ref t)] [] = rw_v m (su_requestAgain c t) :=
  rx_ite2 (f := rw_v m) (fun _ => rfl) (fun _ => rfl)
theorem S_su_requestAgain (c : mx_C) (m : mx_M) (t : Nat) (ht : mx_kl t = 4) : rx_sf L_su_requestAgain [] 12 L_su_requestAgain (c, m) [some (.ref t)] [] :=
  And.intro ht (And.intro (fun h0 => And.intro ht (trivial)) (fun h0 => And.intro ht (trivial)))

theorem cv_su_leave {p : Program} {l : Launch} {e : Env} {R : Room} {s : State} {m : MethodId} {args : Array Value} {below : List Frame} {meth : Method} {c : Code} {cc : ByteArray} {nL : Nat} {ad : Nat → Nat} {D : va_G} {g : Nat → ClassId} {B : Nat} {own : String} {idx : Nat} (X : ox_C p s m args c cc nL own D g ad B) (hV : rx_V l D g ad B ⟨"SubscriberLines$Subscriber", "leave", "()V"⟩ prog_10_method_13_code 1 none 1 24 K_su_leave) (hl : Cond.methodLink own idx ⟨"SubscriberLines$Subscriber", "leave", "()V"⟩ ∈ al) (hR : 1 + 1 ≤ R.frames ∧ 8 + (1 + 11) + 24 ≤ R.locals) : rx_OK p l e R s m args below meth c cc nL ad (mx_W D g ad B s.heap) mx_cs (.invokevirtual idx) 3 1 (K_su_leave) :=
  ox_callV (q := 4) (T := T_4) X hV (fun av x h => by obtain ⟨a0, rfl⟩ := k_R_inv h; exact ⟨a0, _, rfl, h⟩) (by decide) rfl hl (al_at 387 (by decide +kernel) rfl) (al_pr (y := (⟨"SubscriberLines$Subscriber", "leave", "()V"⟩, _)) 1 rfl) (al_at 5 (by decide +kernel) rfl) (al_at 388 (by decide +kernel) rfl) ⟨by decide, by decide, by decide +kernel⟩ hR
theorem cv_su_request {p : Program} {l : Launch} {e : Env} {R : Room} {s : State} {m : MethodId} {args : Array Value} {below : List Frame} {meth : Method} {c : Code} {cc : ByteArray} {nL : Nat} {ad : Nat → Nat} {D : va_G} {g : Nat → ClassId} {B : Nat} {own : String} {idx : Nat} (X : ox_C p s m args c cc nL own D g ad B) (hV : rx_V l D g ad B ⟨"SubscriberLines$Subscriber", "request", "()V"⟩ prog_10_method_11_code 1 none 1 24 K_su_request) (hl : Cond.methodLink own idx ⟨"SubscriberLines$Subscriber", "request", "()V"⟩ ∈ al) (hR : 1 + 1 ≤ R.frames ∧ 8 + (1 + 11) + 24 ≤ R.locals) : rx_OK p l e R s m args below meth c cc nL ad (mx_W D g ad B s.heap) mx_cs (.invokevirtual idx) 3 1 (K_su_request) :=
  ox_callV (q := 4) (T := T_4) X hV (fun av x h => by obtain ⟨a0, rfl⟩ := k_R_inv h; exact ⟨a0, _, rfl, h⟩) (by decide) rfl hl (al_at 367 (by decide +kernel) rfl) (al_pr (y := (⟨"SubscriberLines$Subscriber", "request", "()V"⟩, _)) 0 rfl) (al_at 5 (by decide +kernel) rfl) (al_at 368 (by decide +kernel) rfl) ⟨by decide, by decide, by decide +kernel⟩ hR
theorem ok_su_requestAgain : rx_okF prog_10_method_12_code 1 none L_su_requestAgain 0 L_su_requestAgain = true := by decide +kernel
theorem V_su_requestAgain {l : Launch} {D : va_G} {g : Nat → ClassId} {ad : Nat → Nat} {B : Nat} (had : mx_A ad B) : rx_V l D g ad B ⟨"SubscriberLines$Subscriber", "requestAgain", "()V"⟩ prog_10_method_12_code 1 none 2 44 K_su_requestAgain := by
  intro av x hp
  obtain ⟨a0, rfl⟩ := k_R_inv hp
  have hp : mx_kl a0 = 4 := hp
  exact rx_met (k := 0) had (by decide) (Nat.le_of_ble_eq_true rfl) ok_su_requestAgain rfl rfl 12 (fun p e s m args below meth c X => And.intro (og_su_37_g X) (And.intro (cv_su_leave X (V_su_leave had) (al_at 385 (by decide +kernel) rfl) ⟨by decide, by decide⟩) (And.intro (cv_su_request X (V_su_request had) (al_at 365 (by decide +kernel) rfl) ⟨by decide, by decide⟩) (trivial)))) (S_su_requestAgain x.1 x.2 a0 hp) (E_su_requestAgain x.1 x.2 a0)
def su_connect (c : mx_C) (t : Nat) (a1 : Int32) (a2 : Int32) : mx_C × Int32 :=
  if (c.1 t 4) = 0 then
    let c1 := mx_pi c t 7 a1
    let c2 := mx_pi c1 t 8 a2
    let c3 := mx_pi c2 t 4 1
    let c4 := mx_pi c3 t 9 0
    let c5 := su_request c4 t
    (c5, 1)
  else
    (c, 0)
def K_su_connect : rx_K mx := k_RII (fun a0 a1 a2 c m => (mx_kl a0 = 4, ((su_connect c a0 a1 a2).1, m), some (.int (su_connect c a0 a1 a2).2)))
def L_su_connect : List (rx_E mx) := [
  (0, .aload_n 0, 1, 0, 0, 0, [], kno),
  (1, .getfield 28, 3, 7, 1, 0, [], kgi 4 4),
  (4, .ifCond .eq 5, 3, 2, 5, 0, [], kno),
  (7, .iconst 0, 1, 0, 0, 0, [], kno),
  (8, .ireturn, 1, 5, 1, 0, [], kno),
  (9, .aload_n 0, 1, 0, 0, 0, [], kno),
  (10, .iload_n 1, 1, 0, 1, 0, [], kno),
  (11, .putfield 31, 3, 7, 2, 0, [], kpi 4 7),
  (14, .aload_n 0, 1, 0, 0, 0, [], kno),
  (15, .iload_n 2, 1, 0, 2, 0, [], kno),
  (16, .putfield 34, 3, 7, 2, 0, [], kpi 4 8),
  (19, .aload_n 0, 1, 0, 0, 0, [], kno),
  (20, .iconst 1, 1, 0, 0, 1, [], kno),
  (21, .putfield 28, 3, 7, 2, 0, [], kpi 4 4),
  (24, .aload_n 0, 1, 0, 0, 0, [], kno),
  (25, .iconst 0, 1, 0, 0, 0, [], kno),
  (26, .putfield 37, 3, 7, 2, 0, [], kpi 4 9),
  (29, .aload_n 0, 1, 0, 0, 0, [], kno),
  (30, .invokevirtual 40, 3, 7, 1, 0, [], K_su_request),
  (33, .iconst 1, 1, 0, 0, 1, [], kno),
  (34, .ireturn, 1, 5, 1, 0, [], kno)]
theorem E_su_connect (c : mx_C) (m : mx_M) (t : Nat) (a1 : Int32) (a2 : Int32)  : rx_ev L_su_connect [] 23 L_su_connect (c, m) [some (.ref t), some (.int a1), some (.int a2)] [] = rw_i m (su_connect c t a1 a2) :=
  rx_ite2 (f := rw_i m) (fun _ => rfl) (fun _ => rfl)
theorem S_su_connect (c : mx_C) (m : mx_M) (t : Nat) (a1 : Int32) (a2 : Int32) (ht : mx_kl t = 4) : rx_sf L_su_connect [] 23 L_su_connect (c, m) [some (.ref t), some (.int a1), some (.int a2)] [] :=
  And.intro ht (And.intro (fun h0 => And.intro ht (And.intro ht (And.intro ht (And.intro ht (And.intro ht (Or.inr rfl)))))) (fun h0 => Or.inl rfl))

theorem og_su_31_p {p : Program} {l : Launch} {e : Env} {R : Room} {s : State} {m : MethodId} {args : Array Value} {below : List Frame} {meth : Method} {c : Code} {cc : ByteArray} {nL : Nat} {ad : Nat → Nat} {D : va_G} {g : Nat → ClassId} {B : Nat} (X : ox_C p s m args c cc nL "SubscriberLines$Subscriber" D g ad B) : rx_OK p l e R s m args below meth c cc nL ad (mx_W D g ad B s.heap) mx_cs (.putfield 31) 3 2 (kpi 4 7) := ox_pi (T := T_4) X rfl (by decide) (by decide) in_4 rfl ty_4 ty_4_ok nm_4 rfl rfl rfl (al_at 138 (by decide +kernel) rfl)
theorem og_su_34_p {p : Program} {l : Launch} {e : Env} {R : Room} {s : State} {m : MethodId} {args : Array Value} {below : List Frame} {meth : Method} {c : Code} {cc : ByteArray} {nL : Nat} {ad : Nat → Nat} {D : va_G} {g : Nat → ClassId} {B : Nat} (X : ox_C p s m args c cc nL "SubscriberLines$Subscriber" D g ad B) : rx_OK p l e R s m args below meth c cc nL ad (mx_W D g ad B s.heap) mx_cs (.putfield 34) 3 2 (kpi 4 8) := ox_pi (T := T_4) X rfl (by decide) (by decide) in_4 rfl ty_4 ty_4_ok nm_4 rfl rfl rfl (al_at 139 (by decide +kernel) rfl)
theorem ok_su_connect : rx_okF prog_10_method_2_code 3 (some .boolean) L_su_connect 0 L_su_connect = true := by decide +kernel
theorem V_su_connect {l : Launch} {D : va_G} {g : Nat → ClassId} {ad : Nat → Nat} {B : Nat} (had : mx_A ad B) : rx_V l D g ad B ⟨"SubscriberLines$Subscriber", "connect", "(II)Z"⟩ prog_10_method_2_code 3 (some .boolean) 2 44 K_su_connect := by
  intro av x hp
  obtain ⟨a0, a1, a2, rfl⟩ := k_RII_inv hp
  have hp : mx_kl a0 = 4 := hp
  exact rx_met (k := 0) had (by decide) (Nat.le_of_ble_eq_true rfl) ok_su_connect rfl rfl 23 (fun p e s m args below meth c X => And.intro (og_su_28_g X) (And.intro (og_su_31_p X) (And.intro (og_su_34_p X) (And.intro (og_su_28_p X) (And.intro (og_su_37_p X) (And.intro (cv_su_request X (V_su_request had) (al_at 365 (by decide +kernel) rfl) ⟨by decide, by decide⟩) (trivial))))))) (S_su_connect x.1 x.2 a0 a1 a2 hp) (E_su_connect x.1 x.2 a0 a1 a2)
def su_disconnect (c : mx_C) (t : Nat) : mx_C × Int32 :=
  if (c.1 t 4) = 0 then
    (c, 0)
  else
    let c1 := su_leave c t
    (c1, 1)
def K_su_disconnect : rx_K mx := k_R (fun a0 c m => (mx_kl a0 = 4, ((su_disconnect c a0).1, m), some (.int (su_disconnect c a0).2)))
def L_su_disconnect : List (rx_E mx) := [
  (0, .aload_n 0, 1, 0, 0, 0, [], kno),
  (1, .getfield 28, 3, 7, 1, 0, [], kgi 4 4),
  (4, .ifCond .ne 5, 3, 2, 5, 0, [], kno),
  (7, .iconst 0, 1, 0, 0, 0, [], kno),
  (8, .ireturn, 1, 5, 1, 0, [], kno),
  (9, .aload_n 0, 1, 0, 0, 0, [], kno),
  (10, .invokevirtual 43, 3, 7, 1, 0, [], K_su_leave),
  (13, .iconst 1, 1, 0, 0, 1, [], kno),
  (14, .ireturn, 1, 5, 1, 0, [], kno)]
theorem E_su_disconnect (c : mx_C) (m : mx_M) (t : Nat)  : rx_ev L_su_disconnect [] 11 L_su_disconnect (c, m) [some (.ref t)] [] = rw_i m (su_disconnect c t) :=
  rx_ite2 (f := rw_i m) (fun _ => rfl) (fun _ => rfl)
theorem S_su_disconnect (c : mx_C) (m : mx_M) (t : Nat) (ht : mx_kl t = 4) : rx_sf L_su_disconnect [] 11 L_su_disconnect (c, m) [some (.ref t)] [] :=
  And.intro ht (And.intro (fun h0 => Or.inl rfl) (fun h0 => And.intro ht (Or.inr rfl)))

theorem ok_su_disconnect : rx_okF prog_10_method_3_code 1 (some .boolean) L_su_disconnect 0 L_su_disconnect = true := by decide +kernel
theorem V_su_disconnect {l : Launch} {D : va_G} {g : Nat → ClassId} {ad : Nat → Nat} {B : Nat} (had : mx_A ad B) : rx_V l D g ad B ⟨"SubscriberLines$Subscriber", "disconnect", "()Z"⟩ prog_10_method_3_code 1 (some .boolean) 2 44 K_su_disconnect := by
  intro av x hp
  obtain ⟨a0, rfl⟩ := k_R_inv hp
  have hp : mx_kl a0 = 4 := hp
  exact rx_met (k := 0) had (by decide) (Nat.le_of_ble_eq_true rfl) ok_su_disconnect rfl rfl 11 (fun p e s m args below meth c X => And.intro (og_su_28_g X) (And.intro (cv_su_leave X (V_su_leave had) (al_at 385 (by decide +kernel) rfl) ⟨by decide, by decide⟩) (trivial))) (S_su_disconnect x.1 x.2 a0 hp) (E_su_disconnect x.1 x.2 a0)
def su_speak (c : mx_C) (t : Nat) (a1 : Int32) (a2 : Int32) : mx_C × Int32 :=
  if (c.1 t 4) = 3 then
    let q1 := fl_launch c 10 (c.1 t 1) 4
    let c2 := pk_bear q1.1 q1.2 (q1.1.1 t 6) a1 a2
    (c2, 1)
  else
    (c, 0)
def K_su_speak : rx_K mx := k_RII (fun a0 a1 a2 c m => (mx_kl a0 = 4, ((su_speak c a0 a1 a2).1, m), some (.int (su_speak c a0 a1 a2).2)))
def L_su_speak : List (rx_E mx) := [
  (0, .aload_n 0, 1, 0, 0, 0, [], kno),
  (1, .getfield 28, 3, 7, 1, 0, [], kgi 4 4),
  (4, .iconst 3, 1, 0, 0, 3, [], kno),
  (5, .if_icmp .eq 5, 3, 2, 6, 0, [], kno),
  (8, .iconst 0, 1, 0, 0, 0, [], kno),
  (9, .ireturn, 1, 5, 1, 0, [], kno),
  (10, .aload_n 0, 1, 0, 0, 0, [], kno),
  (11, .getfield 24, 3, 7, 1, 0, [], kgr0 4 2 1),
  (14, .bipush 10, 2, 0, 0, 10, [], kno),
  (16, .aload_n 0, 1, 0, 0, 0, [], kno),
  (17, .getfield 20, 3, 7, 1, 0, [], kgi 4 1),
  (20, .iconst 4, 1, 0, 0, 4, [], kno),
  (21, .invokevirtual 46, 3, 7, 4, 0, [], K_fl_launch),
  (24, .aload_n 0, 1, 0, 0, 0, [], kno),
  (25, .getfield 52, 3, 7, 1, 0, [], kgi 4 6),
  (28, .iload_n 1, 1, 0, 1, 0, [], kno),
  (29, .iload_n 2, 1, 0, 2, 0, [], kno),
  (30, .invokevirtual 55, 3, 7, 4, 0, [], K_pk_bear),
  (33, .iconst 1, 1, 0, 0, 1, [], kno),
  (34, .ireturn, 1, 5, 1, 0, [], kno)]
theorem E_su_speak (c : mx_C) (m : mx_M) (t : Nat) (a1 : Int32) (a2 : Int32)  : rx_ev L_su_speak [] 22 L_su_speak (c, m) [some (.ref t), some (.int a1), some (.int a2)] [] = rw_i m (su_speak c t a1 a2) :=
  rx_ite2 (f := rw_i m) (fun _ => rfl) (fun _ => rfl)
theorem S_su_speak (c : mx_C) (m : mx_M) (t : Nat) (a1 : Int32) (a2 : Int32) (ht : mx_kl t = 4) : rx_sf L_su_speak [] 22 L_su_speak (c, m) [some (.ref t), some (.int a1), some (.int a2)] [] :=
  And.intro ht (And.intro (fun h0 => And.intro ht (And.intro ht (And.intro rfl (And.intro ht (And.intro (fl_launch_pk _ _ _ _) (Or.inr rfl)))))) (fun h0 => Or.inl rfl))

theorem ok_su_speak : rx_okF prog_10_method_4_code 3 (some .boolean) L_su_speak 0 L_su_speak = true := by decide +kernel
theorem V_su_speak {l : Launch} {D : va_G} {g : Nat → ClassId} {ad : Nat → Nat} {B : Nat} (had : mx_A ad B) : rx_V l D g ad B ⟨"SubscriberLines$Subscriber", "speak", "(II)Z"⟩ prog_10_method_4_code 3 (some .boolean) 1 24 K_su_speak := by
  intro av x hp
  obtain ⟨a0, a1, a2, rfl⟩ := k_RII_inv hp
  have hp : mx_kl a0 = 4 := hp
  exact rx_met (k := 0) had (by decide) (Nat.le_of_ble_eq_true rfl) ok_su_speak rfl rfl 22 (fun p e s m args below meth c X => And.intro (og_su_28_g X) (And.intro (og_su_24_g X) (And.intro (og_su_20_g X) (And.intro (cv_fl_launch X (V_fl_launch had) (al_at 369 (by decide +kernel) rfl) ⟨by decide, by decide⟩) (And.intro (og_su_52_g X) (And.intro (cv_pk_bear X (V_pk_bear had) (al_at 373 (by decide +kernel) rfl) ⟨by decide, by decide⟩) (trivial))))))) (S_su_speak x.1 x.2 a0 a1 a2 hp) (E_su_speak x.1 x.2 a0 a1 a2)
def su_becomeLinked (c : mx_C) (t : Nat) (a1 : Int32) : mx_C :=
  if (c.1 t 4) = 1 then
    let c1 := mx_pi c t 6 a1
    let c2 := mx_pi c1 t 4 2
    let c3 := mx_pi c2 t 9 0
    let c4 := su_request c3 t
    c4
  else
    c
def K_su_becomeLinked : rx_K mx := k_RI (fun a0 a1 c m => (mx_kl a0 = 4, (su_becomeLinked c a0 a1, m), none))
def L_su_becomeLinked : List (rx_E mx) := [
  (0, .aload_n 0, 1, 0, 0, 0, [], kno),
  (1, .getfield 28, 3, 7, 1, 0, [], kgi 4 4),
  (4, .iconst 1, 1, 0, 0, 1, [], kno),
  (5, .if_icmp .ne 22, 3, 2, 15, 0, [], kno),
  (8, .aload_n 0, 1, 0, 0, 0, [], kno),
  (9, .iload_n 1, 1, 0, 1, 0, [], kno),
  (10, .putfield 52, 3, 7, 2, 0, [], kpi 4 6),
  (13, .aload_n 0, 1, 0, 0, 0, [], kno),
  (14, .iconst 2, 1, 0, 0, 2, [], kno),
  (15, .putfield 28, 3, 7, 2, 0, [], kpi 4 4),
  (18, .aload_n 0, 1, 0, 0, 0, [], kno),
  (19, .iconst 0, 1, 0, 0, 0, [], kno),
  (20, .putfield 37, 3, 7, 2, 0, [], kpi 4 9),
  (23, .aload_n 0, 1, 0, 0, 0, [], kno),
  (24, .invokevirtual 40, 3, 7, 1, 0, [], K_su_request),
  (27, .return_, 1, 6, 0, 0, [], kno)]
theorem E_su_becomeLinked (c : mx_C) (m : mx_M) (t : Nat) (a1 : Int32)  : rx_ev L_su_becomeLinked [] 18 L_su_becomeLinked (c, m) [some (.ref t), some (.int a1)] [] = rw_v m (su_becomeLinked c t a1) :=
  rx_ite2 (f := rw_v m) (fun _ => rfl) (fun _ => rfl)
theorem S_su_becomeLinked (c : mx_C) (m : mx_M) (t : Nat) (a1 : Int32) (ht : mx_kl t = 4) : rx_sf L_su_becomeLinked [] 18 L_su_becomeLinked (c, m) [some (.ref t), some (.int a1)] [] :=
  And.intro ht (And.intro (fun h0 => And.intro ht (And.intro ht (And.intro ht (And.intro ht (trivial))))) (fun h0 => trivial))

theorem ok_su_becomeLinked : rx_okF prog_10_method_8_code 2 none L_su_becomeLinked 0 L_su_becomeLinked = true := by decide +kernel
theorem V_su_becomeLinked {l : Launch} {D : va_G} {g : Nat → ClassId} {ad : Nat → Nat} {B : Nat} (had : mx_A ad B) : rx_V l D g ad B ⟨"SubscriberLines$Subscriber", "becomeLinked", "(I)V"⟩ prog_10_method_8_code 2 none 2 44 K_su_becomeLinked := by
  intro av x hp
  obtain ⟨a0, a1, rfl⟩ := k_RI_inv hp
  have hp : mx_kl a0 = 4 := hp
  exact rx_met (k := 0) had (by decide) (Nat.le_of_ble_eq_true rfl) ok_su_becomeLinked rfl rfl 18 (fun p e s m args below meth c X => And.intro (og_su_28_g X) (And.intro (og_su_52_p X) (And.intro (og_su_28_p X) (And.intro (og_su_37_p X) (And.intro (cv_su_request X (V_su_request had) (al_at 365 (by decide +kernel) rfl) ⟨by decide, by decide⟩) (trivial)))))) (S_su_becomeLinked x.1 x.2 a0 a1 hp) (E_su_becomeLinked x.1 x.2 a0 a1)
def su_becomeAccepted (c : mx_C) (t : Nat) (a1 : Int32) : mx_C :=
  if (c.1 t 4) = 3 then
    if a1 = (c.1 t 5) then
      let c1 := mx_pi c t 4 3
      let c2 := mx_pi c1 t 5 a1
      let c3 := mx_pi c2 t 11 0
      let q4 := fl_launch c3 7 (c3.1 t 1) 4
      let c5 := pk_bear q4.1 q4.2 (q4.1.1 t 6) 0 0
      c5
    else
      c
  else
    let c6 := mx_pi c t 4 3
    let c7 := mx_pi c6 t 5 a1
    let c8 := mx_pi c7 t 11 0
    let q9 := fl_launch c8 7 (c8.1 t 1) 4
    let c10 := pk_bear q9.1 q9.2 (q9.1.1 t 6) 0 0
    c10
def K_su_becomeAccepted : rx_K mx := k_RI (fun a0 a1 c m => (mx_kl a0 = 4, (su_becomeAccepted c a0 a1, m), none))
def L_su_becomeAccepted : List (rx_E mx) := [
  (0, .aload_n 0, 1, 0, 0, 0, [], kno),
  (1, .getfield 28, 3, 7, 1, 0, [], kgi 4 4),
  (4, .iconst 3, 1, 0, 0, 3, [], kno),
  (5, .if_icmp .ne 12, 3, 2, 9, 0, [], kno),
  (8, .iload_n 1, 1, 0, 1, 0, [], kno),
  (9, .aload_n 0, 1, 0, 0, 0, [], kno),
  (10, .getfield 96, 3, 7, 1, 0, [], kgi 4 5),
  (13, .if_icmp .eq 4, 3, 2, 9, 0, [], kno),
  (16, .return_, 1, 6, 0, 0, [], kno),
  (17, .aload_n 0, 1, 0, 0, 0, [], kno),
  (18, .iconst 3, 1, 0, 0, 3, [], kno),
  (19, .putfield 28, 3, 7, 2, 0, [], kpi 4 4),
  (22, .aload_n 0, 1, 0, 0, 0, [], kno),
  (23, .iload_n 1, 1, 0, 1, 0, [], kno),
  (24, .putfield 96, 3, 7, 2, 0, [], kpi 4 5),
  (27, .aload_n 0, 1, 0, 0, 0, [], kno),
  (28, .iconst 0, 1, 0, 0, 0, [], kno),
  (29, .putfield 78, 3, 7, 2, 0, [], kpi 4 11),
  (32, .aload_n 0, 1, 0, 0, 0, [], kno),
  (33, .getfield 24, 3, 7, 1, 0, [], kgr0 4 2 1),
  (36, .bipush 7, 2, 0, 0, 7, [], kno),
  (38, .aload_n 0, 1, 0, 0, 0, [], kno),
  (39, .getfield 20, 3, 7, 1, 0, [], kgi 4 1),
  (42, .iconst 4, 1, 0, 0, 4, [], kno),
  (43, .invokevirtual 46, 3, 7, 4, 0, [], K_fl_launch),
  (46, .aload_n 0, 1, 0, 0, 0, [], kno),
  (47, .getfield 52, 3, 7, 1, 0, [], kgi 4 6),
  (50, .iconst 0, 1, 0, 0, 0, [], kno),
  (51, .iconst 0, 1, 0, 0, 0, [], kno),
  (52, .invokevirtual 55, 3, 7, 4, 0, [], K_pk_bear),
  (55, .return_, 1, 6, 0, 0, [], kno)]
theorem E_su_becomeAccepted (c : mx_C) (m : mx_M) (t : Nat) (a1 : Int32)  : rx_ev L_su_becomeAccepted [] 33 L_su_becomeAccepted (c, m) [some (.ref t), some (.int a1)] [] = rw_v m (su_becomeAccepted c t a1) :=
  rx_ite2 (f := rw_v m) (fun _ => rx_ite2 (f := rw_v m) (fun _ => rfl) (fun _ => rfl)) (fun _ => rfl)
theorem S_su_becomeAccepted (c : mx_C) (m : mx_M) (t : Nat) (a1 : Int32) (ht : mx_kl t = 4) : rx_sf L_su_becomeAccepted [] 33 L_su_becomeAccepted (c, m) [some (.ref t), some (.int a1)] [] :=
  And.intro ht (And.intro (fun h0 => And.intro ht (And.intro (fun h1 => And.intro ht (And.intro ht (And.intro ht (And.intro ht (And.intro ht (And.intro rfl (And.intro ht (And.intro (fl_launch_pk _ _ _ _) (trivial))))))))) (fun h1 => trivial))) (fun h0 => And.intro ht (And.intro ht (And.intro ht (And.intro ht (And.intro ht (And.intro rfl (And.intro ht (And.intro (fl_launch_pk _ _ _ _) (trivial))))))))))

theorem og_su_96_g {p : Program} {l : Launch} {e : Env} {R : Room} {s : State} {m : MethodId} {args : Array Value} {below : List Frame} {meth : Method} {c : Code} {cc : ByteArray} {nL : Nat} {ad : Nat → Nat} {D : va_G} {g : Nat → ClassId} {B : Nat} (X : ox_C p s m args c cc nL "SubscriberLines$Subscriber" D g ad B) : rx_OK p l e R s m args below meth c cc nL ad (mx_W D g ad B s.heap) mx_cs (.getfield 96) 3 1 (kgi 4 5) := ox_gi (T := T_4) X rfl (by decide) (by decide) in_4 rfl (al_at 135 (by decide +kernel) rfl)
theorem og_su_78_p {p : Program} {l : Launch} {e : Env} {R : Room} {s : State} {m : MethodId} {args : Array Value} {below : List Frame} {meth : Method} {c : Code} {cc : ByteArray} {nL : Nat} {ad : Nat → Nat} {D : va_G} {g : Nat → ClassId} {B : Nat} (X : ox_C p s m args c cc nL "SubscriberLines$Subscriber" D g ad B) : rx_OK p l e R s m args below meth c cc nL ad (mx_W D g ad B s.heap) mx_cs (.putfield 78) 3 2 (kpi 4 11) := ox_pi (T := T_4) X rfl (by decide) (by decide) in_4 rfl ty_4 ty_4_ok nm_4 rfl rfl rfl (al_at 142 (by decide +kernel) rfl)
theorem ok_su_becomeAccepted : rx_okF prog_10_method_10_code 2 none L_su_becomeAccepted 0 L_su_becomeAccepted = true := by decide +kernel
theorem V_su_becomeAccepted {l : Launch} {D : va_G} {g : Nat → ClassId} {ad : Nat → Nat} {B : Nat} (had : mx_A ad B) : rx_V l D g ad B ⟨"SubscriberLines$Subscriber", "becomeAccepted", "(I)V"⟩ prog_10_method_10_code 2 none 1 24 K_su_becomeAccepted := by
  intro av x hp
  obtain ⟨a0, a1, rfl⟩ := k_RI_inv hp
  have hp : mx_kl a0 = 4 := hp
  exact rx_met (k := 0) had (by decide) (Nat.le_of_ble_eq_true rfl) ok_su_becomeAccepted rfl rfl 33 (fun p e s m args below meth c X => And.intro (og_su_28_g X) (And.intro (og_su_96_g X) (And.intro (og_su_28_p X) (And.intro (og_su_96_p X) (And.intro (og_su_78_p X) (And.intro (og_su_24_g X) (And.intro (og_su_20_g X) (And.intro (cv_fl_launch X (V_fl_launch had) (al_at 369 (by decide +kernel) rfl) ⟨by decide, by decide⟩) (And.intro (og_su_52_g X) (And.intro (cv_pk_bear X (V_pk_bear had) (al_at 373 (by decide +kernel) rfl) ⟨by decide, by decide⟩) (trivial))))))))))) (S_su_becomeAccepted x.1 x.2 a0 a1 hp) (E_su_becomeAccepted x.1 x.2 a0 a1)
def se_begin (c : mx_C) (t : Nat) (a1 : Int32) (a2 : Int32) : mx_C :=
  let c1 := mx_pi c t 0 a1
  let c2 := mx_pi c1 t 1 a2
  let c3 := mx_pi c2 t 2 1
  let c4 := mx_pi c3 t 3 0
  let c5 := mx_pi c4 t 4 0
  c5
def K_se_begin : rx_K mx := k_RII (fun a0 a1 a2 c m => (mx_kl a0 = 6, (se_begin c a0 a1 a2, m), none))
def L_se_begin : List (rx_E mx) := [
  (0, .aload_n 0, 1, 0, 0, 0, [], kno),
  (1, .iload_n 1, 1, 0, 1, 0, [], kno),
  (2, .putfield 7, 3, 7, 2, 0, [], kpi 6 0),
  (5, .aload_n 0, 1, 0, 0, 0, [], kno),
  (6, .iload_n 2, 1, 0, 2, 0, [], kno),
  (7, .putfield 13, 3, 7, 2, 0, [], kpi 6 1),
  (10, .aload_n 0, 1, 0, 0, 0, [], kno),
  (11, .iconst 1, 1, 0, 0, 1, [], kno),
  (12, .putfield 16, 3, 7, 2, 0, [], kpi 6 2),
  (15, .aload_n 0, 1, 0, 0, 0, [], kno),
  (16, .iconst 0, 1, 0, 0, 0, [], kno),
  (17, .putfield 19, 3, 7, 2, 0, [], kpi 6 3),
  (20, .aload_n 0, 1, 0, 0, 0, [], kno),
  (21, .iconst 0, 1, 0, 0, 0, [], kno),
  (22, .putfield 22, 3, 7, 2, 0, [], kpi 6 4),
  (25, .return_, 1, 6, 0, 0, [], kno)]
theorem E_se_begin (c : mx_C) (m : mx_M) (t : Nat) (a1 : Int32) (a2 : Int32)  : rx_ev L_se_begin [] 18 L_se_begin (c, m) [some (.ref t), some (.int a1), some (.int a2)] [] = rw_v m (se_begin c t a1 a2) :=
  rfl
theorem S_se_begin (c : mx_C) (m : mx_M) (t : Nat) (a1 : Int32) (a2 : Int32) (ht : mx_kl t = 6) : rx_sf L_se_begin [] 18 L_se_begin (c, m) [some (.ref t), some (.int a1), some (.int a2)] [] :=
  And.intro ht (And.intro ht (And.intro ht (And.intro ht (And.intro ht (trivial)))))

theorem og_se_7_p {p : Program} {l : Launch} {e : Env} {R : Room} {s : State} {m : MethodId} {args : Array Value} {below : List Frame} {meth : Method} {c : Code} {cc : ByteArray} {nL : Nat} {ad : Nat → Nat} {D : va_G} {g : Nat → ClassId} {B : Nat} (X : ox_C p s m args c cc nL "SubscriberLines$Session" D g ad B) : rx_OK p l e R s m args below meth c cc nL ad (mx_W D g ad B s.heap) mx_cs (.putfield 7) 3 2 (kpi 6 0) := ox_pi (T := T_6) X rfl (by decide) (by decide) in_6 rfl ty_6 ty_6_ok nm_6 rfl rfl rfl (al_at 267 (by decide +kernel) rfl)
theorem og_se_13_p {p : Program} {l : Launch} {e : Env} {R : Room} {s : State} {m : MethodId} {args : Array Value} {below : List Frame} {meth : Method} {c : Code} {cc : ByteArray} {nL : Nat} {ad : Nat → Nat} {D : va_G} {g : Nat → ClassId} {B : Nat} (X : ox_C p s m args c cc nL "SubscriberLines$Session" D g ad B) : rx_OK p l e R s m args below meth c cc nL ad (mx_W D g ad B s.heap) mx_cs (.putfield 13) 3 2 (kpi 6 1) := ox_pi (T := T_6) X rfl (by decide) (by decide) in_6 rfl ty_6 ty_6_ok nm_6 rfl rfl rfl (al_at 269 (by decide +kernel) rfl)
theorem og_se_16_p {p : Program} {l : Launch} {e : Env} {R : Room} {s : State} {m : MethodId} {args : Array Value} {below : List Frame} {meth : Method} {c : Code} {cc : ByteArray} {nL : Nat} {ad : Nat → Nat} {D : va_G} {g : Nat → ClassId} {B : Nat} (X : ox_C p s m args c cc nL "SubscriberLines$Session" D g ad B) : rx_OK p l e R s m args below meth c cc nL ad (mx_W D g ad B s.heap) mx_cs (.putfield 16) 3 2 (kpi 6 2) := ox_pi (T := T_6) X rfl (by decide) (by decide) in_6 rfl ty_6 ty_6_ok nm_6 rfl rfl rfl (al_at 271 (by decide +kernel) rfl)
theorem og_se_19_p {p : Program} {l : Launch} {e : Env} {R : Room} {s : State} {m : MethodId} {args : Array Value} {below : List Frame} {meth : Method} {c : Code} {cc : ByteArray} {nL : Nat} {ad : Nat → Nat} {D : va_G} {g : Nat → ClassId} {B : Nat} (X : ox_C p s m args c cc nL "SubscriberLines$Session" D g ad B) : rx_OK p l e R s m args below meth c cc nL ad (mx_W D g ad B s.heap) mx_cs (.putfield 19) 3 2 (kpi 6 3) := ox_pi (T := T_6) X rfl (by decide) (by decide) in_6 rfl ty_6 ty_6_ok nm_6 rfl rfl rfl (al_at 273 (by decide +kernel) rfl)
theorem og_se_22_p {p : Program} {l : Launch} {e : Env} {R : Room} {s : State} {m : MethodId} {args : Array Value} {below : List Frame} {meth : Method} {c : Code} {cc : ByteArray} {nL : Nat} {ad : Nat → Nat} {D : va_G} {g : Nat → ClassId} {B : Nat} (X : ox_C p s m args c cc nL "SubscriberLines$Session" D g ad B) : rx_OK p l e R s m args below meth c cc nL ad (mx_W D g ad B s.heap) mx_cs (.putfield 22) 3 2 (kpi 6 4) := ox_pi (T := T_6) X rfl (by decide) (by decide) in_6 rfl ty_6 ty_6_ok nm_6 rfl rfl rfl (al_at 275 (by decide +kernel) rfl)
theorem ok_se_begin : rx_okF prog_9_method_2_code 3 none L_se_begin 0 L_se_begin = true := by decide +kernel
theorem V_se_begin {l : Launch} {D : va_G} {g : Nat → ClassId} {ad : Nat → Nat} {B : Nat} (had : mx_A ad B) : rx_V l D g ad B ⟨"SubscriberLines$Session", "begin", "(II)V"⟩ prog_9_method_2_code 3 none 0 0 K_se_begin := by
  intro av x hp
  obtain ⟨a0, a1, a2, rfl⟩ := k_RII_inv hp
  have hp : mx_kl a0 = 6 := hp
  exact rx_met (k := 0) had (by decide) (Nat.le_of_ble_eq_true rfl) ok_se_begin rfl rfl 18 (fun p e s m args below meth c X => And.intro (og_se_7_p X) (And.intro (og_se_13_p X) (And.intro (og_se_16_p X) (And.intro (og_se_19_p X) (And.intro (og_se_22_p X) (trivial)))))) (S_se_begin x.1 x.2 a0 a1 a2 hp) (E_se_begin x.1 x.2 a0 a1 a2)
def se_tell (c : mx_C) (t : Nat) (a1 : Int32) : Int32 :=
  if a1 = 0 then
    (c.1 t 0)
  else
    if a1 = 1 then
      (c.1 t 1)
    else
      if a1 = 2 then
        (c.1 t 2)
      else
        if a1 = 3 then
          (c.1 t 3)
        else
          if a1 = 4 then
            (c.1 t 4)
          else
            0
def K_se_tell : rx_K mx := k_RI (fun a0 a1 c m => (mx_kl a0 = 6, (c, m), some (.int (se_tell c a0 a1))))
def L_se_tell : List (rx_E mx) := [
  (0, .iload_n 1, 1, 0, 1, 0, [], kno),
  (1, .tableswitch 60 0 4 #[35, 40, 45, 50, 55], 35, 4, 17, 0, [(0, 2), (1, 5), (2, 8), (3, 11), (4, 14)], kno),
  (36, .aload_n 0, 1, 0, 0, 0, [], kno),
  (37, .getfield 7, 3, 7, 1, 0, [], kgi 6 0),
  (40, .ireturn, 1, 5, 0, 0, [], kno),
  (41, .aload_n 0, 1, 0, 0, 0, [], kno),
  (42, .getfield 13, 3, 7, 1, 0, [], kgi 6 1),
  (45, .ireturn, 1, 5, 0, 0, [], kno),
  (46, .aload_n 0, 1, 0, 0, 0, [], kno),
  (47, .getfield 16, 3, 7, 1, 0, [], kgi 6 2),
  (50, .ireturn, 1, 5, 0, 0, [], kno),
  (51, .aload_n 0, 1, 0, 0, 0, [], kno),
  (52, .getfield 19, 3, 7, 1, 0, [], kgi 6 3),
  (55, .ireturn, 1, 5, 0, 0, [], kno),
  (56, .aload_n 0, 1, 0, 0, 0, [], kno),
  (57, .getfield 22, 3, 7, 1, 0, [], kgi 6 4),
  (60, .ireturn, 1, 5, 0, 0, [], kno),
  (61, .iconst 0, 1, 0, 0, 0, [], kno),
  (62, .ireturn, 1, 5, 0, 0, [], kno)]
theorem E_se_tell (c : mx_C) (m : mx_M) (t : Nat) (a1 : Int32)  : rx_ev L_se_tell [] 21 L_se_tell (c, m) [some (.ref t), some (.int a1)] [] = rw_p c m (se_tell c t a1) :=
  rx_ite2 (f := rw_p c m) (fun _ => rfl) (fun _ => rx_ite2 (f := rw_p c m) (fun _ => rfl) (fun _ => rx_ite2 (f := rw_p c m) (fun _ => rfl) (fun _ => rx_ite2 (f := rw_p c m) (fun _ => rfl) (fun _ => rx_ite2 (f := rw_p c m) (fun _ => rfl) (fun _ => rfl)))))
theorem S_se_tell (c : mx_C) (m : mx_M) (t : Nat) (a1 : Int32) (ht : mx_kl t = 6) : rx_sf L_se_tell [] 21 L_se_tell (c, m) [some (.ref t), some (.int a1)] [] :=
  And.intro (fun h0 => And.intro ht (trivial)) (fun h0 => And.intro (fun h1 => And.intro ht (trivial)) (fun h1 => And.intro (fun h2 => And.intro ht (trivial)) (fun h2 => And.intro (fun h3 => And.intro ht (trivial)) (fun h3 => And.intro (fun h4 => And.intro ht (trivial)) (fun h4 => trivial)))))

theorem og_se_7_g {p : Program} {l : Launch} {e : Env} {R : Room} {s : State} {m : MethodId} {args : Array Value} {below : List Frame} {meth : Method} {c : Code} {cc : ByteArray} {nL : Nat} {ad : Nat → Nat} {D : va_G} {g : Nat → ClassId} {B : Nat} (X : ox_C p s m args c cc nL "SubscriberLines$Session" D g ad B) : rx_OK p l e R s m args below meth c cc nL ad (mx_W D g ad B s.heap) mx_cs (.getfield 7) 3 1 (kgi 6 0) := ox_gi (T := T_6) X rfl (by decide) (by decide) in_6 rfl (al_at 267 (by decide +kernel) rfl)
theorem og_se_13_g {p : Program} {l : Launch} {e : Env} {R : Room} {s : State} {m : MethodId} {args : Array Value} {below : List Frame} {meth : Method} {c : Code} {cc : ByteArray} {nL : Nat} {ad : Nat → Nat} {D : va_G} {g : Nat → ClassId} {B : Nat} (X : ox_C p s m args c cc nL "SubscriberLines$Session" D g ad B) : rx_OK p l e R s m args below meth c cc nL ad (mx_W D g ad B s.heap) mx_cs (.getfield 13) 3 1 (kgi 6 1) := ox_gi (T := T_6) X rfl (by decide) (by decide) in_6 rfl (al_at 269 (by decide +kernel) rfl)
theorem og_se_16_g {p : Program} {l : Launch} {e : Env} {R : Room} {s : State} {m : MethodId} {args : Array Value} {below : List Frame} {meth : Method} {c : Code} {cc : ByteArray} {nL : Nat} {ad : Nat → Nat} {D : va_G} {g : Nat → ClassId} {B : Nat} (X : ox_C p s m args c cc nL "SubscriberLines$Session" D g ad B) : rx_OK p l e R s m args below meth c cc nL ad (mx_W D g ad B s.heap) mx_cs (.getfield 16) 3 1 (kgi 6 2) := ox_gi (T := T_6) X rfl (by decide) (by decide) in_6 rfl (al_at 271 (by decide +kernel) rfl)
theorem og_se_19_g {p : Program} {l : Launch} {e : Env} {R : Room} {s : State} {m : MethodId} {args : Array Value} {below : List Frame} {meth : Method} {c : Code} {cc : ByteArray} {nL : Nat} {ad : Nat → Nat} {D : va_G} {g : Nat → ClassId} {B : Nat} (X : ox_C p s m args c cc nL "SubscriberLines$Session" D g ad B) : rx_OK p l e R s m args below meth c cc nL ad (mx_W D g ad B s.heap) mx_cs (.getfield 19) 3 1 (kgi 6 3) := ox_gi (T := T_6) X rfl (by decide) (by decide) in_6 rfl (al_at 273 (by decide +kernel) rfl)
theorem og_se_22_g {p : Program} {l : Launch} {e : Env} {R : Room} {s : State} {m : MethodId} {args : Array Value} {below : List Frame} {meth : Method} {c : Code} {cc : ByteArray} {nL : Nat} {ad : Nat → Nat} {D : va_G} {g : Nat → ClassId} {B : Nat} (X : ox_C p s m args c cc nL "SubscriberLines$Session" D g ad B) : rx_OK p l e R s m args below meth c cc nL ad (mx_W D g ad B s.heap) mx_cs (.getfield 22) 3 1 (kgi 6 4) := ox_gi (T := T_6) X rfl (by decide) (by decide) in_6 rfl (al_at 275 (by decide +kernel) rfl)
theorem ok_se_tell : rx_okF prog_9_method_3_code 2 (some .int) L_se_tell 0 L_se_tell = true := by decide +kernel
theorem V_se_tell {l : Launch} {D : va_G} {g : Nat → ClassId} {ad : Nat → Nat} {B : Nat} (had : mx_A ad B) : rx_V l D g ad B ⟨"SubscriberLines$Session", "tell", "(I)I"⟩ prog_9_method_3_code 2 (some .int) 0 0 K_se_tell := by
  intro av x hp
  obtain ⟨a0, a1, rfl⟩ := k_RI_inv hp
  have hp : mx_kl a0 = 6 := hp
  exact rx_met (k := 0) had (by decide) (Nat.le_of_ble_eq_true rfl) ok_se_tell rfl rfl 21 (fun p e s m args below meth c X => And.intro (og_se_7_g X) (And.intro (og_se_13_g X) (And.intro (og_se_16_g X) (And.intro (og_se_19_g X) (And.intro (og_se_22_g X) (trivial)))))) (S_se_tell x.1 x.2 a0 a1 hp) (E_se_tell x.1 x.2 a0 a1)
def en_begin (c : mx_C) (t : Nat) (a1 : Int32) : mx_C :=
  let c1 := mx_pi c t 3 a1
  let c2 := mx_pi c1 t 4 0
  let c3 := mx_pi c2 t 7 0
  let c4 := mx_pi c3 t 8 0
  let c5 := mx_pi c4 t 5 0
  let c6 := mx_pi c5 t 6 0
  c6
def K_en_begin : rx_K mx := k_RI (fun a0 a1 c m => (mx_kl a0 = 8, (en_begin c a0 a1, m), none))
def L_en_begin : List (rx_E mx) := [
  (0, .aload_n 0, 1, 0, 0, 0, [], kno),
  (1, .iload_n 1, 1, 0, 1, 0, [], kno),
  (2, .putfield 32, 3, 7, 2, 0, [], kpi 8 3),
  (5, .aload_n 0, 1, 0, 0, 0, [], kno),
  (6, .iconst 0, 1, 0, 0, 0, [], kno),
  (7, .putfield 35, 3, 7, 2, 0, [], kpi 8 4),
  (10, .aload_n 0, 1, 0, 0, 0, [], kno),
  (11, .iconst 0, 1, 0, 0, 0, [], kno),
  (12, .putfield 38, 3, 7, 2, 0, [], kpi 8 7),
  (15, .aload_n 0, 1, 0, 0, 0, [], kno),
  (16, .iconst 0, 1, 0, 0, 0, [], kno),
  (17, .putfield 41, 3, 7, 2, 0, [], kpi 8 8),
  (20, .aload_n 0, 1, 0, 0, 0, [], kno),
  (21, .iconst 0, 1, 0, 0, 0, [], kno),
  (22, .putfield 44, 3, 7, 2, 0, [], kpi 8 5),
  (25, .aload_n 0, 1, 0, 0, 0, [], kno),
  (26, .iconst 0, 1, 0, 0, 0, [], kno),
  (27, .putfield 47, 3, 7, 2, 0, [], kpi 8 6),
  (30, .return_, 1, 6, 0, 0, [], kno)]
theorem E_en_begin (c : mx_C) (m : mx_M) (t : Nat) (a1 : Int32)  : rx_ev L_en_begin [] 21 L_en_begin (c, m) [some (.ref t), some (.int a1)] [] = rw_v m (en_begin c t a1) :=
  rfl
theorem S_en_begin (c : mx_C) (m : mx_M) (t : Nat) (a1 : Int32) (ht : mx_kl t = 8) : rx_sf L_en_begin [] 21 L_en_begin (c, m) [some (.ref t), some (.int a1)] [] :=
  And.intro ht (And.intro ht (And.intro ht (And.intro ht (And.intro ht (And.intro ht (trivial))))))

theorem og_en_32_p {p : Program} {l : Launch} {e : Env} {R : Room} {s : State} {m : MethodId} {args : Array Value} {below : List Frame} {meth : Method} {c : Code} {cc : ByteArray} {nL : Nat} {ad : Nat → Nat} {D : va_G} {g : Nat → ClassId} {B : Nat} (X : ox_C p s m args c cc nL "SubscriberLines$End" D g ad B) : rx_OK p l e R s m args below meth c cc nL ad (mx_W D g ad B s.heap) mx_cs (.putfield 32) 3 2 (kpi 8 3) := ox_pi (T := T_8) X rfl (by decide) (by decide) in_8 rfl ty_8 ty_8_ok nm_8 rfl rfl rfl (al_at 184 (by decide +kernel) rfl)
theorem og_en_35_p {p : Program} {l : Launch} {e : Env} {R : Room} {s : State} {m : MethodId} {args : Array Value} {below : List Frame} {meth : Method} {c : Code} {cc : ByteArray} {nL : Nat} {ad : Nat → Nat} {D : va_G} {g : Nat → ClassId} {B : Nat} (X : ox_C p s m args c cc nL "SubscriberLines$End" D g ad B) : rx_OK p l e R s m args below meth c cc nL ad (mx_W D g ad B s.heap) mx_cs (.putfield 35) 3 2 (kpi 8 4) := ox_pi (T := T_8) X rfl (by decide) (by decide) in_8 rfl ty_8 ty_8_ok nm_8 rfl rfl rfl (al_at 187 (by decide +kernel) rfl)
theorem og_en_38_p {p : Program} {l : Launch} {e : Env} {R : Room} {s : State} {m : MethodId} {args : Array Value} {below : List Frame} {meth : Method} {c : Code} {cc : ByteArray} {nL : Nat} {ad : Nat → Nat} {D : va_G} {g : Nat → ClassId} {B : Nat} (X : ox_C p s m args c cc nL "SubscriberLines$End" D g ad B) : rx_OK p l e R s m args below meth c cc nL ad (mx_W D g ad B s.heap) mx_cs (.putfield 38) 3 2 (kpi 8 7) := ox_pi (T := T_8) X rfl (by decide) (by decide) in_8 rfl ty_8 ty_8_ok nm_8 rfl rfl rfl (al_at 190 (by decide +kernel) rfl)
theorem og_en_41_p {p : Program} {l : Launch} {e : Env} {R : Room} {s : State} {m : MethodId} {args : Array Value} {below : List Frame} {meth : Method} {c : Code} {cc : ByteArray} {nL : Nat} {ad : Nat → Nat} {D : va_G} {g : Nat → ClassId} {B : Nat} (X : ox_C p s m args c cc nL "SubscriberLines$End" D g ad B) : rx_OK p l e R s m args below meth c cc nL ad (mx_W D g ad B s.heap) mx_cs (.putfield 41) 3 2 (kpi 8 8) := ox_pi (T := T_8) X rfl (by decide) (by decide) in_8 rfl ty_8 ty_8_ok nm_8 rfl rfl rfl (al_at 191 (by decide +kernel) rfl)
theorem og_en_44_p {p : Program} {l : Launch} {e : Env} {R : Room} {s : State} {m : MethodId} {args : Array Value} {below : List Frame} {meth : Method} {c : Code} {cc : ByteArray} {nL : Nat} {ad : Nat → Nat} {D : va_G} {g : Nat → ClassId} {B : Nat} (X : ox_C p s m args c cc nL "SubscriberLines$End" D g ad B) : rx_OK p l e R s m args below meth c cc nL ad (mx_W D g ad B s.heap) mx_cs (.putfield 44) 3 2 (kpi 8 5) := ox_pi (T := T_8) X rfl (by decide) (by decide) in_8 rfl ty_8 ty_8_ok nm_8 rfl rfl rfl (al_at 188 (by decide +kernel) rfl)
theorem og_en_47_p {p : Program} {l : Launch} {e : Env} {R : Room} {s : State} {m : MethodId} {args : Array Value} {below : List Frame} {meth : Method} {c : Code} {cc : ByteArray} {nL : Nat} {ad : Nat → Nat} {D : va_G} {g : Nat → ClassId} {B : Nat} (X : ox_C p s m args c cc nL "SubscriberLines$End" D g ad B) : rx_OK p l e R s m args below meth c cc nL ad (mx_W D g ad B s.heap) mx_cs (.putfield 47) 3 2 (kpi 8 6) := ox_pi (T := T_8) X rfl (by decide) (by decide) in_8 rfl ty_8 ty_8_ok nm_8 rfl rfl rfl (al_at 189 (by decide +kernel) rfl)
theorem ok_en_begin : rx_okF prog_3_method_2_code 2 none L_en_begin 0 L_en_begin = true := by decide +kernel
theorem V_en_begin {l : Launch} {D : va_G} {g : Nat → ClassId} {ad : Nat → Nat} {B : Nat} (had : mx_A ad B) : rx_V l D g ad B ⟨"SubscriberLines$End", "begin", "(I)V"⟩ prog_3_method_2_code 2 none 0 0 K_en_begin := by
  intro av x hp
  obtain ⟨a0, a1, rfl⟩ := k_RI_inv hp
  have hp : mx_kl a0 = 8 := hp
  exact rx_met (k := 0) had (by decide) (Nat.le_of_ble_eq_true rfl) ok_en_begin rfl rfl 21 (fun p e s m args below meth c X => And.intro (og_en_32_p X) (And.intro (og_en_35_p X) (And.intro (og_en_38_p X) (And.intro (og_en_41_p X) (And.intro (og_en_44_p X) (And.intro (og_en_47_p X) (trivial))))))) (S_en_begin x.1 x.2 a0 a1 hp) (E_en_begin x.1 x.2 a0 a1)
def en_isEmpty (c : mx_C) (t : Nat) : Int32 :=
  if (c.1 t 7) = (c.1 t 8) then
    1
  else
    0
def K_en_isEmpty : rx_K mx := k_R (fun a0 c m => (mx_kl a0 = 8, (c, m), some (.int (en_isEmpty c a0))))
def L_en_isEmpty : List (rx_E mx) := [
  (0, .aload_n 0, 1, 0, 0, 0, [], kno),
  (1, .getfield 38, 3, 7, 1, 0, [], kgi 8 7),
  (4, .aload_n 0, 1, 0, 0, 0, [], kno),
  (5, .getfield 41, 3, 7, 1, 0, [], kgi 8 8),
  (8, .if_icmp .ne 7, 3, 2, 7, 0, [], kno),
  (11, .iconst 1, 1, 0, 0, 1, [], kno),
  (12, .goto 4, 3, 1, 8, 0, [], kno),
  (15, .iconst 0, 1, 0, 0, 0, [], kno),
  (16, .ireturn, 1, 5, 1, 0, [], kno)]
theorem E_en_isEmpty (c : mx_C) (m : mx_M) (t : Nat)  : rx_ev L_en_isEmpty [] 11 L_en_isEmpty (c, m) [some (.ref t)] [] = rw_p c m (en_isEmpty c t) :=
  rx_ite2 (f := rw_p c m) (fun _ => rfl) (fun _ => rfl)
theorem S_en_isEmpty (c : mx_C) (m : mx_M) (t : Nat) (ht : mx_kl t = 8) : rx_sf L_en_isEmpty [] 11 L_en_isEmpty (c, m) [some (.ref t)] [] :=
  And.intro ht (And.intro ht (And.intro (fun h0 => Or.inr rfl) (fun h0 => Or.inl rfl)))

theorem og_en_38_g {p : Program} {l : Launch} {e : Env} {R : Room} {s : State} {m : MethodId} {args : Array Value} {below : List Frame} {meth : Method} {c : Code} {cc : ByteArray} {nL : Nat} {ad : Nat → Nat} {D : va_G} {g : Nat → ClassId} {B : Nat} (X : ox_C p s m args c cc nL "SubscriberLines$End" D g ad B) : rx_OK p l e R s m args below meth c cc nL ad (mx_W D g ad B s.heap) mx_cs (.getfield 38) 3 1 (kgi 8 7) := ox_gi (T := T_8) X rfl (by decide) (by decide) in_8 rfl (al_at 190 (by decide +kernel) rfl)
theorem og_en_41_g {p : Program} {l : Launch} {e : Env} {R : Room} {s : State} {m : MethodId} {args : Array Value} {below : List Frame} {meth : Method} {c : Code} {cc : ByteArray} {nL : Nat} {ad : Nat → Nat} {D : va_G} {g : Nat → ClassId} {B : Nat} (X : ox_C p s m args c cc nL "SubscriberLines$End" D g ad B) : rx_OK p l e R s m args below meth c cc nL ad (mx_W D g ad B s.heap) mx_cs (.getfield 41) 3 1 (kgi 8 8) := ox_gi (T := T_8) X rfl (by decide) (by decide) in_8 rfl (al_at 191 (by decide +kernel) rfl)
theorem ok_en_isEmpty : rx_okF prog_3_method_3_code 1 (some .boolean) L_en_isEmpty 0 L_en_isEmpty = true := by decide +kernel
theorem V_en_isEmpty {l : Launch} {D : va_G} {g : Nat → ClassId} {ad : Nat → Nat} {B : Nat} (had : mx_A ad B) : rx_V l D g ad B ⟨"SubscriberLines$End", "isEmpty", "()Z"⟩ prog_3_method_3_code 1 (some .boolean) 0 0 K_en_isEmpty := by
  intro av x hp
  obtain ⟨a0, rfl⟩ := k_R_inv hp
  have hp : mx_kl a0 = 8 := hp
  exact rx_met (k := 0) had (by decide) (Nat.le_of_ble_eq_true rfl) ok_en_isEmpty rfl rfl 11 (fun p e s m args below meth c X => And.intro (og_en_38_g X) (And.intro (og_en_41_g X) (trivial))) (S_en_isEmpty x.1 x.2 a0 hp) (E_en_isEmpty x.1 x.2 a0)
def en_startWaiting (c : mx_C) (t : Nat) : mx_C :=
  let c1 := mx_pi c t 5 0
  let c2 := mx_pi c1 t 6 2
  c2
def K_en_startWaiting : rx_K mx := k_R (fun a0 c m => (mx_kl a0 = 8, (en_startWaiting c a0, m), none))
def L_en_startWaiting : List (rx_E mx) := [
  (0, .aload_n 0, 1, 0, 0, 0, [], kno),
  (1, .iconst 0, 1, 0, 0, 0, [], kno),
  (2, .putfield 44, 3, 7, 2, 0, [], kpi 8 5),
  (5, .aload_n 0, 1, 0, 0, 0, [], kno),
  (6, .iconst 2, 1, 0, 0, 2, [], kno),
  (7, .putfield 47, 3, 7, 2, 0, [], kpi 8 6),
  (10, .return_, 1, 6, 0, 0, [], kno)]
theorem E_en_startWaiting (c : mx_C) (m : mx_M) (t : Nat)  : rx_ev L_en_startWaiting [] 9 L_en_startWaiting (c, m) [some (.ref t)] [] = rw_v m (en_startWaiting c t) :=
  rfl
theorem S_en_startWaiting (c : mx_C) (m : mx_M) (t : Nat) (ht : mx_kl t = 8) : rx_sf L_en_startWaiting [] 9 L_en_startWaiting (c, m) [some (.ref t)] [] :=
  And.intro ht (And.intro ht (trivial))

theorem ok_en_startWaiting : rx_okF prog_3_method_10_code 1 none L_en_startWaiting 0 L_en_startWaiting = true := by decide +kernel
theorem V_en_startWaiting {l : Launch} {D : va_G} {g : Nat → ClassId} {ad : Nat → Nat} {B : Nat} (had : mx_A ad B) : rx_V l D g ad B ⟨"SubscriberLines$End", "startWaiting", "()V"⟩ prog_3_method_10_code 1 none 0 0 K_en_startWaiting := by
  intro av x hp
  obtain ⟨a0, rfl⟩ := k_R_inv hp
  have hp : mx_kl a0 = 8 := hp
  exact rx_met (k := 0) had (by decide) (Nat.le_of_ble_eq_true rfl) ok_en_startWaiting rfl rfl 9 (fun p e s m args below meth c X => And.intro (og_en_44_p X) (And.intro (og_en_47_p X) (trivial))) (S_en_startWaiting x.1 x.2 a0 hp) (E_en_startWaiting x.1 x.2 a0)
def en_placeOf (c : mx_C) (a1 : Int32) : Int32 :=
  (a1 &&& 2047)
def K_en_placeOf : rx_K mx := k_I (fun a0 c m => (True, (c, m), some (.int (en_placeOf c a0))))
def L_en_placeOf : List (rx_E mx) := [
  (0, .iload_n 0, 1, 0, 0, 0, [], kno),
  (1, .sipush 2047, 3, 0, 0, 2047, [], kno),
  (4, .iand, 1, 0, 0, 0, [], kno),
  (5, .ireturn, 1, 5, 0, 0, [], kno)]
theorem E_en_placeOf (c : mx_C) (m : mx_M) (a1 : Int32)  : rx_ev L_en_placeOf [] 6 L_en_placeOf (c, m) [some (.int a1)] [] = rw_p c m (en_placeOf c a1) :=
  rfl
theorem S_en_placeOf (c : mx_C) (m : mx_M) (a1 : Int32)  : rx_sf L_en_placeOf [] 6 L_en_placeOf (c, m) [some (.int a1)] [] :=
  trivial

theorem ok_en_placeOf : rx_okF prog_3_method_12_code 1 (some .int) L_en_placeOf 0 L_en_placeOf = true := by decide +kernel
theorem V_en_placeOf {l : Launch} {D : va_G} {g : Nat → ClassId} {ad : Nat → Nat} {B : Nat} (had : mx_A ad B) : rx_V l D g ad B ⟨"SubscriberLines$End", "placeOf", "(I)I"⟩ prog_3_method_12_code 1 (some .int) 0 0 K_en_placeOf := by
  intro av x hp
  obtain ⟨a0, rfl⟩ := k_I_inv hp
  exact rx_met (k := 0) had (by decide) (Nat.le_of_ble_eq_true rfl) ok_en_placeOf rfl rfl 6 (fun p e s m args below meth c X => trivial) (S_en_placeOf x.1 x.2 a0 ) (E_en_placeOf x.1 x.2 a0)
