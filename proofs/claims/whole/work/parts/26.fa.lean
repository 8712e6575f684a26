def mo_fa_14 (f : mx_M → Int32 → Int32) : Nat → mx_M → Int32 → Int32 → Int32 → Int32
  | 0, _, _, _, _ => 0
  | n + 1, m, v1, v2, v3 =>
    if v3 < (Int32.ofNat m.2.2.val) then
      if v2 = 0 then
        if (m.1 101 (Int32.toNatClampNeg v3)) = v1 then
          mo_fa_14 f n m v1 1 (v3 + 1)
        else
          mo_fa_14 f n m v1 0 (v3 + 1)
      else
        mo_fa_14 f n m v1 1 (v3 + 1)
    else
      if v2 = 0 then
        v1
      else
        f m (v1 + 1)
def mo_fa_2 : Nat → mx_M → Int32 → Int32
  | 0, _, _ => 0
  | n + 1, m, v1 =>
    if (m.1 82 0) < v1 then
      0
    else
      mo_fa_14 (mo_fa_2 n) 5 m v1 0 0
def mo_freeAddress (m : mx_M) : Int32 := mo_fa_2 5 m 1
abbrev mo_pl (m : mx_M) : Prop := (m.1 82 0).toInt ≤ 4
def K_mo_freeAddress : rx_K mx := k_R (fun a0 c m => (a0 = 82 ∧ mo_pl m, (c, m), some (.int (mo_freeAddress m))))
def L_mo_freeAddress : List (rx_E mx) := [
  (0, .iconst 1, 1, 0, 0, 1, [], kno),
  (1, .istore_n 1, 1, 0, 1, 0, [], kno),
  (2, .iload_n 1, 1, 0, 1, 0, [], kno),
  (3, .aload_n 0, 1, 0, 0, 0, [], kno),
  (4, .getfield 110, 3, 7, 1, 0, [], mgi 0),
  (7, .if_icmp .gt 53, 3, 2, 34, 0, [], kno),
  (10, .iconst 0, 1, 0, 0, 0, [], kno),
  (11, .istore_n 2, 1, 0, 2, 0, [], kno),
  (12, .iconst 0, 1, 0, 0, 0, [], kno),
  (13, .istore_n 3, 1, 0, 3, 0, [], kno),
  (14, .iload_n 3, 1, 0, 3, 0, [], kno),
  (15, .aload_n 0, 1, 0, 0, 0, [], kno),
  (16, .getfield 135, 3, 7, 1, 0, [], mgs),
  (19, .if_icmp .ge 29, 3, 2, 28, 0, [], kno),
  (22, .iload_n 2, 1, 0, 2, 0, [], kno),
  (23, .ifCond .ne 13, 3, 2, 22, 0, [], kno),
  (26, .aload_n 0, 1, 0, 0, 0, [], kno),
  (27, .getfield 65, 3, 7, 1, 0, [], mgr 101),
  (30, .iload_n 3, 1, 0, 3, 0, [], kno),
  (31, .iaload, 1, 7, 2, 0, [], mai),
  (32, .iload_n 1, 1, 0, 1, 0, [], kno),
  (33, .if_icmp .ne 7, 3, 2, 24, 0, [], kno),
  (36, .iconst 1, 1, 0, 0, 1, [], kno),
  (37, .goto 4, 3, 1, 25, 0, [], kno),
  (40, .iconst 0, 1, 0, 0, 0, [], kno),
  (41, .istore_n 2, 1, 0, 2, 0, [], kno),
  (42, .iinc 3 1, 3, 0, 3, 1, [], kno),
  (45, .goto (-31), 3, 1, 10, 0, [], kno),
  (48, .iload_n 2, 1, 0, 2, 0, [], kno),
  (49, .ifCond .ne 5, 3, 2, 32, 0, [], kno),
  (52, .iload_n 1, 1, 0, 1, 0, [], kno),
  (53, .ireturn, 1, 5, 0, 0, [], kno),
  (54, .iinc 1 1, 3, 0, 1, 1, [], kno),
  (57, .goto (-55), 3, 1, 2, 0, [], kno),
  (60, .iconst 0, 1, 0, 0, 0, [], kno),
  (61, .ireturn, 1, 5, 0, 0, [], kno)]
def G_fa2 (n : Nat) : rx_G := fun x ls st =>
  match ls, st with
  | [some (.ref r0), some (.int v1), o2, o3], [] => (r0 = 82 ∧ up5 n v1 ∧ mo_pl x.2, ry_p x.1 x.2 (mo_fa_2 n x.2 v1))
  | _, _ => (False, (x, none))
def G_fa14 (no n : Nat) : rx_G := fun x ls st =>
  match ls, st with
  | [some (.ref r0), some (.int v1), some (.int v2), some (.int v3)], [] => (r0 = 82 ∧ up4 n v3 ∧ up5 no (v1 + 1) ∧ mo_pl x.2, ry_p x.1 x.2 (mo_fa_14 (mo_fa_2 no) n x.2 v1 v2 v3))
  | _, _ => (False, (x, none))
theorem GI_fa2 {n : Nat} {x : mx} {ls : rx_L} {st : List Value} (h : (G_fa2 n x ls st).1) : ∃ (r0 : Nat) (v1 : Int32) (o2 o3 : Option Value), ls = [some (.ref r0), some (.int v1), o2, o3] ∧ st = [] ∧ r0 = 82 ∧ up5 n v1 ∧ mo_pl x.2 := by
  unfold G_fa2 at h
  split at h
  · exact ⟨_, _, _, _, rfl, rfl, h⟩
  · exact False.elim h
theorem GI_fa14 {no n : Nat} {x : mx} {ls : rx_L} {st : List Value} (h : (G_fa14 no n x ls st).1) : ∃ (r0 : Nat) (v1 v2 v3 : Int32), ls = [some (.ref r0), some (.int v1), some (.int v2), some (.int v3)] ∧ st = [] ∧ r0 = 82 ∧ up4 n v3 ∧ up5 no (v1 + 1) ∧ mo_pl x.2 := by
  unfold G_fa14 at h
  split at h
  · exact ⟨_, _, _, _, rfl, rfl, h⟩
  · exact False.elim h
theorem EH_fa14 (no n : Nat) (c : mx_C) (m : mx_M) (v1 v2 v3 : Int32) : rx_ev L_mo_freeAddress [(14, G_fa14 no n), (2, G_fa2 no)] 38 (L_mo_freeAddress.drop 10) (c, m) [some (.ref 82), some (.int v1), some (.int v2), some (.int v3)] [] = ry_p c m (mo_fa_14 (mo_fa_2 no) (n + 1) m v1 v2 v3) :=
  rx_ite2 (f := ry_p c m) (fun h0 => rx_ite2 (f := ry_p c m) (fun h1 => rx_ite2 (f := ry_p c m) (fun h2 => rfl) (fun h2 => rfl)) (fun h1 => rfl)) (fun h0 => rx_ite2 (f := ry_p c m) (fun h1 => rfl) (fun h1 => rfl))
theorem SH_fa14 (no n : Nat) (c : mx_C) (m : mx_M) (v1 v2 v3 : Int32) (hP : up4 (n + 1) v3) (h5 : up5 no (v1 + 1)) (hq : mo_pl m) : rx_sf L_mo_freeAddress [(14, G_fa14 no n), (2, G_fa2 no)] 38 (L_mo_freeAddress.drop 10) (c, m) [some (.ref 82), some (.int v1), some (.int v2), some (.int v3)] [] :=
  And.intro rfl (And.intro (fun h0 => And.intro (fun h1 => And.intro rfl (And.intro (mo_ses h0 hP).1 (And.intro (fun h2 => And.intro rfl (And.intro (mo_ses h0 hP).2 (And.intro h5 hq))) (fun h2 => And.intro rfl (And.intro (mo_ses h0 hP).2 (And.intro h5 hq)))))) (fun h1 => And.intro rfl (And.intro (mo_ses h0 hP).2 (And.intro h5 hq)))) (fun h0 => And.intro (fun h1 => trivial) (fun h1 => And.intro rfl (And.intro h5 hq))))
theorem EH_fa2 (n : Nat) (c : mx_C) (m : mx_M) (v1 : Int32) (o2 o3 : Option Value) : rx_ev L_mo_freeAddress [(14, G_fa14 n 5)] 38 (L_mo_freeAddress.drop 2) (c, m) [some (.ref 82), some (.int v1), o2, o3] [] = ry_p c m (mo_fa_2 (n + 1) m v1) :=
  rx_ite2 (f := ry_p c m) (fun h0 => rfl) (fun h0 => rfl)
theorem SH_fa2 (n : Nat) (c : mx_C) (m : mx_M) (v1 : Int32) (o2 o3 : Option Value) (hP : up5 (n + 1) v1) (hq : mo_pl m) : rx_sf L_mo_freeAddress [(14, G_fa14 n 5)] 38 (L_mo_freeAddress.drop 2) (c, m) [some (.ref 82), some (.int v1), o2, o3] [] :=
  And.intro rfl (And.intro (fun h0 => trivial) (fun h0 => And.intro rfl (And.intro (by decide) (And.intro (up5_1 hq h0 hP) hq))))
theorem E_fa (c : mx_C) (m : mx_M) : rx_ev L_mo_freeAddress [(2, G_fa2 5)] 38 L_mo_freeAddress (c, m) [some (.ref 82), none, none, none] [] = ry_p c m (mo_freeAddress m) :=
  rfl
theorem S_fa (c : mx_C) (m : mx_M) (hq : mo_pl m) : rx_sf L_mo_freeAddress [(2, G_fa2 5)] 38 L_mo_freeAddress (c, m) [some (.ref 82), none, none, none] [] :=
  And.intro rfl (And.intro (by decide) hq)
theorem og_mo_110_g {p : Program} {l : Launch} {e : Env} {R : Room} {s : State} {m : MethodId} {args : Array Value} {below : List Frame} {meth : Method} {c : Code} {cc : ByteArray} {nL : Nat} {ad : Nat → Nat} {D : va_G} {g : Nat → ClassId} {B : Nat} (X : ox_C p s m args c cc nL "SubscriberLinesModel" D g ad B) : rx_OK p l e R s m args below meth c cc nL ad (mx_W D g ad B s.heap) mx_cs (.getfield 110) 3 1 (mgi 0) := oy_gi X (by decide) rfl (al_at 711 (by decide +kernel) rfl)
theorem ok_mo_freeAddress : rx_okF prog_12_method_23_code 4 (some .int) L_mo_freeAddress 0 L_mo_freeAddress = true := by decide +kernel
theorem V_mo_freeAddress {l : Launch} {D : va_G} {g : Nat → ClassId} {ad : Nat → Nat} {B : Nat} (had : mx_A ad B) : rx_V l D g ad B ⟨"SubscriberLinesModel", "freeAddress", "()I"⟩ prog_12_method_23_code 4 (some .int) 0 0 K_mo_freeAddress := by
  intro av x hp
  obtain ⟨a0, rfl⟩ := k_R_inv hp
  have hp : a0 = 82 ∧ mo_pl x.2 := hp
  have h0 : a0 = 82 := hp.1
  subst h0
  refine rx_metX (k := 3) had (by decide) (Nat.le_of_ble_eq_true rfl) fun p e s m args below meth c X hr hlk => ?_
  have O : rx_ops p l e ({ frames := 0, cells := 0, slots := 0, locals := 0 } : Room) s m args below meth c prog_12_method_23_code 4 ad (mx_W D g ad B s.heap) mx_cs L_mo_freeAddress := And.intro (og_mo_110_g X) (And.intro (og_mo_135_g X) (And.intro (og_mo_65_g X) (And.intro (oy_ai X) (trivial))))
  have lp2 : ∀ (n : Nat) (mem : mx) (ls : rx_L) (st : List Value), (G_fa2 n mem ls st).1 → (G_fa2 n mem ls st).2 = (K_mo_freeAddress [.ref 82] x).2 → rx_X p l e ({ frames := 0, cells := 0, slots := 0, locals := 0 } : Room) s m args below meth c (MQ below (rx_Qc D g ad B (K_mo_freeAddress [.ref 82] x).2) args s 0 0 (fun q => B ≤ q)) 4 ad (mx_W D g ad B s.heap) mx_cs 2 mem ls st := by
    intro n
    induction n with
    | zero =>
      intro mem ls st h
      obtain ⟨r0, v1, o2, o3, -, -, h3⟩ := GI_fa2 h
      have h4 := h3.2.1
      omega
    | succ n ih =>
      have lp14 := fun k => rx_loop (l := l) (e := e) (below := below) (res := (K_mo_freeAddress [.ref 82] x).2) (G := G_fa14 n) (cs0 := [(2, G_fa2 n)]) X hr hlk ok_mo_freeAddress O (rx_cc ih rx_c0) 38 10 rfl (fun x ls st h => by
        obtain ⟨r0, v1, v2, v3, -, -, h3⟩ := GI_fa14 h
        have h4 := h3.2.1
        omega) (fun k x ls st h => by
        obtain ⟨r0, v1, v2, v3, rfl, rfl, rfl, hP, h5, hq⟩ := GI_fa14 h
        exact ⟨SH_fa14 n k x.1 x.2 v1 v2 v3 hP h5 hq, EH_fa14 n k x.1 x.2 v1 v2 v3⟩) k
      intro mem ls st h hres
      obtain ⟨r0, v1, o2, o3, rfl, rfl, rfl, hP, hq⟩ := GI_fa2 h
      exact rx_walk X hr hlk ok_mo_freeAddress O (cut := [(14, G_fa14 n 5)]) (rx_cc (lp14 5) rx_c0) 38 2 rfl (SH_fa2 n mem.1 mem.2 v1 o2 o3 hP hq) ((EH_fa2 n mem.1 mem.2 v1 o2 o3).trans hres)
  exact rx_walk X hr hlk ok_mo_freeAddress O (cut := [(2, G_fa2 5)]) (rx_cc (lp2 5) rx_c0) 38 0 rfl (S_fa x.1 x.2 hp.2) (E_fa x.1 x.2)
