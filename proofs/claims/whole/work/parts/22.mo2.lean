def mo_toP (m : mx_M) (k : Int32) : Prop := 0 ≤ k.toInt ∧ k.toInt < (m.2.1.val : Int)
theorem mo_to1 {m : mx_M} {k : Int32} (h : mo_toP m k) : vp_in (Int32.ofNat m.2.1.val - 1) 41 ∧ (my_pf m (Int32.ofNat m.2.1.val - 1)).2.1.val ≤ 39 ∧ 0 ≤ (9 * k).toInt ∧ (9 * k).toInt ≤ 360 := by
  have hq := m.2.1.isLt
  unfold mo_toP at h
  have e : (Int32.ofNat m.2.1.val - 1).toInt = (m.2.1.val : Int) - 1 := by
    rw [i_sub, i_of _ (by omega)]
    · rfl
    · rw [i_of _ (by omega)]; show _ ≤ (m.2.1.val : Int) - 1; omega
    · rw [i_of _ (by omega)]; show (m.2.1.val : Int) - 1 < _; omega
  have e2 : (9 * k).toInt = 9 * k.toInt := i_mul (show _ ≤ 9 * k.toInt by omega) (show 9 * k.toInt < _ by omega)
  have e3 := i_cl (Int32.ofNat m.2.1.val - 1)
  rw [e, if_pos (by omega)] at e3
  refine ⟨by rw [i_in, e]; omega, ?_, by rw [e2]; omega, by rw [e2]; omega⟩
  show (Int32.ofNat m.2.1.val - 1).toNatClampNeg % 41 ≤ 39
  rw [Nat.mod_eq_of_lt (by omega)]
  omega
abbrev mo_toQ (n : Nat) (v : Int32) (q : Fin 41) : Prop := 0 ≤ v.toInt ∧ v.toInt ≤ 360 ∧ 360 < (n : Int) + v.toInt ∧ q.val ≤ 39
theorem mo_toQ1 {n : Nat} {v : Int32} {q : Fin 41} (h : v < 9 * Int32.ofNat q.val) (hP : mo_toQ (n + 1) v q) : (vp_in v 360 ∧ vp_in (v + 9) 360) ∧ mo_toQ n (v + 1) q := by
  rw [i_lt, mo_nine] at h
  obtain ⟨p1, p2, p3, p4⟩ := hP
  have e : (v + 1).toInt = v.toInt + 1 := i_add (show _ ≤ v.toInt + 1 by omega) (show v.toInt + 1 < _ by omega)
  have e9 : (v + 9).toInt = v.toInt + 9 := i_add (show _ ≤ v.toInt + 9 by omega) (show v.toInt + 9 < _ by omega)
  refine ⟨⟨by rw [i_in]; omega, by rw [i_in, e9]; omega⟩, ?_⟩
  unfold mo_toQ
  rw [e]
  omega
def mo_takeOut_15 : Nat → mx_M → Int32 → Int32 → mx_M
  | 0, m, _, _ => m
  | n + 1, m, v1, v2 =>
    if v2 < (9 * (Int32.ofNat m.2.1.val)) then
      let m1 := my_pi m 85 (Int32.toNatClampNeg v2) (m.1 85 (Int32.toNatClampNeg (v2 + 9)))
      mo_takeOut_15 n m1 v1 (v2 + 1)
    else
      m
def mo_takeOut (m : mx_M) (a1 : Int32) : mx_M :=
  let m1 := my_pf m ((Int32.ofNat m.2.1.val) - 1)
  mo_takeOut_15 (362) m1 a1 (9 * a1)
def K_mo_takeOut : rx_K mx := k_RI (fun a0 a1 c m => (a0 = 82 ∧ mo_toP m a1, (c, mo_takeOut m a1), none))
def L_mo_takeOut : List (rx_E mx) := [
  (0, .aload_n 0, 1, 0, 0, 0, [], kno),
  (1, .dup, 1, 0, 0, 0, [], kno),
  (2, .getfield 114, 3, 7, 1, 0, [], mgf),
  (5, .iconst 1, 1, 0, 0, 1, [], kno),
  (6, .isub, 1, 0, 0, 0, [], kno),
  (7, .putfield 114, 3, 7, 2, 0, [], mpf),
  (10, .bipush 9, 2, 0, 0, 9, [], kno),
  (12, .iload_n 1, 1, 0, 1, 0, [], kno),
  (13, .imul, 1, 0, 0, 0, [], kno),
  (14, .istore_n 2, 1, 0, 2, 0, [], kno),
  (15, .iload_n 2, 1, 0, 2, 0, [], kno),
  (16, .bipush 9, 2, 0, 0, 9, [], kno),
  (18, .aload_n 0, 1, 0, 0, 0, [], kno),
  (19, .getfield 114, 3, 7, 1, 0, [], mgf),
  (22, .imul, 1, 0, 0, 0, [], kno),
  (23, .if_icmp .ge 24, 3, 2, 28, 0, [], kno),
  (26, .aload_n 0, 1, 0, 0, 0, [], kno),
  (27, .getfield 17, 3, 7, 1, 0, [], mgr 85),
  (30, .iload_n 2, 1, 0, 2, 0, [], kno),
  (31, .aload_n 0, 1, 0, 0, 0, [], kno),
  (32, .getfield 17, 3, 7, 1, 0, [], mgr 85),
  (35, .iload_n 2, 1, 0, 2, 0, [], kno),
  (36, .bipush 9, 2, 0, 0, 9, [], kno),
  (38, .iadd, 1, 0, 0, 0, [], kno),
  (39, .iaload, 1, 7, 2, 0, [], mai),
  (40, .iastore, 1, 7, 3, 0, [], mpa),
  (41, .iinc 2 1, 3, 0, 2, 1, [], kno),
  (44, .goto (-29), 3, 1, 10, 0, [], kno),
  (47, .return_, 1, 6, 0, 0, [], kno)]
def G_mo_takeOut (n : Nat) : rx_G := fun x ls st =>
  match ls, st with
  | [some (.ref r0), some (.int v1), some (.int v2)], [] => (r0 = 82 ∧ mo_toQ n v2 x.2.2.1, ry_v x.1 (mo_takeOut_15 n x.2 v1 v2))
  | _, _ => (False, (x, none))
theorem GI_mo_takeOut {n : Nat} {x : mx} {ls : rx_L} {st : List Value} (h : (G_mo_takeOut n x ls st).1) : ∃ (r0 : Nat) (v1 : Int32) (v2 : Int32), ls = [some (.ref r0), some (.int v1), some (.int v2)] ∧ st = [] ∧ r0 = 82 ∧ mo_toQ n v2 x.2.2.1 := by
  unfold G_mo_takeOut at h
  split at h
  · exact ⟨_, _, _, rfl, rfl, h⟩
  · exact False.elim h
theorem EH_mo_takeOut (n : Nat) (c : mx_C) (m : mx_M) (v1 : Int32) (v2 : Int32) : rx_ev L_mo_takeOut [(15, G_mo_takeOut n)] 31 (L_mo_takeOut.drop 10) (c, m) [some (.ref 82), some (.int v1), some (.int v2)] [] = ry_v c (mo_takeOut_15 (n + 1) m v1 v2) :=
  rx_ite2 (f := ry_v c) (fun _ => rfl) (fun _ => rfl)
theorem SH_mo_takeOut (n : Nat) (c : mx_C) (m : mx_M) (v1 : Int32) (v2 : Int32) (hP : mo_toQ (n + 1) v2 m.2.1) : rx_sf L_mo_takeOut [(15, G_mo_takeOut n)] 31 (L_mo_takeOut.drop 10) (c, m) [some (.ref 82), some (.int v1), some (.int v2)] [] :=
  And.intro rfl (And.intro (fun h0 => And.intro rfl (And.intro rfl (And.intro (mo_toQ1 h0 hP).1.2 (And.intro (mo_toQ1 h0 hP).1.1 (And.intro rfl (mo_toQ1 h0 hP).2))))) (fun h0 => trivial))
theorem E_mo_takeOut (c : mx_C) (m : mx_M) (a1 : Int32)  : rx_ev L_mo_takeOut [(15, G_mo_takeOut (362))] 31 L_mo_takeOut (c, m) [some (.ref 82), some (.int a1), none] [] = ry_v c (mo_takeOut m a1) :=
  rfl
theorem S_mo_takeOut (c : mx_C) (m : mx_M) (a1 : Int32) (hk2 : mo_toP m a1) : rx_sf L_mo_takeOut [(15, G_mo_takeOut (362))] 31 L_mo_takeOut (c, m) [some (.ref 82), some (.int a1), none] [] :=
  And.intro rfl (And.intro (And.intro rfl (mo_to1 hk2).1) (And.intro rfl (And.intro (mo_to1 hk2).2.2.1 (And.intro (mo_to1 hk2).2.2.2 (And.intro (by have := (mo_to1 hk2).2.2.1; omega) (mo_to1 hk2).2.1)))))
theorem ok_mo_takeOut : rx_okF prog_12_method_6_code 3 none L_mo_takeOut 0 L_mo_takeOut = true := by decide +kernel
theorem O_mo_takeOut {l : Launch} {D : va_G} {g : Nat → ClassId} {ad : Nat → Nat} {B : Nat} (had : mx_A ad B) {p : Program} {e : Env} {s : State} {m : MethodId} {args : Array Value} {below : List Frame} {meth : Method} {c : Code} (X : ox_C p s m args c prog_12_method_6_code 3 "SubscriberLinesModel" D g ad B) : rx_ops p l e ({ frames := 0, cells := 0, slots := 0, locals := 0 } : Room) s m args below meth c prog_12_method_6_code 3 ad (mx_W D g ad B s.heap) mx_cs L_mo_takeOut :=
  And.intro (og_mo_114_g X) (And.intro (og_mo_114_p X) (And.intro (og_mo_114_g X) (And.intro (og_mo_17_g X) (And.intro (og_mo_17_g X) (And.intro (oy_ai X) (And.intro (oy_pa X) (trivial)))))))
theorem V_mo_takeOut {l : Launch} {D : va_G} {g : Nat → ClassId} {ad : Nat → Nat} {B : Nat} (had : mx_A ad B) : rx_V l D g ad B ⟨"SubscriberLinesModel", "takeOut", "(I)V"⟩ prog_12_method_6_code 3 none 0 0 K_mo_takeOut := by
  intro av x hp
  obtain ⟨a0, a1, rfl⟩ := k_RI_inv hp
  have hp : a0 = 82 ∧ mo_toP x.2 a1 := hp
  have h0 : a0 = 82 := hp.1
  subst h0
  refine rx_metX (k := 1) had (by decide) (Nat.le_of_ble_eq_true rfl) fun p e s m args below meth c X hr hlk => ?_
  refine rx_walk X hr hlk ok_mo_takeOut (O_mo_takeOut had X) (cut := [(15, G_mo_takeOut (362))]) (rx_cc ?_ rx_c0) 31 0 rfl (S_mo_takeOut x.1 x.2 a1 hp.2) (E_mo_takeOut x.1 x.2 a1 )
  refine rx_loop (G := G_mo_takeOut) X hr hlk ok_mo_takeOut (O_mo_takeOut had X) rx_c0 31 10 rfl (fun x ls st h => ?_) (fun n x ls st h => ?_) _
  · obtain ⟨r0, v1, v2, -, -, h3⟩ := GI_mo_takeOut h
    have h4 := h3.2
    omega
  · obtain ⟨r0, v1, v2, rfl, rfl, h3⟩ := GI_mo_takeOut h
    obtain ⟨rfl, hP⟩ := h3
    exact ⟨SH_mo_takeOut n x.1 x.2 v1 v2 hP, EH_mo_takeOut n x.1 x.2 v1 v2⟩
def mo_clear (m : mx_M) (a1 : Int32) (a2 : Int32) : mx_M :=
  let m1 := my_pi m 106 (Int32.toNatClampNeg a1) a2
  let m2 := my_pi m1 107 (Int32.toNatClampNeg a1) 0
  let m3 := my_pi m2 108 (Int32.toNatClampNeg a1) 0
  let m4 := my_pi m3 109 (Int32.toNatClampNeg a1) 0
  let m5 := my_pi m4 110 (Int32.toNatClampNeg a1) 0
  let m6 := my_pi m5 111 (Int32.toNatClampNeg a1) 0
  let m7 := my_pi m6 112 (Int32.toNatClampNeg a1) 0
  m7
def K_mo_clear : rx_K mx := k_RII (fun a0 a1 a2 c m => (a0 = 82 ∧ vp_in a1 2, (c, mo_clear m a1 a2), none))
def L_mo_clear : List (rx_E mx) := [
  (0, .aload_n 0, 1, 0, 0, 0, [], kno),
  (1, .getfield 80, 3, 7, 1, 0, [], mgr 106),
  (4, .iload_n 1, 1, 0, 1, 0, [], kno),
  (5, .iload_n 2, 1, 0, 2, 0, [], kno),
  (6, .iastore, 1, 7, 3, 0, [], mpa),
  (7, .aload_n 0, 1, 0, 0, 0, [], kno),
  (8, .getfield 83, 3, 7, 1, 0, [], mgr 107),
  (11, .iload_n 1, 1, 0, 1, 0, [], kno),
  (12, .iconst 0, 1, 0, 0, 0, [], kno),
  (13, .iastore, 1, 7, 3, 0, [], mpa),
  (14, .aload_n 0, 1, 0, 0, 0, [], kno),
  (15, .getfield 86, 3, 7, 1, 0, [], mgr 108),
  (18, .iload_n 1, 1, 0, 1, 0, [], kno),
  (19, .iconst 0, 1, 0, 0, 0, [], kno),
  (20, .iastore, 1, 7, 3, 0, [], mpa),
  (21, .aload_n 0, 1, 0, 0, 0, [], kno),
  (22, .getfield 89, 3, 7, 1, 0, [], mgr 109),
  (25, .iload_n 1, 1, 0, 1, 0, [], kno),
  (26, .iconst 0, 1, 0, 0, 0, [], kno),
  (27, .iastore, 1, 7, 3, 0, [], mpa),
  (28, .aload_n 0, 1, 0, 0, 0, [], kno),
  (29, .getfield 92, 3, 7, 1, 0, [], mgr 110),
  (32, .iload_n 1, 1, 0, 1, 0, [], kno),
  (33, .iconst 0, 1, 0, 0, 0, [], kno),
  (34, .iastore, 1, 7, 3, 0, [], mpa),
  (35, .aload_n 0, 1, 0, 0, 0, [], kno),
  (36, .getfield 95, 3, 7, 1, 0, [], mgr 111),
  (39, .iload_n 1, 1, 0, 1, 0, [], kno),
  (40, .iconst 0, 1, 0, 0, 0, [], kno),
  (41, .iastore, 1, 7, 3, 0, [], mpa),
  (42, .aload_n 0, 1, 0, 0, 0, [], kno),
  (43, .getfield 98, 3, 7, 1, 0, [], mgr 112),
  (46, .iload_n 1, 1, 0, 1, 0, [], kno),
  (47, .iconst 0, 1, 0, 0, 0, [], kno),
  (48, .iastore, 1, 7, 3, 0, [], mpa),
  (49, .return_, 1, 6, 0, 0, [], kno)]
theorem E_mo_clear (c : mx_C) (m : mx_M) (a1 : Int32) (a2 : Int32)  : rx_ev L_mo_clear [] 38 L_mo_clear (c, m) [some (.ref 82), some (.int a1), some (.int a2)] [] = ry_v c (mo_clear m a1 a2) :=
  rfl
theorem S_mo_clear (c : mx_C) (m : mx_M) (a1 : Int32) (a2 : Int32) (he : vp_in a1 2) : rx_sf L_mo_clear [] 38 L_mo_clear (c, m) [some (.ref 82), some (.int a1), some (.int a2)] [] :=
  And.intro rfl (And.intro he (And.intro rfl (And.intro he (And.intro rfl (And.intro he (And.intro rfl (And.intro he (And.intro rfl (And.intro he (And.intro rfl (And.intro he (And.intro rfl (And.intro he (trivial))))))))))))))

theorem og_mo_83_g {p : Program} {l : Launch} {e : Env} {R : Room} {s : State} {m : MethodId} {args : Array Value} {below : List Frame} {meth : Method} {c : Code} {cc : ByteArray} {nL : Nat} {ad : Nat → Nat} {D : va_G} {g : Nat → ClassId} {B : Nat} (X : ox_C p s m args c cc nL "SubscriberLinesModel" D g ad B) : rx_OK p l e R s m args below meth c cc nL ad (mx_W D g ad B s.heap) mx_cs (.getfield 83) 3 1 (mgr 107) := oy_gr (k := 33) X (by decide) rfl (al_at 744 (by decide +kernel) rfl)
theorem og_mo_86_g {p : Program} {l : Launch} {e : Env} {R : Room} {s : State} {m : MethodId} {args : Array Value} {below : List Frame} {meth : Method} {c : Code} {cc : ByteArray} {nL : Nat} {ad : Nat → Nat} {D : va_G} {g : Nat → ClassId} {B : Nat} (X : ox_C p s m args c cc nL "SubscriberLinesModel" D g ad B) : rx_OK p l e R s m args below meth c cc nL ad (mx_W D g ad B s.heap) mx_cs (.getfield 86) 3 1 (mgr 108) := oy_gr (k := 34) X (by decide) rfl (al_at 745 (by decide +kernel) rfl)
theorem og_mo_89_g {p : Program} {l : Launch} {e : Env} {R : Room} {s : State} {m : MethodId} {args : Array Value} {below : List Frame} {meth : Method} {c : Code} {cc : ByteArray} {nL : Nat} {ad : Nat → Nat} {D : va_G} {g : Nat → ClassId} {B : Nat} (X : ox_C p s m args c cc nL "SubscriberLinesModel" D g ad B) : rx_OK p l e R s m args below meth c cc nL ad (mx_W D g ad B s.heap) mx_cs (.getfield 89) 3 1 (mgr 109) := oy_gr (k := 35) X (by decide) rfl (al_at 746 (by decide +kernel) rfl)
theorem og_mo_95_g {p : Program} {l : Launch} {e : Env} {R : Room} {s : State} {m : MethodId} {args : Array Value} {below : List Frame} {meth : Method} {c : Code} {cc : ByteArray} {nL : Nat} {ad : Nat → Nat} {D : va_G} {g : Nat → ClassId} {B : Nat} (X : ox_C p s m args c cc nL "SubscriberLinesModel" D g ad B) : rx_OK p l e R s m args below meth c cc nL ad (mx_W D g ad B s.heap) mx_cs (.getfield 95) 3 1 (mgr 111) := oy_gr (k := 37) X (by decide) rfl (al_at 748 (by decide +kernel) rfl)
theorem og_mo_98_g {p : Program} {l : Launch} {e : Env} {R : Room} {s : State} {m : MethodId} {args : Array Value} {below : List Frame} {meth : Method} {c : Code} {cc : ByteArray} {nL : Nat} {ad : Nat → Nat} {D : va_G} {g : Nat → ClassId} {B : Nat} (X : ox_C p s m args c cc nL "SubscriberLinesModel" D g ad B) : rx_OK p l e R s m args below meth c cc nL ad (mx_W D g ad B s.heap) mx_cs (.getfield 98) 3 1 (mgr 112) := oy_gr (k := 38) X (by decide) rfl (al_at 749 (by decide +kernel) rfl)
theorem ok_mo_clear : rx_okF prog_12_method_7_code 3 none L_mo_clear 0 L_mo_clear = true := by decide +kernel
theorem V_mo_clear {l : Launch} {D : va_G} {g : Nat → ClassId} {ad : Nat → Nat} {B : Nat} (had : mx_A ad B) : rx_V l D g ad B ⟨"SubscriberLinesModel", "clear", "(II)V"⟩ prog_12_method_7_code 3 none 0 0 K_mo_clear := by
  intro av x hp
  obtain ⟨a0, a1, a2, rfl⟩ := k_RII_inv hp
  have hp : a0 = 82 ∧ vp_in a1 2 := hp
  have h0 : a0 = 82 := hp.1
  subst h0
  exact rx_met (k := 0) had (by decide) (Nat.le_of_ble_eq_true rfl) ok_mo_clear rfl rfl 38 (fun p e s m args below meth c X => And.intro (og_mo_80_g X) (And.intro (oy_pa X) (And.intro (og_mo_83_g X) (And.intro (oy_pa X) (And.intro (og_mo_86_g X) (And.intro (oy_pa X) (And.intro (og_mo_89_g X) (And.intro (oy_pa X) (And.intro (og_mo_92_g X) (And.intro (oy_pa X) (And.intro (og_mo_95_g X) (And.intro (oy_pa X) (And.intro (og_mo_98_g X) (And.intro (oy_pa X) (trivial))))))))))))))) (S_mo_clear x.1 x.2 a1 a2 hp.2) (E_mo_clear x.1 x.2 a1 a2)
/-- what sending leaves alone on the model's side: all but the row of packets and their count -/
def fy (m m' : mx_M) : Prop := m'.2.2 = m.2.2 ∧ ∀ i : Nat, ¬ i = 85 → m'.1 i = m.1 i
theorem fy_rf (m : mx_M) : fy m m := ⟨rfl, fun _ _ => rfl⟩
theorem fy_tr {a b c : mx_M} (h1 : fy a b) (h2 : fy b c) : fy a c := ⟨h2.1.trans h1.1, fun i hi => (h2.2 i hi).trans (h1.2 i hi)⟩
theorem fy_pi (m : mx_M) (k : Nat) (v : Int32) : fy m (my_pi m 85 k v) := ⟨rfl, fun _ hi => mx_up_row _ _ _ _ hi⟩
theorem fy_pf (m : mx_M) (v : Int32) : fy m (my_pf m v) := ⟨rfl, fun _ _ => rfl⟩
theorem fy_fillL (a1 a2 a3 a4 a5 a6 a7 : Int32) : ∀ (n : Nat) (m : mx_M) (v : Int32), fy m (mo_fill_60 n m a1 a2 a3 a4 a5 a6 a7 v) := by
  intro n
  induction n with
  | zero => intro m v; exact fy_rf m
  | succ n ih =>
    intro m v
    unfold mo_fill_60
    split
    · exact fy_tr (fy_pi _ _ _) (ih _ _)
    · exact fy_rf m
theorem fy_fill (m : mx_M) (a1 a2 a3 a4 a5 a6 a7 : Int32) : fy m (mo_fill m a1 a2 a3 a4 a5 a6 a7) := by
  unfold mo_fill
  exact fy_tr (fy_tr (fy_tr (fy_tr (fy_tr (fy_tr (fy_pi _ _ _) (fy_pi _ _ _)) (fy_pi _ _ _)) (fy_pi _ _ _)) (fy_pi _ _ _)) (fy_pi _ _ _)) (fy_fillL _ _ _ _ _ _ _ _ _ _)
theorem fy_sendOff (m : mx_M) (a1 a2 a3 a4 a5 a6 : Int32) : fy m (mo_sendOff m a1 a2 a3 a4 a5 a6) := by
  unfold mo_sendOff
  split
  · exact fy_tr (fy_fill _ _ _ _ _ _ _ _) (fy_pf _ _)
  · exact fy_rf m
theorem fy_transmit (m : mx_M) (e n : Int32) : fy m (mo_transmit m e n) := by
  unfold mo_transmit
  split
  · dsimp only
    repeat' split
    all_goals exact fy_tr (fy_tr (fy_tr (fy_tr (fy_fill _ _ _ _ _ _ _ _) (fy_pi _ _ _)) (fy_pi _ _ _)) (fy_pi _ _ _)) (fy_pf _ _)
  · exact fy_rf m
/-- bounds of an end's numbers -/
def mo_so (m : mx_M) (e : Int32) : Prop := vp_in e 2 ∧ 0 ≤ (m.1 108 e.toNatClampNeg).toInt ∧ (m.1 109 e.toNatClampNeg).toInt ≤ 1400
abbrev mo_soQ (n : Nat) (m : mx_M) (e : Int32) : Prop := mo_so m e ∧ (m.1 109 e.toNatClampNeg).toInt - (m.1 108 e.toNatClampNeg).toInt < (n : Int) ∧ 0 < n
theorem mo_so_tr {m : mx_M} {e : Int32} (h : mo_so m e) (h1 : m.1 108 e.toNatClampNeg < m.1 109 e.toNatClampNeg) : mo_trP e (m.1 108 e.toNatClampNeg) := by
  rw [i_lt] at h1
  exact ⟨h.1, fun _ => by have := h.2.2; omega⟩
theorem mo_soQ1 {n : Nat} {m m' : mx_M} {e : Int32} {v : Int32} (hf : fy m m') (hv : v = m'.1 108 e.toNatClampNeg + 1) (h : mo_soQ (n + 1) m e) (h1 : m.1 108 e.toNatClampNeg < m.1 109 e.toNatClampNeg) : mo_soQ n (my_pi m' 108 e.toNatClampNeg v) e := by
  obtain ⟨⟨p1, p2, p3⟩, p4, p5⟩ := h
  rw [i_lt] at h1
  have e8 : m'.1 108 = m.1 108 := hf.2 108 (by decide)
  have e9 : m'.1 109 = m.1 109 := hf.2 109 (by decide)
  have x8 : (my_pi m' 108 e.toNatClampNeg v).1 108 e.toNatClampNeg = v := mx_up_eq _ _ _ _
  have x9 : (my_pi m' 108 e.toNatClampNeg v).1 109 e.toNatClampNeg = m.1 109 e.toNatClampNeg := by
    show mx_up m'.1 108 e.toNatClampNeg v 109 e.toNatClampNeg = _
    rw [mx_up_ne _ _ (fun q => by omega), e9]
  have ev : v.toInt = (m.1 108 e.toNatClampNeg).toInt + 1 := by
    rw [hv, e8]
    exact i_add (show _ ≤ (m.1 108 e.toNatClampNeg).toInt + 1 by omega) (show (m.1 108 e.toNatClampNeg).toInt + 1 < _ by have := i_rng (m.1 109 e.toNatClampNeg); omega)
  refine ⟨⟨p1, ?_, ?_⟩, ?_, by omega⟩
  · rw [x8, ev]; omega
  · rw [x9]; exact p3
  · rw [x8, x9, ev]; omega
def mo_sendOpen_0 : Nat → mx_M → Int32 → mx_M
  | 0, m, _ => m
  | n + 1, m, v1 =>
    if (m.1 108 (Int32.toNatClampNeg v1)) < (m.1 109 (Int32.toNatClampNeg v1)) then
      if (m.1 108 (Int32.toNatClampNeg v1)) < ((m.1 107 (Int32.toNatClampNeg v1)) + 3) then
        let m1 := mo_transmit m v1 (m.1 108 (Int32.toNatClampNeg v1))
        let m2 := my_pi m1 108 (Int32.toNatClampNeg v1) ((m1.1 108 (Int32.toNatClampNeg v1)) + 1)
        mo_sendOpen_0 n m2 v1
      else
        m
    else
      m
def mo_sendOpen (m : mx_M) (a1 : Int32) : mx_M :=
  if (m.1 108 (Int32.toNatClampNeg a1)) < (m.1 109 (Int32.toNatClampNeg a1)) then
    if (m.1 108 (Int32.toNatClampNeg a1)) < ((m.1 107 (Int32.toNatClampNeg a1)) + 3) then
      let m1 := mo_transmit m a1 (m.1 108 (Int32.toNatClampNeg a1))
      let m2 := my_pi m1 108 (Int32.toNatClampNeg a1) ((m1.1 108 (Int32.toNatClampNeg a1)) + 1)
      mo_sendOpen_0 (1402) m2 a1
    else
      m
  else
    m
def K_mo_sendOpen : rx_K mx := k_RI (fun a0 a1 c m => (a0 = 82 ∧ mo_so m a1, (c, mo_sendOpen m a1), none))
def L_mo_sendOpen : List (rx_E mx) := [
  (0, .aload_n 0, 1, 0, 0, 0, [], kno),
  (1, .getfield 86, 3, 7, 1, 0, [], mgr 108),
  (4, .iload_n 1, 1, 0, 1, 0, [], kno),
  (5, .iaload, 1, 7, 2, 0, [], mai),
  (6, .aload_n 0, 1, 0, 0, 0, [], kno),
  (7, .getfield 89, 3, 7, 1, 0, [], mgr 109),
  (10, .iload_n 1, 1, 0, 1, 0, [], kno),
  (11, .iaload, 1, 7, 2, 0, [], mai),
  (12, .if_icmp .ge 44, 3, 2, 36, 0, [], kno),
  (15, .aload_n 0, 1, 0, 0, 0, [], kno),
  (16, .getfield 86, 3, 7, 1, 0, [], mgr 108),
  (19, .iload_n 1, 1, 0, 1, 0, [], kno),
  (20, .iaload, 1, 7, 2, 0, [], mai),
  (21, .aload_n 0, 1, 0, 0, 0, [], kno),
  (22, .getfield 83, 3, 7, 1, 0, [], mgr 107),
  (25, .iload_n 1, 1, 0, 1, 0, [], kno),
  (26, .iaload, 1, 7, 2, 0, [], mai),
  (27, .iconst 3, 1, 0, 0, 3, [], kno),
  (28, .iadd, 1, 0, 0, 0, [], kno),
  (29, .if_icmp .ge 27, 3, 2, 36, 0, [], kno),
  (32, .aload_n 0, 1, 0, 0, 0, [], kno),
  (33, .iload_n 1, 1, 0, 1, 0, [], kno),
  (34, .aload_n 0, 1, 0, 0, 0, [], kno),
  (35, .getfield 86, 3, 7, 1, 0, [], mgr 108),
  (38, .iload_n 1, 1, 0, 1, 0, [], kno),
  (39, .iaload, 1, 7, 2, 0, [], mai),
  (40, .invokevirtual 125, 3, 7, 3, 0, [], K_mo_transmit),
  (43, .aload_n 0, 1, 0, 0, 0, [], kno),
  (44, .getfield 86, 3, 7, 1, 0, [], mgr 108),
  (47, .iload_n 1, 1, 0, 1, 0, [], kno),
  (48, .dup2, 1, 0, 0, 0, [], kno),
  (49, .iaload, 1, 7, 2, 0, [], mai),
  (50, .iconst 1, 1, 0, 0, 1, [], kno),
  (51, .iadd, 1, 0, 0, 0, [], kno),
  (52, .iastore, 1, 7, 3, 0, [], mpa),
  (53, .goto (-53), 3, 1, 0, 0, [], kno),
  (56, .return_, 1, 6, 0, 0, [], kno)]
def G_mo_sendOpen (n : Nat) : rx_G := fun x ls st =>
  match ls, st with
  | [some (.ref r0), some (.int v1)], [] => (r0 = 82 ∧ mo_soQ n x.2 v1, ry_v x.1 (mo_sendOpen_0 n x.2 v1))
  | _, _ => (False, (x, none))
theorem GI_mo_sendOpen {n : Nat} {x : mx} {ls : rx_L} {st : List Value} (h : (G_mo_sendOpen n x ls st).1) : ∃ (r0 : Nat) (v1 : Int32), ls = [some (.ref r0), some (.int v1)] ∧ st = [] ∧ r0 = 82 ∧ mo_soQ n x.2 v1 := by
  unfold G_mo_sendOpen at h
  split at h
  · exact ⟨_, _, rfl, rfl, h⟩
  · exact False.elim h
theorem EH_mo_sendOpen (n : Nat) (c : mx_C) (m : mx_M) (v1 : Int32) : rx_ev L_mo_sendOpen [(0, G_mo_sendOpen n)] 39 (L_mo_sendOpen.drop 0) (c, m) [some (.ref 82), some (.int v1)] [] = ry_v c (mo_sendOpen_0 (n + 1) m v1) :=
  rx_ite2 (f := ry_v c) (fun _ => rx_ite2 (f := ry_v c) (fun _ => rfl) (fun _ => rfl)) (fun _ => rfl)
theorem SH_mo_sendOpen (n : Nat) (c : mx_C) (m : mx_M) (v1 : Int32) (hP : mo_soQ (n + 1) m v1) : rx_sf L_mo_sendOpen [(0, G_mo_sendOpen n)] 39 (L_mo_sendOpen.drop 0) (c, m) [some (.ref 82), some (.int v1)] [] :=
  And.intro rfl (And.intro hP.1.1 (And.intro rfl (And.intro hP.1.1 (And.intro (fun h0 => And.intro rfl (And.intro hP.1.1 (And.intro rfl (And.intro hP.1.1 (And.intro (fun h1 => And.intro rfl (And.intro hP.1.1 (And.intro (And.intro rfl (by first | exact mo_so_tr hP.1 h0 | exact mo_so_tr hs h0)) (And.intro rfl (And.intro hP.1.1 (And.intro hP.1.1 (And.intro rfl (mo_soQ1 (fy_transmit _ _ _) rfl hP h0)))))))) (fun h1 => trivial)))))) (fun h0 => trivial)))))
theorem E_mo_sendOpen (c : mx_C) (m : mx_M) (a1 : Int32)  : rx_ev L_mo_sendOpen [(0, G_mo_sendOpen (1402))] 39 L_mo_sendOpen (c, m) [some (.ref 82), some (.int a1)] [] = ry_v c (mo_sendOpen m a1) :=
  rx_ite2 (f := ry_v c) (fun _ => rx_ite2 (f := ry_v c) (fun _ => rfl) (fun _ => rfl)) (fun _ => rfl)
theorem S_mo_sendOpen (c : mx_C) (m : mx_M) (a1 : Int32) (hs : mo_so m a1) : rx_sf L_mo_sendOpen [(0, G_mo_sendOpen (1402))] 39 L_mo_sendOpen (c, m) [some (.ref 82), some (.int a1)] [] :=
  And.intro rfl (And.intro hs.1 (And.intro rfl (And.intro hs.1 (And.intro (fun h0 => And.intro rfl (And.intro hs.1 (And.intro rfl (And.intro hs.1 (And.intro (fun h1 => And.intro rfl (And.intro hs.1 (And.intro (And.intro rfl (by first | exact mo_so_tr hP.1 h0 | exact mo_so_tr hs h0)) (And.intro rfl (And.intro hs.1 (And.intro hs.1 (And.intro rfl (mo_soQ1 (n := 1402) (fy_transmit _ _ _) rfl (And.intro hs (And.intro (by have h5 := hs.2.1; have h6 := hs.2.2; omega) (by decide))) h0)))))))) (fun h1 => trivial)))))) (fun h0 => trivial)))))
theorem cv_mo_transmit {p : Program} {l : Launch} {e : Env} {R : Room} {s : State} {m : MethodId} {args : Array Value} {below : List Frame} {meth : Method} {c : Code} {cc : ByteArray} {nL : Nat} {ad : Nat → Nat} {D : va_G} {g : Nat → ClassId} {B : Nat} {own : String} {idx : Nat} (X : ox_C p s m args c cc nL own D g ad B) (hV : rx_V l D g ad B ⟨"SubscriberLinesModel", "transmit", "(II)V"⟩ prog_12_method_5_code 5 none 1 28 K_mo_transmit) (hl : Cond.methodLink own idx ⟨"SubscriberLinesModel", "transmit", "(II)V"⟩ ∈ al) (hR : 1 + 1 ≤ R.frames ∧ 8 + (5 + 11) + 28 ≤ R.locals) : rx_OK p l e R s m args below meth c cc nL ad (mx_W D g ad B s.heap) mx_cs (.invokevirtual idx) 3 3 (K_mo_transmit) :=
  ox_callV (q := 9) (T := T_9) X hV (fun av x h => by obtain ⟨a0, a1, a2, rfl⟩ := k_RII_inv h; exact ⟨a0, _, rfl, by have h2 : a0 = 82 := h.1; rw [h2]; rfl⟩) (by decide) rfl hl (al_at 892 (by decide +kernel) rfl) (al_pr (y := (⟨"SubscriberLinesModel", "transmit", "(II)V"⟩, _)) 44 rfl) (al_at 12 (by decide +kernel) rfl) (al_at 893 (by decide +kernel) rfl) ⟨by decide, by decide, by decide +kernel⟩ hR
theorem ok_mo_sendOpen : rx_okF prog_12_method_9_code 2 none L_mo_sendOpen 0 L_mo_sendOpen = true := by decide +kernel
theorem O_mo_sendOpen {l : Launch} {D : va_G} {g : Nat → ClassId} {ad : Nat → Nat} {B : Nat} (had : mx_A ad B) {p : Program} {e : Env} {s : State} {m : MethodId} {args : Array Value} {below : List Frame} {meth : Method} {c : Code} (X : ox_C p s m args c prog_12_method_9_code 2 "SubscriberLinesModel" D g ad B) : rx_ops p l e ({ frames := 2, cells := 0, slots := 0, locals := 52 } : Room) s m args below meth c prog_12_method_9_code 2 ad (mx_W D g ad B s.heap) mx_cs L_mo_sendOpen :=
  And.intro (og_mo_86_g X) (And.intro (oy_ai X) (And.intro (og_mo_89_g X) (And.intro (oy_ai X) (And.intro (og_mo_86_g X) (And.intro (oy_ai X) (And.intro (og_mo_83_g X) (And.intro (oy_ai X) (And.intro (og_mo_86_g X) (And.intro (oy_ai X) (And.intro (cv_mo_transmit X (V_mo_transmit had) (al_at 890 (by decide +kernel) rfl) ⟨by decide, by decide⟩) (And.intro (og_mo_86_g X) (And.intro (oy_ai X) (And.intro (oy_pa X) (trivial))))))))))))))
theorem V_mo_sendOpen {l : Launch} {D : va_G} {g : Nat → ClassId} {ad : Nat → Nat} {B : Nat} (had : mx_A ad B) : rx_V l D g ad B ⟨"SubscriberLinesModel", "sendOpen", "(I)V"⟩ prog_12_method_9_code 2 none 2 52 K_mo_sendOpen := by
  intro av x hp
  obtain ⟨a0, a1, rfl⟩ := k_RI_inv hp
  have hp : a0 = 82 ∧ mo_so x.2 a1 := hp
  have h0 : a0 = 82 := hp.1
  subst h0
  refine rx_metX (k := 0) had (by decide) (Nat.le_of_ble_eq_true rfl) fun p e s m args below meth c X hr hlk => ?_
  refine rx_walk X hr hlk ok_mo_sendOpen (O_mo_sendOpen had X) (cut := [(0, G_mo_sendOpen (1402))]) (rx_cc ?_ rx_c0) 39 0 rfl (S_mo_sendOpen x.1 x.2 a1 hp.2) (E_mo_sendOpen x.1 x.2 a1 )
  refine rx_loop (G := G_mo_sendOpen) X hr hlk ok_mo_sendOpen (O_mo_sendOpen had X) rx_c0 39 0 rfl (fun x ls st h => ?_) (fun n x ls st h => ?_) _
  · obtain ⟨r0, v1, -, -, h3⟩ := GI_mo_sendOpen h
    have h4 := h3.2
    omega
  · obtain ⟨r0, v1, rfl, rfl, h3⟩ := GI_mo_sendOpen h
    obtain ⟨rfl, hP⟩ := h3
    exact ⟨SH_mo_sendOpen n x.1 x.2 v1 hP, EH_mo_sendOpen n x.1 x.2 v1⟩
