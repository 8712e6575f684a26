theorem fl_holds_in {c : mx_C} {k : Int32} (h : ¬ fl_holds c k = 0) : 0 ≤ k.toInt ∧ k.toInt < (c.2.2.2.1.val : Int) := by
  unfold fl_holds at h
  split at h
  · exact absurd rfl h
  · rename_i h1
    split at h
    · rename_i h2
      rw [i_lt, Int32.toInt_zero] at h1
      rw [i_lt, i_of _ (by omega)] at h2
      omega
    · exact absurd rfl h
theorem fl_row_in (q : Fin 41) : 4 ≤ 4 + q.val ∧ 4 + q.val < 45 := by omega
theorem fl_k_in {k : Int32} {q : Fin 41} (h : 0 ≤ k.toInt ∧ k.toInt < (q.val : Int)) : vp_in k (mx_lenG 2 2 2) := by
  rw [i_in]
  show 0 ≤ k.toInt ∧ k.toInt < (41 : Int)
  omega
abbrev fl_P (n : Nat) (v : Int32) (r f : Nat) : Prop := 0 ≤ v.toInt ∧ v.toInt ≤ 40 ∧ 40 < (n : Int) + v.toInt ∧ 4 ≤ r ∧ r < 45 ∧ 1 ≤ f
theorem fl_P1 {n : Nat} {v : Int32} {r f : Nat} (h : v < 40) (hP : fl_P (n + 1) v r f) : (vp_in v (mx_lenG 2 2 2) ∧ vp_in (v + 1) (mx_lenG 2 2 2)) ∧ fl_P n (v + 1) r f := by
  rw [i_lt] at h
  have h : v.toInt < 40 := h
  have e : (v + 1).toInt = v.toInt + 1 := i_add (show _ ≤ v.toInt + 1 by omega) (show v.toInt + 1 < _ by omega)
  rw [i_in, i_in, e]
  show ((_ ∧ v.toInt < (41 : Int)) ∧ (_ ∧ v.toInt + 1 < (41 : Int))) ∧ fl_P n (v + 1) r f
  obtain ⟨p1, p2, p3, p4, p5, p6⟩ := hP
  exact ⟨by omega, by rw [e]; omega, by rw [e]; omega, by rw [e]; omega, p4, p5, p6⟩
theorem fl_P0 {k : Int32} {q r : Fin 41} (h : 0 ≤ k.toInt ∧ k.toInt < (q.val : Int)) : fl_P 42 k (4 + r.val) q.val := ⟨h.1, by omega, by omega, by omega, by omega, by omega⟩
theorem fl_dec {q : Fin 41} (h : 1 ≤ q.val) : vp_in (Int32.ofNat q.val - 1) 41 := by
  have e : (Int32.ofNat q.val - 1).toInt = (q.val : Int) - 1 := by
    rw [i_sub, i_of _ (by omega)]
    · rfl
    · rw [i_of _ (by omega)]; show _ ≤ (q.val : Int) - 1; omega
    · rw [i_of _ (by omega)]; show (q.val : Int) - 1 < _; omega
  rw [i_in, e]
  omega
def fl_take_19 : Nat → mx_C → Int32 → Nat → Int32 → mx_C × Nat
  | 0, c, _, _, _ => (c, 0)
  | n + 1, c, v1, r2, v3 =>
    if v3 < 40 then
      let c1 := mx_pr c (Int32.toNatClampNeg v3) (Fin.ofNat 41 ((4 + (c.2.1 (Int32.toNatClampNeg (v3 + 1))).val) - 4))
      fl_take_19 n c1 v1 r2 (v3 + 1)
    else
      let c2 := mx_pr c 40 (Fin.ofNat 41 (r2 - 4))
      let c3 := mx_pf c2 ((Int32.ofNat c2.2.2.2.1.val) - 1)
      (c3, r2)
def fl_take (c : mx_C) (a1 : Int32) : mx_C × Nat :=
  fl_take_19 (42) c a1 (4 + (c.2.1 (Int32.toNatClampNeg a1)).val) a1
def K_fl_take : rx_K mx := k_RI (fun a0 a1 c m => (a0 = 1 ∧ ¬ fl_holds c a1 = 0, ((fl_take c a1).1, m), some (.ref (fl_take c a1).2)))
def L_fl_take : List (rx_E mx) := [
  (0, .aload_n 0, 1, 0, 0, 0, [], kno),
  (1, .iload_n 1, 1, 0, 1, 0, [], kno),
  (2, .invokevirtual 53, 3, 7, 2, 0, [], K_fl_holds),
  (5, .ifCond .ne 5, 3, 2, 6, 0, [], kno),
  (8, .aconst_null, 1, 0, 0, 0, [], kno),
  (9, .areturn, 1, 5, 2, 0, [], kno),
  (10, .aload_n 0, 1, 0, 0, 0, [], kno),
  (11, .getfield 11, 3, 7, 1, 0, [], kgr0 1 0 2),
  (14, .iload_n 1, 1, 0, 1, 0, [], kno),
  (15, .aaload, 1, 7, 2, 0, [], kar),
  (16, .astore_n 2, 1, 0, 2, 0, [], kno),
  (17, .iload_n 1, 1, 0, 1, 0, [], kno),
  (18, .istore_n 3, 1, 0, 3, 0, [], kno),
  (19, .iload_n 3, 1, 0, 3, 0, [], kno),
  (20, .bipush 40, 2, 0, 0, 40, [], kno),
  (22, .if_icmp .ge 23, 3, 2, 28, 0, [], kno),
  (25, .aload_n 0, 1, 0, 0, 0, [], kno),
  (26, .getfield 11, 3, 7, 1, 0, [], kgr0 1 0 2),
  (29, .iload_n 3, 1, 0, 3, 0, [], kno),
  (30, .aload_n 0, 1, 0, 0, 0, [], kno),
  (31, .getfield 11, 3, 7, 1, 0, [], kgr0 1 0 2),
  (34, .iload_n 3, 1, 0, 3, 0, [], kno),
  (35, .iconst 1, 1, 0, 0, 1, [], kno),
  (36, .iadd, 1, 0, 0, 0, [], kno),
  (37, .aaload, 1, 7, 2, 0, [], kar),
  (38, .aastore, 1, 7, 3, 0, [], kpr),
  (39, .iinc 3 1, 3, 0, 3, 1, [], kno),
  (42, .goto (-23), 3, 1, 13, 0, [], kno),
  (45, .aload_n 0, 1, 0, 0, 0, [], kno),
  (46, .getfield 11, 3, 7, 1, 0, [], kgr0 1 0 2),
  (49, .bipush 40, 2, 0, 0, 40, [], kno),
  (51, .aload_n 2, 1, 0, 2, 0, [], kno),
  (52, .aastore, 1, 7, 3, 0, [], kpr),
  (53, .aload_n 0, 1, 0, 0, 0, [], kno),
  (54, .dup, 1, 0, 0, 0, [], kno),
  (55, .getfield 22, 3, 7, 1, 0, [], kgf),
  (58, .iconst 1, 1, 0, 0, 1, [], kno),
  (59, .isub, 1, 0, 0, 0, [], kno),
  (60, .putfield 22, 3, 7, 2, 0, [], kpf),
  (63, .aload_n 2, 1, 0, 2, 0, [], kno),
  (64, .areturn, 1, 5, 2, 0, [], kno)]
def G_fl_take (n : Nat) : rx_G := fun x ls st =>
  match ls, st with
  | [some (.ref r0), some (.int v1), some (.ref r2), some (.int v3)], [] => (r0 = 1 ∧ fl_P n v3 r2 x.1.2.2.2.1.val, rw_r x.2 (fl_take_19 n x.1 v1 r2 v3))
  | _, _ => (False, (x, none))
theorem GI_fl_take {n : Nat} {x : mx} {ls : rx_L} {st : List Value} (h : (G_fl_take n x ls st).1) : ∃ (r0 : Nat) (v1 : Int32) (r2 : Nat) (v3 : Int32), ls = [some (.ref r0), some (.int v1), some (.ref r2), some (.int v3)] ∧ st = [] ∧ r0 = 1 ∧ fl_P n v3 r2 x.1.2.2.2.1.val := by
  unfold G_fl_take at h
  split at h
  · exact ⟨_, _, _, _, rfl, rfl, h⟩
  · exact False.elim h
theorem EH_fl_take (n : Nat) (c : mx_C) (m : mx_M) (v1 : Int32) (r2 : Nat) (v3 : Int32) : rx_ev L_fl_take [(19, G_fl_take n)] 43 (L_fl_take.drop 13) (c, m) [some (.ref 1), some (.int v1), some (.ref r2), some (.int v3)] [] = rw_r m (fl_take_19 (n + 1) c v1 r2 v3) :=
  rx_ite2 (f := rw_r m) (fun _ => rfl) (fun _ => rfl)
theorem SH_fl_take (n : Nat) (c : mx_C) (m : mx_M) (v1 : Int32) (r2 : Nat) (v3 : Int32) (hP : fl_P (n + 1) v3 r2 c.2.2.2.1.val) : rx_sf L_fl_take [(19, G_fl_take n)] 43 (L_fl_take.drop 13) (c, m) [some (.ref 1), some (.int v1), some (.ref r2), some (.int v3)] [] :=
  And.intro (fun h0 => And.intro rfl (And.intro rfl (And.intro (fl_P1 h0 hP).1.2 (And.intro (And.intro (fl_P1 h0 hP).1.1 (fl_row_in _)) (And.intro rfl (fl_P1 h0 hP).2))))) (fun h0 => And.intro rfl (And.intro (And.intro (i_in.mpr (by decide)) (And.intro hP.2.2.2.1 hP.2.2.2.2.1)) (And.intro rfl (And.intro (And.intro rfl (fl_dec hP.2.2.2.2.2)) (trivial)))))
theorem E_fl_take (c : mx_C) (m : mx_M) (a1 : Int32) (hh : ¬ fl_holds c a1 = 0) : rx_ev L_fl_take [(19, G_fl_take (42))] 43 L_fl_take (c, m) [some (.ref 1), some (.int a1), none, none] [] = rw_r m (fl_take c a1) :=
  rx_litF hh (rfl)
theorem S_fl_take (c : mx_C) (m : mx_M) (a1 : Int32) (hh : ¬ fl_holds c a1 = 0) : rx_sf L_fl_take [(19, G_fl_take (42))] 43 L_fl_take (c, m) [some (.ref 1), some (.int a1), none, none] [] :=
  And.intro rfl (And.intro (fun h => absurd h hh) (fun _ => And.intro rfl (And.intro (fl_k_in (fl_holds_in hh)) (And.intro rfl (fl_P0 (fl_holds_in hh))))))
theorem cv_fl_holds {p : Program} {l : Launch} {e : Env} {R : Room} {s : State} {m : MethodId} {args : Array Value} {below : List Frame} {meth : Method} {c : Code} {cc : ByteArray} {nL : Nat} {ad : Nat → Nat} {D : va_G} {g : Nat → ClassId} {B : Nat} {own : String} {idx : Nat} (X : ox_C p s m args c cc nL own D g ad B) (hV : rx_V l D g ad B ⟨"SubscriberLines$Flight", "holds", "(I)Z"⟩ prog_4_method_2_code 2 (some .boolean) 0 0 K_fl_holds) (hl : Cond.methodLink own idx ⟨"SubscriberLines$Flight", "holds", "(I)Z"⟩ ∈ al) (hR : 0 + 1 ≤ R.frames ∧ 8 + (2 + 11) + 0 ≤ R.locals) : rx_OK p l e R s m args below meth c cc nL ad (mx_W D g ad B s.heap) mx_cs (.invokevirtual idx) 3 2 (K_fl_holds) :=
  ox_callV (q := 1) (T := T_1) X hV (fun av x h => by obtain ⟨a0, a1, rfl⟩ := k_RI_inv h; exact ⟨a0, _, rfl, by have h2 : a0 = 1 := h; rw [h2]; rfl⟩) (by decide) rfl hl (al_at 445 (by decide +kernel) rfl) (al_at 446 (by decide +kernel) rfl) (al_at 2 (by decide +kernel) rfl) (al_at 447 (by decide +kernel) rfl) ⟨by decide, by decide, by decide +kernel⟩ hR
theorem ok_fl_take : rx_okF prog_4_method_4_code 4 (some (.object "SubscriberLines$Packet")) L_fl_take 0 L_fl_take = true := by decide +kernel
theorem O_fl_take {l : Launch} {D : va_G} {g : Nat → ClassId} {ad : Nat → Nat} {B : Nat} (had : mx_A ad B) {p : Program} {e : Env} {s : State} {m : MethodId} {args : Array Value} {below : List Frame} {meth : Method} {c : Code} (X : ox_C p s m args c prog_4_method_4_code 4 "SubscriberLines$Flight" D g ad B) : rx_ops p l e ({ frames := 1, cells := 0, slots := 0, locals := 21 } : Room) s m args below meth c prog_4_method_4_code 4 ad (mx_W D g ad B s.heap) mx_cs L_fl_take :=
  And.intro (cv_fl_holds X (V_fl_holds had) (al_at 444 (by decide +kernel) rfl) ⟨by decide, by decide⟩) (And.intro (og_fl_11_g X) (And.intro (ox_ar X) (And.intro (og_fl_11_g X) (And.intro (og_fl_11_g X) (And.intro (ox_ar X) (And.intro (ox_pr X) (And.intro (og_fl_11_g X) (And.intro (ox_pr X) (And.intro (og_fl_22_g X) (And.intro (og_fl_22_p X) (trivial)))))))))))
theorem V_fl_take {l : Launch} {D : va_G} {g : Nat → ClassId} {ad : Nat → Nat} {B : Nat} (had : mx_A ad B) : rx_V l D g ad B ⟨"SubscriberLines$Flight", "take", "(I)LSubscriberLines$Packet;"⟩ prog_4_method_4_code 4 (some (.object "SubscriberLines$Packet")) 1 21 K_fl_take := by
  intro av x hp
  obtain ⟨a0, a1, rfl⟩ := k_RI_inv hp
  have hp : a0 = 1 ∧ ¬ fl_holds x.1 a1 = 0 := hp
  have h0 : a0 = 1 := hp.1
  subst h0
  refine rx_metX (k := 2) had (by decide) (Nat.le_of_ble_eq_true rfl) fun p e s m args below meth c X hr hlk => ?_
  refine rx_walk X hr hlk ok_fl_take (O_fl_take had X) (cut := [(19, G_fl_take (42))]) (rx_cc ?_ rx_c0) 43 0 rfl (S_fl_take x.1 x.2 a1 hp.2) (E_fl_take x.1 x.2 a1 hp.2)
  refine rx_loop (G := G_fl_take) X hr hlk ok_fl_take (O_fl_take had X) rx_c0 43 13 rfl (fun x ls st h => ?_) (fun n x ls st h => ?_) _
  · obtain ⟨r0, v1, r2, v3, -, -, h3⟩ := GI_fl_take h
    have h4 := h3.2
    omega
  · obtain ⟨r0, v1, r2, v3, rfl, rfl, h3⟩ := GI_fl_take h
    obtain ⟨rfl, hP⟩ := h3
    exact ⟨SH_fl_take n x.1 x.2 v1 r2 v3 hP, EH_fl_take n x.1 x.2 v1 r2 v3⟩
