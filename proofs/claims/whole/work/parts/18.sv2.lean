/-- what sending leaves alone: the two rows of references and the count of sessions -/
def fx (c c' : mx_C) : Prop := c'.2.1 = c.2.1 ∧ c'.2.2.1 = c.2.2.1 ∧ c'.2.2.2.2 = c.2.2.2.2
theorem fx_rf (c : mx_C) : fx c c := ⟨rfl, rfl, rfl⟩
theorem fx_tr {a b c : mx_C} (h1 : fx a b) (h2 : fx b c) : fx a c := ⟨h2.1.trans h1.1, h2.2.1.trans h1.2.1, h2.2.2.trans h1.2.2⟩
theorem fx_pi (c : mx_C) (i k : Nat) (v : Int32) : fx c (mx_pi c i k v) := ⟨rfl, rfl, rfl⟩
theorem fx_launch (c : mx_C) (k a b : Int32) : fx c (fl_launch c k a b).1 := by
  unfold fl_launch
  split <;> exact ⟨rfl, rfl, rfl⟩
theorem fx_bear (c : mx_C) (t : Nat) (x y z : Int32) : fx c (pk_bear c t x y z) := ⟨rfl, rfl, rfl⟩
theorem fx_number (c : mx_C) (t : Nat) (x y z : Int32) : fx c (pk_number c t x y z) := ⟨rfl, rfl, rfl⟩
theorem fx_transmit (c : mx_C) (t : Nat) (n : Int32) : fx c (en_transmit c t n) := by
  unfold en_transmit
  exact fx_tr (fx_launch _ _ _ _) (fx_tr (fx_bear _ _ _ _ _) (fx_number _ _ _ _ _))
theorem fx_startWaiting (c : mx_C) (t : Nat) : fx c (en_startWaiting c t) := ⟨rfl, rfl, rfl⟩
theorem fx_put (c : mx_C) (t : Nat) (k a b : Int32) : fx c (en_put c t k a b) := by
  unfold en_put
  split
  · exact fx_rf c
  · split
    · exact fx_rf c
    · split
      · dsimp only
        split
        · exact ⟨rfl, rfl, rfl⟩
        · refine fx_tr ?_ (fx_transmit _ _ _)
          exact ⟨rfl, rfl, rfl⟩
      · dsimp only
        split
        · exact ⟨rfl, rfl, rfl⟩
        · refine fx_tr ?_ (fx_transmit _ _ _)
          exact ⟨rfl, rfl, rfl⟩
theorem fx_sendAccept (c : mx_C) (a : Nat) : fx c (sv_sendAccept c a) := by
  unfold sv_sendAccept
  exact fx_tr (fx_launch _ _ _ _) (fx_bear _ _ _ _ _)
theorem fx_logsIn (c : mx_C) (a b : Nat) : fx c (sv_logsIn c a b).1 := by
  unfold sv_logsIn
  split
  · exact fx_tr (fx_launch _ _ _ _) (fx_bear _ _ _ _ _)
  · split
    · exact fx_tr (fx_launch _ _ _ _) (fx_bear _ _ _ _ _)
    · exact fx_tr (fx_tr (fx_pi _ _ _ _) (fx_pi _ _ _ _)) (fx_sendAccept _ _)
theorem sv_at_fx {c c' : mx_C} {v : Int32} (h : sv_at c v) (hf : fx c c') : sv_at c' v := by
  unfold sv_at
  rw [hf.2.2]
  exact h
theorem sv_removeL (a : Int32) (r : Nat) : ∀ (n : Nat) (c : mx_C) (v : Int32), sv_rP n v r c.2.2.2.2 → (sv_remove_9 n c a r v).2.2.2.2.val = c.2.2.2.2.val - 1 := by
  intro n
  induction n with
  | zero => intro c v hP; omega
  | succ n ih =>
    intro c v hP
    unfold sv_remove_9
    split
    · rename_i h
      exact ih (mx_ps c _ _) _ (sv_rP1 h hP).2
    · show (Int32.toNatClampNeg (Int32.ofNat c.2.2.2.2.val - 1)) % 5 = _
      rw [sc_nat hP.2.2.2.2, Nat.mod_eq_of_lt (by omega)]
theorem sv_remove_sc {c : mx_C} {v : Int32} (h : sv_at c v) : (sv_remove c v).2.2.2.2.val = c.2.2.2.2.val - 1 := sv_removeL v _ 6 c v (sv_rP0 h)
theorem sv_endSession_sc {c : mx_C} {v : Int32} (h : sv_at c v) : (sv_endSession c v).2.2.2.2.val = c.2.2.2.2.val - 1 := by
  unfold sv_endSession
  dsimp only
  rw [(fx_put _ _ _ _ _).2.2]
  exact sv_remove_sc h
theorem sv_ends0 (c : mx_C) (v : Int32) (h : (sv_endsAtTimer c v).2 = 0) : fx c (sv_endsAtTimer c v).1 := by
  unfold sv_endsAtTimer at h ⊢
  dsimp only at h ⊢
  split at h
  · exact absurd h (show ¬ ((1 : Int32) = 0) by decide)
  · rename_i h1
    rw [if_neg h1]
    split
    · split
      · exact fx_tr (fx_pi _ _ _ _) (fx_sendAccept _ _)
      · split
        · split
          · exact fx_tr (fx_pi _ _ _ _) (fx_tr (fx_launch _ _ _ _) (fx_bear _ _ _ _ _))
          · exact fx_pi _ _ _ _
        · exact fx_pi _ _ _ _
    · split
      · split
        · exact fx_tr (fx_pi _ _ _ _) (fx_tr (fx_launch _ _ _ _) (fx_bear _ _ _ _ _))
        · exact fx_pi _ _ _ _
      · exact fx_pi _ _ _ _
theorem sv_ends1 {c : mx_C} {v : Int32} (ha : sv_at c v) (h : ¬ (sv_endsAtTimer c v).2 = 0) : (sv_endsAtTimer c v).1.2.2.2.2.val = c.2.2.2.2.val - 1 := by
  unfold sv_endsAtTimer at h ⊢
  dsimp only at h ⊢
  split at h
  · rename_i h1
    rw [if_pos h1]
    exact sv_endSession_sc ha
  · refine absurd ?_ h
    repeat (first | rfl | split)
abbrev sv_tP (n : Nat) (v w : Int32) (q : Fin 5) : Prop := 0 ≤ v.toInt ∧ 0 ≤ w.toInt ∧ v.toInt + w.toInt = (q.val : Int) ∧ w.toInt < (n : Int)
theorem sv_tP_at {n : Nat} {v w : Int32} {c : mx_C} (h : 0 < w) (hP : sv_tP n v w c.2.2.2.2) : sv_at c v := by
  rw [i_lt, Int32.toInt_zero] at h
  obtain ⟨p1, p2, p3, p4⟩ := hP
  exact ⟨p1, by omega⟩
theorem sv_tP1 {n : Nat} {v w : Int32} {c : mx_C} (h : 0 < w) (h1 : (sv_endsAtTimer c v).2 = 0) (hP : sv_tP (n + 1) v w c.2.2.2.2) : sv_tP n (v + 1) (w + -1) (sv_endsAtTimer c v).1.2.2.2.2 := by
  rw [(sv_ends0 c v h1).2.2]
  rw [i_lt, Int32.toInt_zero] at h
  have hq := c.2.2.2.2.isLt
  obtain ⟨p1, p2, p3, p4⟩ := hP
  have e : (v + 1).toInt = v.toInt + 1 := i_add (show _ ≤ v.toInt + 1 by omega) (show v.toInt + 1 < _ by omega)
  have e2 : (w + -1).toInt = w.toInt + -1 := i_add (show _ ≤ w.toInt + -1 by omega) (show w.toInt + -1 < _ by omega)
  unfold sv_tP
  rw [e, e2]
  omega
theorem sv_tP2 {n : Nat} {v w : Int32} {c : mx_C} (h : 0 < w) (h1 : ¬ (sv_endsAtTimer c v).2 = 0) (hP : sv_tP (n + 1) v w c.2.2.2.2) : sv_tP n v (w + -1) (sv_endsAtTimer c v).1.2.2.2.2 := by
  have hs := sv_ends1 (sv_tP_at h hP) h1
  rw [i_lt, Int32.toInt_zero] at h
  have hq := c.2.2.2.2.isLt
  obtain ⟨p1, p2, p3, p4⟩ := hP
  have e2 : (w + -1).toInt = w.toInt + -1 := i_add (show _ ≤ w.toInt + -1 by omega) (show w.toInt + -1 < _ by omega)
  unfold sv_tP
  rw [e2, hs]
  omega
theorem sv_tP0 (q : Fin 5) : sv_tP 6 0 (Int32.ofNat q.val) q := by
  unfold sv_tP
  rw [i_of _ (by omega), Int32.toInt_zero]
  omega
def sv_receiveInSession (c : mx_C) (a1 : Nat) : mx_C :=
  if (sv_indexOf c (c.1 a1 3)) < 0 then
    c
  else
    let c1 := mx_pi c (78 + (c.2.2.1 (Int32.toNatClampNeg (sv_indexOf c (c.1 a1 3)))).val) 4 0
    if (c1.1 a1 0) = 4 then
      if (c1.1 (78 + (c.2.2.1 (Int32.toNatClampNeg (sv_indexOf c (c.1 a1 3)))).val) 2) = 1 then
        let q2 := sv_logsIn c1 (78 + (c.2.2.1 (Int32.toNatClampNeg (sv_indexOf c (c.1 a1 3)))).val) a1
        if q2.2 = 0 then
          let c3 := sv_endSession q2.1 (sv_indexOf c (c.1 a1 3))
          c3
        else
          q2.1
      else
        if (c1.1 a1 0) = 4 then
          if (c1.1 (78 + (c.2.2.1 (Int32.toNatClampNeg (sv_indexOf c (c.1 a1 3)))).val) 2) = 2 then
            let c4 := sv_sendAccept c1 (78 + (c.2.2.1 (Int32.toNatClampNeg (sv_indexOf c (c.1 a1 3)))).val)
            c4
          else
            if (c1.1 a1 0) = 7 then
              if (c1.1 (78 + (c.2.2.1 (Int32.toNatClampNeg (sv_indexOf c (c.1 a1 3)))).val) 2) = 2 then
                let c5 := mx_pi c1 (78 + (c.2.2.1 (Int32.toNatClampNeg (sv_indexOf c (c.1 a1 3)))).val) 2 3
                c5
              else
                if (c1.1 a1 0) = 10 then
                  let c6 := sv_passToCore c1 (78 + (c.2.2.1 (Int32.toNatClampNeg (sv_indexOf c (c.1 a1 3)))).val) a1
                  c6
                else
                  c1
            else
              if (c1.1 a1 0) = 10 then
                let c7 := sv_passToCore c1 (78 + (c.2.2.1 (Int32.toNatClampNeg (sv_indexOf c (c.1 a1 3)))).val) a1
                c7
              else
                c1
        else
          if (c1.1 a1 0) = 7 then
            if (c1.1 (78 + (c.2.2.1 (Int32.toNatClampNeg (sv_indexOf c (c.1 a1 3)))).val) 2) = 2 then
              let c8 := mx_pi c1 (78 + (c.2.2.1 (Int32.toNatClampNeg (sv_indexOf c (c.1 a1 3)))).val) 2 3
              c8
            else
              if (c1.1 a1 0) = 10 then
                let c9 := sv_passToCore c1 (78 + (c.2.2.1 (Int32.toNatClampNeg (sv_indexOf c (c.1 a1 3)))).val) a1
                c9
              else
                c1
          else
            if (c1.1 a1 0) = 10 then
              let c10 := sv_passToCore c1 (78 + (c.2.2.1 (Int32.toNatClampNeg (sv_indexOf c (c.1 a1 3)))).val) a1
              c10
            else
              c1
    else
      if (c1.1 a1 0) = 4 then
        if (c1.1 (78 + (c.2.2.1 (Int32.toNatClampNeg (sv_indexOf c (c.1 a1 3)))).val) 2) = 2 then
          let c11 := sv_sendAccept c1 (78 + (c.2.2.1 (Int32.toNatClampNeg (sv_indexOf c (c.1 a1 3)))).val)
          c11
        else
          if (c1.1 a1 0) = 7 then
            if (c1.1 (78 + (c.2.2.1 (Int32.toNatClampNeg (sv_indexOf c (c.1 a1 3)))).val) 2) = 2 then
              let c12 := mx_pi c1 (78 + (c.2.2.1 (Int32.toNatClampNeg (sv_indexOf c (c.1 a1 3)))).val) 2 3
              c12
            else
              if (c1.1 a1 0) = 10 then
                let c13 := sv_passToCore c1 (78 + (c.2.2.1 (Int32.toNatClampNeg (sv_indexOf c (c.1 a1 3)))).val) a1
                c13
              else
                c1
          else
            if (c1.1 a1 0) = 10 then
              let c14 := sv_passToCore c1 (78 + (c.2.2.1 (Int32.toNatClampNeg (sv_indexOf c (c.1 a1 3)))).val) a1
              c14
            else
              c1
      else
        if (c1.1 a1 0) = 7 then
          if (c1.1 (78 + (c.2.2.1 (Int32.toNatClampNeg (sv_indexOf c (c.1 a1 3)))).val) 2) = 2 then
            let c15 := mx_pi c1 (78 + (c.2.2.1 (Int32.toNatClampNeg (sv_indexOf c (c.1 a1 3)))).val) 2 3
            c15
          else
            if (c1.1 a1 0) = 10 then
              let c16 := sv_passToCore c1 (78 + (c.2.2.1 (Int32.toNatClampNeg (sv_indexOf c (c.1 a1 3)))).val) a1
              c16
            else
              c1
        else
          if (c1.1 a1 0) = 10 then
            let c17 := sv_passToCore c1 (78 + (c.2.2.1 (Int32.toNatClampNeg (sv_indexOf c (c.1 a1 3)))).val) a1
            c17
          else
            c1
def K_sv_receiveInSession : rx_K mx := k_RR (fun a0 a1 c m => (a0 = 66 ∧ mx_kl a1 = 2 ∧ sv_pool c, (sv_receiveInSession c a1, m), none))
def L_sv_receiveInSession : List (rx_E mx) := [
  (0, .aload_n 0, 1, 0, 0, 0, [], kno),
  (1, .aload_n 1, 1, 0, 1, 0, [], kno),
  (2, .getfield 113, 3, 7, 1, 0, [], kgi 2 3),
  (5, .invokevirtual 119, 3, 7, 2, 0, [], K_sv_indexOf),
  (8, .istore_n 2, 1, 0, 2, 0, [], kno),
  (9, .iload_n 2, 1, 0, 2, 0, [], kno),
  (10, .ifCond .ge 4, 3, 2, 8, 0, [], kno),
  (13, .return_, 1, 6, 0, 0, [], kno),
  (14, .aload_n 0, 1, 0, 0, 0, [], kno),
  (15, .getfield 13, 3, 7, 1, 0, [], kgr0 7 4 67),
  (18, .iload_n 2, 1, 0, 2, 0, [], kno),
  (19, .aaload, 1, 7, 2, 0, [], kas),
  (20, .astore_n 3, 1, 0, 3, 0, [], kno),
  (21, .aload_n 3, 1, 0, 3, 0, [], kno),
  (22, .iconst 0, 1, 0, 0, 0, [], kno),
  (23, .putfield 135, 3, 7, 2, 0, [], kpi 6 4),
  (26, .aload_n 1, 1, 0, 1, 0, [], kno),
  (27, .getfield 82, 3, 7, 1, 0, [], kgi 2 0),
  (30, .iconst 4, 1, 0, 0, 4, [], kno),
  (31, .if_icmp .ne 28, 3, 2, 33, 0, [], kno),
  (34, .aload_n 3, 1, 0, 3, 0, [], kno),
  (35, .getfield 61, 3, 7, 1, 0, [], kgi 6 2),
  (38, .iconst 1, 1, 0, 0, 1, [], kno),
  (39, .if_icmp .ne 20, 3, 2, 33, 0, [], kno),
  (42, .aload_n 0, 1, 0, 0, 0, [], kno),
  (43, .aload_n 3, 1, 0, 3, 0, [], kno),
  (44, .aload_n 1, 1, 0, 1, 0, [], kno),
  (45, .invokevirtual 138, 3, 7, 3, 0, [], K_sv_logsIn),
  (48, .ifCond .ne 75, 3, 2, 65, 0, [], kno),
  (51, .aload_n 0, 1, 0, 0, 0, [], kno),
  (52, .iload_n 2, 1, 0, 2, 0, [], kno),
  (53, .invokevirtual 142, 3, 7, 2, 0, [], K_sv_endSession),
  (56, .goto 67, 3, 1, 65, 0, [], kno),
  (59, .aload_n 1, 1, 0, 1, 0, [], kno),
  (60, .getfield 82, 3, 7, 1, 0, [], kgi 2 0),
  (63, .iconst 4, 1, 0, 0, 4, [], kno),
  (64, .if_icmp .ne 19, 3, 2, 45, 0, [], kno),
  (67, .aload_n 3, 1, 0, 3, 0, [], kno),
  (68, .getfield 61, 3, 7, 1, 0, [], kgi 6 2),
  (71, .iconst 2, 1, 0, 0, 2, [], kno),
  (72, .if_icmp .ne 11, 3, 2, 45, 0, [], kno),
  (75, .aload_n 0, 1, 0, 0, 0, [], kno),
  (76, .aload_n 3, 1, 0, 3, 0, [], kno),
  (77, .invokevirtual 145, 3, 7, 2, 0, [], K_sv_sendAccept),
  (80, .goto 43, 3, 1, 65, 0, [], kno),
  (83, .aload_n 1, 1, 0, 1, 0, [], kno),
  (84, .getfield 82, 3, 7, 1, 0, [], kgi 2 0),
  (87, .bipush 7, 2, 0, 0, 7, [], kno),
  (89, .if_icmp .ne 19, 3, 2, 57, 0, [], kno),
  (92, .aload_n 3, 1, 0, 3, 0, [], kno),
  (93, .getfield 61, 3, 7, 1, 0, [], kgi 6 2),
  (96, .iconst 2, 1, 0, 0, 2, [], kno),
  (97, .if_icmp .ne 11, 3, 2, 57, 0, [], kno),
  (100, .aload_n 3, 1, 0, 3, 0, [], kno),
  (101, .iconst 3, 1, 0, 0, 3, [], kno),
  (102, .putfield 61, 3, 7, 2, 0, [], kpi 6 2),
  (105, .goto 18, 3, 1, 65, 0, [], kno),
  (108, .aload_n 1, 1, 0, 1, 0, [], kno),
  (109, .getfield 82, 3, 7, 1, 0, [], kgi 2 0),
  (112, .bipush 10, 2, 0, 0, 10, [], kno),
  (114, .if_icmp .ne 9, 3, 2, 65, 0, [], kno),
  (117, .aload_n 0, 1, 0, 0, 0, [], kno),
  (118, .aload_n 3, 1, 0, 3, 0, [], kno),
  (119, .aload_n 1, 1, 0, 1, 0, [], kno),
  (120, .invokevirtual 149, 3, 7, 3, 0, [], K_sv_passToCore),
  (123, .return_, 1, 6, 0, 0, [], kno)]
theorem E_sv_receiveInSession (c : mx_C) (m : mx_M) (a1 : Nat)  : rx_ev L_sv_receiveInSession [] 68 L_sv_receiveInSession (c, m) [some (.ref 66), some (.ref a1), none, none] [] = rw_v m (sv_receiveInSession c a1) :=
  rx_ite2 (f := rw_v m) (fun _ => rfl) (fun _ => rx_ite2 (f := rw_v m) (fun _ => rx_ite2 (f := rw_v m) (fun _ => rx_ite2 (f := rw_v m) (fun _ => rfl) (fun _ => rfl)) (fun _ => rx_ite2 (f := rw_v m) (fun _ => rx_ite2 (f := rw_v m) (fun _ => rfl) (fun _ => rx_ite2 (f := rw_v m) (fun _ => rx_ite2 (f := rw_v m) (fun _ => rfl) (fun _ => rx_ite2 (f := rw_v m) (fun _ => rfl) (fun _ => rfl))) (fun _ => rx_ite2 (f := rw_v m) (fun _ => rfl) (fun _ => rfl)))) (fun _ => rx_ite2 (f := rw_v m) (fun _ => rx_ite2 (f := rw_v m) (fun _ => rfl) (fun _ => rx_ite2 (f := rw_v m) (fun _ => rfl) (fun _ => rfl))) (fun _ => rx_ite2 (f := rw_v m) (fun _ => rfl) (fun _ => rfl))))) (fun _ => rx_ite2 (f := rw_v m) (fun _ => rx_ite2 (f := rw_v m) (fun _ => rfl) (fun _ => rx_ite2 (f := rw_v m) (fun _ => rx_ite2 (f := rw_v m) (fun _ => rfl) (fun _ => rx_ite2 (f := rw_v m) (fun _ => rfl) (fun _ => rfl))) (fun _ => rx_ite2 (f := rw_v m) (fun _ => rfl) (fun _ => rfl)))) (fun _ => rx_ite2 (f := rw_v m) (fun _ => rx_ite2 (f := rw_v m) (fun _ => rfl) (fun _ => rx_ite2 (f := rw_v m) (fun _ => rfl) (fun _ => rfl))) (fun _ => rx_ite2 (f := rw_v m) (fun _ => rfl) (fun _ => rfl)))))
theorem S_sv_receiveInSession (c : mx_C) (m : mx_M) (a1 : Nat) (ha1 : mx_kl a1 = 2) (hq : sv_pool c) : rx_sf L_sv_receiveInSession [] 68 L_sv_receiveInSession (c, m) [some (.ref 66), some (.ref a1), none, none] [] :=
  And.intro ha1 (And.intro rfl (And.intro (fun h0 => trivial) (fun h0 => And.intro rfl (And.intro (sv_at_in (sv_idx_in h0)) (And.intro (mx_kl_ses _) (And.intro ha1 (And.intro (fun h1 => And.intro (mx_kl_ses _) (And.intro (fun h2 => And.intro (And.intro rfl (And.intro (mx_kl_ses _) (And.intro ha1 hq))) (And.intro (fun h3 => And.intro (And.intro rfl (sv_at_fx (sv_idx_in h0) (fx_tr (fx_pi _ _ _ _) (fx_logsIn _ _ _)))) (trivial)) (fun h3 => trivial))) (fun h2 => And.intro ha1 (And.intro (fun h3 => And.intro (mx_kl_ses _) (And.intro (fun h4 => And.intro (And.intro rfl (mx_kl_ses _)) (trivial)) (fun h4 => And.intro ha1 (And.intro (fun h5 => And.intro (mx_kl_ses _) (And.intro (fun h6 => And.intro (mx_kl_ses _) (trivial)) (fun h6 => And.intro ha1 (And.intro (fun h7 => And.intro (And.intro rfl (And.intro (mx_kl_ses _) ha1)) (trivial)) (fun h7 => trivial))))) (fun h5 => And.intro ha1 (And.intro (fun h6 => And.intro (And.intro rfl (And.intro (mx_kl_ses _) ha1)) (trivial)) (fun h6 => trivial))))))) (fun h3 => And.intro ha1 (And.intro (fun h4 => And.intro (mx_kl_ses _) (And.intro (fun h5 => And.intro (mx_kl_ses _) (trivial)) (fun h5 => And.intro ha1 (And.intro (fun h6 => And.intro (And.intro rfl (And.intro (mx_kl_ses _) ha1)) (trivial)) (fun h6 => trivial))))) (fun h4 => And.intro ha1 (And.intro (fun h5 => And.intro (And.intro rfl (And.intro (mx_kl_ses _) ha1)) (trivial)) (fun h5 => trivial))))))))) (fun h1 => And.intro ha1 (And.intro (fun h2 => And.intro (mx_kl_ses _) (And.intro (fun h3 => And.intro (And.intro rfl (mx_kl_ses _)) (trivial)) (fun h3 => And.intro ha1 (And.intro (fun h4 => And.intro (mx_kl_ses _) (And.intro (fun h5 => And.intro (mx_kl_ses _) (trivial)) (fun h5 => And.intro ha1 (And.intro (fun h6 => And.intro (And.intro rfl (And.intro (mx_kl_ses _) ha1)) (trivial)) (fun h6 => trivial))))) (fun h4 => And.intro ha1 (And.intro (fun h5 => And.intro (And.intro rfl (And.intro (mx_kl_ses _) ha1)) (trivial)) (fun h5 => trivial))))))) (fun h2 => And.intro ha1 (And.intro (fun h3 => And.intro (mx_kl_ses _) (And.intro (fun h4 => And.intro (mx_kl_ses _) (trivial)) (fun h4 => And.intro ha1 (And.intro (fun h5 => And.intro (And.intro rfl (And.intro (mx_kl_ses _) ha1)) (trivial)) (fun h5 => trivial))))) (fun h3 => And.intro ha1 (And.intro (fun h4 => And.intro (And.intro rfl (And.intro (mx_kl_ses _) ha1)) (trivial)) (fun h4 => trivial))))))))))))))

theorem cv_sv_logsIn {p : Program} {l : Launch} {e : Env} {R : Room} {s : State} {m : MethodId} {args : Array Value} {below : List Frame} {meth : Method} {c : Code} {cc : ByteArray} {nL : Nat} {ad : Nat → Nat} {D : va_G} {g : Nat → ClassId} {B : Nat} {own : String} {idx : Nat} (X : ox_C p s m args c cc nL own D g ad B) (hV : rx_V l D g ad B ⟨"SubscriberLines$Server", "logsIn", "(LSubscriberLines$Session;LSubscriberLines$Packet;)Z"⟩ prog_8_method_10_code 4 (some .boolean) 2 45 K_sv_logsIn) (hl : Cond.methodLink own idx ⟨"SubscriberLines$Server", "logsIn", "(LSubscriberLines$Session;LSubscriberLines$Packet;)Z"⟩ ∈ al) (hR : 2 + 1 ≤ R.frames ∧ 8 + (4 + 11) + 45 ≤ R.locals) : rx_OK p l e R s m args below meth c cc nL ad (mx_W D g ad B s.heap) mx_cs (.invokevirtual idx) 3 3 (K_sv_logsIn) :=
  ox_callV (q := 7) (T := T_7) X hV (fun av x h => by obtain ⟨a0, a1, a2, rfl⟩ := k_RRR_inv h; exact ⟨a0, _, rfl, by have h2 : a0 = 66 := h.1; rw [h2]; rfl⟩) (by decide) rfl hl (al_at 537 (by decide +kernel) rfl) (al_pr (y := (⟨"SubscriberLines$Server", "logsIn", "(LSubscriberLines$Session;LSubscriberLines$Packet;)Z"⟩, _)) 17 rfl) (al_at 9 (by decide +kernel) rfl) (al_at 538 (by decide +kernel) rfl) ⟨by decide, by decide, by decide +kernel⟩ hR
theorem cv_sv_passToCore {p : Program} {l : Launch} {e : Env} {R : Room} {s : State} {m : MethodId} {args : Array Value} {below : List Frame} {meth : Method} {c : Code} {cc : ByteArray} {nL : Nat} {ad : Nat → Nat} {D : va_G} {g : Nat → ClassId} {B : Nat} {own : String} {idx : Nat} (X : ox_C p s m args c cc nL own D g ad B) (hV : rx_V l D g ad B ⟨"SubscriberLines$Server", "passToCore", "(LSubscriberLines$Session;LSubscriberLines$Packet;)V"⟩ prog_8_method_14_code 3 none 1 22 K_sv_passToCore) (hl : Cond.methodLink own idx ⟨"SubscriberLines$Server", "passToCore", "(LSubscriberLines$Session;LSubscriberLines$Packet;)V"⟩ ∈ al) (hR : 1 + 1 ≤ R.frames ∧ 8 + (3 + 11) + 22 ≤ R.locals) : rx_OK p l e R s m args below meth c cc nL ad (mx_W D g ad B s.heap) mx_cs (.invokevirtual idx) 3 3 (K_sv_passToCore) :=
  ox_callV (q := 7) (T := T_7) X hV (fun av x h => by obtain ⟨a0, a1, a2, rfl⟩ := k_RRR_inv h; exact ⟨a0, _, rfl, by have h2 : a0 = 66 := h.1; rw [h2]; rfl⟩) (by decide) rfl hl (al_at 566 (by decide +kernel) rfl) (al_pr (y := (⟨"SubscriberLines$Server", "passToCore", "(LSubscriberLines$Session;LSubscriberLines$Packet;)V"⟩, _)) 24 rfl) (al_at 9 (by decide +kernel) rfl) (al_at 567 (by decide +kernel) rfl) ⟨by decide, by decide, by decide +kernel⟩ hR
theorem ok_sv_receiveInSession : rx_okF prog_8_method_9_code 4 none L_sv_receiveInSession 0 L_sv_receiveInSession = true := by decide +kernel
theorem V_sv_receiveInSession {l : Launch} {D : va_G} {g : Nat → ClassId} {ad : Nat → Nat} {B : Nat} (had : mx_A ad B) : rx_V l D g ad B ⟨"SubscriberLines$Server", "receiveInSession", "(LSubscriberLines$Packet;)V"⟩ prog_8_method_9_code 4 none 4 93 K_sv_receiveInSession := by
  intro av x hp
  obtain ⟨a0, a1, rfl⟩ := k_RR_inv hp
  have hp : a0 = 66 ∧ mx_kl a1 = 2 ∧ sv_pool x.1 := hp
  have h0 : a0 = 66 := hp.1
  subst h0
  exact rx_met (k := 2) had (by decide) (Nat.le_of_ble_eq_true rfl) ok_sv_receiveInSession rfl rfl 68 (fun p e s m args below meth c X => And.intro (og_sv_113_g X) (And.intro (cv_sv_indexOf X (V_sv_indexOf had) (al_at 531 (by decide +kernel) rfl) ⟨by decide, by decide⟩) (And.intro (og_sv_13_g X) (And.intro (ox_as X) (And.intro (og_sv_135_p X) (And.intro (og_sv_82_g X) (And.intro (og_sv_61_g X) (And.intro (cv_sv_logsIn X (V_sv_logsIn had) (al_at 535 (by decide +kernel) rfl) ⟨by decide, by decide⟩) (And.intro (cv_sv_endSession X (V_sv_endSession had) (al_at 555 (by decide +kernel) rfl) ⟨by decide, by decide⟩) (And.intro (og_sv_82_g X) (And.intro (og_sv_61_g X) (And.intro (cv_sv_sendAccept X (V_sv_sendAccept had) (al_at 551 (by decide +kernel) rfl) ⟨by decide, by decide⟩) (And.intro (og_sv_82_g X) (And.intro (og_sv_61_g X) (And.intro (og_sv_61_p X) (And.intro (og_sv_82_g X) (And.intro (cv_sv_passToCore X (V_sv_passToCore had) (al_at 564 (by decide +kernel) rfl) ⟨by decide, by decide⟩) (trivial)))))))))))))))))) (S_sv_receiveInSession x.1 x.2 a1 hp.2.1 hp.2.2) (E_sv_receiveInSession x.1 x.2 a1)
def sv_receive (c : mx_C) (a1 : Nat) : mx_C :=
  if (c.1 a1 0) < 12 then
    let c1 := sv_receiveInSession c a1
    c1
  else
    if (c.1 a1 0) = 12 then
      if (c.1 74 3) < (c.1 a1 6) then
        let c2 := en_begin c 74 (c.1 a1 6)
        let c3 := mx_pc c2 0
        let q4 := en_isNext c3 74 a1
        if q4.2 = 0 then
          q4.1
        else
          let c5 := sv_perform q4.1 a1
          let c6 := en_acknowledge c5 74
          c6
      else
        let q7 := en_isNext c 74 a1
        if q7.2 = 0 then
          q7.1
        else
          let c8 := sv_perform q7.1 a1
          let c9 := en_acknowledge c8 74
          c9
    else
      let q10 := en_isNext c 74 a1
      if q10.2 = 0 then
        q10.1
      else
        let c11 := sv_perform q10.1 a1
        let c12 := en_acknowledge c11 74
        c12
def K_sv_receive : rx_K mx := k_RR (fun a0 a1 c m => (a0 = 66 ∧ mx_kl a1 = 2 ∧ sv_pool c, (sv_receive c a1, m), none))
def L_sv_receive : List (rx_E mx) := [
  (0, .aload_n 1, 1, 0, 1, 0, [], kno),
  (1, .getfield 82, 3, 7, 1, 0, [], kgi 2 0),
  (4, .bipush 12, 2, 0, 0, 12, [], kno),
  (6, .if_icmp .ge 9, 3, 2, 8, 0, [], kno),
  (9, .aload_n 0, 1, 0, 0, 0, [], kno),
  (10, .aload_n 1, 1, 0, 1, 0, [], kno),
  (11, .invokevirtual 85, 3, 7, 2, 0, [], K_sv_receiveInSession),
  (14, .return_, 1, 6, 0, 0, [], kno),
  (15, .aload_n 1, 1, 0, 1, 0, [], kno),
  (16, .getfield 82, 3, 7, 1, 0, [], kgi 2 0),
  (19, .bipush 12, 2, 0, 0, 12, [], kno),
  (21, .if_icmp .ne 33, 3, 2, 26, 0, [], kno),
  (24, .aload_n 1, 1, 0, 1, 0, [], kno),
  (25, .getfield 89, 3, 7, 1, 0, [], kgi 2 6),
  (28, .aload_n 0, 1, 0, 0, 0, [], kno),
  (29, .getfield 50, 3, 7, 1, 0, [], kgr0 7 2 74),
  (32, .getfield 92, 3, 7, 1, 0, [], kgi 8 3),
  (35, .if_icmp .le 19, 3, 2, 26, 0, [], kno),
  (38, .aload_n 0, 1, 0, 0, 0, [], kno),
  (39, .getfield 50, 3, 7, 1, 0, [], kgr0 7 2 74),
  (42, .aload_n 1, 1, 0, 1, 0, [], kno),
  (43, .getfield 89, 3, 7, 1, 0, [], kgi 2 6),
  (46, .invokevirtual 55, 3, 7, 2, 0, [], K_en_begin),
  (49, .aload_n 0, 1, 0, 0, 0, [], kno),
  (50, .iconst 0, 1, 0, 0, 0, [], kno),
  (51, .putfield 58, 3, 7, 2, 0, [], kps),
  (54, .aload_n 0, 1, 0, 0, 0, [], kno),
  (55, .getfield 50, 3, 7, 1, 0, [], kgr0 7 2 74),
  (58, .aload_n 1, 1, 0, 1, 0, [], kno),
  (59, .invokevirtual 95, 3, 7, 2, 0, [], K_en_isNext),
  (62, .ifCond .eq 15, 3, 2, 37, 0, [], kno),
  (65, .aload_n 0, 1, 0, 0, 0, [], kno),
  (66, .aload_n 1, 1, 0, 1, 0, [], kno),
  (67, .invokevirtual 99, 3, 7, 2, 0, [], K_sv_perform),
  (70, .aload_n 0, 1, 0, 0, 0, [], kno),
  (71, .getfield 50, 3, 7, 1, 0, [], kgr0 7 2 74),
  (74, .invokevirtual 102, 3, 7, 1, 0, [], K_en_acknowledge),
  (77, .return_, 1, 6, 0, 0, [], kno)]
theorem E_sv_receive (c : mx_C) (m : mx_M) (a1 : Nat)  : rx_ev L_sv_receive [] 40 L_sv_receive (c, m) [some (.ref 66), some (.ref a1)] [] = rw_v m (sv_receive c a1) :=
  rx_ite2 (f := rw_v m) (fun _ => rfl) (fun _ => rx_ite2 (f := rw_v m) (fun _ => rx_ite2 (f := rw_v m) (fun _ => rx_ite2 (f := rw_v m) (fun _ => rfl) (fun _ => rfl)) (fun _ => rx_ite2 (f := rw_v m) (fun _ => rfl) (fun _ => rfl))) (fun _ => rx_ite2 (f := rw_v m) (fun _ => rfl) (fun _ => rfl)))
theorem S_sv_receive (c : mx_C) (m : mx_M) (a1 : Nat) (ha1 : mx_kl a1 = 2) (hq : sv_pool c) : rx_sf L_sv_receive [] 40 L_sv_receive (c, m) [some (.ref 66), some (.ref a1)] [] :=
  And.intro ha1 (And.intro (fun h0 => And.intro (And.intro rfl (And.intro ha1 hq)) (trivial)) (fun h0 => And.intro ha1 (And.intro (fun h1 => And.intro ha1 (And.intro rfl (And.intro rfl (And.intro (fun h2 => And.intro rfl (And.intro ha1 (And.intro rfl (And.intro (And.intro rfl sc_z) (And.intro rfl (And.intro (And.intro rfl ha1) (And.intro (fun h3 => trivial) (fun h3 => And.intro (And.intro rfl ha1) (And.intro rfl (And.intro rfl (trivial))))))))))) (fun h2 => And.intro rfl (And.intro (And.intro rfl ha1) (And.intro (fun h3 => trivial) (fun h3 => And.intro (And.intro rfl ha1) (And.intro rfl (And.intro rfl (trivial))))))))))) (fun h1 => And.intro rfl (And.intro (And.intro rfl ha1) (And.intro (fun h2 => trivial) (fun h2 => And.intro (And.intro rfl ha1) (And.intro rfl (And.intro rfl (trivial))))))))))

theorem cv_sv_receiveInSession {p : Program} {l : Launch} {e : Env} {R : Room} {s : State} {m : MethodId} {args : Array Value} {below : List Frame} {meth : Method} {c : Code} {cc : ByteArray} {nL : Nat} {ad : Nat → Nat} {D : va_G} {g : Nat → ClassId} {B : Nat} {own : String} {idx : Nat} (X : ox_C p s m args c cc nL own D g ad B) (hV : rx_V l D g ad B ⟨"SubscriberLines$Server", "receiveInSession", "(LSubscriberLines$Packet;)V"⟩ prog_8_method_9_code 4 none 4 93 K_sv_receiveInSession) (hl : Cond.methodLink own idx ⟨"SubscriberLines$Server", "receiveInSession", "(LSubscriberLines$Packet;)V"⟩ ∈ al) (hR : 4 + 1 ≤ R.frames ∧ 8 + (4 + 11) + 93 ≤ R.locals) : rx_OK p l e R s m args below meth c cc nL ad (mx_W D g ad B s.heap) mx_cs (.invokevirtual idx) 3 2 (K_sv_receiveInSession) :=
  ox_callV (q := 7) (T := T_7) X hV (fun av x h => by obtain ⟨a0, a1, rfl⟩ := k_RR_inv h; exact ⟨a0, _, rfl, by have h2 : a0 = 66 := h.1; rw [h2]; rfl⟩) (by decide) rfl hl (al_at 529 (by decide +kernel) rfl) (al_pr (y := (⟨"SubscriberLines$Server", "receiveInSession", "(LSubscriberLines$Packet;)V"⟩, _)) 15 rfl) (al_at 9 (by decide +kernel) rfl) (al_at 530 (by decide +kernel) rfl) ⟨by decide, by decide, by decide +kernel⟩ hR
theorem og_sv_89_g {p : Program} {l : Launch} {e : Env} {R : Room} {s : State} {m : MethodId} {args : Array Value} {below : List Frame} {meth : Method} {c : Code} {cc : ByteArray} {nL : Nat} {ad : Nat → Nat} {D : va_G} {g : Nat → ClassId} {B : Nat} (X : ox_C p s m args c cc nL "SubscriberLines$Server" D g ad B) : rx_OK p l e R s m args below meth c cc nL ad (mx_W D g ad B s.heap) mx_cs (.getfield 89) 3 1 (kgi 2 6) := ox_gi (T := T_2) X rfl (by decide) (by decide) in_2 rfl (al_at 64 (by decide +kernel) rfl)
theorem og_sv_92_g {p : Program} {l : Launch} {e : Env} {R : Room} {s : State} {m : MethodId} {args : Array Value} {below : List Frame} {meth : Method} {c : Code} {cc : ByteArray} {nL : Nat} {ad : Nat → Nat} {D : va_G} {g : Nat → ClassId} {B : Nat} (X : ox_C p s m args c cc nL "SubscriberLines$Server" D g ad B) : rx_OK p l e R s m args below meth c cc nL ad (mx_W D g ad B s.heap) mx_cs (.getfield 92) 3 1 (kgi 8 3) := ox_gi (T := T_8) X rfl (by decide) (by decide) in_8 rfl (al_at 185 (by decide +kernel) rfl)
theorem cv_sv_perform {p : Program} {l : Launch} {e : Env} {R : Room} {s : State} {m : MethodId} {args : Array Value} {below : List Frame} {meth : Method} {c : Code} {cc : ByteArray} {nL : Nat} {ad : Nat → Nat} {D : va_G} {g : Nat → ClassId} {B : Nat} {own : String} {idx : Nat} (X : ox_C p s m args c cc nL own D g ad B) (hV : rx_V l D g ad B ⟨"SubscriberLines$Server", "perform", "(LSubscriberLines$Packet;)V"⟩ prog_8_method_7_code 3 none 4 92 K_sv_perform) (hl : Cond.methodLink own idx ⟨"SubscriberLines$Server", "perform", "(LSubscriberLines$Packet;)V"⟩ ∈ al) (hR : 4 + 1 ≤ R.frames ∧ 8 + (3 + 11) + 92 ≤ R.locals) : rx_OK p l e R s m args below meth c cc nL ad (mx_W D g ad B s.heap) mx_cs (.invokevirtual idx) 3 2 (K_sv_perform) :=
  ox_callV (q := 7) (T := T_7) X hV (fun av x h => by obtain ⟨a0, a1, rfl⟩ := k_RR_inv h; exact ⟨a0, _, rfl, by have h2 : a0 = 66 := h.1; rw [h2]; rfl⟩) (by decide) rfl hl (al_at 575 (by decide +kernel) rfl) (al_pr (y := (⟨"SubscriberLines$Server", "perform", "(LSubscriberLines$Packet;)V"⟩, _)) 25 rfl) (al_at 9 (by decide +kernel) rfl) (al_at 576 (by decide +kernel) rfl) ⟨by decide, by decide, by decide +kernel⟩ hR
theorem ok_sv_receive : rx_okF prog_8_method_5_code 2 none L_sv_receive 0 L_sv_receive = true := by decide +kernel
theorem V_sv_receive {l : Launch} {D : va_G} {g : Nat → ClassId} {ad : Nat → Nat} {B : Nat} (had : mx_A ad B) : rx_V l D g ad B ⟨"SubscriberLines$Server", "receive", "(LSubscriberLines$Packet;)V"⟩ prog_8_method_5_code 2 none 5 116 K_sv_receive := by
  intro av x hp
  obtain ⟨a0, a1, rfl⟩ := k_RR_inv hp
  have hp : a0 = 66 ∧ mx_kl a1 = 2 ∧ sv_pool x.1 := hp
  have h0 : a0 = 66 := hp.1
  subst h0
  exact rx_met (k := 0) had (by decide) (Nat.le_of_ble_eq_true rfl) ok_sv_receive rfl rfl 40 (fun p e s m args below meth c X => And.intro (og_sv_82_g X) (And.intro (cv_sv_receiveInSession X (V_sv_receiveInSession had) (al_at 527 (by decide +kernel) rfl) ⟨by decide, by decide⟩) (And.intro (og_sv_82_g X) (And.intro (og_sv_89_g X) (And.intro (og_sv_50_g X) (And.intro (og_sv_92_g X) (And.intro (og_sv_50_g X) (And.intro (og_sv_89_g X) (And.intro (cv_en_begin X (V_en_begin had) (al_at 435 (by decide +kernel) rfl) ⟨by decide, by decide⟩) (And.intro (og_sv_58_p X) (And.intro (og_sv_50_g X) (And.intro (cv_en_isNext X (V_en_isNext had) (al_at 572 (by decide +kernel) rfl) ⟨by decide, by decide⟩) (And.intro (cv_sv_perform X (V_sv_perform had) (al_at 573 (by decide +kernel) rfl) ⟨by decide, by decide⟩) (And.intro (og_sv_50_g X) (And.intro (cv_en_acknowledge X (V_en_acknowledge had) (al_at 585 (by decide +kernel) rfl) ⟨by decide, by decide⟩) (trivial)))))))))))))))) (S_sv_receive x.1 x.2 a1 hp.2.1 hp.2.2) (E_sv_receive x.1 x.2 a1)
def sv_runTimer_7 : Nat → mx_C → Int32 → Int32 → mx_C
  | 0, c, _, _ => c
  | n + 1, c, v1, v2 =>
    if 0 < v2 then
      let q1 := sv_endsAtTimer c v1
      if q1.2 = 0 then
        sv_runTimer_7 n q1.1 (v1 + 1) (v2 + (-1))
      else
        sv_runTimer_7 n q1.1 v1 (v2 + (-1))
    else
      let q2 := en_breaksAtTimer c 74
      if q2.2 = 0 then
        q2.1
      else
        let c3 := mx_pc q2.1 0
        c3
def sv_runTimer (c : mx_C)  : mx_C :=
  sv_runTimer_7 (6) c 0 (Int32.ofNat c.2.2.2.2.val)
def K_sv_runTimer : rx_K mx := k_R (fun a0 c m => (a0 = 66, (sv_runTimer c, m), none))
def L_sv_runTimer : List (rx_E mx) := [
  (0, .iconst 0, 1, 0, 0, 0, [], kno),
  (1, .istore_n 1, 1, 0, 1, 0, [], kno),
  (2, .aload_n 0, 1, 0, 0, 0, [], kno),
  (3, .getfield 58, 3, 7, 1, 0, [], kgs),
  (6, .istore_n 2, 1, 0, 2, 0, [], kno),
  (7, .iload_n 2, 1, 0, 2, 0, [], kno),
  (8, .ifCond .le 20, 3, 2, 14, 0, [], kno),
  (11, .aload_n 0, 1, 0, 0, 0, [], kno),
  (12, .iload_n 1, 1, 0, 1, 0, [], kno),
  (13, .invokevirtual 105, 3, 7, 2, 0, [], K_sv_endsAtTimer),
  (16, .ifCond .ne 6, 3, 2, 12, 0, [], kno),
  (19, .iinc 1 1, 3, 0, 1, 1, [], kno),
  (22, .iinc 2 (-1), 3, 0, 2, (-1), [], kno),
  (25, .goto (-18), 3, 1, 5, 0, [], kno),
  (28, .aload_n 0, 1, 0, 0, 0, [], kno),
  (29, .getfield 50, 3, 7, 1, 0, [], kgr0 7 2 74),
  (32, .invokevirtual 109, 3, 7, 1, 0, [], K_en_breaksAtTimer),
  (35, .ifCond .eq 8, 3, 2, 21, 0, [], kno),
  (38, .aload_n 0, 1, 0, 0, 0, [], kno),
  (39, .iconst 0, 1, 0, 0, 0, [], kno),
  (40, .putfield 58, 3, 7, 2, 0, [], kps),
  (43, .return_, 1, 6, 0, 0, [], kno)]
def G_sv_runTimer (n : Nat) : rx_G := fun x ls st =>
  match ls, st with
  | [some (.ref r0), some (.int v1), some (.int v2)], [] => (r0 = 66 ∧ sv_tP n v1 v2 x.1.2.2.2.2, rw_v x.2 (sv_runTimer_7 n x.1 v1 v2))
  | _, _ => (False, (x, none))
theorem GI_sv_runTimer {n : Nat} {x : mx} {ls : rx_L} {st : List Value} (h : (G_sv_runTimer n x ls st).1) : ∃ (r0 : Nat) (v1 : Int32) (v2 : Int32), ls = [some (.ref r0), some (.int v1), some (.int v2)] ∧ st = [] ∧ r0 = 66 ∧ sv_tP n v1 v2 x.1.2.2.2.2 := by
  unfold G_sv_runTimer at h
  split at h
  · exact ⟨_, _, _, rfl, rfl, h⟩
  · exact False.elim h
theorem EH_sv_runTimer (n : Nat) (c : mx_C) (m : mx_M) (v1 : Int32) (v2 : Int32) : rx_ev L_sv_runTimer [(7, G_sv_runTimer n)] 24 (L_sv_runTimer.drop 5) (c, m) [some (.ref 66), some (.int v1), some (.int v2)] [] = rw_v m (sv_runTimer_7 (n + 1) c v1 v2) :=
  rx_ite2 (f := rw_v m) (fun _ => rx_ite2 (f := rw_v m) (fun _ => rfl) (fun _ => rfl)) (fun _ => rx_ite2 (f := rw_v m) (fun _ => rfl) (fun _ => rfl))
theorem SH_sv_runTimer (n : Nat) (c : mx_C) (m : mx_M) (v1 : Int32) (v2 : Int32) (hP : sv_tP (n + 1) v1 v2 c.2.2.2.2) : rx_sf L_sv_runTimer [(7, G_sv_runTimer n)] 24 (L_sv_runTimer.drop 5) (c, m) [some (.ref 66), some (.int v1), some (.int v2)] [] :=
  And.intro (fun h0 => And.intro (And.intro rfl (sv_tP_at h0 hP)) (And.intro (fun h1 => And.intro rfl (sv_tP1 h0 h1 hP)) (fun h1 => And.intro rfl (sv_tP2 h0 h1 hP)))) (fun h0 => And.intro rfl (And.intro rfl (And.intro (fun h1 => trivial) (fun h1 => And.intro (And.intro rfl sc_z) (trivial)))))
theorem E_sv_runTimer (c : mx_C) (m : mx_M)   : rx_ev L_sv_runTimer [(7, G_sv_runTimer (6))] 24 L_sv_runTimer (c, m) [some (.ref 66), none, none] [] = rw_v m (sv_runTimer c) :=
  rfl
theorem S_sv_runTimer (c : mx_C) (m : mx_M)   : rx_sf L_sv_runTimer [(7, G_sv_runTimer (6))] 24 L_sv_runTimer (c, m) [some (.ref 66), none, none] [] :=
  And.intro rfl (And.intro rfl (sv_tP0 _))
theorem cv_sv_endsAtTimer {p : Program} {l : Launch} {e : Env} {R : Room} {s : State} {m : MethodId} {args : Array Value} {below : List Frame} {meth : Method} {c : Code} {cc : ByteArray} {nL : Nat} {ad : Nat → Nat} {D : va_G} {g : Nat → ClassId} {B : Nat} {own : String} {idx : Nat} (X : ox_C p s m args c cc nL own D g ad B) (hV : rx_V l D g ad B ⟨"SubscriberLines$Server", "endsAtTimer", "(I)Z"⟩ prog_8_method_15_code 3 (some .boolean) 4 93 K_sv_endsAtTimer) (hl : Cond.methodLink own idx ⟨"SubscriberLines$Server", "endsAtTimer", "(I)Z"⟩ ∈ al) (hR : 4 + 1 ≤ R.frames ∧ 8 + (3 + 11) + 93 ≤ R.locals) : rx_OK p l e R s m args below meth c cc nL ad (mx_W D g ad B s.heap) mx_cs (.invokevirtual idx) 3 2 (K_sv_endsAtTimer) :=
  ox_callV (q := 7) (T := T_7) X hV (fun av x h => by obtain ⟨a0, a1, rfl⟩ := k_RI_inv h; exact ⟨a0, _, rfl, by have h2 : a0 = 66 := h.1; rw [h2]; rfl⟩) (by decide) rfl hl (al_at 619 (by decide +kernel) rfl) (al_pr (y := (⟨"SubscriberLines$Server", "endsAtTimer", "(I)Z"⟩, _)) 30 rfl) (al_at 9 (by decide +kernel) rfl) (al_at 620 (by decide +kernel) rfl) ⟨by decide, by decide, by decide +kernel⟩ hR
theorem ok_sv_runTimer : rx_okF prog_8_method_6_code 3 none L_sv_runTimer 0 L_sv_runTimer = true := by decide +kernel
theorem O_sv_runTimer {l : Launch} {D : va_G} {g : Nat → ClassId} {ad : Nat → Nat} {B : Nat} (had : mx_A ad B) {p : Program} {e : Env} {s : State} {m : MethodId} {args : Array Value} {below : List Frame} {meth : Method} {c : Code} (X : ox_C p s m args c prog_8_method_6_code 3 "SubscriberLines$Server" D g ad B) : rx_ops p l e ({ frames := 5, cells := 0, slots := 0, locals := 115 } : Room) s m args below meth c prog_8_method_6_code 3 ad (mx_W D g ad B s.heap) mx_cs L_sv_runTimer :=
  And.intro (og_sv_58_g X) (And.intro (cv_sv_endsAtTimer X (V_sv_endsAtTimer had) (al_at 617 (by decide +kernel) rfl) ⟨by decide, by decide⟩) (And.intro (og_sv_50_g X) (And.intro (cv_en_breaksAtTimer X (V_en_breaksAtTimer had) (al_at 621 (by decide +kernel) rfl) ⟨by decide, by decide⟩) (And.intro (og_sv_58_p X) (trivial)))))
theorem V_sv_runTimer {l : Launch} {D : va_G} {g : Nat → ClassId} {ad : Nat → Nat} {B : Nat} (had : mx_A ad B) : rx_V l D g ad B ⟨"SubscriberLines$Server", "runTimer", "()V"⟩ prog_8_method_6_code 3 none 5 115 K_sv_runTimer := by
  intro av x hp
  obtain ⟨a0, rfl⟩ := k_R_inv hp
  have hp : a0 = 66 := hp
  have h0 : a0 = 66 := hp
  subst h0
  refine rx_metX (k := 2) had (by decide) (Nat.le_of_ble_eq_true rfl) fun p e s m args below meth c X hr hlk => ?_
  refine rx_walk X hr hlk ok_sv_runTimer (O_sv_runTimer had X) (cut := [(7, G_sv_runTimer (6))]) (rx_cc ?_ rx_c0) 24 0 rfl (S_sv_runTimer x.1 x.2  ) (E_sv_runTimer x.1 x.2  )
  refine rx_loop (G := G_sv_runTimer) X hr hlk ok_sv_runTimer (O_sv_runTimer had X) rx_c0 24 5 rfl (fun x ls st h => ?_) (fun n x ls st h => ?_) _
  · obtain ⟨r0, v1, v2, -, -, h3⟩ := GI_sv_runTimer h
    have h4 := h3.2
    omega
  · obtain ⟨r0, v1, v2, rfl, rfl, h3⟩ := GI_sv_runTimer h
    obtain ⟨rfl, hP⟩ := h3
    exact ⟨SH_sv_runTimer n x.1 x.2 v1 v2 hP, EH_sv_runTimer n x.1 x.2 v1 v2⟩
