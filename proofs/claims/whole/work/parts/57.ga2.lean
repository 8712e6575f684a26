/-- a packet of a subscriber: what changes and what not -/
theorem fromSub_g {m : mx_M} {D : Int} (h : gC m D) (hD : D < 2147483646) (hi : iE m 1397) (hcs : 0 ≤ (m.1 82 30).toInt ∧ (m.1 82 30).toInt < 2147483647) {t : Nat} (ht : t < 4) (k x y w : Int32) :
    gC (mo_fromSubscriber m (Int32.ofNat t) k x y w) (D + 1) ∧ (mo_fromSubscriber m (Int32.ofNat t) k x y w).2.2 = m.2.2 ∧ (m.1 82 30).toInt ≤ ((mo_fromSubscriber m (Int32.ofNat t) k x y w).1 82 30).toInt ∧ ((mo_fromSubscriber m (Int32.ofNat t) k x y w).1 82 30).toInt ≤ (m.1 82 30).toInt + 1 ∧
    (∀ i j, ¬ (i = 85 ∨ i = 96 ∨ i = 97 ∨ (i = 82 ∧ (j = 17 ∨ j = 28 ∨ j = 30)) ∨ (106 ≤ i ∧ i < 113 ∧ j = 0) ∨ 113 ≤ i) → (mo_fromSubscriber m (Int32.ofNat t) k x y w).1 i j = m.1 i j) := by
  have so (a b c d e f : Int32) : gC (mo_sendOff m a b c d e f) (D + 1) ∧ (mo_sendOff m a b c d e f).2.2 = m.2.2 ∧ (m.1 82 30).toInt ≤ ((mo_sendOff m a b c d e f).1 82 30).toInt ∧ ((mo_sendOff m a b c d e f).1 82 30).toInt ≤ (m.1 82 30).toInt + 1 ∧ (∀ i j, ¬ (i = 85 ∨ i = 96 ∨ i = 97 ∨ (i = 82 ∧ (j = 17 ∨ j = 28 ∨ j = 30)) ∨ (106 ≤ i ∧ i < 113 ∧ j = 0) ∨ 113 ≤ i) → (mo_sendOff m a b c d e f).1 i j = m.1 i j) := by
    refine ⟨gC_mono (gC_f h (funext fun j => so_o2 _ _ _ _ _ _ _ (by decide)) (funext fun j => so_o2 _ _ _ _ _ _ _ (by decide)) (so_o2 _ _ _ _ _ _ _ (by decide)) (so_o2 _ _ _ _ _ _ _ (by decide))) (by omega), by rw [mo_sendOff_eq, my_send_s], ?_, ?_, fun i j hij => so_o2 _ _ _ _ _ _ _ (by omega)⟩
    · rw [so_o2 _ _ _ _ _ _ _ (by decide)]; omega
    · rw [so_o2 _ _ _ _ _ _ _ (by decide)]; omega
  have idn : gC m (D + 1) ∧ m.2.2 = m.2.2 ∧ (m.1 82 30).toInt ≤ (m.1 82 30).toInt ∧ (m.1 82 30).toInt ≤ (m.1 82 30).toInt + 1 ∧ (∀ i j, ¬ (i = 85 ∨ i = 96 ∨ i = 97 ∨ (i = 82 ∧ (j = 17 ∨ j = 28 ∨ j = 30)) ∨ (106 ≤ i ∧ i < 113 ∧ j = 0) ∨ 113 ≤ i) → m.1 i j = m.1 i j) := ⟨gC_mono h (by omega), rfl, by omega, by omega, fun _ _ _ => rfl⟩
  have hi9 := iE_mono hi (show (1397 : Int) ≤ 1399 by decide)
  have ts : (mo_takeDown m (Int32.ofNat t)).2.2 = m.2.2 := by
    unfold mo_takeDown
    split
    · exact say_s (e := 0) (by decide) (rm_iE hi9 _ 0 0).1 _ _ _
    · rfl
  have td (i j : Nat) (hij : ¬ (i = 85 ∨ i = 96 ∨ i = 97 ∨ (i = 82 ∧ (j = 17 ∨ j = 28 ∨ j = 30)) ∨ (106 ≤ i ∧ i < 113 ∧ j = 0) ∨ 113 ≤ i)) : (mo_takeDown m (Int32.ofNat t)).1 i j = m.1 i j := by
    by_cases h8 : i = 108 ∨ i = 109 ∨ i = 111 ∨ i = 112
    · unfold mo_takeDown
      rw [of_cl t (by omega)]
      split
      · have := say_o (e := 0) (by decide) (rm_iE hi9 t 0 0).1 15 (m.1 97 t) 0 (i := i) (j := j) (by omega)
        refine Eq.trans this ?_
        rw [qi_ne (by omega), qi_ne (by omega)]
      · show (my_pi _ _ _ _).1 i j = _
        rw [qi_ne (by omega), qi_ne (by omega)]
    · exact td_o hi9 ht (by omega)
  unfold mo_fromSubscriber
  split
  · show gC (mo_join m (Int32.ofNat t)) _ ∧ _
    rw [mo_join_eq m ht hi]
    split
    · have c30 : (mo_takeDown m (Int32.ofNat t)).1 82 30 = m.1 82 30 := td_o hi9 ht (by omega)
      have hi2 : iE (mo_takeDown m (Int32.ofNat t)) 1398 := td_iE (by decide) hi ht
      obtain ⟨v1, v2, v3, v4, v5, v6, v7, v8, v9⟩ := jn_v hi2 (by rw [c30]; exact hcs) t
      rw [c30] at v6 v7
      exact ⟨gC_jn (gC_td h hi9 ht) (by omega) hi2 (by rw [c30]; exact hcs) ht, by rw [v8, ts], v6, v7, fun i j hij => by rw [v9 i j (by omega), td i j hij]⟩
    · have hi2 := iE_mono hi (show (1397 : Int) ≤ 1398 by decide)
      obtain ⟨v1, v2, v3, v4, v5, v6, v7, v8, v9⟩ := jn_v hi2 hcs t
      exact ⟨gC_jn h (by omega) hi2 hcs ht, v8, v6, v7, fun i j hij => v9 i j (by omega)⟩
  · split
    · exact idn
    · split
      · split
        · refine ⟨gC_mono (gC_td h hi9 ht) (by omega), ts, ?_, ?_, td⟩
          · show _ ≤ ((mo_takeDown m (Int32.ofNat t)).1 82 30).toInt
            rw [td_o hi9 ht (by omega)]; omega
          · show ((mo_takeDown m (Int32.ofNat t)).1 82 30).toInt ≤ _
            rw [td_o hi9 ht (by omega)]; omega
        · split
          · split
            · exact so _ _ _ _ _ _
            · split
              · exact so _ _ _ _ _ _
              · split
                · exact so _ _ _ _ _ _
                · split
                  · exact so _ _ _ _ _ _
                  · exact idn
          · exact idn
      · exact idn
theorem accDoes_g {m : mx_M} {D : Int} (h : gC m D) (hi : iE m 1399) (h6 : ¬ m.1 106 0 = 0) (kd x y : Int32) (hy : kd = 14 → 0 ≤ y.toInt) :
    gC (mo_accessDoes m kd x y) D ∧ (mo_accessDoes m kd x y).2.2 = m.2.2 ∧ (∀ i j, ¬ (i = 85 ∨ i = 96 ∨ i = 97 ∨ ((i = 108 ∨ i = 109 ∨ i = 111 ∨ i = 112) ∧ j = 0) ∨ 113 ≤ i) → (mo_accessDoes m kd x y).1 i j = m.1 i j) := by
  unfold mo_accessDoes
  rw [mo_co_eq h.1]
  split
  · rename_i h14
    rcases cof_cases (m.1 96) x with ⟨e, _⟩ | ⟨s, hs, e, e2, e3⟩
    · rw [e, if_pos neg1_lt]
      have o (i j : Nat) (hij : ¬ (i = 85 ∨ i = 96 ∨ i = 97 ∨ ((i = 108 ∨ i = 109 ∨ i = 111 ∨ i = 112) ∧ j = 0) ∨ 113 ≤ i)) : (mo_say m 0 15 y 0).1 i j = m.1 i j := say_o (e := 0) (by decide) hi.1 15 y 0 (by omega)
      have o2 (i : Nat) (hij : i = 96 ∨ i = 97) : (mo_say m 0 15 y 0).1 i = m.1 i := funext fun j => say_o (e := 0) (by decide) hi.1 15 y 0 (by omega)
      exact ⟨gC_f h (o2 96 (by omega)) (o2 97 (by omega)) (o 82 28 (by omega)) (o 106 0 (by omega)), say_s (e := 0) (by decide) hi.1 15 y 0, o⟩
    · rw [e, if_neg (of_nneg hs), of_cl s (by omega)]
      obtain ⟨⟨a1, a2⟩, b, c, d, ee⟩ := h
      refine ⟨⟨⟨fun s' hs' => ?_, fun p q hp hq hpq hn => ?_⟩, fun s' hs' => ?_, ?_, ?_, fun z => ?_⟩, rfl, fun i j hij => qi_ne (by omega)⟩
      · rw [qi_ne (by omega), qi_if]
        by_cases hss : s' = s
        · rw [if_pos ⟨rfl, hss⟩]
          exact ⟨(a1 s' hs').1, hy h14, fun z => by rw [hss, e2] at z; exact absurd z e3⟩
        · rw [if_neg (fun z => hss z.2)]; exact a1 s' hs'
      · rw [qi_ne (by omega)] at hpq hn
        rw [qi_ne (by omega)] at hpq
        exact a2 p q hp hq hpq hn
      · rw [qi_ne (by omega), qi_ne (by omega)]; exact b s' hs'
      · rw [qi_ne (by omega)]; exact c
      · rw [qi_ne (by omega)]; exact d
      · rw [qi_ne (by omega)] at z; exact absurd z h6
  · split
    · rcases cof_cases (m.1 96) x with ⟨e, _⟩ | ⟨s, hs, e, e2, e3⟩
      · rw [e, if_pos neg1_lt]; exact ⟨h, rfl, fun _ _ _ => rfl⟩
      · rw [e, if_neg (of_nneg hs), of_cl s (by omega)]
        dsimp only
        refine ⟨gC_rm h hs ?_ ?_ (fun i s' hi1 hs' => ?_) ?_ ?_, by rw [mo_sendOff_eq, my_send_s]; rfl, fun i j hij => ?_⟩
        · rw [so_o2 _ _ _ _ _ _ _ (by decide), qi_ne (by omega), qi_eq]
        · rw [so_o2 _ _ _ _ _ _ _ (by decide), qi_eq]
        · rw [so_o2 _ _ _ _ _ _ _ (by omega), qi_ne (by omega), qi_ne (by omega)]
        · rw [so_o2 _ _ _ _ _ _ _ (by decide), qi_ne (by omega), qi_ne (by omega)]
        · rw [so_o2 _ _ _ _ _ _ _ (by decide), qi_ne (by omega), qi_ne (by omega)]
        · rw [so_o2 _ _ _ _ _ _ _ (by omega), qi_ne (by omega), qi_ne (by omega)]
    · exact ⟨h, rfl, fun _ _ _ => rfl⟩
theorem c340_g {m : mx_M} {D : Int} (h : gC m D) (hi : iE m 1397) (kd x y ch n kn : Int32) (hz : ch = m.1 106 0 → ¬ m.1 106 0 = 0) (hy : kd = 14 → 0 ≤ y.toInt) (hk : ch = m.1 106 0 → kn.toInt ≤ (m.1 108 0).toInt ∨ (m.1 108 0).toInt = (m.1 109 0).toInt) :
    gC (mo_control_34 1 m 0 kd x y ch n kn) D ∧ (mo_control_34 1 m 0 kd x y ch n kn).2.2 = m.2.2 ∧ (∀ i j, ¬ (i = 85 ∨ i = 96 ∨ i = 97 ∨ (107 ≤ i ∧ i < 113 ∧ j = 0) ∨ 113 ≤ i) → (mo_control_34 1 m 0 kd x y ch n kn).1 i j = m.1 i j) := by
  rw [show mo_control_34 1 m 0 kd x y ch n kn = mo_control_34 1 m (Int32.ofNat 0) kd x y ch n kn from rfl, mo_c34_eq m (e := 0) (by decide)]
  by_cases hch : ch = m.1 106 0
  · rw [if_pos hch]
    have so := settle_f (e := 0) (by decide) hi kn
    have gi := settle_iE (e := 0) (by decide) (by decide) hi kn (hk hch)
    generalize hM : mo_settle m 0 kn = M at *
    have so2 := so.2
    have gM0 : gC M D := gC_f h (funext fun j => so2 96 j (by decide) (by omega)) (funext fun j => so2 97 j (by decide) (by omega)) (so2 82 28 (by decide) (by omega)) (so2 106 0 (by decide) (by omega))
    have trs (M' : mx_M) : (mo_transmit M' (Int32.ofNat 0) (-1)).2.2 = M'.2.2 := by rw [mo_transmit_eq _ 0 (by decide) _ (by decide), my_send_s]
    have tro (M' : mx_M) (i : Nat) (hi : ¬ i = 85) : (mo_transmit M' (Int32.ofNat 0) (-1)).1 i = M'.1 i := my_tr_o M' (by decide) _ (by decide) hi
    have fin (M' : mx_M) (h1 : gC M' D) (h2 : M'.2.2 = m.2.2) (h3 : ∀ i j, ¬ (i = 85 ∨ i = 96 ∨ i = 97 ∨ (107 ≤ i ∧ i < 113 ∧ j = 0) ∨ 113 ≤ i) → M'.1 i j = m.1 i j) : gC (mo_transmit M' (Int32.ofNat 0) (-1)) D ∧ (mo_transmit M' (Int32.ofNat 0) (-1)).2.2 = m.2.2 ∧ (∀ i j, ¬ (i = 85 ∨ i = 96 ∨ i = 97 ∨ (107 ≤ i ∧ i < 113 ∧ j = 0) ∨ 113 ≤ i) → (mo_transmit M' (Int32.ofNat 0) (-1)).1 i j = m.1 i j) :=
      ⟨gC_f h1 (tro M' 96 (by decide)) (tro M' 97 (by decide)) (by rw [tro M' 82 (by decide)]) (by rw [tro M' 106 (by decide)]), by rw [trs, h2], fun i j hij => by rw [tro M' i (by omega), h3 i j hij]⟩
    split
    · exact ⟨gM0, so.1, fun i j hij => so2 i j (by omega) (by omega)⟩
    · split
      · rw [if_pos rfl]
        have g2 : gC (my_pi M 110 0 (M.1 110 0 + 1)) D := gC_f gM0 (qi_row (by decide)) (qi_row (by decide)) (qi_ne (by omega)) (qi_ne (by omega))
        have hnz : ¬ (my_pi M 110 0 (M.1 110 0 + 1)).1 106 0 = 0 := by
          rw [qi_ne (by omega), so2 106 0 (by decide) (by omega)]; exact hz hch
        obtain ⟨a1, a2, a3⟩ := accDoes_g g2 (iE_mono (iE_w gi (by omega)) (by decide)) hnz kd x y hy
        exact fin _ a1 (a2.trans so.1) (fun i j hij => by rw [a3 i j (by omega), qi_ne (by omega), so2 i j (by omega) (by omega)])
      · exact fin M gM0 so.1 (fun i j hij => so2 i j (by omega) (by omega))
  · rw [if_neg hch]; exact ⟨h, rfl, fun _ _ _ => rfl⟩
/-! sessions -/
def gN (m : mx_M) (D : Int) : Prop := iNm m ∧ (∀ k : Nat, k < m.2.2.val → (m.1 98 k).toInt ≤ (m.1 82 29).toInt) ∧ 0 ≤ (m.1 82 29).toInt ∧ (m.1 82 29).toInt ≤ D
theorem gN_f {m m' : mx_M} {D : Int} (h : gN m D) (h8 : m'.1 98 = m.1 98) (h29 : m'.1 82 29 = m.1 82 29) (hs : m'.2.2 = m.2.2) : gN m' D := by
  obtain ⟨a, b, c, d⟩ := h
  unfold gN iNm
  rw [h8, h29, hs]
  exact ⟨a, b, c, d⟩
theorem gN_mono {m : mx_M} {D D' : Int} (h : gN m D) (hd : D ≤ D') : gN m D' := ⟨h.1, h.2.1, h.2.2.1, by have := h.2.2.2; omega⟩
theorem gN_rm {m : mx_M} {D : Int} (h : gN m D) {k : Nat} (hk : k < m.2.2.val) : gN (mo_endSession m (Int32.ofNat k)) D := by
  rw [mo_endS_eq m hk]
  obtain ⟨a, b, c, d⟩ := h
  have e98 (j : Nat) : (mo_rm m k).1 98 j = if k ≤ j ∧ j + 1 < m.2.2.val then m.1 98 (j + 1) else m.1 98 j := by
    show (if 98 ≤ 98 ∧ 98 < 103 ∧ k ≤ j ∧ j + 1 < m.2.2.val then m.1 98 (j + 1) else m.1 98 j) = _
    by_cases hz : k ≤ j ∧ j + 1 < m.2.2.val
    · rw [if_pos hz, if_pos ⟨by omega, by omega, hz.1, hz.2⟩]
    · rw [if_neg hz, if_neg (by omega)]
  have e29 : (mo_rm m k).1 82 29 = m.1 82 29 := by rw [rm_o (by omega)]
  refine ⟨fun i j hi hj hij => ?_, fun j hj => ?_, by rw [e29]; exact c, by rw [e29]; exact d⟩
  · rw [rm_cnt hk] at hi hj
    rw [e98, e98] at hij
    split at hij
    · split at hij
      · have := a (i + 1) (j + 1) (by omega) (by omega) hij; omega
      · have := a (i + 1) j (by omega) (by omega) hij; omega
    · split at hij
      · have := a i (j + 1) (by omega) (by omega) hij; omega
      · exact a i j (by omega) (by omega) hij
  · rw [rm_cnt hk] at hj
    rw [e98, e29]
    split
    · exact b (j + 1) (by omega)
    · exact b j (by omega)
theorem gN_0 {m : mx_M} {D : Int} (h : 0 ≤ (m.1 82 29).toInt ∧ (m.1 82 29).toInt ≤ D) (hs : m.2.2.val = 0) : gN m D := ⟨fun i j hi => by omega, fun k hk => by omega, h.1, h.2⟩
theorem srvDoes_g {m : mx_M} {D : Int} (h : gN m D) (hD : D < 2147483646) (hi : iE m 1399) (kd x : Int32) :
    gN (mo_serverDoes m kd x) (D + 1) ∧ (∀ i j, ¬ (i = 85 ∨ (98 ≤ i ∧ i < 103) ∨ (i = 82 ∧ j = 29) ∨ ((i = 108 ∨ i = 109 ∨ i = 111 ∨ i = 112) ∧ j = 1) ∨ 113 ≤ i) → (mo_serverDoes m kd x).1 i j = m.1 i j) := by
  have hb : m.2.2.val < 5 := m.2.2.isLt
  have idn : gN m (D + 1) ∧ (∀ i j, ¬ (i = 85 ∨ (98 ≤ i ∧ i < 103) ∨ (i = 82 ∧ j = 29) ∨ ((i = 108 ∨ i = 109 ∨ i = 111 ∨ i = 112) ∧ j = 1) ∨ 113 ≤ i) → m.1 i j = m.1 i j) := ⟨gN_mono h (by omega), fun _ _ _ => rfl⟩
  unfold mo_serverDoes
  by_cases h15 : kd = 15
  · subst h15
    rw [if_pos rfl]
    simp only [show ¬ (15 : Int32) = 13 by decide, if_false]
    rcases mo_ixx h.1 x with ⟨k, hk, _, e⟩ | e
    · rw [e, if_neg (of_nneg (by omega))]
      refine ⟨gN_mono (gN_rm h hk) (by omega), fun i j hij => ?_⟩
      rw [mo_endS_eq m hk, rm_o (by omega)]
    · rw [e, if_pos neg1_lt]; exact idn
  · rw [if_neg h15]
    split
    · rename_i h13
      split
      · have o (i j : Nat) (hij : ¬ (i = 85 ∨ 113 ≤ i ∨ ((i = 108 ∨ i = 109 ∨ i = 111 ∨ i = 112) ∧ j = 1))) : (mo_say m 1 15 x 0).1 i j = m.1 i j := say_o (e := 1) (by decide) hi.2 15 x 0 (by omega)
        exact ⟨gN_mono (gN_f h (funext fun j => o 98 j (by omega)) (o 82 29 (by omega)) (say_s (e := 1) (by decide) hi.2 15 x 0)) (by omega), fun i j hij => o i j (by omega)⟩
      · rename_i h4
        have h4' : ¬ m.2.2.val = 4 := fun z => h4 (by rw [z]; rfl)
        have e1 : Int32.ofNat m.2.2.val + 1 = Int32.ofNat (m.2.2.val + 1) := of_add _ 1
        simp only [show ∀ (q : mx_M) i k v, (my_pi q i k v).2 = q.2 from fun _ _ _ _ => rfl, of_cl m.2.2.val (show m.2.2.val < 2147483648 by omega), e1, qi_eq]
        obtain ⟨a, b, c, d⟩ := h
        have p1 : (m.1 82 29 + 1).toInt = (m.1 82 29).toInt + 1 := i_p1 (by omega)
        generalize hM : my_ps (my_pi (my_pi (my_pi (my_pi (my_pi (my_pi m 82 29 (m.1 82 29 + 1)) 98 m.2.2.val (m.1 82 29 + 1)) 99 m.2.2.val x) 100 m.2.2.val 1) 101 m.2.2.val 0) 102 m.2.2.val 0) (Int32.ofNat (m.2.2.val + 1)) = M
        have Mo (i j : Nat) : M.1 i j = (my_pi (my_pi (my_pi (my_pi (my_pi (my_pi m 82 29 (m.1 82 29 + 1)) 98 m.2.2.val (m.1 82 29 + 1)) 99 m.2.2.val x) 100 m.2.2.val 1) 101 m.2.2.val 0) 102 m.2.2.val 0).1 i j := by rw [← hM]; rfl
        have Mc : M.2.2.val = m.2.2.val + 1 := by
          rw [← hM]
          show (Fin.ofNat 5 (Int32.ofNat (m.2.2.val + 1)).toNatClampNeg).val = _
          rw [of_cl _ (by omega)]
          simp [Fin.ofNat]; omega
        have M98 (j : Nat) : M.1 98 j = if j = m.2.2.val then m.1 82 29 + 1 else m.1 98 j := by
          rw [Mo, qi_ne (by omega), qi_ne (by omega), qi_ne (by omega), qi_ne (by omega), qi_if]
          by_cases hj : j = m.2.2.val
          · rw [if_pos ⟨rfl, hj⟩, if_pos hj]
          · rw [if_neg (fun z => hj z.2), if_neg hj, qi_ne (by omega)]
        have M29 : M.1 82 29 = m.1 82 29 + 1 := by rw [Mo, qi_ne (by omega), qi_ne (by omega), qi_ne (by omega), qi_ne (by omega), qi_ne (by omega), qi_eq]
        have Mx (i j : Nat) (hij : ¬ ((98 ≤ i ∧ i < 103) ∨ (i = 82 ∧ j = 29))) : M.1 i j = m.1 i j := by rw [Mo, qi_ne (by omega), qi_ne (by omega), qi_ne (by omega), qi_ne (by omega), qi_ne (by omega), qi_ne (by omega)]
        have hiM : iE M 1399 := iE_f hi (fun i h1 h2 => funext fun j => Mx i j (by omega))
        have o (i j : Nat) (hij : ¬ (i = 85 ∨ 113 ≤ i ∨ ((i = 108 ∨ i = 109 ∨ i = 111 ∨ i = 112) ∧ j = 1))) : (mo_say M 1 14 x (M.1 82 29)).1 i j = M.1 i j := say_o (e := 1) (by decide) hiM.2 14 x _ (by omega)
        have gM1 : gN M (D + 1) := by
          refine ⟨fun i j hi1 hj1 hij => ?_, fun k hk => ?_, by rw [M29, p1]; omega, by rw [M29, p1]; omega⟩
          · rw [Mc] at hi1 hj1
            rw [M98, M98] at hij
            split at hij
            · split at hij
              · omega
              · have := b j (by omega)
                rw [← hij, p1] at this; omega
            · split at hij
              · have := b i (by omega)
                rw [hij, p1] at this; omega
              · exact a i j (by omega) (by omega) hij
          · rw [Mc] at hk
            rw [M98, M29, p1]
            split
            · rw [p1]; omega
            · have := b k (by omega); omega
        exact ⟨gN_f gM1 (funext fun j => o 98 j (by omega)) (o 82 29 (by omega)) (say_s (e := 1) (by decide) hiM.2 14 x _), fun i j hij => by rw [o i j (by omega), Mx i j (by omega)]⟩
    · exact idn
