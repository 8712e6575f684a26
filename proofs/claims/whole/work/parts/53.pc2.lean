theorem ok13 : okd 13 := ⟨by decide, by decide⟩
theorem ok14 : okd 14 := ⟨by decide, by decide⟩
theorem ok15 : okd 15 := ⟨by decide, by decide⟩
theorem ok16 : okd 16 := ⟨by decide, by decide⟩
theorem PC_w {m : mx_M} {L : Nat} {H : vH} {dl : Bool} {lam a s a' s' : Int} (h : PC m L H dl lam a s a' s') {i k : Nat} {v : Int32} (hi : ¬ (i = 85 ∨ (106 ≤ i ∧ i < 111) ∨ i = 113 ∨ (i = 82 ∧ k = 30))) : PC (my_pi m i k v) L H dl lam a s a' s' :=
  PC_f h (qi_row (by omega)) rfl (qi_ne (by omega)) (qi_row (by omega)) (qi_row (by omega)) (qi_row (by omega)) (qi_row (by omega)) (qi_row (by omega)) (qi_row (by omega))
theorem PC_settle {m : mx_M} {L : Nat} {H : vH} {dl : Bool} {lam a s a' s' : Int} (h : PC m L H dl lam a s a' s') {e : Nat} (he : e < 2) (hi : iE m 1400) (hch : ¬ vch m e = 0) (v : Int32) (hv : v.toInt ≤ s') (hk : v.toInt ≤ vsn m e ∨ vsn m e = vpt m e)
    (h1 : e = 1 → 1 ≤ v.toInt → dl = true ∧ (vch m 0 = vch m 1 → 1 ≤ vak m 0)) : PC (mo_settle m e v) L H dl lam a s a' s' := by
  unfold mo_settle
  by_cases h7 : m.1 107 e < v
  · rw [if_pos h7, mo_sendOpen_0eq]
    rw [i_lt] at h7
    obtain ⟨i1, i2, i3, i4, i5⟩ := iE_get hi he
    have vve := vv m e
    generalize hK : (if v < m.1 109 e then v else m.1 109 e) = K
    have K1 : K.toInt = min v.toInt (vpt m e) := by
      rw [← hK]
      split <;> rename_i z <;> rw [i_lt] at z <;> omega
    have g1 := PC_raise h he (v := K) (by omega) (by omega) (fun z1 z2 => h1 z1 (by omega)) (by omega)
    have g2 := PC_w (PC_w g1 (i := 111) (k := e) (v := 0) (by omega)) (i := 112) (k := e) (v := 2) (by omega)
    have q7 : (my_pi (my_pi (my_pi m 107 e K) 111 e 0) 112 e 2).1 107 e = K := by rw [qi_ne (by omega), qi_ne (by omega), qi_eq]
    have q8 : (my_pi (my_pi (my_pi m 107 e K) 111 e 0) 112 e 2).1 108 e = m.1 108 e := by rw [qi_ne (by omega), qi_ne (by omega), qi_ne (by omega)]
    have q9 : (my_pi (my_pi (my_pi m 107 e K) 111 e 0) 112 e 2).1 109 e = m.1 109 e := by rw [qi_ne (by omega), qi_ne (by omega), qi_ne (by omega)]
    have q6 : (my_pi (my_pi (my_pi m 107 e K) 111 e 0) 112 e 2).1 106 e = m.1 106 e := by rw [qi_ne (by omega), qi_ne (by omega), qi_ne (by omega)]
    refine (so_ind (fun M => PC M L H dl lam a s a' s' ∧ M.1 106 e = m.1 106 e ∧ M.1 107 e = K ∧ M.1 109 e = m.1 109 e ∧ K.toInt ≤ (M.1 108 e).toInt) he ?_ 1403 _ ⟨g2, q6, q7, q9, by rw [q8]; omega⟩).1
    intro M ⟨u1, u2, u3, u4, u5⟩ w1 w2
    rw [i_lt, u4] at w1
    rw [i_lt, u3, i_p3 (by omega)] at w2
    have hn : (M.1 108 e).toInt < 1400 := by omega
    have tr (i : Nat) (hi : ¬ i = 85) : (mo_transmit M (Int32.ofNat e) (M.1 108 e)).1 i = M.1 i := my_tr_o M he _ hn hi
    have p1 : (M.1 108 e + 1).toInt = (M.1 108 e).toInt + 1 := i_p1 (by omega)
    rw [tr 108 (by decide)]
    refine ⟨?_, by rw [qi_ne (by omega), tr 106 (by decide), u2], by rw [qi_ne (by omega), tr 107 (by decide), u3], by rw [qi_ne (by omega), tr 109 (by decide), u4], by rw [qi_eq, p1]; omega⟩
    have vM := vv M e
    refine PC_step u1 he ?_ (n := (M.1 108 e).toInt.toNat) (of_nn (by omega)) ?_ ?_ ?_ ?_ ?_
    · rw [vM.1, u2]; exact hch
    · rw [vM.2.1, u3]; omega
    · rw [vM.2.2.2.1, u4]; omega
    · rw [vM.2.2.2.1, u4]; omega
    · rw [vM.2.1, u3]; omega
    · intro _ _ hz
      omega
  · rw [if_neg h7]; exact h
theorem PC_et0 {m : mx_M} {L : Nat} {H : vH} {lam a s a' s' : Int} (h : PC m L H false lam a s a' s') {e : Nat} (he : e < 2) (hi : iE m 1400) : PC (mo_et0 m e) L H false lam a s a' s' := by
  obtain ⟨i1, i2, i3, i4, i5⟩ := iE_get hi he
  unfold mo_et0
  split
  · exact h
  · rename_i hne
    have hne' : ¬ (m.1 109 e).toInt = (m.1 107 e).toInt := fun z => hne (i_eq.2 z)
    split
    · exact PC_w h (by omega)
    · have hch : ¬ vch m e = 0 := by
        intro z
        have := i5 (i_eq.2 z)
        omega
      have g := PC_w (PC_w (PC_w h (i := 112) (k := e) (v := m.1 112 e - 1) (by omega)) (i := 111) (k := e) (v := m.1 111 e + 1) (by omega)) (i := 112) (k := e) (v := 2 <<< ((m.1 111 e + 1) &&& 31)) (by omega)
      generalize hM : my_pi (my_pi (my_pi m 112 e (m.1 112 e - 1)) 111 e (m.1 111 e + 1)) 112 e (2 <<< ((m.1 111 e + 1) &&& 31)) = M at g
      have o (i : Nat) (hi : ¬ (i = 111 ∨ i = 112)) : M.1 i = m.1 i := by rw [← hM, qi_row (by omega), qi_row (by omega), qi_row (by omega)]
      have e7 : m.1 107 e = Int32.ofNat (m.1 107 e).toInt.toNat := of_nn i1
      have vM := vv M e
      rw [o 106 (by decide), o 107 (by decide), o 108 (by decide), o 109 (by decide)] at vM
      have vve := vv m e
      have := PC_out g he (n := (m.1 107 e).toInt.toNat) (by omega) (by omega) (by omega) (by omega) (by omega) (by omega) (fun z => absurd z nft)
      rw [← e7] at this
      exact this
/-! the tables of the access node's and the server's doings -/
theorem PC_accDoes {m : mx_M} {L : Nat} {H : vH} {dl : Bool} {lam a s a' s' : Int} (h : PC m L H dl lam a s a' s') (hi : iE m 1399) (kd x y : Int32) : PC (mo_accessDoes m kd x y) L H dl lam a s a' s' := by
  unfold mo_accessDoes
  split
  · split
    · exact PC_say h (e := 0) (by decide) hi ok15 _ _
    · exact PC_w h (by omega)
  · split
    · split
      · exact h
      · show PC (mo_sendOff _ _ _ _ _ _ _) _ _ _ _ _ _ _ _
        rw [mo_sendOff_eq]
        exact PC_send0 (PC_w (PC_w h (by omega)) (by omega)) _ (by show (3 : Int32) < 12; decide)
    · exact h
theorem PC_rm {m : mx_M} {L : Nat} {H : vH} {dl : Bool} {lam a s a' s' : Int} (h : PC m L H dl lam a s a' s') {k : Nat} (hk : k < m.2.2.val) : PC (mo_endSession m (Int32.ofNat k)) L H dl lam a s a' s' := by
  rw [mo_endS_eq m hk]
  exact PC_f h (rm_o (by omega)) rfl (by rw [rm_o (by omega)]) (rm_o (by omega)) (rm_o (by omega)) (rm_o (by omega)) (rm_o (by omega)) (rm_o (by omega)) (rm_o (by omega))
theorem PC_ps {m : mx_M} {L : Nat} {H : vH} {dl : Bool} {lam a s a' s' : Int} (h : PC m L H dl lam a s a' s') (v : Int32) : PC (my_ps m v) L H dl lam a s a' s' := PC_f h rfl rfl rfl rfl rfl rfl rfl rfl rfl
theorem PC_srvDoes {m : mx_M} {L : Nat} {H : vH} {dl : Bool} {lam a s a' s' : Int} (h : PC m L H dl lam a s a' s') (hi : iE m 1399) (hn : iNm m) (kd x : Int32) : PC (mo_serverDoes m kd x) L H dl lam a s a' s' := by
  have hb : m.2.2.val < 5 := m.2.2.isLt
  unfold mo_serverDoes
  by_cases h15 : kd = 15
  · subst h15
    rw [if_pos rfl]
    simp only [show ¬ (15 : Int32) = 13 by decide, if_false]
    rcases mo_ixx hn x with ⟨k, hk, _, e⟩ | e
    · rw [e, if_neg (of_nneg (by omega))]; exact PC_rm h hk
    · rw [e, if_pos neg1_lt]; exact h
  · rw [if_neg h15]
    split
    · split
      · exact PC_say h (e := 1) (by decide) hi ok15 _ _
      · refine PC_say (e := 1) ?_ (by decide) ?_ ok14 _ _
        · exact PC_ps (PC_w (PC_w (PC_w (PC_w (PC_w (PC_w h (by omega)) (by omega)) (by omega)) (by omega)) (by omega)) (by omega)) _
        · refine iE_f hi (fun i h1 h2 => ?_)
          show (my_pi _ _ _ _).1 i = _
          rw [qi_row (by omega), qi_row (by omega), qi_row (by omega), qi_row (by omega), qi_row (by omega), qi_row (by omega)]
    · exact h
/-- the access node's end with a packet of the server in hand -/
theorem PC_ctl0 {m : mx_M} {L : Nat} {kd fr to : Int32} {lam a s a' s' : Int} {ch n kn x y : Int32} (h : PC m L (some (kd, fr, to, ch.toInt, n.toInt, kn.toInt)) true lam a s a' s') (hi : iE m 1397) (hk : ¬ kd < 12) (hto : to = 4) (hsa : s + 3 ≤ a') (has : a ≤ s') (hs : 0 ≤ s') (hb : a' < 2147483647) :
    PC (mo_control_34 1 m 0 kd x y ch n kn) L (some (kd, fr, to, ch.toInt, n.toInt, kn.toInt)) true lam a s a' s' := by
  have hh := h
  obtain ⟨⟨⟨b1, b2, b3, b4, b5, b6⟩, E2, E3, E4, E5, E6, E7⟩, p2, p3, p4, p5, p6⟩ := hh
  obtain ⟨d1, d2, d3, d4, d5, d6, d7, d8, d9, d10, d11⟩ := p2.2 _ _ _ _ _ _ rfl hk
  have hfr : fr = 5 := by
    rcases d1 with z | z
    · exact absurd (hto.symm.trans z.2) n45
    · exact z.1
  have e := mo_c34_eq m (e := 0) (by decide) kd x y ch n kn
  rw [show mo_control_34 1 m 0 kd x y ch n kn = mo_control_34 1 m (Int32.ofNat 0) kd x y ch n kn from rfl, e]
  by_cases hc : ch = m.1 106 0
  · rw [if_pos hc]
    have hcv : ch.toInt = vch m 0 := by rw [hc]
    have hch : ¬ vch m 0 = 0 := by omega
    have hks : kn.toInt ≤ vsn m 0 ∨ vsn m 0 = vpt m 0 := Or.inl (d6 hfr hcv)
    have g := PC_settle h (e := 0) (by decide) (iE_mono hi (by decide)) hch kn (by have := (d9 rfl).2; omega) hks (fun z => absurd z (by decide))
    have gi := settle_iE (e := 0) (by decide) (by decide) hi kn hks
    have so := (settle_o (e := 0) (by decide) (show (m.1 109 0).toInt ≤ 1400 by have := hi.1.2.2.1; omega) kn).2
    have sc := settle_c (e := 0) (by decide) (iE_mono hi (by decide)).1 kn hks
    generalize hM : mo_settle m 0 kn = M at *
    have m6 : vch M 0 = vch m 0 := by show (M.1 106 0).toInt = _; rw [so 106 0 (by decide) (by omega)]
    have m10 : M.1 110 0 = m.1 110 0 := so 110 0 (by decide) (by omega)
    have m9 : M.1 109 0 = m.1 109 0 := so 109 0 (by decide) (by omega)
    split
    · exact g
    · rename_i h17
      split
      · rename_i hn
        have vvM := vv M 0
        have vvm := vv m 0
        have pt1 := (E4 hch).1
        have kn1 := d4 hfr
        have g2 := PC_exp0 g hk h17 hfr (by rw [m6]; exact hcv) (by show n.toInt = (M.1 110 0).toInt; rw [hn]) (by omega) hsa hb
        rw [if_pos rfl]
        have i2 : iE (my_pi M 110 0 (M.1 110 0 + 1)) 1397 := iE_f gi (fun i h1 h2 => qi_row (by omega))
        have g3 := PC_accDoes g2 (iE_mono i2 (by decide)) kd x y
        refine PC_ack g3 (e := 0) (by decide) ?_ hs
        have : vch (mo_accessDoes (my_pi M 110 0 (M.1 110 0 + 1)) kd x y) 0 = vch M 0 := by
          show ((mo_accessDoes _ kd x y).1 106 0).toInt = _
          congr 1
          unfold mo_accessDoes
          split
          · split
            · have := say_o (e := 0) (by decide) (iE_mono i2 (show (1397 : Int) ≤ 1399 by decide)).1 15 y 0 (i := 106) (j := 0) (by omega)
              show (mo_say _ (Int32.ofNat 0) _ _ _).1 106 0 = _
              rw [this, qi_ne (by omega)]
            · show (my_pi _ _ _ _).1 106 0 = _
              rw [qi_ne (by omega), qi_ne (by omega)]
          · split
            · split
              · rw [qi_ne (by omega)]
              · show (mo_sendOff _ _ _ _ _ _ _).1 106 0 = _
                rw [mo_sendOff_eq, my_send_o _ _ (by decide), qi_ne (by omega), qi_ne (by omega), qi_ne (by omega)]
            · rw [qi_ne (by omega)]
        rw [this, m6]; exact hch
      · exact PC_ack g (e := 0) (by decide) (by rw [m6]; exact hch) hs
  · rw [if_neg hc]; exact h
theorem srvDoes_o {m : mx_M} (hi : iE m 1399) (hn : iNm m) (kd x : Int32) : (mo_serverDoes m kd x).1 106 1 = m.1 106 1 := by
  have hb : m.2.2.val < 5 := m.2.2.isLt
  unfold mo_serverDoes
  by_cases h15 : kd = 15
  · subst h15
    rw [if_pos rfl]
    simp only [show ¬ (15 : Int32) = 13 by decide, if_false]
    rcases mo_ixx hn x with ⟨k, hk, _, e⟩ | e
    · rw [e, if_neg (of_nneg (by omega)), mo_endS_eq m hk, rm_o (by omega)]
    · rw [e, if_pos neg1_lt]
  · rw [if_neg h15]
    split
    · split
      · exact say_o (e := 1) (by decide) hi.2 15 x 0 (by omega)
      · refine (say_o (e := 1) (by decide) ?_ 14 x _ (by omega)).trans ?_
        · refine (iE_f hi (fun i h1 h2 => ?_)).2
          show (my_pi _ _ _ _).1 i = _
          rw [qi_row (by omega), qi_row (by omega), qi_row (by omega), qi_row (by omega), qi_row (by omega), qi_row (by omega)]
        · show (my_pi _ _ _ _).1 106 1 = _
          rw [qi_ne (by omega), qi_ne (by omega), qi_ne (by omega), qi_ne (by omega), qi_ne (by omega), qi_ne (by omega)]
    · rfl
/-- the known of a packet of the access node at the server -/
theorem ks1 {m : mx_M} (hi : iE m 1400) {kn : Int} (h : kn ≤ max 3 (vsn m 1)) : kn ≤ vsn m 1 ∨ vsn m 1 = vpt m 1 := by
  obtain ⟨i1, i2, i3, i4, i5⟩ := hi.2
  have := vv m 1
  omega
theorem PC_ctl1 {m : mx_M} {L : Nat} {kd fr to : Int32} {lam a s a' s' : Int} {ch n kn x y : Int32} (h : PC m L (some (kd, fr, to, ch.toInt, n.toInt, kn.toInt)) true lam a s a' s') (hi : iE m 1397) (hnm : iNm m) (hk : ¬ kd < 12) (hto : to = 5) (hsa : s + 3 ≤ a') (has : a ≤ s') (hs : 0 ≤ s') (hb : a' < 2147483647) :
    PC (mo_control_34 1 m 1 kd x y ch n kn) L (some (kd, fr, to, ch.toInt, n.toInt, kn.toInt)) true lam a s a' s' := by
  have hh := h
  obtain ⟨⟨⟨b1, b2, b3, b4, b5, b6⟩, E2, E3, E4, E5, E6, E7⟩, p2, p3, p4, p5, p6⟩ := hh
  obtain ⟨d1, d2, d3, d4, d5, d6, d7, d8, d9, d10, d11⟩ := p2.2 _ _ _ _ _ _ rfl hk
  have hfr : fr = 4 := by
    rcases d1 with z | z
    · exact z.1
    · exact absurd (hto.symm.trans z.2) n54
  have e := mo_c34_eq m (e := 1) (by decide) kd x y ch n kn
  rw [show mo_control_34 1 m 1 kd x y ch n kn = mo_control_34 1 m (Int32.ofNat 1) kd x y ch n kn from rfl, e]
  by_cases hc : ch = m.1 106 1
  · rw [if_pos hc]
    have hcv : ch.toInt = vch m 1 := by rw [hc]
    have hch : ¬ vch m 1 = 0 := by omega
    have hks : kn.toInt ≤ vsn m 1 ∨ vsn m 1 = vpt m 1 := ks1 (iE_mono hi (by decide)) (d7 hfr hcv)
    have g := PC_settle h (e := 1) (by decide) (iE_mono hi (by decide)) hch kn (by have := (d9 rfl).2; omega) hks (fun _ z => ⟨rfl, fun q => (d5 hfr (by omega)).2 z⟩)
    have gi := settle_iE (e := 1) (by decide) (by decide) hi kn hks
    have so := settle_o (e := 1) (by decide) (show (m.1 109 1).toInt ≤ 1400 by have := hi.2.2.2.1; omega) kn
    generalize hM : mo_settle m 1 kn = M at *
    have m6 : vch M 1 = vch m 1 := by show (M.1 106 1).toInt = _; rw [so.2 106 1 (by decide) (by omega)]
    split
    · exact g
    · rename_i h17
      split
      · rename_i hn
        have g2 := PC_exp1 g hk h17 hfr (by rw [m6]; exact hcv) (by show n.toInt = (M.1 110 1).toInt; rw [hn]) hsa hb
        rw [if_neg (by decide)]
        have i2 : iE (my_pi M 110 1 (M.1 110 1 + 1)) 1397 := iE_f gi (fun i h1 h2 => qi_row (by omega))
        have nn : iNm (my_pi M 110 1 (M.1 110 1 + 1)) := by
          intro i j hi1 hj1
          rw [qi_ne (by omega), qi_ne (by omega), so.2 98 i (by decide) (by omega), so.2 98 j (by decide) (by omega)]
          have e22 : (my_pi M 110 1 (M.1 110 1 + 1)).2.2 = m.2.2 := so.1
          rw [e22] at hi1 hj1
          exact hnm i j hi1 hj1
        have g3 := PC_srvDoes g2 (iE_mono i2 (by decide)) nn kd x
        refine PC_ack g3 (e := 1) (by decide) ?_ hs
        have : vch (mo_serverDoes (my_pi M 110 1 (M.1 110 1 + 1)) kd x) 1 = vch M 1 := by
          show ((mo_serverDoes _ kd x).1 106 1).toInt = _
          rw [srvDoes_o (iE_mono i2 (by decide)) nn, qi_ne (by omega)]
        rw [this, m6]; exact hch
      · exact PC_ack g (e := 1) (by decide) (by rw [m6]; exact hch) hs
  · rw [if_neg hc]; exact h
theorem settle_none {m : mx_M} {e : Nat} (he : e < 2) (h8 : m.1 108 e = 0) (h9 : m.1 109 e = 0) (h7 : m.1 107 e = 0) (v : Int32) (hv : 0 ≤ v.toInt) : (mo_settle m e v).2 = m.2 ∧ ∀ i j, ¬ ((i = 111 ∨ i = 112) ∧ j = e) → (mo_settle m e v).1 i j = m.1 i j := by
  unfold mo_settle
  split
  · have ee : (Int32.ofNat e).toNatClampNeg = e := of_cl e (by omega)
    have hK : (if v < m.1 109 e then v else m.1 109 e) = 0 := by
      rw [h9, if_neg (by rw [i_lt, show (0 : Int32).toInt = 0 from rfl]; omega)]
    rw [hK, mo_sendOpen_0eq, so0_stop]
    · refine ⟨rfl, fun i j hij => ?_⟩
      rw [qi_ne (by omega), qi_ne (by omega)]
      by_cases hz : i = 107 ∧ j = e
      · rw [hz.1, hz.2, qi_eq, h7]
      · exact qi_ne hz
    · rw [ee, qi_ne (by omega), qi_ne (by omega), qi_ne (by omega), qi_ne (by omega), qi_ne (by omega), qi_ne (by omega), h8, h9]
      intro z
      exact absurd z.1 (by decide)
  · exact ⟨rfl, fun _ _ _ => rfl⟩
theorem PC_ctl1o {m : mx_M} {L : Nat} {fr to : Int32} {lam a s a' s' : Int} {ch n kn x y : Int32} (h : PC m L (some (12, fr, to, ch.toInt, n.toInt, kn.toInt)) true lam a s a' s') (hi : iE m 1397) (hgt : m.1 106 1 < ch) (hs : 0 ≤ s') (ha : 1 ≤ a') :
    PC (mo_control_34 1 (mo_clear (my_ps m 0) 1 ch) 1 12 x y ch n kn) L (some (12, fr, to, ch.toInt, n.toInt, kn.toInt)) true lam a s a' s' := by
  have hh := h
  obtain ⟨⟨⟨b1, b2, b3, b4, b5, b6⟩, E2, E3, E4, E5, E6, E7⟩, p2, p3, p4, p5, p6⟩ := hh
  obtain ⟨d1, d2, d3, d4, d5, d6, d7, d8, d9, d10, d11⟩ := p2.2 _ _ _ _ _ _ rfl (by decide)
  have hn0 : n = 0 := i_eq.2 ((d3 rfl).2)
  rw [i_lt] at hgt
  have cv := clear_v (my_ps m 0) (e := 1) (by decide) ch
  have co (i j : Nat) (h1 : ¬ (106 ≤ i ∧ i < 113 ∧ j = 1)) : (mo_clear (my_ps m 0) 1 ch).1 i j = m.1 i j := clear_o (e := 1) (my_ps m 0) (by decide) ch h1
  have cf : (mo_clear (my_ps m 0) 1 ch).2.1 = m.2.1 := rfl
  have e := mo_c34_eq (mo_clear (my_ps m 0) 1 ch) (e := 1) (by decide) 12 x y ch n kn
  rw [show mo_control_34 1 (mo_clear (my_ps m 0) 1 ch) 1 12 x y ch n kn = mo_control_34 1 (mo_clear (my_ps m 0) 1 ch) (Int32.ofNat 1) 12 x y ch n kn from rfl, e]
  generalize hM : mo_clear (my_ps m 0) 1 ch = M at *
  have sn := settle_none (m := M) (e := 1) (by decide) cv.2.2.1 cv.2.2.2.1 cv.2.1 kn d2.2.2.2
  rw [if_pos cv.1.symm, if_neg (by decide)]
  generalize hS : mo_settle M 1 kn = S at *
  have s10 : S.1 110 1 = 0 := by rw [sn.2 110 1 (by omega)]; exact cv.2.2.2.2
  rw [s10, if_pos hn0, if_neg (by decide)]
  have hdo : mo_serverDoes (my_pi S 110 1 (0 + 1)) 12 x = my_pi S 110 1 (0 + 1) := by
    unfold mo_serverDoes
    rw [if_neg (by decide), if_neg (by decide)]
  rw [hdo]
  generalize hN : my_pi S 110 1 (0 + 1) = N
  have no (i j : Nat) (h1 : ¬ (106 ≤ i ∧ i < 113 ∧ j = 1)) : N.1 i j = m.1 i j := by
    rw [← hN, qi_ne (by omega), sn.2 i j (by omega), co i j h1]
  have ns (i : Nat) (h1 : ¬ (i = 110 ∨ i = 111 ∨ i = 112)) : N.1 i 1 = M.1 i 1 := by
    rw [← hN, qi_ne (by omega), sn.2 i 1 (by omega)]
  have nf : N.2.1 = m.2.1 := by
    rw [← hN]
    show S.2.1 = _
    rw [sn.1, cf]
  have hPN : PC N L (some (12, fr, to, ch.toInt, n.toInt, kn.toInt)) true lam a s a' s' := by
    refine PC_clear1o h (iE_mono hi (by decide)) hs ha hgt ?_ ?_ ?_ ?_ ?_ ?_ ?_ ?_ ?_ ?_ ?_ ?_ ?_ nf
    · show (N.1 106 1).toInt = _; rw [ns 106 (by omega), cv.1]
    · show (N.1 107 1).toInt = _; rw [ns 107 (by omega), cv.2.1]; rfl
    · show (N.1 108 1).toInt = _; rw [ns 108 (by omega), cv.2.2.1]; rfl
    · show (N.1 109 1).toInt = _; rw [ns 109 (by omega), cv.2.2.2.1]; rfl
    · show (N.1 110 1).toInt = _; rw [← hN, qi_eq]; rfl
    · show (N.1 82 30).toInt = _; rw [no 82 30 (by omega)]
    · show (N.1 106 0).toInt = _; rw [no 106 0 (by omega)]
    · show (N.1 107 0).toInt = _; rw [no 107 0 (by omega)]
    · show (N.1 108 0).toInt = _; rw [no 108 0 (by omega)]
    · show (N.1 109 0).toInt = _; rw [no 109 0 (by omega)]
    · show (N.1 110 0).toInt = _; rw [no 110 0 (by omega)]
    · funext j; exact no 85 j (by omega)
    · funext j; exact no 113 j (by omega)
  refine PC_ack hPN (e := 1) (by decide) ?_ hs
  have : vch N 1 = ch.toInt := by show (N.1 106 1).toInt = _; rw [ns 106 (by omega), cv.1]
  rw [this]; omega
/-! everything else -/
theorem PC_off {m : mx_M} {L : Nat} {H : vH} {dl : Bool} {lam a s a' s' : Int} (h : PC m L H dl lam a s a' s') (x : Int32) : PC (mo_off m x) L H dl lam a s a' s' := PC_w (PC_w (PC_w h (by omega)) (by omega)) (by omega)
theorem PC_so {m : mx_M} {L : Nat} {H : vH} {dl : Bool} {lam a s a' s' : Int} (h : PC m L H dl lam a s a' s') {k : Int32} (hk : k < 12) (b c d e f : Int32) : PC (mo_sendOff m k b c d e f) L H dl lam a s a' s' := by
  rw [mo_sendOff_eq]
  exact PC_send0 h _ hk
theorem PC_leave {m : mx_M} {L : Nat} {H : vH} {dl : Bool} {lam a s a' s' : Int} (h : PC m L H dl lam a s a' s') (x : Int32) : PC (mo_leave m x) L H dl lam a s a' s' := PC_off (PC_so h (by decide) _ _ _ _ _) x
theorem PC_ask {m : mx_M} {L : Nat} {H : vH} {dl : Bool} {lam a s a' s' : Int} (h : PC m L H dl lam a s a' s') (x : Int32) : PC (mo_ask m x) L H dl lam a s a' s' := by
  unfold mo_ask
  split
  · exact PC_w (PC_w (PC_so h (by decide) _ _ _ _ _) (by omega)) (by omega)
  · exact PC_w (PC_w (PC_so h (by decide) _ _ _ _ _) (by omega)) (by omega)
theorem PC_acc {m : mx_M} {L : Nat} {H : vH} {dl : Bool} {lam a s a' s' : Int} (h : PC m L H dl lam a s a' s') (x y : Int32) : PC (mo_accepted m x y) L H dl lam a s a' s' := by
  unfold mo_accepted
  split
  · split
    · exact PC_so (PC_w (PC_w (PC_w h (by omega)) (by omega)) (by omega)) (by decide) _ _ _ _ _
    · exact h
  · exact PC_so (PC_w (PC_w (PC_w h (by omega)) (by omega)) (by omega)) (by decide) _ _ _ _ _
theorem PC_toSub {m : mx_M} {L : Nat} {H : vH} {dl : Bool} {lam a s a' s' : Int} (h : PC m L H dl lam a s a' s') {t : Nat} (ht : t < 4) (k x y w : Int32) (h0 : 0 ≤ (m.1 94 t).toInt) (h1 : (m.1 94 t).toInt < 2147483647) : PC (mo_toSubscriber m (Int32.ofNat t) k x y w) L H dl lam a s a' s' := by
  rw [mo_toSub_eq m ht k x y w h0 h1]
  split
  · split
    · exact PC_ask (PC_w (PC_w (PC_w h (by omega)) (by omega)) (by omega)) _
    · exact h
  · split
    · exact h
    · split
      · exact h
      · split
        · exact PC_off h _
        · split
          · exact PC_acc h _ _
          · split
            · exact PC_leave h _
            · split
              · exact PC_send0 (PC_w h (by omega)) _ (by show (9 : Int32) < 12; decide)
              · split
                · exact PC_w (PC_w (PC_w h (by omega)) (by omega)) (by omega)
                · exact h
theorem PC_td {m : mx_M} {L : Nat} {H : vH} {dl : Bool} {lam a s a' s' : Int} (h : PC m L H dl lam a s a' s') (hi : iE m 1399) (x : Int32) : PC (mo_takeDown m x) L H dl lam a s a' s' := by
  unfold mo_takeDown
  split
  · exact PC_say (e := 0) (PC_w (PC_w h (by omega)) (by omega)) (by decide) (rm_iE hi _ 0 0) ok15 _ _
  · exact PC_w (PC_w h (by omega)) (by omega)
theorem PC_jn {m : mx_M} {L : Nat} {H : vH} {dl : Bool} {lam a s a' s' : Int} (h : PC m L H dl lam a s a' s') (hi : iE m 1398) (hcs : vcs m < 2147483647) (hs : 0 ≤ s') (ha : 0 ≤ a') (t : Nat) : PC (mo_jn m t) L H dl lam a s a' s' := by
  unfold mo_jn
  have h4 := PC_send0 (PC_w (PC_w h (i := 82) (k := 28) (v := m.1 82 28 + 1) (by omega)) (i := 96) (k := t) (v := m.1 82 28 + 1) (by omega)) (pk9 2 4 (Int32.ofNat t) (m.1 82 28 + 1) 0 0 0 0 0) (by show (2 : Int32) < 12; decide)
  have i4 : iE (my_send (my_pi (my_pi m 82 28 (m.1 82 28 + 1)) 96 t (m.1 82 28 + 1)) (pk9 2 4 (Int32.ofNat t) (m.1 82 28 + 1) 0 0 0 0 0)) 1398 := iE_f hi (fun i h1 h2 => by rw [my_send_o _ _ (by omega), qi_row (by omega), qi_row (by omega)])
  have c30 : (my_send (my_pi (my_pi m 82 28 (m.1 82 28 + 1)) 96 t (m.1 82 28 + 1)) (pk9 2 4 (Int32.ofNat t) (m.1 82 28 + 1) 0 0 0 0 0)).1 82 30 = m.1 82 30 := by rw [my_send_o _ _ (by decide), qi_ne (by omega), qi_ne (by omega)]
  have c106 : (my_send (my_pi (my_pi m 82 28 (m.1 82 28 + 1)) 96 t (m.1 82 28 + 1)) (pk9 2 4 (Int32.ofNat t) (m.1 82 28 + 1) 0 0 0 0 0)).1 106 0 = m.1 106 0 := by rw [my_send_o _ _ (by decide), qi_ne (by omega), qi_ne (by omega)]
  simp only
  generalize hM : my_send (my_pi (my_pi m 82 28 (m.1 82 28 + 1)) 96 t (m.1 82 28 + 1)) (pk9 2 4 (Int32.ofNat t) (m.1 82 28 + 1) 0 0 0 0 0) = M at *
  split
  · rename_i hz
    have o := PC_open h4 (iE_mono i4 (by decide)) (by show (M.1 106 0).toInt = 0; rw [c106, hz]; rfl) (by show (M.1 82 30).toInt < _; rw [c30]; exact hcs) hs ha
    rw [c30] at o
    refine PC_say o (e := 0) (by decide) ?_ ok13 _ _
    have i7 : iE (my_pi (mo_clear (my_pi M 82 30 (m.1 82 30 + 1)) 0 (m.1 82 30 + 1)) 82 17 0) 1398 := iE_f (clear_iE (e := 0) (by decide) (by decide) (iE_f i4 (fun i h1 h2 => qi_row (show ¬ i = 82 by omega))) (m.1 82 30 + 1) (m := my_pi M 82 30 (m.1 82 30 + 1))) (fun i h1 h2 => qi_row (by omega))
    exact say_iE (e := 0) (by decide) (by decide) i7 12 0 0
  · exact PC_say h4 (e := 0) (by decide) (iE_mono i4 (by decide)) ok13 _ _
theorem PC_join {m : mx_M} {L : Nat} {H : vH} {dl : Bool} {lam a s a' s' : Int} (h : PC m L H dl lam a s a' s') (hi : iE m 1397) (hcs : vcs m < 2147483647) (hs : 0 ≤ s') (ha : 0 ≤ a') {t : Nat} (ht : t < 4) : PC (mo_join m (Int32.ofNat t)) L H dl lam a s a' s' := by
  rw [mo_join_eq m ht hi]
  split
  · refine PC_jn (PC_td h (iE_mono hi (by decide)) _) (td_iE (by decide) hi ht) ?_ hs ha t
    show ((mo_takeDown m (Int32.ofNat t)).1 82 30).toInt < _
    rw [td_o (iE_mono hi (by decide)) ht (by omega)]; exact hcs
  · exact PC_jn h (iE_mono hi (by decide)) hcs hs ha t
theorem PC_fromSub {m : mx_M} {L : Nat} {H : vH} {dl : Bool} {lam a s a' s' : Int} (h : PC m L H dl lam a s a' s') (hi : iE m 1397) (hcs : vcs m < 2147483647) (hs : 0 ≤ s') (ha : 0 ≤ a') {t : Nat} (ht : t < 4) {k : Int32} (hk : k < 12) (x y w : Int32) : PC (mo_fromSubscriber m (Int32.ofNat t) k x y w) L H dl lam a s a' s' := by
  unfold mo_fromSubscriber
  split
  · exact PC_join h hi hcs hs ha ht
  · split
    · exact h
    · split
      · split
        · exact PC_td h (iE_mono hi (by decide)) _
        · split
          · split
            · exact PC_so h hk _ _ _ _ _
            · split
              · exact PC_so h hk _ _ _ _ _
              · split
                · exact PC_so h hk _ _ _ _ _
                · split
                  · exact PC_so h hk _ _ _ _ _
                  · exact h
          · exact h
      · exact h
theorem PC_fromSrv {m : mx_M} {L : Nat} {H : vH} {dl : Bool} {lam a s a' s' : Int} (h : PC m L H dl lam a s a' s') {k : Int32} (hk : k < 12) (x y w : Int32) : PC (mo_fromServer m k x y w) L H dl lam a s a' s' := by
  unfold mo_fromServer
  split
  · exact h
  · split
    · exact PC_so h hk _ _ _ _ _
    · split
      · exact PC_so h hk _ _ _ _ _
      · split
        · exact PC_so h hk _ _ _ _ _
        · split
          · exact PC_so h hk _ _ _ _ _
          · exact h
theorem PC_login {m : mx_M} {L : Nat} {H : vH} {dl : Bool} {lam a s a' s' : Int} (h : PC m L H dl lam a s a' s') (hi : iE m 1399) {k : Nat} (hk : k < m.2.2.val) (u w : Int32) : PC (mo_login m (Int32.ofNat k) u w) L H dl lam a s a' s' := by
  have hb : m.2.2.val < 5 := m.2.2.isLt
  obtain ⟨l1, l2, l3, l4⟩ := mo_login_eq m (k := k) (by omega) u w
  by_cases s1 : m.1 100 k = 1
  · by_cases ok : lg_ok m u w
    · rw [l1 s1 ok]
      exact PC_send0 (PC_w (PC_w h (by omega)) (by omega)) _ (by show (5 : Int32) < 12; decide)
    · rw [l2 s1 ok]
      unfold lg_no
      have g := PC_send0 h (pk9 6 5 4 (m.1 99 k) 0 0 0 0 0) (by show (6 : Int32) < 12; decide)
      have hk' : k < (my_send m (pk9 6 5 4 (m.1 99 k) 0 0 0 0 0)).2.2.val := by rw [my_send_s]; exact hk
      refine PC_say (PC_rm g hk') (e := 1) (by decide) ?_ ok15 _ _
      rw [mo_endS_eq _ hk']
      exact iE_f hi (fun i h1 h2 => by rw [rm_o (by omega), my_send_o _ _ (by omega)])
  · by_cases s2 : m.1 100 k = 2
    · rw [l3 s2]
      exact PC_send0 h _ (by show (5 : Int32) < 12; decide)
    · rw [l4 s1 s2]; exact h
theorem PC_toS {m : mx_M} {L : Nat} {H : vH} {dl : Bool} {lam a s a' s' : Int} (h : PC m L H dl lam a s a' s') (hi : iE m 1399) (hn : iNm m) (h0 : 0 ≤ (m.1 82 24).toInt) (kd n b w : Int32) : PC (mo_toSession m kd n b w) L H dl lam a s a' s' := by
  have hb : m.2.2.val < 5 := m.2.2.isLt
  rcases mo_ixx hn n with ⟨k, hk, _, e⟩ | e
  · rw [mo_toS_eq m kd n b w h0 (k := k) (by omega) e]
    have g := PC_w h (i := 102) (k := k) (v := 0) (by omega)
    split
    · exact PC_login g (iE_f hi (fun i h1 h2 => qi_row (by omega))) (k := k) hk _ _
    · split
      · exact PC_w g (by omega)
      · split
        · split
          · exact PC_w (PC_w (PC_w g (by omega)) (by omega)) (by omega)
          · exact PC_w g (by omega)
        · exact g
  · unfold mo_toSession
    rw [e, if_pos neg1_lt]; exact h
theorem PC_tk {m : mx_M} {L : Nat} {dl : Bool} {lam a s a' s' : Int} (h : PC m (L + 1) none dl lam a s a' s') : PC (mo_tk m 0) L (vw m 0) dl lam a s a' s' := by
  obtain ⟨p1, p2, p3, p4, p5, p6⟩ := h
  have h1 : 1 ≤ m.2.1.val := by omega
  have o (i : Nat) (hi : ¬ i = 85) : (mo_tk m 0).1 i = m.1 i := tk_o hi
  obtain ⟨v1, v2, v3, v4, v5, v6⟩ := ev (m := m) (m' := mo_tk m 0) (by rw [o 82 (by decide)]) (o 106 (by decide)) (o 107 (by decide)) (o 108 (by decide)) (o 109 (by decide)) (o 110 (by decide))
  refine ⟨?_, ?_, ?_, ?_, ?_, ?_⟩
  · unfold eC
    rw [v1, v2, v3, v4, v5, v6, o 113 (by decide)]; exact p1
  · unfold cqm
    rw [v1, v2, v3, v4]; exact AllP_tk p2 h1
  · intro x hx
    unfold YO
    rw [v2, v3, v6]
    rcases p3 x hx with z | z
    · exact Or.inl ⟨AllP_tk z.1 h1, z.2⟩
    · exact Or.inr ⟨AllP_tk z.1 h1, z.2⟩
  · rw [v3, v6]; exact p4
  · rw [v1, v2]; exact p5
  · rw [tk_cnt h1]; omega
/-- an arrival, as the reference does it -/
theorem arrive_eq (m : mx_M) (h1 : 1 ≤ m.2.1.val) {t : Nat} (ht : t < 6) (e2 : fp m 0 2 = Int32.ofNat t) :
    (t < 4 → mo_arrive m = (mo_toSubscriber (mo_tk m 0) (Int32.ofNat t) (fp m 0 0) (fp m 0 3) (fp m 0 4) (fp m 0 5), 1)) ∧
    (¬ t < 4 → 0 < m.1 105 (t - 4) → mo_arrive m = (mo_tk m 0, 0)) ∧
    (t = 5 → ¬ 0 < m.1 105 1 → fp m 0 0 < 12 → mo_arrive m = (mo_toSession (mo_tk m 0) (fp m 0 0) (fp m 0 3) (fp m 0 4) (fp m 0 5), 1)) ∧
    (t = 4 → ¬ 0 < m.1 105 0 → fp m 0 0 < 12 → fp m 0 1 < 4 → mo_arrive m = (mo_fromSubscriber (mo_tk m 0) (fp m 0 1) (fp m 0 0) (fp m 0 3) (fp m 0 4) (fp m 0 5), 1)) ∧
    (t = 4 → ¬ 0 < m.1 105 0 → fp m 0 0 < 12 → ¬ fp m 0 1 < 4 → mo_arrive m = (mo_fromServer (mo_tk m 0) (fp m 0 0) (fp m 0 3) (fp m 0 4) (fp m 0 5), 1)) ∧
    (¬ t < 4 → ¬ 0 < m.1 105 (t - 4) → ¬ fp m 0 0 < 12 → mo_arrive m = (mo_control (mo_tk m 0) (Int32.ofNat (t - 4)) (fp m 0 0) (fp m 0 3) (fp m 0 4) (fp m 0 6) (fp m 0 7) (fp m 0 8), 1)) := by
  have hfp (f : Nat) : fp m 0 f = m.1 85 f := by unfold fp; rw [show 9 * 0 + f = f by omega]
  have tke : mo_takeOut m 0 = mo_tk m 0 := mo_take_eq m (k := 0) h1
  have o : (mo_tk m 0).1 105 = m.1 105 := tk_o (by decide)
  unfold mo_arrive
  simp only [tke]
  rw [← hfp 0, ← hfp 1, ← hfp 2, ← hfp 3, ← hfp 4, ← hfp 5, ← hfp 6, ← hfp 7, ← hfp 8, e2, o]
  have l4 : (Int32.ofNat t < 4) ↔ t < 4 := ofl4 (by omega)
  have es (h : ¬ t < 4) : (Int32.ofNat t - 4) = Int32.ofNat (t - 4) := by
    have : t = 4 ∨ t = 5 := by omega
    rcases this with rfl | rfl <;> rfl
  have ec (h : ¬ t < 4) : (Int32.ofNat t - 4).toNatClampNeg = t - 4 := by rw [es h, of_cl _ (by omega)]
  refine ⟨fun h => ?_, fun h hz => ?_, fun h hz hk => ?_, fun h hz hk hf => ?_, fun h hz hk hf => ?_, fun h hz hk => ?_⟩
  · rw [if_pos (l4.2 h)]
  · rw [if_neg (fun z => h (l4.1 z)), ec h, if_pos hz]
  · subst h
    rw [if_neg (by decide), ec (by decide), if_neg hz, if_pos hk, if_pos (by decide)]
  · subst h
    rw [if_neg (by decide), ec (by decide), if_neg hz, if_pos hk, if_neg (by decide), if_pos hf]
  · subst h
    rw [if_neg (by decide), ec (by decide), if_neg hz, if_pos hk, if_neg (by decide), if_neg hf]
  · rw [if_neg (fun z => h (l4.1 z)), ec h, if_neg hz, if_neg hk, es h]
theorem PC_arrive {m : mx_M} {L : Nat} {lam a s a' s' : Int} (h : PC m (L + 1) none true lam a s a' s') (ok : arOK m) (hcs : vcs m < 2147483647) (hsa : s + 3 ≤ a') (has : a ≤ s') (hs : 0 ≤ s') (ha : 1 ≤ a') (hb : a' < 2147483647) : PC (mo_arrive m).1 L none true lam a s a' s' := by
  obtain ⟨o1, oS, oW, oE, oC, oN, oI, oP, ⟨⟨t, ht, e2⟩, p1, p4, p40c, p5c⟩⟩ := ok
  obtain ⟨A1, A2, A3, A4, A5, A6⟩ := arrive_eq m o1 ht e2
  have g := PC_tk h
  have o (i : Nat) (hi : ¬ i = 85) : (mo_tk m 0).1 i = m.1 i := tk_o hi
  have hE : iE (mo_tk m 0) 1397 := iE_f oE (fun i h1 h2 => o i (by omega))
  have hN : iNm (mo_tk m 0) := by unfold iNm; rw [o 98 (by decide)]; exact oN
  have hc' : vcs (mo_tk m 0) < 2147483647 := by show ((mo_tk m 0).1 82 30).toInt < _; rw [o 82 (by decide)]; exact hcs
  by_cases t4 : t < 4
  · rw [A1 t4]
    exact PC_nh (PC_toSub g t4 _ _ _ _ (by rw [o 94 (by decide)]; exact (oW.1 t t4).1) (by rw [o 94 (by decide)]; exact (oW.1 t t4).2))
  · by_cases hz : 0 < m.1 105 (t - 4)
    · rw [A2 t4 hz]; exact PC_nh g
    · by_cases hk : fp m 0 0 < 12
      · have t45 : t = 4 ∨ t = 5 := by omega
        rcases t45 with rfl | rfl
        · rcases p4 e2 hk with ⟨z, _⟩ | ⟨u, hu, z, _⟩
          · rw [A5 rfl hz hk (by rw [z]; decide)]
            exact PC_nh (PC_fromSrv g hk _ _ _)
          · rw [A4 rfl hz hk (by rw [z]; exact (ofl4 (by omega)).2 hu), z]
            exact PC_nh (PC_fromSub g hE hc' hs (by omega) hu hk _ _ _)
        · rw [A3 rfl hz hk]
          exact PC_nh (PC_toS g (iE_mono hE (by decide)) hN (by rw [o 82 (by decide)]; exact oW.2.1) _ _ _ _)
      · rw [A6 t4 hz hk]
        have t45 : t = 4 ∨ t = 5 := by omega
        rcases t45 with rfl | rfl
        · have e : mo_control (mo_tk m 0) (Int32.ofNat (4 - 4)) (fp m 0 0) (fp m 0 3) (fp m 0 4) (fp m 0 6) (fp m 0 7) (fp m 0 8) = mo_control_34 1 (mo_tk m 0) 0 (fp m 0 0) (fp m 0 3) (fp m 0 4) (fp m 0 6) (fp m 0 7) (fp m 0 8) := by
            unfold mo_control
            rw [if_neg (by decide)]
            rfl
          rw [e]
          exact PC_nh (PC_ctl0 g hE hk e2 hsa has hs hb)
        · by_cases ho : fp m 0 0 = 12 ∧ m.1 106 1 < fp m 0 6
          · have e : mo_control (mo_tk m 0) (Int32.ofNat (5 - 4)) (fp m 0 0) (fp m 0 3) (fp m 0 4) (fp m 0 6) (fp m 0 7) (fp m 0 8) = mo_control_34 1 (mo_clear (my_ps (mo_tk m 0) 0) 1 (fp m 0 6)) 1 12 (fp m 0 3) (fp m 0 4) (fp m 0 6) (fp m 0 7) (fp m 0 8) := by
              unfold mo_control
              rw [ho.1, if_pos (by decide), if_pos rfl, if_pos (by rw [o 106 (by decide)]; exact ho.2)]
              rfl
            rw [e]
            have g' := g
            unfold vw at g'
            rw [ho.1] at g'
            exact PC_nh (PC_ctl1o g' hE (by rw [o 106 (by decide)]; exact ho.2) hs ha)
          · have e : mo_control (mo_tk m 0) (Int32.ofNat (5 - 4)) (fp m 0 0) (fp m 0 3) (fp m 0 4) (fp m 0 6) (fp m 0 7) (fp m 0 8) = mo_control_34 1 (mo_tk m 0) 1 (fp m 0 0) (fp m 0 3) (fp m 0 4) (fp m 0 6) (fp m 0 7) (fp m 0 8) := by
              unfold mo_control
              rw [if_pos (by decide)]
              by_cases h12 : fp m 0 0 = 12
              · rw [if_pos h12, if_neg (fun z => ho ⟨h12, by rw [o 106 (by decide)] at z; exact z⟩)]
                rfl
              · rw [if_neg h12]
                rfl
            rw [e]
            exact PC_nh (PC_ctl1 g hE hN hk e2 hsa has hs hb)
/-- what the invariant says of the packet that comes next -/
theorem PC_pk {m : mx_M} {L : Nat} {lam a s a' s' : Int} {dl : Bool} (h : PC m (L + 1) none dl lam a s a' s') (hi : iE m 1400) : (fp m 0 2 = 4 → ¬ fp m 0 0 < 12 → fp m 0 6 = m.1 106 0 → (fp m 0 8).toInt ≤ (m.1 108 0).toInt ∨ (m.1 108 0).toInt = (m.1 109 0).toInt) ∧
    (fp m 0 2 = 5 → ¬ fp m 0 0 < 12 → ¬ (fp m 0 0 = 12 ∧ m.1 106 1 < fp m 0 6) → fp m 0 6 = m.1 106 1 → (fp m 0 8).toInt ≤ (m.1 108 1).toInt ∨ (m.1 108 1).toInt = (m.1 109 1).toInt) := by
  obtain ⟨p1, p2, p3, p4, p5, p6⟩ := h
  have g := p2.1 0 (by omega)
  refine ⟨fun z1 z2 z3 => ?_, fun z1 z2 _ z3 => ?_⟩
  · obtain ⟨d1, d2, d3, d4, d5, d6, d7, d8, d9⟩ := g z2
    have hf : fp m 0 1 = 5 := by
      rcases d1 with z | z
      · exact absurd (z1.symm.trans z.2) n45
      · exact z.1
    exact Or.inl (d6 hf (by rw [z3]))
  · obtain ⟨d1, d2, d3, d4, d5, d6, d7, d8, d9⟩ := g z2
    have hf : fp m 0 1 = 4 := by
      rcases d1 with z | z
      · exact z.1
      · exact absurd (z1.symm.trans z.2) n54
    exact ks1 hi (d7 hf (by rw [z3]))
/-! timers and calls -/
theorem PC_subT {m : mx_M} {L : Nat} {H : vH} {dl : Bool} {lam a s a' s' : Int} (h : PC m L H dl lam a s a' s') (x : Int32) : PC (mo_subscriberTimer m x) L H dl lam a s a' s' := by
  unfold mo_subscriberTimer
  dsimp only
  split
  · split
    · exact PC_leave (PC_w h (by omega)) _
    · exact PC_w h (by omega)
  · split
    · exact h
    · split
      · exact PC_w h (by omega)
      · split
        · exact PC_ask (PC_w h (by omega)) _
        · split
          · exact PC_leave (PC_w h (by omega)) _
          · exact PC_off (PC_w h (by omega)) _
theorem PC_sT4 {m : mx_M} {L : Nat} {H : vH} {dl : Bool} {lam a s a' s' : Int} (h : PC m L H dl lam a s a' s') : PC (sT4 m) L H dl lam a s a' s' := PC_subT (PC_subT (PC_subT (PC_subT h 0) 1) 2) 3
theorem PC_cl {m : mx_M} {L : Nat} {H : vH} {dl : Bool} {lam a s a' s' : Int} (h : PC m L H dl lam a s a' s') (t : Nat) : PC (mo_cl m t) L H dl lam a s a' s' := by
  unfold mo_cl
  split
  · exact h
  · exact PC_send0 (PC_w (PC_w h (by omega)) (by omega)) _ (by show (3 : Int32) < 12; decide)
theorem PC_tl {m : mx_M} {L : Nat} {H : vH} {dl : Bool} {lam a s a' s' : Int} (h : PC m L H dl lam a s a' s') (hi : iE m 1399) : PC (mo_tl m) L H dl lam a s a' s' := by
  unfold mo_tl
  split
  · split
    · split
      · exact PC_w (PC_say (PC_w h (by omega)) (e := 0) (by decide) (iE_f hi (fun i h1 h2 => qi_row (by omega))) ok16 _ _) (by omega)
      · exact PC_w h (by omega)
    · exact PC_w h (by omega)
  · exact PC_w h (by omega)
theorem PC_aT {m : mx_M} {L : Nat} {H : vH} {lam a s a' s' : Int} (h : PC m L H false lam a s a' s') (hi : iE m 1399) (hc : iC m) (hs : 0 ≤ s') (ha : 0 ≤ a') : PC (aT m) L H false lam a s a' s' := by
  unfold aT
  split
  · exact PC_w h (by omega)
  · rw [mo_at_eq2]
    have hi' := iE_mono hi (show (1399 : Int) ≤ 1400 by decide)
    have hm := mo_et_0 hi' hc
    by_cases hb : mo_brk m 0
    · rw [hm.2 hb]
      unfold mo_bk0 mo_cl4
      have g := PC_cl (PC_cl (PC_cl (PC_cl (PC_clear0 (PC_w h (i := 112) (k := 0) (v := m.1 112 0 - 1) (by omega)) hs ha) 0) 1) 2) 3
      refine PC_tl g ?_
      refine iE_f (clear_iE (e := 0) (by decide) (by decide) (iE_f hi (fun i h1 h2 => qi_row (show ¬ i = 112 by omega))) 0 (m := my_pi m 112 0 (m.1 112 0 - 1))) (fun i h1 h2 => ?_)
      funext j
      exact cl4_o (by omega)
    · rw [hm.1 hb]
      refine PC_tl (PC_et0 h (by decide) hi') (iE_f hi (fun i h1 h2 => ?_))
      funext j
      exact et0_o (by decide) hi'.1 (by omega)
theorem PC_eat {m : mx_M} {L : Nat} {H : vH} {dl : Bool} {lam a s a' s' : Int} (h : PC m L H dl lam a s a' s') (k : Nat) (v : Int32) : PC (mo_eat m k v) L H dl lam a s a' s' := by
  unfold mo_eat
  split
  · exact PC_send0 (PC_w h (by omega)) _ (by show (5 : Int32) < 12; decide)
  · split
    · exact PC_send0 (PC_w h (by omega)) _ (by show (8 : Int32) < 12; decide)
    · exact PC_w h (by omega)
theorem PC_stl {lam a s a' s' : Int} (hs : 0 ≤ s') (ha : 0 ≤ a') : ∀ (n : Nat) (m : mx_M) (k : Nat), PC m 0 none false lam a s a' s' → k ≤ m.2.2.val → m.2.2.val - k < n → iE m (1399 - (m.2.2.val : Int)) → PC (mo_serverTimer_2 n m (Int32.ofNat k)) 0 none false lam a s a' s' := by
  intro n
  induction n with
  | zero => intro m k h h1 h2 hi; omega
  | succ n ih =>
    intro m k h h1 h2 hi
    have hb : m.2.2.val < 5 := m.2.2.isLt
    by_cases hk : k < m.2.2.val
    · rw [mo_st_step n m hk]
      by_cases h12 : m.1 102 k + 1 = 12
      · rw [if_pos h12]
        have b := iE_f hi (fun i h1 h2 => qi_row (show ¬ i = 102 by omega)) (m' := my_pi m 102 k (m.1 102 k + 1))
        have hE : iE (mo_endSession (my_pi m 102 k (m.1 102 k + 1)) (Int32.ofNat k)) 1399 := by
          rw [mo_endS_eq (my_pi m 102 k (m.1 102 k + 1)) (a := k) hk]
          exact iE_f (iE_mono b (by omega)) (fun i h1 h2 => rm_o (by omega))
        have gi := lgn_iE b (show 1399 - (m.2.2.val : Int) ≤ 1399 by omega) (k := k) hk (m.1 99 k)
        have es : (mo_say (mo_endSession (my_pi m 102 k (m.1 102 k + 1)) (Int32.ofNat k)) 1 15 (m.1 99 k) 0).2.2.val = m.2.2.val - 1 := by
          have t2 : (mo_say (mo_endSession (my_pi m 102 k (m.1 102 k + 1)) (Int32.ofNat k)) 1 15 (m.1 99 k) 0).2.2 = (mo_endSession (my_pi m 102 k (m.1 102 k + 1)) (Int32.ofNat k)).2.2 := say_s (e := 1) (by decide) hE.2 15 (m.1 99 k) 0
          rw [t2, mo_endS_eq (my_pi m 102 k (m.1 102 k + 1)) (a := k) hk]
          exact rm_cnt (m := my_pi m 102 k (m.1 102 k + 1)) hk
        have g := PC_say (PC_rm (PC_w h (i := 102) (k := k) (v := m.1 102 k + 1) (by omega)) (k := k) hk) (e := 1) (by decide) hE ok15 (m.1 99 k) 0
        exact ih _ k g (by rw [es]; omega) (by rw [es]; omega) (by rw [es]; exact iE_mono gi (by omega))
      · rw [if_neg h12]
        exact ih _ (k + 1) (PC_eat h k _) (by rw [eat_s]; omega) (by rw [eat_s]; omega) (by rw [eat_s]; exact iE_f hi (fun i h1 h2 => funext fun j => eat_o (by omega)))
    · rw [mo_serverTimer_2, if_neg (fun z => hk ((of_le (by omega) (by omega)).1 z))]
      have hi' := iE_mono hi (show 1399 - (m.2.2.val : Int) ≤ 1400 by omega)
      have hm := mo_endTimer_eq m (e := 1) (by decide) hi'.2
      show PC (mo_endTimer m 1) 0 none false lam a s a' s'
      by_cases hbk : mo_brk m 1
      · have m1 : mo_endTimer m 1 = my_ps (mo_clear (my_pi m 112 1 (m.1 112 1 - 1)) 1 0) 0 := (hm.2 hbk).trans (if_neg (by decide))
        rw [m1]
        exact PC_ps (PC_clear1 (PC_w h (by omega)) hs ha) _
      · have m1 : mo_endTimer m 1 = mo_et0 m 1 := hm.1 hbk
        rw [m1]
        exact PC_et0 h (by decide) hi'
theorem PC_vT {m : mx_M} {lam a s a' s' : Int} (h : PC m 0 none false lam a s a' s') (hi : iE m 1395) (hs : 0 ≤ s') (ha : 0 ≤ a') : PC (vT m) 0 none false lam a s a' s' := by
  unfold vT
  split
  · exact PC_w h (by omega)
  · have hb : m.2.2.val < 5 := m.2.2.isLt
    exact PC_stl hs ha 6 m 0 h (by omega) (by omega) (iE_mono hi (by omega))
/-- a tick begins -/
theorem PC_begin {m : mx_M} {lam a s a' s' : Int} (h : PC m 0 none false lam a s a' s') {a2 s2 : Int} (h1 : a' ≤ a2) (h2 : s' ≤ s2) : PC m m.2.1.val none true (vcs m) a' s' a2 s2 := by
  obtain ⟨p1, p2, p3, p4, p5, p6⟩ := h
  refine ⟨p1, AllP_old p2 ?_, fun x hx => ?_, ⟨by omega, by omega, by omega, by omega⟩, fun _ => ⟨p1.1.2.2.2.1, Int.le_refl _⟩, Nat.le_refl _⟩
  · intro kd fr to CH N KN hc hk
    obtain ⟨d1, d2, d3, d4, d5, d6, d7, d8, d9, d10, d11⟩ := hc hk
    exact ⟨d1, d2, d3, d4, d5, d6, d7, d8, fun _ => d10 rfl, fun z => absurd z (by decide), fun _ => ⟨fun _ => d2.2.1, fun z => absurd z (by decide)⟩⟩
  · rcases p3 x hx with z | z
    · exact Or.inl ⟨AllP_old z.1 (fun _ _ _ _ _ _ w => w), z.2⟩
    · refine Or.inr ⟨AllP_old z.1 ?_, z.2⟩
      intro kd fr to CH N KN w w1 w2 w3
      exact absurd (w w1 w2 w3).1 nft
/-- the deliveries are over -/
theorem PC_end {m : mx_M} {lam a s a' s' : Int} (h : PC m 0 none true lam a s a' s') : PC m 0 none false lam a' s' a' s' := by
  obtain ⟨p1, p2, p3, p4, p5, p6⟩ := h
  refine ⟨p1, ⟨fun k hk => ?_, fun _ _ _ _ _ _ z => by cases z⟩, p3, p4, fun z => absurd z nft, p6⟩
  have g := p2.1 k hk
  rw [show decide (k < 0) = false by simp] at g ⊢
  intro hk'
  obtain ⟨d1, d2, d3, d4, d5, d6, d7, d8, d9, d10, d11⟩ := g hk'
  exact ⟨d1, d2, d3, d4, d5, d6, d7, d8, fun z => absurd z nft, d10, fun z => absurd z nft⟩
theorem PC_dial {m : mx_M} {L : Nat} {H : vH} {dl : Bool} {lam a s a' s' : Int} (h : PC m L H dl lam a s a' s') (x y z : Int32) : PC (mo_dial m x y z).1 L H dl lam a s a' s' := by
  unfold mo_dial
  split
  · split
    · exact PC_ask (PC_w (PC_w (PC_w (PC_w h (by omega)) (by omega)) (by omega)) (by omega)) _
    · exact h
  · exact h
theorem PC_hangup {m : mx_M} {L : Nat} {H : vH} {dl : Bool} {lam a s a' s' : Int} (h : PC m L H dl lam a s a' s') (x : Int32) : PC (mo_hangup m x).1 L H dl lam a s a' s' := by
  unfold mo_hangup
  split
  · split
    · exact h
    · split
      · exact PC_leave h _
      · exact PC_off h _
  · exact h
theorem PC_sendc {m : mx_M} {L : Nat} {H : vH} {dl : Bool} {lam a s a' s' : Int} (h : PC m L H dl lam a s a' s') (x y z : Int32) : PC (mo_send m x y z).1 L H dl lam a s a' s' := by
  unfold mo_send
  split
  · split
    · exact PC_so h (by decide) _ _ _ _ _
    · exact h
  · exact h
theorem PC_core2 {m : mx_M} {L : Nat} {H : vH} {dl : Bool} {lam a s a' s' : Int} (h : PC m L H dl lam a s a' s') (x y : Int32) : ∀ (n : Nat) (i : Int32), PC (mo_core_2 n m x y i).1 L H dl lam a s a' s' := by
  intro n
  induction n with
  | zero => intro i; exact h
  | succ n ih =>
    intro i
    rw [mo_core_2]
    split
    · split
      · split
        · exact PC_so h (by decide) _ _ _ _ _
        · exact ih _
      · exact ih _
    · exact h
theorem PC_allow {m : mx_M} {L : Nat} {H : vH} {dl : Bool} {lam a s a' s' : Int} (h : PC m L H dl lam a s a' s') (x y : Int32) : PC (mo_allow m x y).1 L H dl lam a s a' s' := by
  unfold mo_allow
  split
  · exact PC_w (PC_w h (by omega)) (by omega)
  · exact h
theorem PC_r48 {L : Nat} {H : vH} {dl : Bool} {lam a s a' s' : Int} (x : Int32) : ∀ (n : Nat) (m : mx_M) (i : Int32), PC m L H dl lam a s a' s' → PC (mo_restart_48 n m x i).1 L H dl lam a s a' s' := by
  intro n
  induction n with
  | zero => intro m i h; exact h
  | succ n ih =>
    intro m i h
    rw [mo_restart_48]
    split
    · exact ih _ _ (PC_w (PC_w h (by omega)) (by omega))
    · exact h
theorem PC_restart {m : mx_M} {lam a s a' s' : Int} (h : PC m 0 none false lam a s a' s') (hs : 0 ≤ s') (ha : 0 ≤ a') (x : Int32) : PC (mo_restart m x).1 0 none false lam a s a' s' := by
  unfold mo_restart
  by_cases h4 : x = 4
  · subst h4
    rw [if_pos rfl]
    simp only [show ¬ (4 : Int32) = 5 by decide, if_false]
    exact PC_r48 _ _ _ _ (PC_w (PC_w (PC_clear0 h hs ha) (by omega)) (by omega))
  · rw [if_neg h4]
    by_cases h5 : x = 5
    · subst h5
      rw [if_pos rfl]
      exact PC_ps (PC_w (PC_clear1 h hs ha) (by omega)) _
    · rw [if_neg h5]; exact h
theorem PC_sub {m m' : mx_M} {lam a s a' s' : Int} (h : PC m 0 none false lam a s a' s') (ho : ∀ i, ¬ i = 85 → m'.1 i = m.1 i) (hA : ∀ Q : vQ, AllP m 0 none Q → AllP m' 0 none Q) : PC m' 0 none false lam a s a' s' := by
  obtain ⟨p1, p2, p3, p4, p5, p6⟩ := h
  obtain ⟨v1, v2, v3, v4, v5, v6⟩ := ev (m := m) (m' := m') (by rw [ho 82 (by decide)]) (ho 106 (by decide)) (ho 107 (by decide)) (ho 108 (by decide)) (ho 109 (by decide)) (ho 110 (by decide))
  refine ⟨?_, ?_, fun x hx => ?_, ?_, fun z => absurd z nft, Nat.zero_le _⟩
  · unfold eC
    rw [v1, v2, v3, v4, v5, v6, ho 113 (by decide)]; exact p1
  · unfold cqm
    rw [v1, v2, v3, v4]; exact hA _ p2
  · unfold YO
    rw [v2, v3, v6]
    rcases p3 x hx with z | z
    · exact Or.inl ⟨hA _ z.1, z.2⟩
    · exact Or.inr ⟨hA _ z.1, z.2⟩
  · rw [v3, v6]; exact p4
