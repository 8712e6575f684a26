/-! packets have a sender and a receiver -/
def wq : vQ := fun o kd fr to CH N KN => (∃ t : Nat, t < 6 ∧ to = Int32.ofNat t) ∧ 0 ≤ fr.toInt ∧ (to = 4 → kd < 12 → (fr = 5 ∧ (kd = 5 ∨ kd = 6 ∨ kd = 8 ∨ kd = 11)) ∨ (∃ s : Nat, s < 4 ∧ fr = Int32.ofNat s ∧ (kd = 1 ∨ kd = 3 ∨ kd = 4 ∨ kd = 7 ∨ kd = 9 ∨ kd = 10)))
def PW (m : mx_M) (L : Nat) (H : vH) : Prop := AllP m L H wq ∧ L ≤ m.2.1.val
theorem PW_f {m m' : mx_M} {L : Nat} {H : vH} (h : PW m L H) (h85 : m'.1 85 = m.1 85) (hf : m'.2.1 = m.2.1) : PW m' L H := ⟨AllP_f h.1 h85 hf, by rw [hf]; exact h.2⟩
theorem PW_w {m : mx_M} {L : Nat} {H : vH} (h : PW m L H) {i k : Nat} {v : Int32} (hi : ¬ i = 85) : PW (my_pi m i k v) L H := PW_f h (qi_row (fun z => hi z.symm)) rfl
theorem PW_send {m : mx_M} {L : Nat} {H : vH} (h : PW m L H) (q : Nat → Int32) (hq : wq false (q 0) (q 1) (q 2) (q 6).toInt (q 7).toInt (q 8).toInt) : PW (my_send m q) L H := by
  refine ⟨AllP_send h.1 q h.2 hq, ?_⟩
  have := h.2
  rw [send_cnt]; split <;> omega
theorem PW_nh {m : mx_M} {L : Nat} {H : vH} (h : PW m L H) : PW m L none := ⟨AllP_nh h.1, h.2⟩
/-- from a subscriber to the access node -/
theorem PW_s4 {m : mx_M} {L : Nat} {H : vH} (h : PW m L H) {s : Nat} (hs : s < 4) {k : Int32} (hk : k = 1 ∨ k = 3 ∨ k = 4 ∨ k = 7 ∨ k = 9 ∨ k = 10) (d e f : Int32) : PW (mo_sendOff m k (Int32.ofNat s) 4 d e f) L H := by
  rw [mo_sendOff_eq]
  refine PW_send h _ ⟨⟨4, by decide, rfl⟩, ?_, fun _ _ => Or.inr ⟨s, hs, rfl, hk⟩⟩
  show 0 ≤ (Int32.ofNat s).toInt
  rw [i_of s (by omega)]; omega
/-- from the server to the access node -/
theorem PW_54 {m : mx_M} {L : Nat} {H : vH} (h : PW m L H) {k : Int32} (hk : k = 5 ∨ k = 6 ∨ k = 8 ∨ k = 11) (d e f : Int32) : PW (my_send m (pk9 k 5 4 d e f 0 0 0)) L H :=
  PW_send h _ ⟨⟨4, by decide, rfl⟩, by show 0 ≤ (5 : Int32).toInt; decide, fun _ _ => Or.inl ⟨rfl, hk⟩⟩
/-- to anyone but the access node -/
theorem PW_o {m : mx_M} {L : Nat} {H : vH} (h : PW m L H) {t : Nat} (ht : t < 6) (h4 : ¬ t = 4) (k d e f : Int32) : PW (my_send m (pk9 k 4 (Int32.ofNat t) d e f 0 0 0)) L H := by
  refine PW_send h _ ⟨⟨t, ht, rfl⟩, by show 0 ≤ (4 : Int32).toInt; decide, fun z => absurd z ?_⟩
  show ¬ Int32.ofNat t = 4
  rw [i_eq, i_of t (by omega), show (4 : Int32).toInt = 4 from rfl]; omega
theorem PW_tr {m : mx_M} {L : Nat} {H : vH} (h : PW m L H) {e : Nat} (he : e < 2) {n : Int32} (hn : n.toInt < 1400) (hk : e = 1 → ¬ n < 0 → okd (m.1 113 (1400 + n.toNatClampNeg))) : PW (mo_transmit m (Int32.ofNat e) n) L H := by
  rw [mo_transmit_eq m e he n hn]
  refine PW_send h _ ?_
  have h01 : e = 0 ∨ e = 1 := by omega
  unfold mo_pk
  rcases h01 with rfl | rfl
  · by_cases hz : n < 0
    · rw [if_pos hz]
      exact ⟨⟨5, by decide, rfl⟩, by show 0 ≤ (Int32.ofNat 4).toInt; decide, fun z => absurd z n54⟩
    · rw [if_neg hz]
      exact ⟨⟨5, by decide, rfl⟩, by show 0 ≤ (Int32.ofNat 4).toInt; decide, fun z => absurd z n54⟩
  · by_cases hz : n < 0
    · rw [if_pos hz]
      exact ⟨⟨4, by decide, rfl⟩, by show 0 ≤ (Int32.ofNat 5).toInt; decide, fun _ z => absurd z (show ¬ (17 : Int32) < 12 by decide)⟩
    · rw [if_neg hz]
      refine ⟨⟨4, by decide, rfl⟩, by show 0 ≤ (Int32.ofNat 5).toInt; decide, fun _ z => ?_⟩
      have k1 := (hk rfl hz).1
      have z' : m.1 113 (1400 * 1 + n.toNatClampNeg) < 12 := z
      rw [show 1400 * 1 + n.toNatClampNeg = 1400 + n.toNatClampNeg by omega, i_lt, show (12 : Int32).toInt = 12 from rfl] at z'
      rw [i_lt, show (13 : Int32).toInt = 13 from rfl] at k1
      omega
theorem PW_sy6 {m : mx_M} {L : Nat} {H : vH} (h : PW m L H) (e : Nat) (k a b : Int32) : PW (sy6 m e k a b) L H := by
  refine PW_f h (funext fun j => sy6_o m e k a b (by omega) (by omega)) ?_
  unfold sy6
  split <;> rfl
theorem PW_say {m : mx_M} {L : Nat} {H : vH} (h : PW m L H) {e : Nat} (he : e < 2) (hi : iE m 1399) {k : Int32} (hk : e = 1 → okd k) (a b : Int32) : PW (mo_say m (Int32.ofNat e) k a b) L H := by
  have hie := iE_get hi he
  rw [mo_say_eq m he hie]
  obtain ⟨i1, i2, i3, i4, i5⟩ := hie
  split
  · exact h
  · split
    · refine PW_w (PW_tr (PW_sy6 h e k a b) he (by omega) ?_) (by decide)
      intro hz hn
      subst hz
      rw [of_nc (show 0 ≤ (m.1 109 1).toInt by omega)]
      have key : (sy4 m 1 k a b).1 113 (1400 + (m.1 109 1).toInt.toNat) = k := by
        unfold sy4
        rw [qi_ne (by omega), qi_ne (by omega), qi_ne (by omega)]
        exact qi_eq
      have : (sy6 m 1 k a b).1 113 (1400 + (m.1 109 1).toInt.toNat) = k := by
        unfold sy6
        split
        · rw [qi_ne (by omega), qi_ne (by omega)]; exact key
        · exact key
      rw [this]
      exact hk rfl
    · exact PW_sy6 h e k a b
theorem PW_clear {m : mx_M} {L : Nat} {H : vH} (h : PW m L H) {e : Nat} (he : e < 2) (v : Int32) : PW (mo_clear m (Int32.ofNat e) v) L H := PW_f h (funext fun j => clear_o m he v (by omega)) rfl
theorem PW_settle {m : mx_M} {L : Nat} {H : vH} (h : PW m L H) {e : Nat} (he : e < 2) (hb : (m.1 109 e).toInt ≤ 1400) (h8 : 0 ≤ (m.1 108 e).toInt) (v : Int32) (hk : e = 1 → ∀ n : Nat, (n : Int) < (m.1 109 1).toInt → okd (m.1 113 (1400 + n))) : PW (mo_settle m e v) L H := by
  unfold mo_settle
  split
  · rw [mo_sendOpen_0eq]
    refine (so_ind (fun M => PW M L H ∧ M.1 109 e = m.1 109 e ∧ M.1 113 = m.1 113 ∧ 0 ≤ (M.1 108 e).toInt) he ?_ 1403 _ ⟨PW_w (PW_w (PW_w h (by decide)) (by decide)) (by decide), by rw [qi_ne (by omega), qi_ne (by omega), qi_ne (by omega)], by rw [qi_row (by decide), qi_row (by decide), qi_row (by decide)], by rw [qi_ne (by omega), qi_ne (by omega), qi_ne (by omega)]; exact h8⟩).1
    intro M ⟨u1, u2, u3, u4⟩ w1 w2
    rw [i_lt, u2] at w1
    have hn : (M.1 108 e).toInt < 1400 := by omega
    have tr (i : Nat) (hi : ¬ i = 85) : (mo_transmit M (Int32.ofNat e) (M.1 108 e)).1 i = M.1 i := my_tr_o M he _ hn hi
    rw [tr 108 (by decide)]
    refine ⟨PW_w (PW_tr u1 he hn ?_) (by decide), by rw [qi_ne (by omega), tr 109 (by decide), u2], by rw [qi_row (by decide), tr 113 (by decide), u3], by rw [qi_eq, i_p1 (by omega)]; omega⟩
    intro hz hneg
    subst hz
    rw [u3, of_nc u4]
    exact hk rfl _ (by omega)
  · exact h
theorem PW_et0 {m : mx_M} {L : Nat} {H : vH} (h : PW m L H) {e : Nat} (he : e < 2) (hi : iE m 1400) (hk : e = 1 → ∀ n : Nat, (n : Int) < (m.1 109 1).toInt → okd (m.1 113 (1400 + n))) : PW (mo_et0 m e) L H := by
  obtain ⟨i1, i2, i3, i4, i5⟩ := iE_get hi he
  unfold mo_et0
  split
  · exact h
  · rename_i hne
    have hne' : ¬ (m.1 109 e).toInt = (m.1 107 e).toInt := fun z => hne (i_eq.2 z)
    split
    · exact PW_w h (by decide)
    · refine PW_tr (PW_w (PW_w (PW_w h (by decide)) (by decide)) (by decide)) he (by omega) ?_
      intro hz hneg
      subst hz
      rw [qi_row (by decide), qi_row (by decide), qi_row (by decide), of_nc i1]
      exact hk rfl _ (by omega)
theorem PW_off {m : mx_M} {L : Nat} {H : vH} (h : PW m L H) (x : Int32) : PW (mo_off m x) L H := PW_w (PW_w (PW_w h (by decide)) (by decide)) (by decide)
theorem PW_leave {m : mx_M} {L : Nat} {H : vH} (h : PW m L H) {s : Nat} (hs : s < 4) : PW (mo_leave m (Int32.ofNat s)) L H := PW_off (PW_s4 h hs (by decide) _ _ _) _
theorem PW_ask {m : mx_M} {L : Nat} {H : vH} (h : PW m L H) {s : Nat} (hs : s < 4) : PW (mo_ask m (Int32.ofNat s)) L H := by
  unfold mo_ask
  split
  · exact PW_w (PW_w (PW_s4 h hs (by decide) _ _ _) (by decide)) (by decide)
  · exact PW_w (PW_w (PW_s4 h hs (by decide) _ _ _) (by decide)) (by decide)
theorem PW_acc {m : mx_M} {L : Nat} {H : vH} (h : PW m L H) {s : Nat} (hs : s < 4) (y : Int32) : PW (mo_accepted m (Int32.ofNat s) y) L H := by
  unfold mo_accepted
  split
  · split
    · exact PW_s4 (PW_w (PW_w (PW_w h (by decide)) (by decide)) (by decide)) hs (by decide) _ _ _
    · exact h
  · exact PW_s4 (PW_w (PW_w (PW_w h (by decide)) (by decide)) (by decide)) hs (by decide) _ _ _
theorem PW_toSub {m : mx_M} {L : Nat} {H : vH} (h : PW m L H) {t : Nat} (ht : t < 4) (k x y w : Int32) (h0 : 0 ≤ (m.1 94 t).toInt) (h1 : (m.1 94 t).toInt < 2147483647) : PW (mo_toSubscriber m (Int32.ofNat t) k x y w) L H := by
  rw [mo_toSub_eq m ht k x y w h0 h1]
  split
  · split
    · exact PW_ask (PW_w (PW_w (PW_w h (by decide)) (by decide)) (by decide)) ht
    · exact h
  · split
    · exact h
    · split
      · exact h
      · split
        · exact PW_off h _
        · split
          · exact PW_acc h ht _
          · split
            · exact PW_leave h ht
            · split
              · have := PW_s4 (PW_w h (i := 93) (k := t) (v := 0) (by decide)) ht (k := 9) (by decide) x 0 0
                rw [mo_sendOff_eq] at this
                exact this
              · split
                · exact PW_w (PW_w (PW_w h (by decide)) (by decide)) (by decide)
                · exact h
theorem PW_td {m : mx_M} {L : Nat} {H : vH} (h : PW m L H) (hi : iE m 1399) (x : Int32) : PW (mo_takeDown m x) L H := by
  unfold mo_takeDown
  split
  · exact PW_say (e := 0) (PW_w (PW_w h (by decide)) (by decide)) (by decide) (rm_iE hi _ 0 0) (fun z => absurd z (by decide)) _ _
  · exact PW_w (PW_w h (by decide)) (by decide)
theorem PW_jn {m : mx_M} {L : Nat} {H : vH} (h : PW m L H) (hi : iE m 1398) {t : Nat} (ht : t < 4) : PW (mo_jn m t) L H := by
  unfold mo_jn
  have h4 := PW_o (PW_w (PW_w h (i := 82) (k := 28) (v := m.1 82 28 + 1) (by decide)) (i := 96) (k := t) (v := m.1 82 28 + 1) (by decide)) (t := t) (by omega) (by omega) 2 (m.1 82 28 + 1) 0 0
  have i4 : iE (my_send (my_pi (my_pi m 82 28 (m.1 82 28 + 1)) 96 t (m.1 82 28 + 1)) (pk9 2 4 (Int32.ofNat t) (m.1 82 28 + 1) 0 0 0 0 0)) 1398 := iE_f hi (fun i h1 h2 => by rw [my_send_o _ _ (by omega), qi_row (by omega), qi_row (by omega)])
  dsimp only
  generalize hM : my_send (my_pi (my_pi m 82 28 (m.1 82 28 + 1)) 96 t (m.1 82 28 + 1)) (pk9 2 4 (Int32.ofNat t) (m.1 82 28 + 1) 0 0 0 0 0) = M at *
  split
  · have i7 : iE (my_pi (mo_clear (my_pi M 82 30 (m.1 82 30 + 1)) 0 (m.1 82 30 + 1)) 82 17 0) 1398 := iE_f (clear_iE (e := 0) (by decide) (by decide) (iE_f i4 (fun i h1 h2 => qi_row (show ¬ i = 82 by omega))) (m.1 82 30 + 1) (m := my_pi M 82 30 (m.1 82 30 + 1))) (fun i h1 h2 => qi_row (by omega))
    refine PW_say (PW_say (PW_w (PW_clear (PW_w h4 (by decide)) (e := 0) (by decide) _) (by decide)) (e := 0) (by decide) (iE_mono i7 (by decide)) (fun z => absurd z (by decide)) _ _) (e := 0) (by decide) ?_ (fun z => absurd z (by decide)) _ _
    exact say_iE (e := 0) (by decide) (by decide) i7 12 0 0
  · exact PW_say h4 (e := 0) (by decide) (iE_mono i4 (by decide)) (fun z => absurd z (by decide)) _ _
theorem PW_join {m : mx_M} {L : Nat} {H : vH} (h : PW m L H) (hi : iE m 1397) {t : Nat} (ht : t < 4) : PW (mo_join m (Int32.ofNat t)) L H := by
  rw [mo_join_eq m ht hi]
  split
  · exact PW_jn (PW_td h (iE_mono hi (by decide)) _) (td_iE (by decide) hi ht) ht
  · exact PW_jn h (iE_mono hi (by decide)) ht
theorem PW_45 {m : mx_M} {L : Nat} {H : vH} (h : PW m L H) (k d e f : Int32) : PW (mo_sendOff m k 4 5 d e f) L H := by
  rw [mo_sendOff_eq]
  exact PW_o h (t := 5) (by decide) (by decide) k d e f
theorem PW_fromSub {m : mx_M} {L : Nat} {H : vH} (h : PW m L H) (hi : iE m 1397) {t : Nat} (ht : t < 4) (k x y w : Int32) : PW (mo_fromSubscriber m (Int32.ofNat t) k x y w) L H := by
  unfold mo_fromSubscriber
  split
  · exact PW_join h hi ht
  · split
    · exact h
    · split
      · split
        · exact PW_td h (iE_mono hi (by decide)) _
        · split
          · split
            · exact PW_45 h _ _ _ _
            · split
              · exact PW_45 h _ _ _ _
              · split
                · exact PW_45 h _ _ _ _
                · split
                  · exact PW_45 h _ _ _ _
                  · exact h
          · exact h
      · exact h
theorem PW_fromSrv {m : mx_M} {L : Nat} {H : vH} (h : PW m L H) (hc : iC m) (k x y w : Int32) : PW (mo_fromServer m k x y w) L H := by
  unfold mo_fromServer
  rw [mo_co_eq hc]
  rcases cof_cases (m.1 96) x with ⟨e, _⟩ | ⟨s, hs, e, _, _⟩
  · rw [e, if_pos neg1_lt]; exact h
  · rw [e, if_neg (of_nneg hs)]
    have g (k : Int32) : PW (mo_sendOff m k 4 (Int32.ofNat s) x y w) L H := by
      rw [mo_sendOff_eq]
      exact PW_o h (t := s) (by omega) (by omega) k x y w
    split
    · exact g _
    · split
      · exact g _
      · split
        · exact g _
        · split
          · exact g _
          · exact h
theorem PW_rm {m : mx_M} {L : Nat} {H : vH} (h : PW m L H) {k : Nat} (hk : k < m.2.2.val) : PW (mo_endSession m (Int32.ofNat k)) L H := by
  rw [mo_endS_eq m hk]
  exact PW_f h (rm_o (by omega)) rfl
theorem PW_login {m : mx_M} {L : Nat} {H : vH} (h : PW m L H) (hi : iE m 1399) {k : Nat} (hk : k < m.2.2.val) (u w : Int32) : PW (mo_login m (Int32.ofNat k) u w) L H := by
  have hb : m.2.2.val < 5 := m.2.2.isLt
  obtain ⟨l1, l2, l3, l4⟩ := mo_login_eq m (k := k) (by omega) u w
  by_cases s1 : m.1 100 k = 1
  · by_cases ok : lg_ok m u w
    · rw [l1 s1 ok]
      exact PW_54 (PW_w (PW_w h (by decide)) (by decide)) (by decide) _ _ _
    · rw [l2 s1 ok]
      unfold lg_no
      have g := PW_54 h (k := 6) (by decide) (m.1 99 k) 0 0
      have hk' : k < (my_send m (pk9 6 5 4 (m.1 99 k) 0 0 0 0 0)).2.2.val := by rw [my_send_s]; exact hk
      refine PW_say (PW_rm g hk') (e := 1) (by decide) ?_ (fun _ => ok15) _ _
      rw [mo_endS_eq _ hk']
      exact iE_f hi (fun i h1 h2 => by rw [rm_o (by omega), my_send_o _ _ (by omega)])
  · by_cases s2 : m.1 100 k = 2
    · rw [l3 s2]
      exact PW_54 h (by decide) _ _ _
    · rw [l4 s1 s2]; exact h
theorem PW_toS {m : mx_M} {L : Nat} {H : vH} (h : PW m L H) (hi : iE m 1399) (hn : iNm m) (h0 : 0 ≤ (m.1 82 24).toInt) (kd n b w : Int32) : PW (mo_toSession m kd n b w) L H := by
  have hb : m.2.2.val < 5 := m.2.2.isLt
  rcases mo_ixx hn n with ⟨k, hk, _, e⟩ | e
  · rw [mo_toS_eq m kd n b w h0 (k := k) (by omega) e]
    have g := PW_w h (i := 102) (k := k) (v := 0) (by decide)
    split
    · exact PW_login g (iE_f hi (fun i h1 h2 => qi_row (by omega))) (k := k) hk _ _
    · split
      · exact PW_w g (by decide)
      · split
        · split
          · exact PW_w (PW_w (PW_w g (by decide)) (by decide)) (by decide)
          · exact PW_w g (by decide)
        · exact g
  · unfold mo_toSession
    rw [e, if_pos neg1_lt]; exact h
theorem PW_accDoes {m : mx_M} {L : Nat} {H : vH} (h : PW m L H) (hi : iE m 1399) (hc : iC m) (kd x y : Int32) : PW (mo_accessDoes m kd x y) L H := by
  unfold mo_accessDoes
  rw [mo_co_eq hc]
  split
  · split
    · exact PW_say h (e := 0) (by decide) hi (fun z => absurd z (by decide)) _ _
    · exact PW_w h (by decide)
  · split
    · rcases cof_cases (m.1 96) x with ⟨e, _⟩ | ⟨s, hs, e, _, _⟩
      · rw [e, if_pos neg1_lt]; exact h
      · rw [e, if_neg (of_nneg hs)]
        show PW (mo_sendOff _ _ _ _ _ _ _) _ _
        rw [mo_sendOff_eq]
        exact PW_o (PW_w (PW_w h (by decide)) (by decide)) (t := s) (by omega) (by omega) _ _ _ _
    · exact h
theorem PW_srvDoes {m : mx_M} {L : Nat} {H : vH} (h : PW m L H) (hi : iE m 1399) (hn : iNm m) (kd x : Int32) : PW (mo_serverDoes m kd x) L H := by
  have hb : m.2.2.val < 5 := m.2.2.isLt
  unfold mo_serverDoes
  by_cases h15 : kd = 15
  · subst h15
    rw [if_pos rfl]
    simp only [show ¬ (15 : Int32) = 13 by decide, if_false]
    rcases mo_ixx hn x with ⟨k, hk, _, e⟩ | e
    · rw [e, if_neg (of_nneg (by omega))]; exact PW_rm h hk
    · rw [e, if_pos neg1_lt]; exact h
  · rw [if_neg h15]
    split
    · split
      · exact PW_say h (e := 1) (by decide) hi (fun _ => ok15) _ _
      · refine PW_say (e := 1) ?_ (by decide) ?_ (fun _ => ok14) _ _
        · exact PW_f (PW_w (PW_w (PW_w (PW_w (PW_w (PW_w h (i := 82) (by decide)) (i := 98) (by decide)) (i := 99) (by decide)) (i := 100) (by decide)) (i := 101) (by decide)) (i := 102) (by decide)) rfl rfl
        · refine iE_f hi (fun i h1 h2 => ?_)
          show (my_pi _ _ _ _).1 i = _
          rw [qi_row (by omega), qi_row (by omega), qi_row (by omega), qi_row (by omega), qi_row (by omega), qi_row (by omega)]
    · exact h
theorem PW_tk {m : mx_M} {L : Nat} (h : PW m (L + 1) none) : PW (mo_tk m 0) L (vw m 0) := by
  have := h.2
  exact ⟨AllP_tk h.1 (by omega), by rw [tk_cnt (by omega)]; omega⟩
def okM (m : mx_M) : Prop := ∀ n : Nat, (n : Int) < (m.1 109 1).toInt → okd (m.1 113 (1400 + n))
theorem settle_f {m : mx_M} {e : Nat} (he : e < 2) (hi : iE m 1397) (kn : Int32) : (mo_settle m e kn).2.2 = m.2.2 ∧ ∀ i j, ¬ i = 85 → ¬ ((i = 107 ∨ i = 108 ∨ i = 111 ∨ i = 112) ∧ j = e) → (mo_settle m e kn).1 i j = m.1 i j :=
  settle_o he (by have := (iE_get hi he).2.2.1; omega) kn
/-- facts about the memory in which an end does its message -/
theorem exp_f {m : mx_M} {e : Nat} (he : e < 2) (hi : iE m 1397) (kn : Int32) (hk : kn.toInt ≤ (m.1 108 e).toInt ∨ (m.1 108 e).toInt = (m.1 109 e).toInt) :
    iE (my_pi (mo_settle m e kn) 110 e ((mo_settle m e kn).1 110 e + 1)) 1397 ∧ (iC m → iC (my_pi (mo_settle m e kn) 110 e ((mo_settle m e kn).1 110 e + 1))) ∧ (iNm m → iNm (my_pi (mo_settle m e kn) 110 e ((mo_settle m e kn).1 110 e + 1))) ∧
    (my_pi (mo_settle m e kn) 110 e ((mo_settle m e kn).1 110 e + 1)).2.2 = m.2.2 ∧ (∀ i j, ¬ (i = 85 ∨ 106 ≤ i) → (my_pi (mo_settle m e kn) 110 e ((mo_settle m e kn).1 110 e + 1)).1 i j = m.1 i j) := by
  have so := settle_f he hi kn
  have gi := settle_iE he (by decide) hi kn hk
  have oo : ∀ i j, ¬ (i = 85 ∨ 106 ≤ i) → (my_pi (mo_settle m e kn) 110 e ((mo_settle m e kn).1 110 e + 1)).1 i j = m.1 i j := fun i j hij => by
    rw [qi_ne (by omega), so.2 i j (by omega) (by omega)]
  refine ⟨iE_f gi (fun i h1 h2 => qi_row (by omega)), fun h => iC_f h (funext fun j => oo 96 j (by omega)) (funext fun j => oo 97 j (by omega)), fun h => ?_, so.1, oo⟩
  intro i j hi1 hj1
  rw [oo 98 i (by omega), oo 98 j (by omega)]
  have e22 : (my_pi (mo_settle m e kn) 110 e ((mo_settle m e kn).1 110 e + 1)).2.2 = m.2.2 := so.1
  rw [e22] at hi1 hj1
  exact h i j hi1 hj1
theorem PW_c34 {m : mx_M} {L : Nat} {H : vH} (h : PW m L H) {e : Nat} (he : e < 2) (hi : iE m 1397) (hc : iC m) (hn : iNm m) (hm : okM m) (kd x y ch n kn : Int32) (hk : ch = m.1 106 e → kn.toInt ≤ (m.1 108 e).toInt ∨ (m.1 108 e).toInt = (m.1 109 e).toInt) : PW (mo_control_34 1 m (Int32.ofNat e) kd x y ch n kn) L H := by
  rw [mo_c34_eq m he]
  by_cases hch : ch = m.1 106 e
  · rw [if_pos hch]
    obtain ⟨i1, i2, i3, i4, i5⟩ := iE_get hi he
    have g := PW_settle h he (by omega) (by omega) kn (fun z n hn => by subst z; exact hm n hn)
    obtain ⟨x1, x2, x3, x4, x5⟩ := exp_f he hi kn (hk hch)
    have g2 : PW (my_pi (mo_settle m e kn) 110 e ((mo_settle m e kn).1 110 e + 1)) L H := PW_w g (by decide)
    split
    · exact g
    · split
      · refine PW_tr ?_ he (by decide) (fun _ z => absurd neg1_lt z)
        split
        · exact PW_accDoes g2 (iE_mono x1 (by decide)) (x2 hc) _ _ _
        · exact PW_srvDoes g2 (iE_mono x1 (by decide)) (x3 hn) _ _
      · exact PW_tr g he (by decide) (fun _ z => absurd neg1_lt z)
  · rw [if_neg hch]; exact h
/-- the reference's server where an OPEN begins a channel -/
theorem ctl_cases (m : mx_M) (kd x y ch n kn : Int32) : mo_control m 1 kd x y ch n kn = mo_control_34 1 (if kd = 12 ∧ m.1 106 1 < ch then mo_clear (my_ps m 0) 1 ch else m) 1 kd x y ch n kn := by
  unfold mo_control
  rw [if_pos rfl]
  by_cases h12 : kd = 12
  · rw [if_pos h12]
    by_cases hl : m.1 106 1 < ch
    · rw [if_pos hl, if_pos ⟨h12, hl⟩]
    · rw [if_neg hl, if_neg (fun z => hl z.2)]
  · rw [if_neg h12, if_neg (fun z => h12 z.1)]
theorem ctl_0 (m : mx_M) (kd x y ch n kn : Int32) : mo_control m 0 kd x y ch n kn = mo_control_34 1 m 0 kd x y ch n kn := by
  unfold mo_control
  rw [if_neg (by decide)]
/-- what holds of the memory with which an end goes on -/
theorem ctl_m {m : mx_M} (hi : iE m 1397) (hc : iC m) (hn : iNm m) (hm : okM m) (kd ch kn : Int32) (hk : ¬ (kd = 12 ∧ m.1 106 1 < ch) → ch = m.1 106 1 → kn.toInt ≤ (m.1 108 1).toInt ∨ (m.1 108 1).toInt = (m.1 109 1).toInt) :
    iE (if kd = 12 ∧ m.1 106 1 < ch then mo_clear (my_ps m 0) 1 ch else m) 1397 ∧ iC (if kd = 12 ∧ m.1 106 1 < ch then mo_clear (my_ps m 0) 1 ch else m) ∧ iNm (if kd = 12 ∧ m.1 106 1 < ch then mo_clear (my_ps m 0) 1 ch else m) ∧ okM (if kd = 12 ∧ m.1 106 1 < ch then mo_clear (my_ps m 0) 1 ch else m) ∧
    (ch = (if kd = 12 ∧ m.1 106 1 < ch then mo_clear (my_ps m 0) 1 ch else m).1 106 1 → kn.toInt ≤ ((if kd = 12 ∧ m.1 106 1 < ch then mo_clear (my_ps m 0) 1 ch else m).1 108 1).toInt ∨ ((if kd = 12 ∧ m.1 106 1 < ch then mo_clear (my_ps m 0) 1 ch else m).1 108 1).toInt = ((if kd = 12 ∧ m.1 106 1 < ch then mo_clear (my_ps m 0) 1 ch else m).1 109 1).toInt) ∧
    (∀ i j, ¬ (106 ≤ i ∧ i < 113 ∧ j = 1) → (if kd = 12 ∧ m.1 106 1 < ch then mo_clear (my_ps m 0) 1 ch else m).1 i j = m.1 i j) ∧ (if kd = 12 ∧ m.1 106 1 < ch then mo_clear (my_ps m 0) 1 ch else m).2.1 = m.2.1 ∧ (if kd = 12 ∧ m.1 106 1 < ch then mo_clear (my_ps m 0) 1 ch else m).2.2.val ≤ m.2.2.val := by
  by_cases ho : kd = 12 ∧ m.1 106 1 < ch
  · rw [if_pos ho]
    have o (i j : Nat) (h1 : ¬ (106 ≤ i ∧ i < 113 ∧ j = 1)) : (mo_clear (my_ps m 0) 1 ch).1 i j = m.1 i j := clear_o (e := 1) (my_ps m 0) (by decide) ch h1
    have cv := clear_v (my_ps m 0) (e := 1) (by decide) ch
    have c1 : (mo_clear (my_ps m 0) 1 ch).1 108 1 = 0 := cv.2.2.1
    have c2 : (mo_clear (my_ps m 0) 1 ch).1 109 1 = 0 := cv.2.2.2.1
    refine ⟨clear_iE (e := 1) (by decide) (by decide) (m := my_ps m 0) hi ch, iC_f hc (funext fun j => o 96 j (by omega)) (funext fun j => o 97 j (by omega)), fun i j h1 => absurd h1 (Nat.not_lt_zero i), fun n hn => ?_, fun _ => Or.inr (by rw [c1, c2]), o, rfl, Nat.zero_le _⟩
    rw [c2, show (0 : Int32).toInt = 0 from rfl] at hn
    omega
  · rw [if_neg ho]
    exact ⟨hi, hc, hn, hm, hk ho, fun _ _ _ => rfl, rfl, Nat.le_refl _⟩
theorem PW_arrive {m : mx_M} {L : Nat} (h : PW m (L + 1) none) (ok : arOK m) (hm : okM m) : PW (mo_arrive m).1 L none := by
  obtain ⟨o1, oS, oW, oE, oC, oN, oI, oP, ⟨⟨t, ht, e2⟩, p1, p4, p40c, p5c⟩⟩ := ok
  obtain ⟨A1, A2, A3, A4, A5, A6⟩ := arrive_eq m o1 ht e2
  have g := PW_tk h
  have o (i : Nat) (hi : ¬ i = 85) : (mo_tk m 0).1 i = m.1 i := tk_o hi
  have hE : iE (mo_tk m 0) 1397 := iE_f oE (fun i h1 h2 => o i (by omega))
  have hC : iC (mo_tk m 0) := iC_f oC (o 96 (by decide)) (o 97 (by decide))
  have hN : iNm (mo_tk m 0) := by unfold iNm; rw [o 98 (by decide)]; exact oN
  have hM : okM (mo_tk m 0) := by unfold okM; rw [o 109 (by decide), o 113 (by decide)]; exact hm
  by_cases t4 : t < 4
  · rw [A1 t4]
    exact PW_nh (PW_toSub g t4 _ _ _ _ (by rw [o 94 (by decide)]; exact (oW.1 t t4).1) (by rw [o 94 (by decide)]; exact (oW.1 t t4).2))
  · by_cases hz : 0 < m.1 105 (t - 4)
    · rw [A2 t4 hz]; exact PW_nh g
    · by_cases hk : fp m 0 0 < 12
      · have t45 : t = 4 ∨ t = 5 := by omega
        rcases t45 with rfl | rfl
        · rcases p4 e2 hk with ⟨z, _⟩ | ⟨u, hu, z, _⟩
          · rw [A5 rfl hz hk (by rw [z]; decide)]
            exact PW_nh (PW_fromSrv g hC _ _ _ _)
          · rw [A4 rfl hz hk (by rw [z]; exact (ofl4 (by omega)).2 hu), z]
            exact PW_nh (PW_fromSub g hE hu _ _ _ _)
        · rw [A3 rfl hz hk]
          exact PW_nh (PW_toS g (iE_mono hE (by decide)) hN (by rw [o 82 (by decide)]; exact oW.2.1) _ _ _ _)
      · rw [A6 t4 hz hk]
        have t45 : t = 4 ∨ t = 5 := by omega
        rcases t45 with rfl | rfl
        · have e := ctl_0 (mo_tk m 0) (fp m 0 0) (fp m 0 3) (fp m 0 4) (fp m 0 6) (fp m 0 7) (fp m 0 8)
          rw [show mo_control (mo_tk m 0) (Int32.ofNat (4 - 4)) (fp m 0 0) (fp m 0 3) (fp m 0 4) (fp m 0 6) (fp m 0 7) (fp m 0 8) = mo_control (mo_tk m 0) 0 (fp m 0 0) (fp m 0 3) (fp m 0 4) (fp m 0 6) (fp m 0 7) (fp m 0 8) from rfl, e]
          exact PW_nh (PW_c34 g (e := 0) (by decide) hE hC hN hM _ _ _ _ _ _ (by rw [o 106 (by decide), o 108 (by decide), o 109 (by decide)]; exact p40c e2 hk))
        · have e := ctl_cases (mo_tk m 0) (fp m 0 0) (fp m 0 3) (fp m 0 4) (fp m 0 6) (fp m 0 7) (fp m 0 8)
          rw [show mo_control (mo_tk m 0) (Int32.ofNat (5 - 4)) (fp m 0 0) (fp m 0 3) (fp m 0 4) (fp m 0 6) (fp m 0 7) (fp m 0 8) = mo_control (mo_tk m 0) 1 (fp m 0 0) (fp m 0 3) (fp m 0 4) (fp m 0 6) (fp m 0 7) (fp m 0 8) from rfl, e]
          obtain ⟨c1, c2, c3, c4, c5, c6, c7, c8⟩ := ctl_m hE hC hN hM (fp m 0 0) (fp m 0 6) (fp m 0 8) (by rw [o 106 (by decide), o 108 (by decide), o 109 (by decide)]; exact p5c e2 hk)
          exact PW_nh (PW_c34 (PW_f g (funext fun j => c6 85 j (by omega)) c7) (e := 1) (by decide) c1 c2 c3 c4 _ _ _ _ _ _ c5)
/-! timers and calls -/
theorem PW_subT {m : mx_M} {L : Nat} {H : vH} (h : PW m L H) {s : Nat} (hs : s < 4) : PW (mo_subscriberTimer m (Int32.ofNat s)) L H := by
  unfold mo_subscriberTimer
  dsimp only
  split
  · split
    · exact PW_leave (PW_w h (by decide)) hs
    · exact PW_w h (by decide)
  · split
    · exact h
    · split
      · exact PW_w h (by decide)
      · split
        · exact PW_ask (PW_w h (by decide)) hs
        · split
          · exact PW_leave (PW_w h (by decide)) hs
          · exact PW_off (PW_w h (by decide)) _
theorem PW_sT4 {m : mx_M} {L : Nat} {H : vH} (h : PW m L H) : PW (sT4 m) L H := PW_subT (PW_subT (PW_subT (PW_subT h (s := 0) (by decide)) (s := 1) (by decide)) (s := 2) (by decide)) (s := 3) (by decide)
theorem PW_cl {m : mx_M} {L : Nat} {H : vH} (h : PW m L H) {t : Nat} (ht : t < 4) : PW (mo_cl m t) L H := by
  unfold mo_cl
  split
  · exact h
  · exact PW_o (PW_w (PW_w h (by decide)) (by decide)) (t := t) (by omega) (by omega) _ _ _ _
theorem PW_tl {m : mx_M} {L : Nat} {H : vH} (h : PW m L H) (hi : iE m 1399) : PW (mo_tl m) L H := by
  unfold mo_tl
  split
  · split
    · split
      · exact PW_w (PW_say (PW_w h (by decide)) (e := 0) (by decide) (iE_f hi (fun i h1 h2 => qi_row (by omega))) (fun z => absurd z (by decide)) _ _) (by decide)
      · exact PW_w h (by decide)
    · exact PW_w h (by decide)
  · exact PW_w h (by decide)
theorem PW_aT {m : mx_M} {L : Nat} {H : vH} (h : PW m L H) (hi : iE m 1399) (hc : iC m) : PW (aT m) L H := by
  unfold aT
  split
  · exact PW_w h (by decide)
  · rw [mo_at_eq2]
    have hi' := iE_mono hi (show (1399 : Int) ≤ 1400 by decide)
    have hm := mo_et_0 hi' hc
    by_cases hb : mo_brk m 0
    · rw [hm.2 hb]
      unfold mo_bk0 mo_cl4
      refine PW_tl (PW_cl (PW_cl (PW_cl (PW_cl (PW_clear (PW_w h (i := 112) (k := 0) (v := m.1 112 0 - 1) (by decide)) (e := 0) (by decide) 0) (t := 0) (by decide)) (t := 1) (by decide)) (t := 2) (by decide)) (t := 3) (by decide)) ?_
      refine iE_f (clear_iE (e := 0) (by decide) (by decide) (iE_f hi (fun i h1 h2 => qi_row (show ¬ i = 112 by omega))) 0 (m := my_pi m 112 0 (m.1 112 0 - 1))) (fun i h1 h2 => ?_)
      funext j
      exact cl4_o (by omega)
    · rw [hm.1 hb]
      refine PW_tl (PW_et0 h (e := 0) (by decide) hi' (fun z => absurd z (by decide))) (iE_f hi (fun i h1 h2 => ?_))
      funext j
      exact et0_o (by decide) hi'.1 (by omega)
theorem PW_eat {m : mx_M} {L : Nat} {H : vH} (h : PW m L H) (k : Nat) (v : Int32) : PW (mo_eat m k v) L H := by
  unfold mo_eat
  split
  · exact PW_54 (PW_w h (by decide)) (by decide) _ _ _
  · split
    · exact PW_54 (PW_w h (by decide)) (by decide) _ _ _
    · exact PW_w h (by decide)
/-- the kinds of the server's messages stay -/
theorem okM_say {m : mx_M} (h : okM m) (hi : iE m 1399) {k : Int32} (hk : okd k) (a b : Int32) : okM (mo_say m 1 k a b) := by
  have hie := hi.2
  have es : mo_say m 1 k a b = _ := mo_say_eq m (e := 1) (by decide) hie k a b
  obtain ⟨i1, i2, i3, i4, i5⟩ := hie
  have key : okM (sy6 m 1 k a b) := by
    intro n hn
    rw [sy6_109, i_p1 (by omega)] at hn
    have k4 : (sy4 m 1 k a b).1 113 (1400 + n) = if n = (m.1 109 1).toInt.toNat then k else m.1 113 (1400 + n) := by
      unfold sy4
      rw [qi_ne (by omega), qi_ne (by omega), qi_ne (by omega), qi_if]
      by_cases hz : n = (m.1 109 1).toInt.toNat
      · rw [if_pos hz, if_pos ⟨rfl, by omega⟩]
      · rw [if_neg hz, if_neg (by omega)]
    have k6 : (sy6 m 1 k a b).1 113 (1400 + n) = if n = (m.1 109 1).toInt.toNat then k else m.1 113 (1400 + n) := by
      unfold sy6
      split
      · rw [qi_ne (by omega), qi_ne (by omega)]; exact k4
      · exact k4
    rw [k6]
    split
    · exact hk
    · exact h n (by omega)
  rw [es]
  split
  · exact h
  · split
    · intro n hn
      rw [qi_ne (by omega), my_tr_o _ (by decide) _ (by omega) (by decide)] at hn
      rw [qi_ne (by omega), my_tr_o _ (by decide) _ (by omega) (by decide)]
      exact key n hn
    · exact key
theorem okM_f {m m' : mx_M} (h : okM m) (h9 : m'.1 109 1 = m.1 109 1) (h13 : m'.1 113 = m.1 113) : okM m' := by
  unfold okM
  rw [h9, h13]
  exact h
theorem PW_stl : ∀ (n : Nat) (m : mx_M) (k : Nat), PW m 0 none → okM m → k ≤ m.2.2.val → m.2.2.val - k < n → iE m (1399 - (m.2.2.val : Int)) → PW (mo_serverTimer_2 n m (Int32.ofNat k)) 0 none := by
  intro n
  induction n with
  | zero => intro m k h hm h1 h2 hi; omega
  | succ n ih =>
    intro m k h hm h1 h2 hi
    have hb : m.2.2.val < 5 := m.2.2.isLt
    by_cases hk : k < m.2.2.val
    · rw [mo_st_step n m hk]
      by_cases h12 : m.1 102 k + 1 = 12
      · rw [if_pos h12]
        have b := iE_f hi (fun i h1 h2 => qi_row (show ¬ i = 102 by omega)) (m' := my_pi m 102 k (m.1 102 k + 1))
        have eS := mo_endS_eq (my_pi m 102 k (m.1 102 k + 1)) (a := k) hk
        have hE : iE (mo_endSession (my_pi m 102 k (m.1 102 k + 1)) (Int32.ofNat k)) 1399 := by
          rw [eS]
          exact iE_f (iE_mono b (by omega)) (fun i h1 h2 => rm_o (by omega))
        have gi := lgn_iE b (show 1399 - (m.2.2.val : Int) ≤ 1399 by omega) (k := k) hk (m.1 99 k)
        have es : (mo_say (mo_endSession (my_pi m 102 k (m.1 102 k + 1)) (Int32.ofNat k)) 1 15 (m.1 99 k) 0).2.2.val = m.2.2.val - 1 := by
          have t2 : (mo_say (mo_endSession (my_pi m 102 k (m.1 102 k + 1)) (Int32.ofNat k)) 1 15 (m.1 99 k) 0).2.2 = (mo_endSession (my_pi m 102 k (m.1 102 k + 1)) (Int32.ofNat k)).2.2 := say_s (e := 1) (by decide) hE.2 15 (m.1 99 k) 0
          rw [t2, eS]
          exact rm_cnt (m := my_pi m 102 k (m.1 102 k + 1)) hk
        have g := PW_say (PW_rm (PW_w h (i := 102) (k := k) (v := m.1 102 k + 1) (by decide)) (k := k) hk) (e := 1) (by decide) hE (fun _ => ok15) (m.1 99 k) 0
        have gm : okM (mo_endSession (my_pi m 102 k (m.1 102 k + 1)) (Int32.ofNat k)) := by
          rw [eS]
          exact okM_f hm (by rw [rm_o (by omega), qi_ne (by omega)]) (by rw [rm_o (by omega), qi_row (by decide)])
        exact ih _ k g (okM_say gm hE ok15 _ _) (by rw [es]; omega) (by rw [es]; omega) (by rw [es]; exact iE_mono gi (by omega))
      · rw [if_neg h12]
        exact ih _ (k + 1) (PW_eat h k _) (okM_f hm (eat_o (by omega)) (funext fun j => eat_o (by omega))) (by rw [eat_s]; omega) (by rw [eat_s]; omega) (by rw [eat_s]; exact iE_f hi (fun i h1 h2 => funext fun j => eat_o (by omega)))
    · rw [mo_serverTimer_2, if_neg (fun z => hk ((of_le (by omega) (by omega)).1 z))]
      have hi' := iE_mono hi (show 1399 - (m.2.2.val : Int) ≤ 1400 by omega)
      have hE := mo_endTimer_eq m (e := 1) (by decide) hi'.2
      show PW (mo_endTimer m 1) 0 none
      by_cases hbk : mo_brk m 1
      · have m1 : mo_endTimer m 1 = my_ps (mo_clear (my_pi m 112 1 (m.1 112 1 - 1)) 1 0) 0 := (hE.2 hbk).trans (if_neg (by decide))
        rw [m1]
        exact PW_f (PW_clear (PW_w h (i := 112) (k := 1) (v := m.1 112 1 - 1) (by decide)) (e := 1) (by decide) 0) rfl rfl
      · have m1 : mo_endTimer m 1 = mo_et0 m 1 := hE.1 hbk
        rw [m1]
        exact PW_et0 h (by decide) hi' (fun _ => hm)
theorem PW_vT {m : mx_M} (h : PW m 0 none) (hm : okM m) (hi : iE m 1395) : PW (vT m) 0 none := by
  unfold vT
  split
  · exact PW_w h (by decide)
  · have hb : m.2.2.val < 5 := m.2.2.isLt
    exact PW_stl 6 m 0 h hm (by omega) (by omega) (iE_mono hi (by omega))
theorem PW_begin {m : mx_M} (h : PW m 0 none) : PW m m.2.1.val none := ⟨AllP_old h.1 (fun _ _ _ _ _ _ w => w), Nat.le_refl _⟩
theorem PW_dial {m : mx_M} {L : Nat} {H : vH} (h : PW m L H) (x y z : Int32) : PW (mo_dial m x y z).1 L H := by
  unfold mo_dial
  rcases out_eq (c := (fun _ _ => 0, fun _ => 0, fun _ => 0, 0, 0)) (m := m) x 4 (by decide) with ⟨e, k, hk, rfl⟩ | ⟨e, _⟩
  · have e' : mo_out m (Int32.ofNat k) 4 = 0 := e
    rw [e', if_pos rfl]
    split
    · exact PW_ask (PW_w (PW_w (PW_w (PW_w h (by decide)) (by decide)) (by decide)) (by decide)) hk
    · exact h
  · have e' : mo_out m x 4 = 1 := e
    rw [e', if_neg (by decide)]; exact h
theorem PW_hangup {m : mx_M} {L : Nat} {H : vH} (h : PW m L H) (x : Int32) : PW (mo_hangup m x).1 L H := by
  unfold mo_hangup
  rcases out_eq (c := (fun _ _ => 0, fun _ => 0, fun _ => 0, 0, 0)) (m := m) x 4 (by decide) with ⟨e, k, hk, rfl⟩ | ⟨e, _⟩
  · have e' : mo_out m (Int32.ofNat k) 4 = 0 := e
    rw [e', if_pos rfl]
    split
    · exact h
    · split
      · exact PW_leave h hk
      · exact PW_off h _
  · have e' : mo_out m x 4 = 1 := e
    rw [e', if_neg (by decide)]; exact h
theorem PW_sendc {m : mx_M} {L : Nat} {H : vH} (h : PW m L H) (x y z : Int32) : PW (mo_send m x y z).1 L H := by
  unfold mo_send
  rcases out_eq (c := (fun _ _ => 0, fun _ => 0, fun _ => 0, 0, 0)) (m := m) x 4 (by decide) with ⟨e, k, hk, rfl⟩ | ⟨e, _⟩
  · have e' : mo_out m (Int32.ofNat k) 4 = 0 := e
    rw [e', if_pos rfl]
    split
    · exact PW_s4 h hk (by decide) _ _ _
    · exact h
  · have e' : mo_out m x 4 = 1 := e
    rw [e', if_neg (by decide)]; exact h
theorem PW_core2 {m : mx_M} {L : Nat} {H : vH} (h : PW m L H) (x y : Int32) : ∀ (n : Nat) (i : Int32), PW (mo_core_2 n m x y i).1 L H := by
  intro n
  induction n with
  | zero => intro i; exact h
  | succ n ih =>
    intro i
    rw [mo_core_2]
    split
    · split
      · split
        · show PW (mo_sendOff _ _ _ _ _ _ _) _ _
          rw [mo_sendOff_eq]
          exact PW_54 h (by decide) _ _ _
        · exact ih _
      · exact ih _
    · exact h
