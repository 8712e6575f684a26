/-! subscribers, side by side -/
theorem pi_if (c : mx_C) (i k : Nat) (v : Int32) (a b : Nat) : (mx_pi c i k v).1 a b = if a = i ∧ b = k then v else c.1 a b := mx_up_if _ _ _ _ _ _
theorem qi_if (m : mx_M) (i k : Nat) (v : Int32) (a b : Nat) : (my_pi m i k v).1 a b = if a = i ∧ b = k then v else m.1 a b := mx_up_if _ _ _ _ _ _
theorem tw4 {s : Nat} (h : s < 4) : ((47 + 3 * s, 4), (86, s)) ∈ tbW := (by decide +kernel : ∀ s : Fin 4, ((47 + 3 * s.val, 4), (86, s.val)) ∈ tbW) ⟨s, h⟩
theorem tw5 {s : Nat} (h : s < 4) : ((47 + 3 * s, 5), (90, s)) ∈ tbW := (by decide +kernel : ∀ s : Fin 4, ((47 + 3 * s.val, 5), (90, s.val)) ∈ tbW) ⟨s, h⟩
theorem tw6 {s : Nat} (h : s < 4) : ((47 + 3 * s, 6), (87, s)) ∈ tbW := (by decide +kernel : ∀ s : Fin 4, ((47 + 3 * s.val, 6), (87, s.val)) ∈ tbW) ⟨s, h⟩
theorem tw7 {s : Nat} (h : s < 4) : ((47 + 3 * s, 7), (88, s)) ∈ tbW := (by decide +kernel : ∀ s : Fin 4, ((47 + 3 * s.val, 7), (88, s.val)) ∈ tbW) ⟨s, h⟩
theorem tw8 {s : Nat} (h : s < 4) : ((47 + 3 * s, 8), (89, s)) ∈ tbW := (by decide +kernel : ∀ s : Fin 4, ((47 + 3 * s.val, 8), (89, s.val)) ∈ tbW) ⟨s, h⟩
theorem tw9 {s : Nat} (h : s < 4) : ((47 + 3 * s, 9), (92, s)) ∈ tbW := (by decide +kernel : ∀ s : Fin 4, ((47 + 3 * s.val, 9), (92, s.val)) ∈ tbW) ⟨s, h⟩
theorem tw10 {s : Nat} (h : s < 4) : ((47 + 3 * s, 10), (91, s)) ∈ tbW := (by decide +kernel : ∀ s : Fin 4, ((47 + 3 * s.val, 10), (91, s.val)) ∈ tbW) ⟨s, h⟩
theorem tw11 {s : Nat} (h : s < 4) : ((47 + 3 * s, 11), (93, s)) ∈ tbW := (by decide +kernel : ∀ s : Fin 4, ((47 + 3 * s.val, 11), (93, s.val)) ∈ tbW) ⟨s, h⟩
theorem twL {s : Nat} (h : s < 4) : ((60, s), (96, s)) ∈ tbW := (by decide +kernel : ∀ s : Fin 4, ((60, s.val), (96, s.val)) ∈ tbW) ⟨s, h⟩
theorem twQ {s : Nat} (h : s < 4) : ((61, s), (97, s)) ∈ tbW := (by decide +kernel : ∀ s : Fin 4, ((61, s.val), (97, s.val)) ∈ tbW) ⟨s, h⟩
theorem twA {s : Nat} (h : s < 4) : ((68, s), (83, s)) ∈ tbW := (by decide +kernel : ∀ s : Fin 4, ((68, s.val), (83, s.val)) ∈ tbW) ⟨s, h⟩
theorem twB {s : Nat} (h : s < 4) : ((69, s), (84, s)) ∈ tbW := (by decide +kernel : ∀ s : Fin 4, ((69, s.val), (84, s.val)) ∈ tbW) ⟨s, h⟩
theorem wr {c : mx_C} {m : mx_M} (h : rR c m) {i k i' k' : Nat} (hq : ((i, k), (i', k')) ∈ tbW) (v : Int32) : rR (mx_pi c i k v) (my_pi m i' k' v) := rR_w h hq v
theorem rdW {c : mx_C} {m : mx_M} (h : rR c m) {q : (Nat × Nat) × (Nat × Nat)} (hq : q ∈ tbW) : c.1 q.1.1 q.1.2 = m.1 q.2.1 q.2.2 := h.2.1 q (tbW_mem hq)
theorem rdX {c : mx_C} {m : mx_M} (h : rR c m) {q : (Nat × Nat) × (Nat × Nat)} (hq : q ∈ tbX) : c.1 q.1.1 q.1.2 = m.1 q.2.1 q.2.2 := h.2.1 q (tbX_mem hq)
theorem rd_me {c : mx_C} {m : mx_M} (h : rR c m) {s : Nat} (hs : s < 4) : c.1 (47 + 3 * s) 1 = Int32.ofNat s := (h.2.2.2.2.2.1 s hs).2
theorem x_off {c : mx_C} {m : mx_M} (h : rR c m) {s : Nat} (hs : s < 4) : rR (su_turnOff c (47 + 3 * s)) (mo_off m (Int32.ofNat s)) := by
  unfold su_turnOff mo_off
  rw [of_cl s (by omega)]
  exact wr (wr (wr h (tw4 hs) 0) (tw6 hs) 0) (tw5 hs) 0
theorem su_leave_eq (c : mx_C) {t : Nat} (ht : 45 ≤ t) : su_leave c t = if c.1 t 4 = 2 ∨ c.1 t 4 = 3 then su_turnOff (mc_send c (pk9 3 (c.1 t 1) 4 (c.1 t 6) 0 0 0 0 0)) t else su_turnOff c t := by
  unfold su_leave su_hasLink
  simp only [fl_launch_eq, pk_bear_eq, mc_send_o _ _ ht]
  by_cases h2 : c.1 t 4 = 2
  · simp [h2]
  · by_cases h3 : c.1 t 4 = 3
    · simp [h3]
    · simp [h2, h3]
theorem x_leave {c : mx_C} {m : mx_M} (h : rR c m) {s : Nat} (hs : s < 4) (hst : m.1 86 s = 2 ∨ m.1 86 s = 3) : rR (su_leave c (47 + 3 * s)) (mo_leave m (Int32.ofNat s)) := by
  have e4 : c.1 (47 + 3 * s) 4 = m.1 86 s := rdW h (tw4 hs)
  have e6 : c.1 (47 + 3 * s) 6 = m.1 87 s := rdW h (tw6 hs)
  rw [su_leave_eq c (by omega), if_pos (by rw [e4]; exact hst), rd_me h hs, e6]
  unfold mo_leave
  rw [mo_sendOff_eq, of_cl s (by omega)]
  exact x_off (rR_send h _) hs
theorem x_leave0 {c : mx_C} {m : mx_M} (h : rR c m) {s : Nat} (hs : s < 4) (hst : ¬ (m.1 86 s = 2 ∨ m.1 86 s = 3)) : rR (su_leave c (47 + 3 * s)) (mo_off m (Int32.ofNat s)) := by
  have e4 : c.1 (47 + 3 * s) 4 = m.1 86 s := rdW h (tw4 hs)
  rw [su_leave_eq c (by omega), if_neg (by rw [e4]; exact hst)]
  exact x_off h hs
theorem x_ask {c : mx_C} {m : mx_M} (h : rR c m) {s : Nat} (hs : s < 4) : rR (su_request c (47 + 3 * s)) (mo_ask m (Int32.ofNat s)) := by
  have e4 : c.1 (47 + 3 * s) 4 = m.1 86 s := rdW h (tw4 hs)
  have e6 : c.1 (47 + 3 * s) 6 = m.1 87 s := rdW h (tw6 hs)
  have e7 : c.1 (47 + 3 * s) 7 = m.1 88 s := rdW h (tw7 hs)
  have e8 : c.1 (47 + 3 * s) 8 = m.1 89 s := rdW h (tw8 hs)
  have e9 : c.1 (47 + 3 * s) 9 = m.1 92 s := rdW h (tw9 hs)
  have ht : 45 ≤ 47 + 3 * s := by omega
  have h1 := wr (wr h (tw9 hs) (m.1 92 s + 1)) (tw10 hs) 0
  unfold su_request mo_ask
  simp only [fl_launch_eq, pk_bear_eq, mc_send_o _ _ ht, mo_sendOff_eq, of_cl s (show s < 2147483648 by omega), pi_if, my_send_o _ _ (show ¬ 92 = 85 by decide)]
  simp only [show ¬ (4 : Nat) = 9 by decide, show ¬ (4 : Nat) = 10 by decide, show ¬ (1 : Nat) = 9 by decide, show ¬ (1 : Nat) = 10 by decide, show ¬ (6 : Nat) = 9 by decide, show ¬ (6 : Nat) = 10 by decide, show ¬ (7 : Nat) = 9 by decide, show ¬ (7 : Nat) = 10 by decide, show ¬ (8 : Nat) = 9 by decide, show ¬ (8 : Nat) = 10 by decide, and_false, if_false, e4, e6, e7, e8, e9, rd_me h hs]
  by_cases hc : m.1 86 s = 1
  · rw [if_pos hc, if_pos hc]
    have := rR_send h1 (pk9 1 (Int32.ofNat s) 4 0 0 0 0 0 0)
    rw [my_send_pi _ _ (by decide), my_send_pi _ _ (by decide)] at this
    exact this
  · rw [if_neg hc, if_neg hc]
    have := rR_send h1 (pk9 4 (Int32.ofNat s) 4 (m.1 87 s) (m.1 88 s) (m.1 89 s) 0 0 0)
    rw [my_send_pi _ _ (by decide), my_send_pi _ _ (by decide)] at this
    exact this
theorem in_of {a : Int32} {n : Nat} (hn : n < 2147483648) (h0 : ¬ a < 0) (h4 : a < Int32.ofNat n) : ∃ s : Nat, s < n ∧ a = Int32.ofNat s := by
  rw [i_lt] at h0 h4
  rw [i_of n hn] at h4
  rw [show (0 : Int32).toInt = 0 from rfl] at h0
  have := i_cl a
  refine ⟨a.toNatClampNeg, by split at this <;> omega, ?_⟩
  rw [i_eq, i_of _ (by split at this <;> omega)]
  split at this <;> omega
theorem sub_cases (c : mx_C) (m : mx_M) (a : Int32) : (∃ s : Nat, s < 4 ∧ a = Int32.ofNat s ∧ sl_isSubscriber c a = 1 ∧ mo_out m a 4 = 0) ∨ (sl_isSubscriber c a = 0 ∧ mo_out m a 4 = 1) := by
  unfold sl_isSubscriber mo_out
  by_cases h0 : a < 0
  · exact Or.inr ⟨if_pos h0, if_pos h0⟩
  · by_cases h4 : a < 4
    · obtain ⟨s, hs, rfl⟩ := in_of (n := 4) (by decide) h0 h4
      exact Or.inl ⟨s, hs, rfl, by rw [if_neg h0, if_pos h4], by rw [if_neg h0, if_pos h4]⟩
    · exact Or.inr ⟨by rw [if_neg h0, if_neg h4], by rw [if_neg h0, if_neg h4]⟩
theorem x_dial {c : mx_C} {m : mx_M} (h : rR c m) (a1 a2 a3 : Int32) : rR (sl_dial c a1 a2 a3).1 (mo_dial m a1 a2 a3).1 ∧ (sl_dial c a1 a2 a3).2 = (mo_dial m a1 a2 a3).2 := by
  unfold sl_dial mo_dial
  rcases sub_cases c m a1 with ⟨s, hs, rfl, h1, h2⟩ | ⟨h1, h2⟩
  · rw [h1, h2, if_neg (by decide), if_pos rfl, of_cl s (by omega)]
    have e4 : c.1 (47 + 3 * s) 4 = m.1 86 s := rdW h (tw4 hs)
    unfold su_connect
    rw [e4]
    by_cases hc : m.1 86 s = 0
    · rw [if_pos hc, if_pos hc]
      simp only [show ¬ (1 : Int32) = 0 by decide, if_false]
      exact ⟨x_ask (wr (wr (wr (wr h (tw7 hs) a2) (tw8 hs) a3) (tw4 hs) 1) (tw9 hs) 0) hs, trivial⟩
    · rw [if_neg hc, if_neg hc]
      simp only [if_true]
      exact ⟨h, trivial⟩
  · rw [h1, h2, if_pos rfl, if_neg (by decide)]; exact ⟨h, rfl⟩
/-- states of subscribers are 0 to 3 -/
def iSt (m : mx_M) : Prop := ∀ s : Nat, s < 4 → m.1 86 s = 0 ∨ m.1 86 s = 1 ∨ m.1 86 s = 2 ∨ m.1 86 s = 3
theorem x_hangup {c : mx_C} {m : mx_M} (h : rR c m) (hi : iSt m) (a1 : Int32) : rR (sl_hangup c a1).1 (mo_hangup m a1).1 ∧ (sl_hangup c a1).2 = (mo_hangup m a1).2 := by
  unfold sl_hangup mo_hangup
  rcases sub_cases c m a1 with ⟨s, hs, rfl, h1, h2⟩ | ⟨h1, h2⟩
  · rw [h1, h2, if_neg (by decide), if_pos rfl, of_cl s (by omega)]
    have e4 : c.1 (47 + 3 * s) 4 = m.1 86 s := rdW h (tw4 hs)
    unfold su_disconnect
    rw [e4]
    rcases hi s hs with hc | hc | hc | hc
    · rw [if_pos hc, if_pos hc]
      simp only [if_true]
      exact ⟨h, trivial⟩
    · have hn : ¬ m.1 86 s = 0 := by rw [hc]; decide
      have hl : ¬ 1 < m.1 86 s := by rw [hc]; decide
      rw [if_neg hn, if_neg hn, if_neg hl]
      simp only [show ¬ (1 : Int32) = 0 by decide, if_false]
      exact ⟨x_leave0 h hs (by rw [hc]; decide), trivial⟩
    · have hn : ¬ m.1 86 s = 0 := by rw [hc]; decide
      have hl : 1 < m.1 86 s := by rw [hc]; decide
      rw [if_neg hn, if_neg hn, if_pos hl]
      simp only [show ¬ (1 : Int32) = 0 by decide, if_false]
      exact ⟨x_leave h hs (Or.inl hc), trivial⟩
    · have hn : ¬ m.1 86 s = 0 := by rw [hc]; decide
      have hl : 1 < m.1 86 s := by rw [hc]; decide
      rw [if_neg hn, if_neg hn, if_pos hl]
      simp only [show ¬ (1 : Int32) = 0 by decide, if_false]
      exact ⟨x_leave h hs (Or.inr hc), trivial⟩
  · rw [h1, h2, if_pos rfl, if_neg (by decide)]; exact ⟨h, rfl⟩
theorem x_sendc {c : mx_C} {m : mx_M} (h : rR c m) (a1 a2 a3 : Int32) : rR (sl_send c a1 a2 a3).1 (mo_send m a1 a2 a3).1 ∧ (sl_send c a1 a2 a3).2 = (mo_send m a1 a2 a3).2 := by
  unfold sl_send mo_send
  rcases sub_cases c m a1 with ⟨s, hs, rfl, h1, h2⟩ | ⟨h1, h2⟩
  · rw [h1, h2, if_neg (by decide), if_pos rfl, of_cl s (by omega)]
    have e4 : c.1 (47 + 3 * s) 4 = m.1 86 s := rdW h (tw4 hs)
    have e6 : c.1 (47 + 3 * s) 6 = m.1 87 s := rdW h (tw6 hs)
    unfold su_speak
    rw [e4]
    by_cases hc : m.1 86 s = 3
    · rw [if_pos hc, if_pos hc]
      simp only [show ¬ (1 : Int32) = 0 by decide, if_false, fl_launch_eq, pk_bear_eq, mc_send_o _ _ (show 45 ≤ 47 + 3 * s by omega), mo_sendOff_eq, rd_me h hs, e6]
      exact ⟨rR_send h _, trivial⟩
    · rw [if_neg hc, if_neg hc]
      simp only [if_true]
      exact ⟨h, trivial⟩
  · rw [h1, h2, if_pos rfl, if_neg (by decide)]; exact ⟨h, rfl⟩
theorem x_accepted {c : mx_C} {m : mx_M} (h : rR c m) {s : Nat} (hs : s < 4) (a : Int32) : rR (su_becomeAccepted c (47 + 3 * s) a) (mo_accepted m (Int32.ofNat s) a) := by
  have e4 : c.1 (47 + 3 * s) 4 = m.1 86 s := rdW h (tw4 hs)
  have e5 : c.1 (47 + 3 * s) 5 = m.1 90 s := rdW h (tw5 hs)
  have e6 : c.1 (47 + 3 * s) 6 = m.1 87 s := rdW h (tw6 hs)
  have ht : 45 ≤ 47 + 3 * s := by omega
  have h1 := rR_send (wr (wr (wr h (tw4 hs) 3) (tw5 hs) a) (tw11 hs) 0) (pk9 7 (Int32.ofNat s) 4 (m.1 87 s) 0 0 0 0 0)
  unfold su_becomeAccepted mo_accepted
  simp only [fl_launch_eq, pk_bear_eq, mc_send_o _ _ ht, mo_sendOff_eq, of_cl s (show s < 2147483648 by omega), pi_if, qi_if]
  simp only [show ¬ (1 : Nat) = 11 by decide, show ¬ (1 : Nat) = 5 by decide, show ¬ (1 : Nat) = 4 by decide, show ¬ (6 : Nat) = 11 by decide, show ¬ (6 : Nat) = 5 by decide, show ¬ (6 : Nat) = 4 by decide, show ¬ (87 : Nat) = 93 by decide, show ¬ (87 : Nat) = 90 by decide, show ¬ (87 : Nat) = 86 by decide, and_false, false_and, if_false, e4, e5, e6, rd_me h hs]
  by_cases hc : m.1 86 s = 3
  · rw [if_pos hc, if_pos hc]
    by_cases ha : a = m.1 90 s
    · rw [if_pos ha, if_pos ha.symm]; exact h1
    · rw [if_neg ha, if_neg (fun z => ha z.symm)]; exact h
  · rw [if_neg hc, if_neg hc]; exact h1
theorem x_linked {c : mx_C} {m : mx_M} (h : rR c m) {s : Nat} (hs : s < 4) (a : Int32) : rR (su_becomeLinked c (47 + 3 * s) a) (if m.1 86 s = 1 then mo_ask (my_pi (my_pi (my_pi m 87 s a) 86 s 2) 92 s 0) (Int32.ofNat s) else m) := by
  have e4 : c.1 (47 + 3 * s) 4 = m.1 86 s := rdW h (tw4 hs)
  unfold su_becomeLinked
  rw [e4]
  by_cases hc : m.1 86 s = 1
  · rw [if_pos hc, if_pos hc]
    exact x_ask (wr (wr (wr h (tw6 hs) a) (tw4 hs) 2) (tw9 hs) 0) hs
  · rw [if_neg hc, if_neg hc]; exact h
/-- waited and asked stay in bounds while a subscriber joins or logs in -/
def iRt (m : mx_M) : Prop := ∀ s : Nat, s < 4 → (m.1 86 s = 1 ∨ m.1 86 s = 2) → (0 ≤ (m.1 91 s).toInt ∧ (m.1 91 s).toInt ≤ 2) ∧ (1 ≤ (m.1 92 s).toInt ∧ (m.1 92 s).toInt ≤ 4)
theorem x_suTimer {c : mx_C} {m : mx_M} (h : rR c m) (hi : iSt m) (hr : iRt m) {s : Nat} (hs : s < 4) : rR (su_runTimer c (47 + 3 * s)) (mo_subscriberTimer m (Int32.ofNat s)) := by
  have e4 : c.1 (47 + 3 * s) 4 = m.1 86 s := rdW h (tw4 hs)
  have e9 : c.1 (47 + 3 * s) 9 = m.1 92 s := rdW h (tw9 hs)
  have e10 : c.1 (47 + 3 * s) 10 = m.1 91 s := rdW h (tw10 hs)
  have e11 : c.1 (47 + 3 * s) 11 = m.1 93 s := rdW h (tw11 hs)
  have h11 := wr h (tw11 hs) (m.1 93 s + 1)
  have h10 := wr h (tw10 hs) (m.1 91 s + 1)
  unfold su_runTimer mo_subscriberTimer
  simp only [of_cl s (show s < 2147483648 by omega), pi_eq, qi_eq, e4, e10, e11]
  by_cases h3 : m.1 86 s = 3
  · rw [if_pos h3, if_pos h3]
    by_cases h16 : m.1 93 s + 1 = 16
    · rw [if_pos h16, if_pos h16]
      exact x_leave h11 hs (Or.inr (by rw [qi_ne (by omega)]; exact h3))
    · rw [if_neg h16, if_neg h16]; exact h11
  · rw [if_neg h3, if_neg h3]
    by_cases h0 : m.1 86 s = 0
    · rw [if_pos h0, if_pos h0]; exact h
    · rw [if_neg h0, if_neg h0]
      have hst : m.1 86 s = 1 ∨ m.1 86 s = 2 := by
        rcases hi s hs with z | z | z | z
        · exact absurd z h0
        · exact Or.inl z
        · exact Or.inr z
        · exact absurd z h3
      obtain ⟨⟨r0, r2⟩, ⟨t1, t4⟩⟩ := hr s hs hst
      have ea : (m.1 91 s + 1).toInt = (m.1 91 s).toInt + 1 := i_add (by rw [show (1 : Int32).toInt = 1 from rfl]; omega) (by rw [show (1 : Int32).toInt = 1 from rfl]; omega)
      by_cases h2 : (m.1 91 s).toInt = 2
      · rw [if_pos (by rw [i_eq, ea, h2]; rfl), if_neg (by rw [i_lt, ea, h2]; decide), qi_ne (by omega)]
        unfold su_requestAgain
        rw [pi_ne (by omega), e9]
        by_cases hq : (m.1 92 s).toInt = 4
        · rw [if_pos (by rw [i_eq, hq]; rfl), if_neg (by rw [i_lt, hq]; decide), qi_ne (by omega)]
          rcases hst with z | z
          · rw [if_neg (by rw [z]; decide)]
            exact x_leave0 h10 hs (by rw [qi_ne (by omega), z]; decide)
          · rw [if_pos z]
            exact x_leave h10 hs (Or.inl (by rw [qi_ne (by omega)]; exact z))
        · rw [if_neg (by rw [i_eq, show (4 : Int32).toInt = 4 from rfl]; exact hq), if_pos (by rw [i_lt, show (4 : Int32).toInt = 4 from rfl]; omega)]
          exact x_ask h10 hs
      · rw [if_neg (by rw [i_eq, ea, show (3 : Int32).toInt = 3 from rfl]; omega), if_pos (by rw [i_lt, ea, show (3 : Int32).toInt = 3 from rfl]; omega)]
        exact h10
/-! the latest words -/
theorem i_rmd (a : Int32) (n : Nat) (hn : n = 3 ∨ n = 4 ∨ n = 8) (h : 0 ≤ a.toInt) : a - a / Int32.ofNat n * Int32.ofNat n = Int32.ofNat (a.toInt.toNat % n) := by
  have e1 := i_of n (by omega)
  have hr := i_rng a
  have e2 : (a / Int32.ofNat n).toInt = a.toInt / (n : Int) := by
    rw [Int32.toInt_div, e1, Int.tdiv_eq_ediv_of_nonneg h]
    have h1 : 0 ≤ a.toInt / (n : Int) := Int.ediv_nonneg h (by omega)
    have h2 : a.toInt / (n : Int) ≤ a.toInt := Int.ediv_le_self _ h
    exact Int.bmod_eq_of_le (by omega) (by omega)
  have e3 : (a / Int32.ofNat n * Int32.ofNat n).toInt = a.toInt / (n : Int) * (n : Int) := by
    rw [i_mul] <;> rw [e1, e2]
    · rcases hn with rfl | rfl | rfl <;> omega
    · rcases hn with rfl | rfl | rfl <;> omega
  have e4 : (a - a / Int32.ofNat n * Int32.ofNat n).toInt = a.toInt - a.toInt / (n : Int) * (n : Int) := by
    rw [i_sub] <;> rw [e3]
    · rcases hn with rfl | rfl | rfl <;> omega
    · rcases hn with rfl | rfl | rfl <;> omega
  have hm : a.toInt.toNat % n < n := Nat.mod_lt _ (by omega)
  rw [i_eq, e4, i_of _ (by omega)]
  rcases hn with rfl | rfl | rfl <;> omega
theorem i_p1 {a : Int32} (h : -2147483648 ≤ a.toInt ∧ a.toInt < 2147483647) : (a + 1).toInt = a.toInt + 1 := i_add (by rw [show (1 : Int32).toInt = 1 from rfl]; omega) (by rw [show (1 : Int32).toInt = 1 from rfl]; omega)
theorem rHh_add {row ring row' ring' : Nat → Int32} {n : Nat} {w v : Int32} (h : rHh row ring n w) (hn : 0 < n) (h0 : 0 ≤ w.toInt) (h1 : w.toInt < 2147483647)
    (hr : row' 0 = v) (hr1 : ∀ k, 1 ≤ k → k < n → row' k = row (k - 1)) (hg : ring' (w.toInt.toNat % n) = v) (hg1 : ∀ k, k < n → ¬ k = w.toInt.toNat % n → ring' k = ring k) : rHh row' ring' n (w + 1) := by
  intro k hk
  rw [i_p1 ⟨by omega, h1⟩]
  by_cases hk0 : k = 0
  · subst hk0
    rw [hr, if_pos (by omega), show (w.toInt + 1).toNat - 1 - 0 = w.toInt.toNat by omega, hg]
  · rw [hr1 k (by omega) hk, h (k - 1) (by omega)]
    by_cases hw : (k : Int) < w.toInt + 1
    · rw [if_pos (by omega), if_pos hw, show (w.toInt + 1).toNat - 1 - k = w.toInt.toNat - k by omega, show w.toInt.toNat - 1 - (k - 1) = w.toInt.toNat - k by omega]
      rw [hg1 _ (Nat.mod_lt _ hn)]
      intro z
      obtain ⟨W, hW⟩ : ∃ W, w.toInt.toNat = W := ⟨_, rfl⟩
      rw [hW] at z
      have hkW : k ≤ W := by omega
      have : (W - k + k) % n = (W - k) % n := by rw [show W - k + k = W by omega]; exact z.symm
      have h3 : (W - k) % n < n := Nat.mod_lt _ hn
      rw [Nat.add_mod, Nat.mod_eq_of_lt hk] at this
      by_cases hlt : (W - k) % n + k < n
      · rw [Nat.mod_eq_of_lt hlt] at this; omega
      · rw [Nat.mod_eq_sub_mod (by omega), Nat.mod_eq_of_lt (by omega)] at this; omega
    · rw [if_neg (by omega), if_neg hw]
def hi_w (c : mx_C) (t n : Nat) (w : Int32) : mx_C := ((fun a b => if a = t + 1 ∧ b < n then (if b = 0 then w else c.1 (t + 1) (b - 1)) else if a = t ∧ b = 1 then c.1 t 1 + 1 else c.1 a b), c.2)
theorem hi_add_eq4 (c : mx_C) (t : Nat) (w : Int32) (h : mx_len (t + 1) = 4) : hi_add c t w = hi_w c t 4 w := by
  unfold hi_add
  rw [h]
  simp only [hi_add_8]
  rw [if_pos (by decide), if_pos (by decide), if_pos (by decide), if_neg (by decide)]
  refine Prod.ext ?_ rfl
  funext a b
  simp only [hi_w, mx_pi, mx_up_if, show (Int32.ofNat 4 - 1).toNatClampNeg = 3 from rfl, show (Int32.ofNat 4 - 1 - 1).toNatClampNeg = 2 from rfl, show (Int32.ofNat 4 - 1 + (-1)).toNatClampNeg = 2 from rfl, show (Int32.ofNat 4 - 1 + (-1) - 1).toNatClampNeg = 1 from rfl, show (Int32.ofNat 4 - 1 + (-1) + (-1)).toNatClampNeg = 1 from rfl, show (Int32.ofNat 4 - 1 + (-1) + (-1) - 1).toNatClampNeg = 0 from rfl]
  by_cases ha : a = t + 1
  · subst ha
    simp only [true_and]
    by_cases hb : b < 4
    · rw [if_pos hb]
      match b, hb with
      | 0, _ => simp
      | 1, _ => simp
      | 2, _ => simp
      | 3, _ => simp
    · rw [if_neg hb]
      simp [show ¬ b = 0 by omega, show ¬ b = 1 by omega, show ¬ b = 2 by omega, show ¬ b = 3 by omega]
  · simp [ha]
theorem hi_add_eq8 (c : mx_C) (t : Nat) (w : Int32) (h : mx_len (t + 1) = 8) : hi_add c t w = hi_w c t 8 w := by
  unfold hi_add
  rw [h]
  simp only [hi_add_8]
  rw [if_pos (by decide), if_pos (by decide), if_pos (by decide), if_pos (by decide), if_pos (by decide), if_pos (by decide), if_pos (by decide), if_neg (by decide)]
  refine Prod.ext ?_ rfl
  funext a b
  simp only [hi_w, mx_pi, mx_up_if, show (Int32.ofNat 8 - 1).toNatClampNeg = 7 from rfl, show (Int32.ofNat 8 - 1 - 1).toNatClampNeg = 6 from rfl, show (Int32.ofNat 8 - 1 + (-1)).toNatClampNeg = 6 from rfl, show (Int32.ofNat 8 - 1 + (-1) - 1).toNatClampNeg = 5 from rfl, show (Int32.ofNat 8 - 1 + (-1) + (-1)).toNatClampNeg = 5 from rfl, show (Int32.ofNat 8 - 1 + (-1) + (-1) - 1).toNatClampNeg = 4 from rfl,
    show (Int32.ofNat 8 - 1 + (-1) + (-1) + (-1)).toNatClampNeg = 4 from rfl, show (Int32.ofNat 8 - 1 + (-1) + (-1) + (-1) - 1).toNatClampNeg = 3 from rfl, show (Int32.ofNat 8 - 1 + (-1) + (-1) + (-1) + (-1)).toNatClampNeg = 3 from rfl, show (Int32.ofNat 8 - 1 + (-1) + (-1) + (-1) + (-1) - 1).toNatClampNeg = 2 from rfl,
    show (Int32.ofNat 8 - 1 + (-1) + (-1) + (-1) + (-1) + (-1)).toNatClampNeg = 2 from rfl, show (Int32.ofNat 8 - 1 + (-1) + (-1) + (-1) + (-1) + (-1) - 1).toNatClampNeg = 1 from rfl, show (Int32.ofNat 8 - 1 + (-1) + (-1) + (-1) + (-1) + (-1) + (-1)).toNatClampNeg = 1 from rfl, show (Int32.ofNat 8 - 1 + (-1) + (-1) + (-1) + (-1) + (-1) + (-1) - 1).toNatClampNeg = 0 from rfl]
  by_cases ha : a = t + 1
  · subst ha
    simp only [true_and]
    by_cases hb : b < 8
    · rw [if_pos hb]
      match b, hb with
      | 0, _ => simp
      | 1, _ => simp
      | 2, _ => simp
      | 3, _ => simp
      | 4, _ => simp
      | 5, _ => simp
      | 6, _ => simp
      | 7, _ => simp
    · rw [if_neg hb]
      simp [show ¬ b = 0 by omega, show ¬ b = 1 by omega, show ¬ b = 2 by omega, show ¬ b = 3 by omega, show ¬ b = 4 by omega, show ¬ b = 5 by omega, show ¬ b = 6 by omega, show ¬ b = 7 by omega]
  · simp [ha]
theorem txW {s : Nat} (h : s < 4) : ((48 + 3 * s, 1), (94, s)) ∈ tbX := (by decide +kernel : ∀ s : Fin 4, ((48 + 3 * s.val, 1), (94, s.val)) ∈ tbX) ⟨s, h⟩
theorem tb4_nrow : ∀ q ∈ tb4, ¬ (q.1.1 = 49 ∨ q.1.1 = 52 ∨ q.1.1 = 55 ∨ q.1.1 = 58 ∨ q.1.1 = 71 ∨ q.1.1 = 73 ∨ (q.1.1 = 72 ∧ q.1.2 = 1)) ∧ ¬ (q.2.1 = 95 ∨ q.2.1 = 103 ∨ q.2.1 = 104) := by decide +kernel
/-- a word is added to a subscriber's history -/
theorem x_word {c : mx_C} {m : mx_M} (h : rR c m) {s : Nat} (hs : s < 4) (h0 : 0 ≤ (m.1 94 s).toInt) (h1 : (m.1 94 s).toInt < 2147483647) (w : Int32) :
    rR (hi_add c (47 + 3 * s + 1) w) (my_pi (my_pi m 95 (4 * s + (m.1 94 s).toInt.toNat % 4) w) 94 s (m.1 94 s + 1)) := by
  have hl : mx_len (47 + 3 * s + 1 + 1) = 4 := (by decide +kernel : ∀ s : Fin 4, mx_len (47 + 3 * s.val + 1 + 1) = 4) ⟨s, hs⟩
  rw [hi_add_eq4 c _ w hl]
  obtain ⟨g1, g2, g3, g4, g5, g6⟩ := h
  have ew : c.1 (48 + 3 * s) 1 = m.1 94 s := g2 _ (tbX_mem (txW hs))
  have ht : 47 + 3 * s + 1 = 48 + 3 * s := by omega
  rw [ht]
  have hne (a b : Nat) (h1 : ¬ a = 49 + 3 * s) (h2 : ¬ (a = 48 + 3 * s ∧ b = 1)) : (hi_w c (48 + 3 * s) 4 w).1 a b = c.1 a b := by
    show (if _ then _ else _) = _
    rw [if_neg (by omega), if_neg (by omega)]
  have hrow (a : Nat) (h1 : ¬ a = 49 + 3 * s) (h2 : ¬ a = 48 + 3 * s) : (hi_w c (48 + 3 * s) 4 w).1 a = c.1 a := funext fun b => hne a b h1 (fun z => h2 z.1)
  refine ⟨⟨g1.1, fun k f hk hf => ?_, g1.2.2⟩, ?_, ⟨g3.1, fun k j hk hj => ?_, g3.2.2⟩, ⟨?_, ?_, ?_⟩, ?_, ⟨fun s' hs' => ?_, ?_⟩⟩
  · have := (c.2.1 k).isLt
    rw [fp_pi (by decide), fp_pi (by decide), show (hi_w c (48 + 3 * s) 4 w).2 = c.2 from rfl, hne _ _ (by omega) (by omega)]
    exact g1.2.1 k f hk hf
  · intro q hq
    have hr := tb4_nrow q hq
    have hw := tb4_inj q hq _ (tbX_mem (txW hs))
    by_cases hz : q.1 = (48 + 3 * s, 1)
    · have hz2 := hw.1 hz
      rw [hz, hz2, qi_eq]
      show (if _ then _ else _) = _
      rw [if_neg (by omega), if_pos ⟨rfl, rfl⟩, ew]
    · have hz2 : ¬ q.2 = (94, s) := fun z => hz (hw.2 z)
      rw [qi_ne (fun z => hz2 (Prod.ext z.1 z.2)), qi_ne (fun z => by omega)]
      rw [hne _ _ (by omega) (fun z => hz (Prod.ext z.1 z.2))]
      exact g2 q hq
  · have := (c.2.2.1 k).isLt
    rw [qi_ne (by omega), qi_ne (by omega), show (hi_w c (48 + 3 * s) 4 w).2 = c.2 from rfl, hne _ _ (by omega) (by omega)]
    exact g3.2.1 k j hk hj
  · intro s' hs'
    by_cases hss : s' = s
    · subst hss
      rw [qi_eq, qi_row (show ¬ 95 = 94 by decide)]
      refine rHh_add (g4.1 s' hs) (by decide) h0 h1 (v := w) ?_ ?_ ?_ ?_
      · show (if _ then _ else _) = _
        rw [if_pos (by omega), if_pos rfl]
      · intro k hk1 hk4
        show (if _ then _ else _) = _
        rw [if_pos (by omega), if_neg (by omega), show 48 + 3 * s' + 1 = 49 + 3 * s' by omega]
      · exact qi_eq
      · intro k hk hkn
        exact qi_ne (by omega)
    · rw [hrow _ (by omega) (by omega), qi_row (show ¬ 95 = 94 by decide), qi_ne (show ¬ (94 = 94 ∧ s' = s) by omega), qi_ne (show ¬ (94 = 95 ∧ _) by omega)]
      intro k hk
      rw [g4.1 s' hs' k hk]
      by_cases hkw : (k : Int) < (m.1 94 s').toInt
      · rw [if_pos hkw, if_pos hkw]
        have : ((m.1 94 s').toInt.toNat - 1 - k) % 4 < 4 := Nat.mod_lt _ (by decide)
        have : (m.1 94 s).toInt.toNat % 4 < 4 := Nat.mod_lt _ (by decide)
        exact (qi_ne (by omega)).symm
      · rw [if_neg hkw, if_neg hkw]
  · rw [hrow _ (by omega) (by omega), qi_row (by decide), qi_row (by decide), qi_row (by decide), qi_row (by decide)]; exact g4.2.1
  · rw [hrow _ (by omega) (by omega), qi_row (by decide), qi_row (by decide), qi_row (by decide), qi_row (by decide)]; exact g4.2.2
  · have em (i : Nat) (h1 : ¬ i = 94) (h2 : ¬ i = 95) : (my_pi (my_pi m 95 (4 * s + (m.1 94 s).toInt.toNat % 4) w) 94 s (m.1 94 s + 1)).1 i = m.1 i := by rw [qi_row h1, qi_row h2]
    unfold rE rEe
    rw [em 107 (by decide) (by decide), em 109 (by decide) (by decide), em 111 (by decide) (by decide), em 112 (by decide) (by decide), em 113 (by decide) (by decide), em 114 (by decide) (by decide), em 115 (by decide) (by decide), hrow 62 (by omega) (by omega), hrow (62 + 1) (by omega) (by omega), hrow (62 + 2) (by omega) (by omega), hrow (62 + 3) (by omega) (by omega), hrow 74 (by omega) (by omega), hrow (74 + 1) (by omega) (by omega), hrow (74 + 2) (by omega) (by omega), hrow (74 + 3) (by omega) (by omega)]
    exact g5
  · rw [hrow _ (by omega) (by omega)]; exact g6.1 s' hs'
  · rw [hrow 62 (by omega) (by omega), hrow 74 (by omega) (by omega)]; exact g6.2
/-- the core gets a word -/
theorem x_core {c : mx_C} {m : mx_M} (h : rR c m) (h0 : 0 ≤ (m.1 82 24).toInt) (h1 : (m.1 82 24).toInt < 2147483647) (w v : Int32) :
    rR (hi_add (hi_add c 70 w) 72 v) (my_pi (my_pi (my_pi m 103 ((m.1 82 24).toInt.toNat % 8) w) 104 ((m.1 82 24).toInt.toNat % 8) v) 82 24 (m.1 82 24 + 1)) := by
  rw [hi_add_eq8 _ 72 v (by decide), hi_add_eq8 _ 70 w (by decide)]
  obtain ⟨g1, g2, g3, g4, g5, g6⟩ := h
  have ew : c.1 70 1 = m.1 82 24 := g2 _ (tbX_mem (by decide +kernel : ((70, 1), (82, 24)) ∈ tbX))
  have hne (a b : Nat) (h1 : ¬ (a = 71 ∨ a = 73)) (h2 : ¬ ((a = 70 ∨ a = 72) ∧ b = 1)) : (hi_w (hi_w c 70 8 w) 72 8 v).1 a b = c.1 a b := by
    show (if _ then _ else _) = _
    rw [if_neg (by omega), if_neg (by omega)]
    show (if _ then _ else _) = _
    rw [if_neg (by omega), if_neg (by omega)]
  have hrow (a : Nat) (h1 : ¬ (70 ≤ a ∧ a < 74)) : (hi_w (hi_w c 70 8 w) 72 8 v).1 a = c.1 a := funext fun b => hne a b (by omega) (by omega)
  have e70 : (hi_w (hi_w c 70 8 w) 72 8 v).1 70 1 = m.1 82 24 + 1 := by simp [hi_w, ew]
  refine ⟨⟨g1.1, fun k f hk hf => ?_, g1.2.2⟩, ?_, ⟨g3.1, fun k j hk hj => ?_, g3.2.2⟩, ⟨?_, ?_, ?_⟩, ?_, ⟨fun s' hs' => ?_, ?_⟩⟩
  · have := (c.2.1 k).isLt
    rw [fp_pi (by decide), fp_pi (by decide), fp_pi (by decide), show (hi_w (hi_w c 70 8 w) 72 8 v).2 = c.2 from rfl, hne _ _ (by omega) (by omega)]
    exact g1.2.1 k f hk hf
  · intro q hq
    have hr := tb4_nrow q hq
    have hw := tb4_inj q hq _ (tbX_mem (by decide +kernel : ((70, 1), (82, 24)) ∈ tbX))
    by_cases hz : q.1 = (70, 1)
    · have hz2 := hw.1 hz
      rw [hz, hz2, qi_eq, e70]
    · have hz2 : ¬ q.2 = (82, 24) := fun z => hz (hw.2 z)
      rw [qi_ne (fun z => hz2 (Prod.ext z.1 z.2)), qi_ne (fun z => by omega), qi_ne (fun z => by omega)]
      have hz3 : ¬ (q.1.1 = 70 ∧ q.1.2 = 1) := fun z => hz (Prod.ext z.1 z.2)
      rw [hne _ _ (by omega) (by omega)]
      exact g2 q hq
  · have := (c.2.2.1 k).isLt
    rw [qi_ne (by omega), qi_ne (by omega), qi_ne (by omega), show (hi_w (hi_w c 70 8 w) 72 8 v).2 = c.2 from rfl, hne _ _ (by omega) (by omega)]
    exact g3.2.1 k j hk hj
  · intro s hs
    rw [hrow _ (by omega), qi_row (by decide), qi_row (by decide), qi_row (by decide), qi_row (by decide), qi_row (by decide), qi_row (by decide)]; exact g4.1 s hs
  · rw [qi_eq, qi_row (show ¬ 103 = 82 by decide), qi_row (show ¬ 103 = 104 by decide)]
    refine rHh_add g4.2.1 (by decide) h0 h1 (v := w) ?_ ?_ ?_ ?_
    · rfl
    · intro k hk1 hk8
      simp [hi_w, hk8, show ¬ k = 0 by omega]
    · exact qi_eq
    · intro k hk hkn
      exact qi_ne (by omega)
  · rw [qi_eq, qi_row (show ¬ 104 = 82 by decide)]
    refine rHh_add g4.2.2 (by decide) h0 h1 (v := v) ?_ ?_ ?_ ?_
    · rfl
    · intro k hk1 hk8
      simp [hi_w, hk8, show ¬ k = 0 by omega]
    · exact qi_eq
    · intro k hk hkn
      rw [qi_ne (by omega), qi_ne (by omega)]
  · have em (i : Nat) (h1 : ¬ i = 82) (h2 : ¬ i = 103) (h3 : ¬ i = 104) : (my_pi (my_pi (my_pi m 103 ((m.1 82 24).toInt.toNat % 8) w) 104 ((m.1 82 24).toInt.toNat % 8) v) 82 24 (m.1 82 24 + 1)).1 i = m.1 i := by rw [qi_row h1, qi_row h3, qi_row h2]
    unfold rE rEe
    rw [em 107 (by decide) (by decide) (by decide), em 109 (by decide) (by decide) (by decide), em 111 (by decide) (by decide) (by decide), em 112 (by decide) (by decide) (by decide), em 113 (by decide) (by decide) (by decide), em 114 (by decide) (by decide) (by decide), em 115 (by decide) (by decide) (by decide), hrow 62 (by omega), hrow (62 + 1) (by omega), hrow (62 + 2) (by omega), hrow (62 + 3) (by omega), hrow 74 (by omega), hrow (74 + 1) (by omega), hrow (74 + 2) (by omega), hrow (74 + 3) (by omega)]
    exact g5
  · rw [hrow _ (by omega)]; exact g6.1 s' hs'
  · rw [hrow 62 (by omega), hrow 74 (by omega)]; exact g6.2
/-! what a subscriber does with a packet -/
theorem su_hasLink_eq (c : mx_C) (t : Nat) : (su_hasLink c t = 0) ↔ ¬ (c.1 t 4 = 2 ∨ c.1 t 4 = 3) := by
  unfold su_hasLink
  by_cases h2 : c.1 t 4 = 2
  · simp [h2]
  · by_cases h3 : c.1 t 4 = 3
    · simp [h3]
    · simp [h2, h3]
theorem su_rol_eq (c : mx_C) (t p : Nat) (ht : 45 ≤ t) (hp : p < 45) : su_receiveOnLink c t p =
    if c.1 p 0 = 3 then su_turnOff c t
    else if c.1 p 0 = 5 then su_becomeAccepted c t (c.1 p 4)
    else if c.1 p 0 = 6 ∧ c.1 t 4 = 2 then su_leave c t
    else if c.1 p 0 = 8 ∧ c.1 t 4 = 3 then mc_send (mx_pi c t 11 0) (pk9 9 (c.1 t 1) 4 (c.1 t 6) 0 0 0 0 0)
    else if c.1 p 0 = 11 ∧ c.1 t 4 = 3 ∧ c.1 p 4 = c.1 t 5 then hi_add (mx_pi c t 11 0) (t + 1) (c.1 p 5)
    else c := by
  unfold su_receiveOnLink
  simp only [fl_launch_eq, pk_bear_eq, mc_send_o _ _ ht]
  have r1 : (mx_pi c t 11 0).1 t 1 = c.1 t 1 := pi_ne (by omega)
  have r6 : (mx_pi c t 11 0).1 t 6 = c.1 t 6 := pi_ne (by omega)
  have r5 : (mx_pi c t 11 0).1 p 5 = c.1 p 5 := pi_ne (by omega)
  rw [r1, r6, r5]
  generalize c.1 p 0 = k
  generalize c.1 t 4 = st
  grind (splits := 40)
theorem mo_toSub_eq (m : mx_M) {s : Nat} (hs : s < 4) (k a b w : Int32) (h0 : 0 ≤ (m.1 94 s).toInt) (h1 : (m.1 94 s).toInt < 2147483647) : mo_toSubscriber m (Int32.ofNat s) k a b w =
    if k = 2 then (if m.1 86 s = 1 then mo_ask (my_pi (my_pi (my_pi m 87 s a) 86 s 2) 92 s 0) (Int32.ofNat s) else m)
    else if m.1 86 s < 2 then m
    else if ¬ m.1 87 s = a then m
    else if k = 3 then mo_off m (Int32.ofNat s)
    else if k = 5 then mo_accepted m (Int32.ofNat s) b
    else if k = 6 ∧ m.1 86 s = 2 then mo_leave m (Int32.ofNat s)
    else if k = 8 ∧ m.1 86 s = 3 then my_send (my_pi m 93 s 0) (pk9 9 (Int32.ofNat s) 4 a 0 0 0 0 0)
    else if k = 11 ∧ m.1 86 s = 3 ∧ m.1 90 s = b then my_pi (my_pi (my_pi m 93 s 0) 95 (4 * s + (m.1 94 s).toInt.toNat % 4) w) 94 s (m.1 94 s + 1)
    else m := by
  unfold mo_toSubscriber
  simp only [of_cl s (show s < 2147483648 by omega), mo_sendOff_eq]
  have r94 : (my_pi m 93 s 0).1 94 s = m.1 94 s := qi_ne (by omega)
  have r94' (i : Nat) : (my_pi (my_pi m 93 s 0) 95 i w).1 94 s = m.1 94 s := by rw [qi_ne (by omega), qi_ne (by omega)]
  have er : (4 * Int32.ofNat s + (m.1 94 s - m.1 94 s / 4 * 4)).toNatClampNeg = 4 * s + (m.1 94 s).toInt.toNat % 4 := by
    have e := i_rmd (m.1 94 s) 4 (by omega) h0
    have hlt : (m.1 94 s).toInt.toNat % 4 < 4 := Nat.mod_lt _ (by decide)
    rw [show (4 : Int32) = Int32.ofNat 4 from rfl, e, of_mul, of_add, of_cl _ (by omega)]
  rw [r94, r94', er]
  generalize m.1 86 s = st
  grind (splits := 40)
theorem x_suRecv {c : mx_C} {m : mx_M} (h : rR c m) (hi : iSt m) {s : Nat} (hs : s < 4) (h0 : 0 ≤ (m.1 94 s).toInt) (h1 : (m.1 94 s).toInt < 2147483647) {p : Nat} (hp : p < 45) :
    rR (su_receive c (47 + 3 * s) p) (mo_toSubscriber m (Int32.ofNat s) (c.1 p 0) (c.1 p 3) (c.1 p 4) (c.1 p 5)) := by
  have e4 : c.1 (47 + 3 * s) 4 = m.1 86 s := rdW h (tw4 hs)
  have e5 : c.1 (47 + 3 * s) 5 = m.1 90 s := rdW h (tw5 hs)
  have e6 : c.1 (47 + 3 * s) 6 = m.1 87 s := rdW h (tw6 hs)
  rw [mo_toSub_eq m hs _ _ _ _ h0 h1]
  unfold su_receive
  by_cases h2 : c.1 p 0 = 2
  · rw [if_pos h2, if_pos h2]
    exact x_linked h hs _
  · rw [if_neg h2, if_neg h2]
    by_cases hst : m.1 86 s = 2 ∨ m.1 86 s = 3
    · rw [if_neg (by rw [su_hasLink_eq, e4]; exact fun z => z hst), if_neg (show ¬ m.1 86 s < 2 by rcases hst with z | z <;> rw [z] <;> decide), e6]
      by_cases hl : c.1 p 3 = m.1 87 s
      · rw [if_pos hl, if_neg (fun z => z hl.symm), su_rol_eq c _ _ (by omega) hp, e4, e5, e6, rd_me h hs, hl]
        by_cases h3 : c.1 p 0 = 3
        · rw [if_pos h3, if_pos h3]; exact x_off h hs
        · rw [if_neg h3, if_neg h3]
          by_cases h5 : c.1 p 0 = 5
          · rw [if_pos h5, if_pos h5]; exact x_accepted h hs _
          · rw [if_neg h5, if_neg h5]
            by_cases h6 : c.1 p 0 = 6 ∧ m.1 86 s = 2
            · rw [if_pos h6, if_pos h6]; exact x_leave h hs hst
            · rw [if_neg h6, if_neg h6]
              by_cases h8 : c.1 p 0 = 8 ∧ m.1 86 s = 3
              · rw [if_pos h8, if_pos h8]
                exact rR_send (wr h (tw11 hs) 0) _
              · rw [if_neg h8, if_neg h8]
                by_cases h11 : c.1 p 0 = 11 ∧ m.1 86 s = 3 ∧ c.1 p 4 = m.1 90 s
                · rw [if_pos h11, if_pos ⟨h11.1, h11.2.1, h11.2.2.symm⟩]
                  have r94 : (my_pi m 93 s 0).1 94 s = m.1 94 s := qi_ne (by omega)
                  have := x_word (wr h (tw11 hs) 0) hs (by rw [r94]; exact h0) (by rw [r94]; exact h1) (c.1 p 5)
                  rw [r94] at this
                  exact this
                · rw [if_neg h11, if_neg (fun z => h11 ⟨z.1, z.2.1, z.2.2.symm⟩)]; exact h
      · rw [if_neg hl, if_pos (fun z => hl z.symm)]; exact h
    · rw [if_pos (by rw [su_hasLink_eq, e4]; exact hst), if_pos (show m.1 86 s < 2 by
        rcases hi s hs with z | z | z | z
        · rw [z]; decide
        · rw [z]; decide
        · exact absurd (Or.inl z) hst
        · exact absurd (Or.inr z) hst)]
      exact h
