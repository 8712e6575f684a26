theorem iE_subT {m : mx_M} {B : Int} (h : iE m B) (x : Int32) : iE (mo_subscriberTimer m x) B := by
  unfold mo_subscriberTimer
  dsimp only
  split
  · split
    · exact iE_leave (iE_w h (by omega)) _
    · exact iE_w h (by omega)
  · split
    · exact h
    · split
      · exact iE_w h (by omega)
      · split
        · exact iE_ask (iE_w h (by omega)) _
        · split
          · exact iE_leave (iE_w h (by omega)) _
          · exact iE_off (iE_w h (by omega)) _
theorem iE_sT4 {m : mx_M} {B : Int} (h : iE m B) : iE (sT4 m) B := iE_subT (iE_subT (iE_subT (iE_subT h 0) 1) 2) 3
theorem iE_tl {m : mx_M} {B : Int} (h : iE m B) (hB : B ≤ 1399) : iE (mo_tl m) (B + 1) := by
  unfold mo_tl
  split
  · split
    · split
      · exact iE_w (say_iE (e := 0) (by decide) hB (iE_w h (by omega)) _ _ _) (by omega)
      · exact iE_mono (iE_w h (by omega)) (by omega)
    · exact iE_mono (iE_w h (by omega)) (by omega)
  · exact iE_mono (iE_w h (by omega)) (by omega)
theorem iE_et0 {m : mx_M} {B : Int} (h : iE m B) (hB : B ≤ 1400) {e : Nat} (he : e < 2) : iE (mo_et0 m e) B := iE_f h (fun i h1 h2 => funext fun j => et0_o he (iE_get (iE_mono h hB) he) (by omega))
theorem iE_aT {m : mx_M} {B : Int} (h : iE m B) (h0 : 0 ≤ B) (hB : B ≤ 1399) (hc : iC m) : iE (aT m) (B + 1) := by
  unfold aT
  split
  · exact iE_mono (iE_w h (by omega)) (by omega)
  · rw [mo_at_eq2]
    have hi' := iE_mono h (show B ≤ 1400 by omega)
    have hm := mo_et_0 hi' hc
    by_cases hb : mo_brk m 0
    · rw [hm.2 hb]
      unfold mo_bk0
      refine iE_tl ?_ hB
      refine iE_f (clear_iE (e := 0) (by decide) h0 (iE_w h (i := 112) (k := 0) (v := m.1 112 0 - 1) (by omega)) 0) (fun i h1 h2 => ?_)
      funext j
      exact cl4_o (by omega)
    · rw [hm.1 hb]
      exact iE_tl (iE_et0 h (by omega) (by decide)) hB
theorem iE_stl : ∀ (n : Nat) (m : mx_M) (k : Nat) (B : Int), k ≤ m.2.2.val → m.2.2.val - k < n → iE m B → 0 ≤ B → B ≤ 1399 - (m.2.2.val : Int) → iE (mo_serverTimer_2 n m (Int32.ofNat k)) (B + m.2.2.val) := by
  intro n
  induction n with
  | zero => intro m k B h1 h2 hi h0 hB; omega
  | succ n ih =>
    intro m k B h1 h2 hi h0 hB
    have hb : m.2.2.val < 5 := m.2.2.isLt
    by_cases hk : k < m.2.2.val
    · rw [mo_st_step n m hk]
      by_cases h12 : m.1 102 k + 1 = 12
      · rw [if_pos h12]
        have b := iE_w hi (i := 102) (k := k) (v := m.1 102 k + 1) (by omega)
        have eS := mo_endS_eq (my_pi m 102 k (m.1 102 k + 1)) (a := k) hk
        have hE : iE (mo_endSession (my_pi m 102 k (m.1 102 k + 1)) (Int32.ofNat k)) 1399 := by
          rw [eS]
          exact iE_f (iE_mono b (by omega)) (fun i h1 h2 => rm_o (by omega))
        have gi := lgn_iE b (show B ≤ 1399 by omega) (k := k) hk (m.1 99 k)
        have es : (mo_say (mo_endSession (my_pi m 102 k (m.1 102 k + 1)) (Int32.ofNat k)) 1 15 (m.1 99 k) 0).2.2.val = m.2.2.val - 1 := by
          have t2 : (mo_say (mo_endSession (my_pi m 102 k (m.1 102 k + 1)) (Int32.ofNat k)) 1 15 (m.1 99 k) 0).2.2 = (mo_endSession (my_pi m 102 k (m.1 102 k + 1)) (Int32.ofNat k)).2.2 := say_s (e := 1) (by decide) hE.2 15 (m.1 99 k) 0
          rw [t2, eS]
          exact rm_cnt (m := my_pi m 102 k (m.1 102 k + 1)) hk
        have r := ih _ k (B + 1) (by rw [es]; omega) (by rw [es]; omega) gi (by omega) (by rw [es]; omega)
        rw [es] at r
        exact iE_mono r (by omega)
      · rw [if_neg h12]
        have r := ih (mo_eat m k (m.1 102 k + 1)) (k + 1) B (by rw [eat_s]; omega) (by rw [eat_s]; omega) (iE_f hi (fun i h1 h2 => funext fun j => eat_o (by omega))) h0 (by rw [eat_s]; omega)
        rw [eat_s] at r
        exact r
    · rw [mo_serverTimer_2, if_neg (fun z => hk ((of_le (by omega) (by omega)).1 z))]
      have hi' := iE_mono hi (show B ≤ 1400 by omega)
      have hE := mo_endTimer_eq m (e := 1) (by decide) hi'.2
      show iE (mo_endTimer m 1) _
      by_cases hbk : mo_brk m 1
      · have m1 : mo_endTimer m 1 = my_ps (mo_clear (my_pi m 112 1 (m.1 112 1 - 1)) 1 0) 0 := (hE.2 hbk).trans (if_neg (by decide))
        rw [m1]
        exact iE_f (m := mo_clear (my_pi m 112 1 (m.1 112 1 - 1)) (Int32.ofNat 1) 0) (iE_mono (clear_iE (e := 1) (by decide) h0 (iE_w hi (i := 112) (k := 1) (v := m.1 112 1 - 1) (by omega)) 0) (by omega)) (fun _ _ _ => rfl)
      · have m1 : mo_endTimer m 1 = mo_et0 m 1 := hE.1 hbk
        rw [m1]
        exact iE_mono (iE_et0 hi (by omega) (by decide)) (by omega)
theorem iE_vT {m : mx_M} {B : Int} (h : iE m B) (h0 : 0 ≤ B) (hB : B ≤ 1395) : iE (vT m) (B + 4) := by
  unfold vT
  split
  · exact iE_mono (iE_w h (by omega)) (by omega)
  · have hb : m.2.2.val < 5 := m.2.2.isLt
    exact iE_mono (iE_stl 6 m 0 B (by omega) (by omega) h h0 (by omega)) (by omega)
/-! subscribers -/
def gs1 (m : mx_M) (s : Nat) : Prop := (m.1 86 s = 0 ∨ m.1 86 s = 1 ∨ m.1 86 s = 2 ∨ m.1 86 s = 3) ∧ ((m.1 86 s = 1 ∨ m.1 86 s = 2) → (0 ≤ (m.1 91 s).toInt ∧ (m.1 91 s).toInt ≤ 2) ∧ (1 ≤ (m.1 92 s).toInt ∧ (m.1 92 s).toInt ≤ 4)) ∧ (¬ m.1 86 s = 3 → m.1 90 s = 0)
def gS (m : mx_M) : Prop := ∀ s : Nat, s < 4 → gs1 m s
theorem gS_sOK {m : mx_M} (h : gS m) : sOK m := ⟨fun s hs => (h s hs).1, fun s hs => (h s hs).2.1⟩
theorem gS_ad {m : mx_M} (h : gS m) : iAd m := fun s hs => (h s hs).2.2
theorem gs1_f {m m' : mx_M} {s : Nat} (h : gs1 m s) (h6 : m'.1 86 s = m.1 86 s) (h0 : m'.1 90 s = m.1 90 s) (h1 : m'.1 91 s = m.1 91 s) (h2 : m'.1 92 s = m.1 92 s) : gs1 m' s := by
  unfold gs1
  rw [h6, h0, h1, h2]
  exact h
theorem gS_f {m m' : mx_M} (h : gS m) (h6 : m'.1 86 = m.1 86) (h0 : m'.1 90 = m.1 90) (h1 : m'.1 91 = m.1 91) (h2 : m'.1 92 = m.1 92) : gS m' := fun s hs => gs1_f (h s hs) (by rw [h6]) (by rw [h0]) (by rw [h1]) (by rw [h2])
/-- where only one subscriber changes -/
theorem gS_1 {m m' : mx_M} (h : gS m) {t : Nat} (ht : gs1 m' t) (ho : ∀ i s, (i = 86 ∨ i = 90 ∨ i = 91 ∨ i = 92) → ¬ s = t → m'.1 i s = m.1 i s) : gS m' := by
  intro s hs
  by_cases hst : s = t
  · rw [hst]; exact ht
  · exact gs1_f (h s hs) (ho 86 s (by omega) hst) (ho 90 s (by omega) hst) (ho 91 s (by omega) hst) (ho 92 s (by omega) hst)
theorem so_o2 (m : mx_M) (a b c d e f : Int32) {i j : Nat} (h : ¬ i = 85) : (mo_sendOff m a b c d e f).1 i j = m.1 i j := by
  rw [mo_sendOff_eq, my_send_o _ _ h]
theorem off_v (m : mx_M) {t : Nat} (ht : t < 4) : (mo_off m (Int32.ofNat t)).1 86 t = 0 ∧ (mo_off m (Int32.ofNat t)).1 90 t = 0 ∧ ∀ i s, ¬ ((i = 86 ∨ i = 87 ∨ i = 90) ∧ s = t) → (mo_off m (Int32.ofNat t)).1 i s = m.1 i s := by
  unfold mo_off
  rw [of_cl t (by omega)]
  refine ⟨by rw [qi_ne (by omega), qi_ne (by omega), qi_eq], by rw [qi_eq], fun i s h => ?_⟩
  rw [qi_ne (by omega), qi_ne (by omega), qi_ne (by omega)]
theorem leave_v (m : mx_M) {t : Nat} (ht : t < 4) : (mo_leave m (Int32.ofNat t)).1 86 t = 0 ∧ (mo_leave m (Int32.ofNat t)).1 90 t = 0 ∧ ∀ i s, ¬ i = 85 → ¬ ((i = 86 ∨ i = 87 ∨ i = 90) ∧ s = t) → (mo_leave m (Int32.ofNat t)).1 i s = m.1 i s := by
  unfold mo_leave
  obtain ⟨a, b, c⟩ := off_v (mo_sendOff m 3 (Int32.ofNat t) 4 (m.1 87 (Int32.ofNat t).toNatClampNeg) 0 0) ht
  exact ⟨a, b, fun i s h1 h2 => (c i s h2).trans (so_o2 _ _ _ _ _ _ _ h1)⟩
theorem ask_v (m : mx_M) {t : Nat} (ht : t < 4) : (mo_ask m (Int32.ofNat t)).1 91 t = 0 ∧ (mo_ask m (Int32.ofNat t)).1 92 t = m.1 92 t + 1 ∧ ∀ i s, ¬ i = 85 → ¬ ((i = 91 ∨ i = 92) ∧ s = t) → (mo_ask m (Int32.ofNat t)).1 i s = m.1 i s := by
  unfold mo_ask
  rw [of_cl t (by omega)]
  split
  · refine ⟨by show (my_pi _ _ _ _).1 91 t = _; rw [qi_eq], ?_, fun i s h1 h2 => ?_⟩
    · show (my_pi _ _ _ _).1 92 t = _
      rw [qi_ne (by omega), qi_eq, so_o2 _ _ _ _ _ _ _ (by decide)]
    · show (my_pi _ _ _ _).1 i s = _
      rw [qi_ne (by omega), qi_ne (by omega), so_o2 _ _ _ _ _ _ _ h1]
  · refine ⟨by show (my_pi _ _ _ _).1 91 t = _; rw [qi_eq], ?_, fun i s h1 h2 => ?_⟩
    · show (my_pi _ _ _ _).1 92 t = _
      rw [qi_ne (by omega), qi_eq, so_o2 _ _ _ _ _ _ _ (by decide)]
    · show (my_pi _ _ _ _).1 i s = _
      rw [qi_ne (by omega), qi_ne (by omega), so_o2 _ _ _ _ _ _ _ h1]
theorem acc_v (m : mx_M) {t : Nat} (ht : t < 4) (y : Int32) : mo_accepted m (Int32.ofNat t) y = m ∨ ((mo_accepted m (Int32.ofNat t) y).1 86 t = 3 ∧ ∀ i s, ¬ i = 85 → ¬ ((i = 86 ∨ i = 90 ∨ i = 93) ∧ s = t) → (mo_accepted m (Int32.ofNat t) y).1 i s = m.1 i s) := by
  unfold mo_accepted
  rw [of_cl t (by omega)]
  have key : (mo_sendOff (my_pi (my_pi (my_pi m 86 t 3) 90 t y) 93 t 0) 7 (Int32.ofNat t) 4 ((my_pi (my_pi (my_pi m 86 t 3) 90 t y) 93 t 0).1 87 t) 0 0).1 86 t = 3 ∧ ∀ i s, ¬ i = 85 → ¬ ((i = 86 ∨ i = 90 ∨ i = 93) ∧ s = t) → (mo_sendOff (my_pi (my_pi (my_pi m 86 t 3) 90 t y) 93 t 0) 7 (Int32.ofNat t) 4 ((my_pi (my_pi (my_pi m 86 t 3) 90 t y) 93 t 0).1 87 t) 0 0).1 i s = m.1 i s := by
    refine ⟨by rw [so_o2 _ _ _ _ _ _ _ (by decide), qi_ne (by omega), qi_ne (by omega), qi_eq], fun i s h1 h2 => ?_⟩
    rw [so_o2 _ _ _ _ _ _ _ h1, qi_ne (by omega), qi_ne (by omega), qi_ne (by omega)]
  split
  · split
    · exact Or.inr key
    · exact Or.inl rfl
  · exact Or.inr key
theorem gs_off {m m' : mx_M} {t : Nat} (h6 : m'.1 86 t = 0) (h0 : m'.1 90 t = 0) : gs1 m' t := by
  refine ⟨Or.inl h6, fun z => ?_, fun _ => h0⟩
  rw [h6] at z
  rcases z with z | z
  · exact absurd z (by decide)
  · exact absurd z (by decide)
theorem gs_on {m' : mx_M} {t : Nat} (h6 : m'.1 86 t = 3) : gs1 m' t := by
  refine ⟨Or.inr (Or.inr (Or.inr h6)), fun z => ?_, fun z => absurd h6 z⟩
  rw [h6] at z
  rcases z with z | z
  · exact absurd z (by decide)
  · exact absurd z (by decide)
theorem gS_toSub {m : mx_M} (h : gS m) {t : Nat} (ht : t < 4) (k x y w : Int32) (h0 : 0 ≤ (m.1 94 t).toInt) (h1 : (m.1 94 t).toInt < 2147483647) : gS (mo_toSubscriber m (Int32.ofNat t) k x y w) := by
  rw [mo_toSub_eq m ht k x y w h0 h1]
  split
  · split
    · rename_i _ hst
      obtain ⟨a1, a2, a3⟩ := ask_v (my_pi (my_pi (my_pi m 87 t x) 86 t 2) 92 t 0) ht
      refine gS_1 h (t := t) ⟨Or.inr (Or.inr (Or.inl ?_)), fun _ => ⟨?_, ?_⟩, fun _ => ?_⟩ (fun i s hi hs => ?_)
      · rw [a3 86 t (by decide) (by omega), qi_ne (by omega), qi_eq]
      · rw [a1]; decide
      · rw [a2, qi_eq]; decide
      · rw [a3 90 t (by decide) (by omega), qi_ne (by omega), qi_ne (by omega), qi_ne (by omega)]
        exact (h t ht).2.2 (by rw [hst]; decide)
      · rw [a3 i s (by omega) (by omega), qi_ne (by omega), qi_ne (by omega), qi_ne (by omega)]
    · exact h
  · split
    · exact h
    · split
      · exact h
      · split
        · obtain ⟨a1, a2, a3⟩ := off_v m ht
          exact gS_1 h (t := t) (gs_off (m := m) a1 a2) (fun i s hi hs => a3 i s (by omega))
        · split
          · rcases acc_v m ht y with e | ⟨a1, a2⟩
            · rw [e]; exact h
            · exact gS_1 h (t := t) (gs_on a1) (fun i s hi hs => a2 i s (by omega) (by omega))
          · split
            · obtain ⟨a1, a2, a3⟩ := leave_v m ht
              exact gS_1 h (t := t) (gs_off (m := m) a1 a2) (fun i s hi hs => a3 i s (by omega) (by omega))
            · split
              · exact gS_f h (by rw [my_send_o _ _ (by decide), qi_row (by decide)]) (by rw [my_send_o _ _ (by decide), qi_row (by decide)]) (by rw [my_send_o _ _ (by decide), qi_row (by decide)]) (by rw [my_send_o _ _ (by decide), qi_row (by decide)])
              · split
                · exact gS_f h (by rw [qi_row (by decide), qi_row (by decide), qi_row (by decide)]) (by rw [qi_row (by decide), qi_row (by decide), qi_row (by decide)]) (by rw [qi_row (by decide), qi_row (by decide), qi_row (by decide)]) (by rw [qi_row (by decide), qi_row (by decide), qi_row (by decide)])
                · exact h
theorem gS_subT {m : mx_M} (h : gS m) {t : Nat} (ht : t < 4) : gS (mo_subscriberTimer m (Int32.ofNat t)) := by
  unfold mo_subscriberTimer
  rw [of_cl t (by omega)]
  dsimp only
  split
  · rename_i h3
    split
    · obtain ⟨a1, a2, a3⟩ := leave_v (my_pi m 93 t (m.1 93 t + 1)) ht
      exact gS_1 h (t := t) (gs_off (m := m) a1 a2) (fun i s hi hs => (a3 i s (by omega) (by omega)).trans (qi_ne (by omega)))
    · exact gS_f h (qi_row (by decide)) (qi_row (by decide)) (qi_row (by decide)) (qi_row (by decide))
  · rename_i h3
    split
    · exact h
    · rename_i h0
      have hst : m.1 86 t = 1 ∨ m.1 86 t = 2 := by
        rcases (h t ht).1 with z | z | z | z
        · exact absurd z h0
        · exact Or.inl z
        · exact Or.inr z
        · exact absurd z h3
      obtain ⟨⟨r0, r2⟩, ⟨t1, t4⟩⟩ := (h t ht).2.1 hst
      have ea : (m.1 91 t + 1).toInt = (m.1 91 t).toInt + 1 := i_p1 (by omega)
      rw [qi_eq]
      split
      · rename_i hl
        rw [i_lt, ea, show (3 : Int32).toInt = 3 from rfl] at hl
        refine gS_1 h (t := t) ⟨?_, fun _ => ⟨?_, ?_⟩, fun z => ?_⟩ (fun i s hi hs => qi_ne (by omega))
        · rw [qi_ne (by omega)]; exact (h t ht).1
        · rw [qi_eq, ea]; omega
        · rw [qi_ne (by omega)]; omega
        · rw [qi_ne (by omega)] at z ⊢; exact (h t ht).2.2 z
      · rw [qi_ne (show ¬ (92 = 91 ∧ t = t) by omega)]
        split
        · rename_i hl
          rw [i_lt, show (4 : Int32).toInt = 4 from rfl] at hl
          obtain ⟨a1, a2, a3⟩ := ask_v (my_pi m 91 t (m.1 91 t + 1)) ht
          refine gS_1 h (t := t) ⟨?_, fun _ => ⟨?_, ?_⟩, fun z => ?_⟩ (fun i s hi hs => (a3 i s (by omega) (by omega)).trans (qi_ne (by omega)))
          · rw [a3 86 t (by decide) (by omega), qi_ne (by omega)]; exact (h t ht).1
          · rw [a1]; decide
          · rw [a2, qi_ne (by omega), i_p1 (by omega)]; omega
          · rw [a3 86 t (by decide) (by omega), qi_ne (by omega)] at z
            rw [a3 90 t (by decide) (by omega), qi_ne (by omega)]; exact (h t ht).2.2 z
        · split
          · obtain ⟨a1, a2, a3⟩ := leave_v (my_pi m 91 t (m.1 91 t + 1)) ht
            exact gS_1 h (t := t) (gs_off (m := m) a1 a2) (fun i s hi hs => (a3 i s (by omega) (by omega)).trans (qi_ne (by omega)))
          · obtain ⟨a1, a2, a3⟩ := off_v (my_pi m 91 t (m.1 91 t + 1)) ht
            exact gS_1 h (t := t) (gs_off (m := m) a1 a2) (fun i s hi hs => (a3 i s (by omega)).trans (qi_ne (by omega)))
theorem dial_eq (m : mx_M) (x y z : Int32) : (∃ t : Nat, t < 4 ∧ x = Int32.ofNat t ∧ m.1 86 t = 0 ∧ (mo_dial m x y z).1 = mo_ask (my_pi (my_pi (my_pi (my_pi m 88 t y) 89 t z) 86 t 1) 92 t 0) (Int32.ofNat t)) ∨ (mo_dial m x y z).1 = m := by
  unfold mo_dial
  rcases out_eq (c := (fun _ _ => 0, fun _ => 0, fun _ => 0, 0, 0)) (m := m) x 4 (by decide) with ⟨e, k, hk, rfl⟩ | ⟨e, _⟩
  · have e' : mo_out m (Int32.ofNat k) 4 = 0 := e
    rw [e', if_pos rfl, of_cl k (by omega)]
    split
    · rename_i h0; exact Or.inl ⟨k, hk, rfl, h0, rfl⟩
    · exact Or.inr rfl
  · have e' : mo_out m x 4 = 1 := e
    rw [e', if_neg (by decide)]; exact Or.inr rfl
theorem gS_dial {m : mx_M} (h : gS m) (x y z : Int32) : gS (mo_dial m x y z).1 := by
  rcases dial_eq m x y z with ⟨t, ht, _, h0, e⟩ | e
  · rw [e]
    obtain ⟨a1, a2, a3⟩ := ask_v (my_pi (my_pi (my_pi (my_pi m 88 t y) 89 t z) 86 t 1) 92 t 0) ht
    refine gS_1 h (t := t) ⟨Or.inr (Or.inl ?_), fun _ => ⟨?_, ?_⟩, fun _ => ?_⟩ (fun i s hi hs => ?_)
    · rw [a3 86 t (by decide) (by omega), qi_ne (by omega), qi_eq]
    · rw [a1]; decide
    · rw [a2, qi_eq]; decide
    · rw [a3 90 t (by decide) (by omega), qi_ne (by omega), qi_ne (by omega), qi_ne (by omega), qi_ne (by omega)]
      exact (h t ht).2.2 (by rw [h0]; decide)
    · rw [a3 i s (by omega) (by omega), qi_ne (by omega), qi_ne (by omega), qi_ne (by omega), qi_ne (by omega)]
  · rw [e]; exact h
theorem hang_eq (m : mx_M) (x : Int32) : (∃ t : Nat, t < 4 ∧ ((mo_hangup m x).1 = mo_leave m (Int32.ofNat t) ∨ (mo_hangup m x).1 = mo_off m (Int32.ofNat t))) ∨ (mo_hangup m x).1 = m := by
  unfold mo_hangup
  rcases out_eq (c := (fun _ _ => 0, fun _ => 0, fun _ => 0, 0, 0)) (m := m) x 4 (by decide) with ⟨e, k, hk, rfl⟩ | ⟨e, _⟩
  · have e' : mo_out m (Int32.ofNat k) 4 = 0 := e
    rw [e', if_pos rfl]
    split
    · exact Or.inr rfl
    · split
      · exact Or.inl ⟨k, hk, Or.inl rfl⟩
      · exact Or.inl ⟨k, hk, Or.inr rfl⟩
  · have e' : mo_out m x 4 = 1 := e
    rw [e', if_neg (by decide)]; exact Or.inr rfl
theorem gS_hangup {m : mx_M} (h : gS m) (x : Int32) : gS (mo_hangup m x).1 := by
  rcases hang_eq m x with ⟨t, ht, e | e⟩ | e
  · rw [e]
    obtain ⟨a1, a2, a3⟩ := leave_v m ht
    exact gS_1 h (t := t) (gs_off (m := m) a1 a2) (fun i s hi hs => a3 i s (by omega) (by omega))
  · rw [e]
    obtain ⟨a1, a2, a3⟩ := off_v m ht
    exact gS_1 h (t := t) (gs_off (m := m) a1 a2) (fun i s hi hs => a3 i s (by omega))
  · rw [e]; exact h
/-! what a doing leaves alone -/
theorem toSub_o {m : mx_M} {t : Nat} (ht : t < 4) (k x y w : Int32) (h0 : 0 ≤ (m.1 94 t).toInt) (h1 : (m.1 94 t).toInt < 2147483647) : (mo_toSubscriber m (Int32.ofNat t) k x y w).2.2 = m.2.2 ∧ ∀ i j, ¬ (85 ≤ i ∧ i ≤ 95) → (mo_toSubscriber m (Int32.ofNat t) k x y w).1 i j = m.1 i j := by
  have so (m : mx_M) (a b c d e f : Int32) : (mo_sendOff m a b c d e f).2.2 = m.2.2 := by rw [mo_sendOff_eq, my_send_s]
  have ks (m : mx_M) : (mo_ask m (Int32.ofNat t)).2.2 = m.2.2 := by
    unfold mo_ask
    split
    · show (mo_sendOff _ _ _ _ _ _ _).2.2 = _; rw [so]
    · show (mo_sendOff _ _ _ _ _ _ _).2.2 = _; rw [so]
  rw [mo_toSub_eq m ht k x y w h0 h1]
  split
  · split
    · obtain ⟨a1, a2, a3⟩ := ask_v (my_pi (my_pi (my_pi m 87 t x) 86 t 2) 92 t 0) ht
      exact ⟨ks _, fun i j h => by rw [a3 i j (by omega) (by omega), qi_ne (by omega), qi_ne (by omega), qi_ne (by omega)]⟩
    · exact ⟨rfl, fun _ _ _ => rfl⟩
  · split
    · exact ⟨rfl, fun _ _ _ => rfl⟩
    · split
      · exact ⟨rfl, fun _ _ _ => rfl⟩
      · split
        · exact ⟨rfl, fun i j h => (off_v m ht).2.2 i j (by omega)⟩
        · split
          · refine ⟨?_, fun i j h => ?_⟩
            · unfold mo_accepted
              split
              · split
                · show (mo_sendOff _ _ _ _ _ _ _).2.2 = _; rw [so]; rfl
                · rfl
              · show (mo_sendOff _ _ _ _ _ _ _).2.2 = _; rw [so]; rfl
            · rcases acc_v m ht y with e | ⟨a1, a2⟩
              · rw [e]
              · exact a2 i j (by omega) (by omega)
          · split
            · exact ⟨so _ _ _ _ _ _ _, fun i j h => (leave_v m ht).2.2 i j (by omega) (by omega)⟩
            · split
              · exact ⟨by rw [my_send_s]; rfl, fun i j h => by rw [my_send_o _ _ (by omega), qi_ne (by omega)]⟩
              · split
                · exact ⟨rfl, fun i j h => by rw [qi_ne (by omega), qi_ne (by omega), qi_ne (by omega)]⟩
                · exact ⟨rfl, fun _ _ _ => rfl⟩
theorem toSub_94 {m : mx_M} {t : Nat} (ht : t < 4) (k x y w : Int32) (h0 : 0 ≤ (m.1 94 t).toInt) (h1 : (m.1 94 t).toInt < 2147483647) (s : Nat) (hs : s < 4) : (m.1 94 s).toInt ≤ ((mo_toSubscriber m (Int32.ofNat t) k x y w).1 94 s).toInt ∧ ((mo_toSubscriber m (Int32.ofNat t) k x y w).1 94 s).toInt ≤ (m.1 94 s).toInt + 1 := by
  rw [mo_toSub_eq m ht k x y w h0 h1]
  have triv : ∀ v : Int32, v = m.1 94 s → (m.1 94 s).toInt ≤ v.toInt ∧ v.toInt ≤ (m.1 94 s).toInt + 1 := fun v e => by rw [e]; omega
  split
  · split
    · obtain ⟨a1, a2, a3⟩ := ask_v (my_pi (my_pi (my_pi m 87 t x) 86 t 2) 92 t 0) ht
      exact triv _ (by rw [a3 94 s (by decide) (by omega), qi_ne (by omega), qi_ne (by omega), qi_ne (by omega)])
    · exact triv _ rfl
  · split
    · exact triv _ rfl
    · split
      · exact triv _ rfl
      · split
        · exact triv _ ((off_v m ht).2.2 94 s (by omega))
        · split
          · rcases acc_v m ht y with e | ⟨a1, a2⟩
            · rw [e]; exact triv _ rfl
            · exact triv _ (a2 94 s (by decide) (by omega))
          · split
            · exact triv _ ((leave_v m ht).2.2 94 s (by decide) (by omega))
            · split
              · exact triv _ (by rw [my_send_o _ _ (by decide), qi_ne (by omega)])
              · split
                · by_cases hst : s = t
                  · subst hst
                    rw [qi_eq, i_p1 (by omega)]; omega
                  · exact triv _ (by rw [qi_ne (by omega), qi_ne (by omega), qi_ne (by omega)])
                · exact triv _ rfl
theorem fromSrv_o (m : mx_M) (k x y w : Int32) : (mo_fromServer m k x y w).2.2 = m.2.2 ∧ ∀ i j, ¬ i = 85 → (mo_fromServer m k x y w).1 i j = m.1 i j := by
  have so (a b c d e f : Int32) : (mo_sendOff m a b c d e f).2.2 = m.2.2 := by rw [mo_sendOff_eq, my_send_s]
  unfold mo_fromServer
  split
  · exact ⟨rfl, fun _ _ _ => rfl⟩
  · split
    · exact ⟨so _ _ _ _ _ _, fun i j h => so_o2 _ _ _ _ _ _ _ h⟩
    · split
      · exact ⟨so _ _ _ _ _ _, fun i j h => so_o2 _ _ _ _ _ _ _ h⟩
      · split
        · exact ⟨so _ _ _ _ _ _, fun i j h => so_o2 _ _ _ _ _ _ _ h⟩
        · split
          · exact ⟨so _ _ _ _ _ _, fun i j h => so_o2 _ _ _ _ _ _ _ h⟩
          · exact ⟨rfl, fun _ _ _ => rfl⟩
/-! circuits -/
def gC (m : mx_M) (D : Int) : Prop := iC m ∧ (∀ s : Nat, s < 4 → (m.1 96 s).toInt ≤ (m.1 82 28).toInt) ∧ 0 ≤ (m.1 82 28).toInt ∧ (m.1 82 28).toInt ≤ D ∧ (m.1 106 0 = 0 → ∀ s : Nat, s < 4 → m.1 97 s = 0)
theorem gC_f {m m' : mx_M} {D : Int} (h : gC m D) (h6 : m'.1 96 = m.1 96) (h7 : m'.1 97 = m.1 97) (h28 : m'.1 82 28 = m.1 82 28) (h106 : m'.1 106 0 = m.1 106 0) : gC m' D := by
  obtain ⟨a, b, c, d, e⟩ := h
  refine ⟨iC_f a h6 h7, ?_, ?_, ?_, ?_⟩
  · rw [h6, h28]; exact b
  · rw [h28]; exact c
  · rw [h28]; exact d
  · rw [h106, h7]; exact e
theorem gC_mono {m : mx_M} {D D' : Int} (h : gC m D) (hd : D ≤ D') : gC m D' := ⟨h.1, h.2.1, h.2.2.1, by have := h.2.2.2.1; omega, h.2.2.2.2⟩
/-- a circuit is taken away -/
theorem gC_rm {m m' : mx_M} {D : Int} (h : gC m D) {t : Nat} (ht : t < 4) (z6 : m'.1 96 t = 0) (z7 : m'.1 97 t = 0) (o : ∀ i s, (i = 96 ∨ i = 97) → ¬ s = t → m'.1 i s = m.1 i s) (h28 : m'.1 82 28 = m.1 82 28) (h106 : m'.1 106 0 = m.1 106 0) : gC m' D := by
  obtain ⟨⟨a1, a2⟩, b, c, d, e⟩ := h
  refine ⟨⟨fun s hs => ?_, fun s s' hs hs' hss hn => ?_⟩, fun s hs => ?_, ?_, ?_, fun z s hs => ?_⟩
  · by_cases hst : s = t
    · rw [hst, z6, z7]; decide
    · rw [o 96 s (by omega) hst, o 97 s (by omega) hst]; exact a1 s hs
  · by_cases hst : s = t
    · rw [hst, z6] at hn; exact absurd rfl hn
    · by_cases hst' : s' = t
      · rw [hst', z6] at hss; exact absurd hss hn
      · rw [o 96 s (by omega) hst] at hss hn
        rw [o 96 s' (by omega) hst'] at hss
        exact a2 s s' hs hs' hss hn
  · rw [h28]
    by_cases hst : s = t
    · rw [hst, z6]; exact c
    · rw [o 96 s (by omega) hst]; exact b s hs
  · rw [h28]; exact c
  · rw [h28]; exact d
  · rw [h106] at z
    by_cases hst : s = t
    · rw [hst]; exact z7
    · rw [o 97 s (by omega) hst]; exact e z s hs
theorem gC_td {m : mx_M} {D : Int} (h : gC m D) (hi : iE m 1399) {t : Nat} (ht : t < 4) : gC (mo_takeDown m (Int32.ofNat t)) D := by
  have z := td_96 hi ht
  exact gC_rm h ht z.1 z.2 (fun i s hi1 hs => td_o hi ht (by omega)) (td_o hi ht (by omega)) (td_o hi ht (by omega))
theorem gC_cl {m : mx_M} {D : Int} (h : gC m D) {t : Nat} (ht : t < 4) : gC (mo_cl m t) D := by
  have z := cl_z h.1 ht
  exact gC_rm h ht z.1 z.2 (fun i s hi1 hs => cl_o (by omega)) (cl_o (by omega)) (cl_o (by omega))
/-- the memory after a join -/
theorem jn_v {m : mx_M} (hi : iE m 1398) (hcs : 0 ≤ (m.1 82 30).toInt ∧ (m.1 82 30).toInt < 2147483647) (t : Nat) : (mo_jn m t).1 96 t = m.1 82 28 + 1 ∧ (∀ s, ¬ s = t → (mo_jn m t).1 96 s = m.1 96 s) ∧ (mo_jn m t).1 97 = m.1 97 ∧ (mo_jn m t).1 82 28 = m.1 82 28 + 1 ∧ ¬ (mo_jn m t).1 106 0 = 0 ∧ (m.1 82 30).toInt ≤ ((mo_jn m t).1 82 30).toInt ∧ ((mo_jn m t).1 82 30).toInt ≤ (m.1 82 30).toInt + 1 ∧ (mo_jn m t).2.2 = m.2.2 ∧
    (∀ i j, ¬ (i = 85 ∨ i = 96 ∨ (i = 82 ∧ (j = 17 ∨ j = 28 ∨ j = 30)) ∨ (106 ≤ i ∧ i < 113 ∧ j = 0) ∨ 113 ≤ i) → (mo_jn m t).1 i j = m.1 i j) := by
  unfold mo_jn
  dsimp only
  have i4 := iE_snd (iE_w (iE_w hi (i := 82) (k := 28) (v := m.1 82 28 + 1) (by omega)) (i := 96) (k := t) (v := m.1 82 28 + 1) (by omega)) (pk9 2 4 (Int32.ofNat t) (m.1 82 28 + 1) 0 0 0 0 0)
  have o4 (i j : Nat) (h : ¬ i = 85) : (my_send (my_pi (my_pi m 82 28 (m.1 82 28 + 1)) 96 t (m.1 82 28 + 1)) (pk9 2 4 (Int32.ofNat t) (m.1 82 28 + 1) 0 0 0 0 0)).1 i j = if i = 96 ∧ j = t then m.1 82 28 + 1 else if i = 82 ∧ j = 28 then m.1 82 28 + 1 else m.1 i j := by
    rw [my_send_o _ _ h, qi_if, qi_if]
  have s4 : (my_send (my_pi (my_pi m 82 28 (m.1 82 28 + 1)) 96 t (m.1 82 28 + 1)) (pk9 2 4 (Int32.ofNat t) (m.1 82 28 + 1) 0 0 0 0 0)).2.2 = m.2.2 := by rw [my_send_s]; rfl
  generalize my_send (my_pi (my_pi m 82 28 (m.1 82 28 + 1)) 96 t (m.1 82 28 + 1)) (pk9 2 4 (Int32.ofNat t) (m.1 82 28 + 1) 0 0 0 0 0) = M at *
  split
  · have i7 := iE_w (clear_iE (e := 0) (by decide) (by decide) (iE_w i4 (i := 82) (k := 30) (v := m.1 82 30 + 1) (by omega)) (m.1 82 30 + 1)) (i := 82) (k := 17) (v := 0) (by omega)
    have i8 := say_iE (e := 0) (by decide) (by decide) i7 12 0 0
    have eV : (m.1 82 30 + 1).toInt = (m.1 82 30).toInt + 1 := i_p1 (by omega)
    have o9 (i j : Nat) (h : ¬ (i = 85 ∨ 113 ≤ i ∨ ((i = 108 ∨ i = 109 ∨ i = 111 ∨ i = 112) ∧ j = 0))) : (mo_say (mo_say (my_pi (mo_clear (my_pi M 82 30 (m.1 82 30 + 1)) 0 (m.1 82 30 + 1)) 82 17 0) 0 12 0 0) 0 13 (m.1 82 28 + 1) 0).1 i j = (my_pi (mo_clear (my_pi M 82 30 (m.1 82 30 + 1)) 0 (m.1 82 30 + 1)) 82 17 0).1 i j := by
      have a := say_o (e := 0) (by decide) (iE_mono i8 (show (1398 + 1 : Int) ≤ 1399 by decide)).1 13 (m.1 82 28 + 1) 0 (i := i) (j := j) (by omega)
      have b := say_o (e := 0) (by decide) (iE_mono i7 (show (1398 : Int) ≤ 1399 by decide)).1 12 0 0 (i := i) (j := j) (by omega)
      exact a.trans b
    have s9 : (mo_say (mo_say (my_pi (mo_clear (my_pi M 82 30 (m.1 82 30 + 1)) 0 (m.1 82 30 + 1)) 82 17 0) 0 12 0 0) 0 13 (m.1 82 28 + 1) 0).2.2 = M.2.2 := by
      have a := say_s (e := 0) (by decide) (iE_mono i8 (show (1398 + 1 : Int) ≤ 1399 by decide)).1 13 (m.1 82 28 + 1) 0
      have b := say_s (e := 0) (by decide) (iE_mono i7 (show (1398 : Int) ≤ 1399 by decide)).1 12 0 0
      exact a.trans b
    have oc (i j : Nat) (h : ¬ (106 ≤ i ∧ i < 113 ∧ j = 0)) (h2 : ¬ (i = 82 ∧ (j = 17 ∨ j = 30))) : (my_pi (mo_clear (my_pi M 82 30 (m.1 82 30 + 1)) 0 (m.1 82 30 + 1)) 82 17 0).1 i j = M.1 i j := by
      rw [qi_ne (by omega)]
      exact (clear_o (e := 0) _ (by decide) _ h).trans (qi_ne (by omega))
    refine ⟨?_, fun s hs => ?_, ?_, ?_, ?_, ?_, ?_, by rw [s9, s4], fun i j h => ?_⟩
    · rw [o9 96 t (by omega), oc 96 t (by omega) (by omega), o4 96 t (by decide), if_pos ⟨rfl, rfl⟩]
    · rw [o9 96 s (by omega), oc 96 s (by omega) (by omega), o4 96 s (by decide), if_neg (by omega), if_neg (by omega)]
    · funext s; rw [o9 97 s (by omega), oc 97 s (by omega) (by omega), o4 97 s (by decide), if_neg (by omega), if_neg (by omega)]
    · rw [o9 82 28 (by omega), oc 82 28 (by omega) (by omega), o4 82 28 (by decide), if_neg (by omega), if_pos ⟨rfl, rfl⟩]
    · rw [o9 106 0 (by omega), qi_ne (by omega)]
      intro z
      have c : (mo_clear (my_pi M 82 30 (m.1 82 30 + 1)) 0 (m.1 82 30 + 1)).1 106 0 = m.1 82 30 + 1 := (clear_v (my_pi M 82 30 (m.1 82 30 + 1)) (e := 0) (by decide) (m.1 82 30 + 1)).1
      rw [c] at z
      rw [z, show (0 : Int32).toInt = 0 from rfl] at eV
      omega
    · have c : (mo_say (mo_say (my_pi (mo_clear (my_pi M 82 30 (m.1 82 30 + 1)) 0 (m.1 82 30 + 1)) 82 17 0) 0 12 0 0) 0 13 (m.1 82 28 + 1) 0).1 82 30 = m.1 82 30 + 1 := by
        rw [o9 82 30 (by omega), qi_ne (by omega)]
        exact (clear_o (e := 0) _ (by decide) _ (by omega)).trans qi_eq
      rw [c, eV]; omega
    · have c : (mo_say (mo_say (my_pi (mo_clear (my_pi M 82 30 (m.1 82 30 + 1)) 0 (m.1 82 30 + 1)) 82 17 0) 0 12 0 0) 0 13 (m.1 82 28 + 1) 0).1 82 30 = m.1 82 30 + 1 := by
        rw [o9 82 30 (by omega), qi_ne (by omega)]
        exact (clear_o (e := 0) _ (by decide) _ (by omega)).trans qi_eq
      rw [c, eV]; omega
    · rw [o9 i j (by omega), oc i j (by omega) (by omega), o4 i j (by omega), if_neg (by omega), if_neg (by omega)]
  · rename_i hz
    have o9 (i j : Nat) (h : ¬ (i = 85 ∨ 113 ≤ i ∨ ((i = 108 ∨ i = 109 ∨ i = 111 ∨ i = 112) ∧ j = 0))) : (mo_say M 0 13 (m.1 82 28 + 1) 0).1 i j = M.1 i j := say_o (e := 0) (by decide) (iE_mono i4 (by decide)).1 13 (m.1 82 28 + 1) 0 (by omega)
    have s9 : (mo_say M 0 13 (m.1 82 28 + 1) 0).2.2 = M.2.2 := say_s (e := 0) (by decide) (iE_mono i4 (by decide)).1 13 (m.1 82 28 + 1) 0
    refine ⟨?_, fun s hs => ?_, ?_, ?_, ?_, ?_, ?_, by rw [s9, s4], fun i j h => ?_⟩
    · rw [o9 96 t (by omega), o4 96 t (by decide), if_pos ⟨rfl, rfl⟩]
    · rw [o9 96 s (by omega), o4 96 s (by decide), if_neg (by omega), if_neg (by omega)]
    · funext s; rw [o9 97 s (by omega), o4 97 s (by decide), if_neg (by omega), if_neg (by omega)]
    · rw [o9 82 28 (by omega), o4 82 28 (by decide), if_neg (by omega), if_pos ⟨rfl, rfl⟩]
    · rw [o9 106 0 (by omega), o4 106 0 (by decide), if_neg (by omega), if_neg (by omega)]; exact hz
    · rw [o9 82 30 (by omega), o4 82 30 (by decide), if_neg (by omega), if_neg (by omega)]; omega
    · rw [o9 82 30 (by omega), o4 82 30 (by decide), if_neg (by omega), if_neg (by omega)]; omega
    · rw [o9 i j (by omega), o4 i j (by omega), if_neg (by omega), if_neg (by omega)]
theorem gC_jn {m : mx_M} {D : Int} (h : gC m D) (hD : D < 2147483647) (hi : iE m 1398) (hcs : 0 ≤ (m.1 82 30).toInt ∧ (m.1 82 30).toInt < 2147483647) {t : Nat} (ht : t < 4) : gC (mo_jn m t) (D + 1) := by
  obtain ⟨v1, v2, v3, v4, v5, v6, v7, v8, v9⟩ := jn_v hi hcs t
  obtain ⟨⟨a1, a2⟩, b, c, d, e⟩ := h
  have p1 : (m.1 82 28 + 1).toInt = (m.1 82 28).toInt + 1 := i_p1 (by omega)
  have nz : ¬ m.1 82 28 + 1 = 0 := fun z => by rw [z, show (0 : Int32).toInt = 0 from rfl] at p1; omega
  have ne : ∀ s : Nat, s < 4 → ¬ m.1 96 s = m.1 82 28 + 1 := fun s hs z => by have := b s hs; rw [z, p1] at this; omega
  refine ⟨⟨fun s hs => ?_, fun s s' hs hs' hss hn => ?_⟩, fun s hs => ?_, ?_, ?_, fun z => absurd z v5⟩
  · rw [v3]
    by_cases hst : s = t
    · rw [hst, v1, p1]; exact ⟨by omega, (a1 t ht).2.1, fun z => absurd z nz⟩
    · rw [v2 s hst]; exact a1 s hs
  · by_cases hst : s = t
    · by_cases hst' : s' = t
      · rw [hst, hst']
      · rw [hst, v1, v2 s' hst'] at hss; exact absurd hss.symm (ne s' hs')
    · by_cases hst' : s' = t
      · rw [hst', v1, v2 s hst] at hss; exact absurd hss (ne s hs)
      · rw [v2 s hst] at hss hn
        rw [v2 s' hst'] at hss
        exact a2 s s' hs hs' hss hn
  · rw [v4, p1]
    by_cases hst : s = t
    · rw [hst, v1, p1]; omega
    · rw [v2 s hst]; have := b s hs; omega
  · rw [v4, p1]; omega
  · rw [v4, p1]; omega
