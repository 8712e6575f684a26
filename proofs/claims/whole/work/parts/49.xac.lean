/-! the packet that was taken last is left alone -/
def inj41 (c : mx_C) : Prop := ∀ i j : Nat, i ≤ 40 → j ≤ 40 → c.2.1 i = c.2.1 j → i = j
def p40 (c : mx_C) : Nat := 4 + (c.2.1 40).val
def kp (c c' : mx_C) : Prop := c'.2.1 = c.2.1 ∧ c'.1 (p40 c) = c.1 (p40 c)
theorem kp_r (c : mx_C) : kp c c := ⟨rfl, rfl⟩
theorem kp_t {a b c : mx_C} (h1 : kp a b) (h2 : kp b c) : kp a c := by
  have e : p40 b = p40 a := by unfold p40; rw [h1.1]
  refine ⟨h2.1.trans h1.1, ?_⟩
  have := h2.2
  rw [e] at this
  exact this.trans h1.2
theorem kp_inj {a b : mx_C} (h : kp a b) (hi : inj41 a) : inj41 b := by
  unfold inj41
  rw [h.1]
  exact hi
theorem p40_lt (c : mx_C) : 4 ≤ p40 c ∧ p40 c < 45 := by
  have := (c.2.1 40).isLt
  unfold p40
  omega
theorem kp_send {c : mx_C} (hi : inj41 c) (p : Nat → Int32) : kp c (mc_send c p) := by
  refine ⟨rfl, ?_⟩
  funext f
  show mc_wr _ _ _ _ _ = _
  unfold mc_wr mc_cell p40
  have hb : c.2.2.2.1.val < 41 := c.2.2.2.1.isLt
  refine if_neg (fun z => ?_)
  have z1 := z.1
  split at z1
  · rename_i hl
    have := hi 40 c.2.2.2.1.val (by omega) (by omega) (Fin.ext (by omega))
    omega
  · omega
theorem kp_pi {c : mx_C} {i k : Nat} {v : Int32} (h : 45 ≤ i) : kp c (mx_pi c i k v) := ⟨rfl, pi_row (by have := p40_lt c; omega)⟩
theorem kp_tr {c : mx_C} (hi : inj41 c) {t : Nat} (ht : 45 ≤ t) (n : Int32) : kp c (en_transmit c t n) := by
  unfold en_transmit
  simp only [fl_launch_eq, pk_bear_eq]
  rw [pk_number_eq]
  exact kp_send hi _
theorem kp_s66 {t : Nat} (ht : 45 ≤ t) (v1 v2 v3 v4 : Int32) : ∀ (n : Nat) (c : mx_C) (v5 : Int32), inj41 c → kp c (en_settle_66 n c t v1 v2 v3 v4 v5) := by
  intro n
  induction n with
  | zero => intro c v5 _; exact kp_r c
  | succ n ih =>
    intro c v5 hi
    unfold en_settle_66
    split
    · have h1 := kp_tr hi ht v5
      exact kp_t h1 (ih _ _ (kp_inj h1 hi))
    · exact kp_r c
theorem kp_settle {c : mx_C} (hi : inj41 c) {t : Nat} (ht : 45 ≤ t) (v : Int32) : kp c (en_settle c t v) := by
  unfold en_settle
  split
  · have h1 : kp c (en_startWaiting (mx_pi c t 7 (jx_min v (c.1 t 8))) t) := by
      unfold en_startWaiting
      exact kp_t (kp_t (kp_pi ht) (kp_pi ht)) (kp_pi ht)
    exact kp_t h1 (kp_s66 ht _ _ _ _ _ _ _ (kp_inj h1 hi))
  · exact kp_r c
theorem rR_inj {c : mx_C} {m : mx_M} (h : rR c m) : inj41 c := h.1.2.2
/-! timers of an end -/
theorem x_tw {c : mx_C} {m : mx_M} (h : rR c m) {e : Nat} (he : e < 2) (hb : ∀ e', e' < 2 → (m.1 109 e').toInt ≤ 1400) (i i' : Nat) (hii : (i = 5 ∧ i' = 111) ∨ (i = 6 ∧ i' = 112)) (v : Int32) : rR (mx_pi c (62 + 12 * e) i v) (my_pi m i' e v) := by
  have q0 := rR_q h
  have ge := rE_get h.2.2.2.2.1 he
  refine rQ_r (rQ_m (rQ_c q0 v (by omega)) v (by omega)) (rE_mk h.2.2.2.2.1 he ?_ ?_ ?_ hb)
  · refine ⟨fun z => ?_, fun n hn => ?_⟩
    · rw [qi_ne (by omega), qi_ne (by omega)] at z
      have g := ge.1 z
      rcases hii with ⟨rfl, rfl⟩ | ⟨rfl, rfl⟩
      · rw [pi_eq, pi_ne (by omega), qi_eq, qi_ne (by omega)]; exact ⟨rfl, g.2⟩
      · rw [pi_eq, pi_ne (by omega), qi_eq, qi_ne (by omega)]; exact ⟨g.1, rfl⟩
    · rw [qi_ne (by omega)] at hn
      rw [pi_ne (by omega), pi_ne (by omega), pi_ne (by omega), qi_ne (by omega), qi_ne (by omega), qi_ne (by omega)]
      exact ge.2 n hn
  · intro j k h1 h2
    exact pi_ne (by omega)
  · intro j k h1 h2 h3 h4
    split at h4
    · exact qi_ne (by omega)
    · exact qi_ne (by omega)
/-- the end breaks -/
def mo_brk (m : mx_M) (e : Nat) : Prop := ¬ m.1 109 e = m.1 107 e ∧ ¬ 0 < m.1 112 e - 1 ∧ m.1 111 e = 3
/-- what the timer of an end does where it does not break -/
def mo_et0 (m : mx_M) (e : Nat) : mx_M :=
  if m.1 109 e = m.1 107 e then m
  else if 0 < m.1 112 e - 1 then my_pi m 112 e (m.1 112 e - 1)
  else mo_transmit (my_pi (my_pi (my_pi m 112 e (m.1 112 e - 1)) 111 e (m.1 111 e + 1)) 112 e (2 <<< ((m.1 111 e + 1) &&& 31))) (Int32.ofNat e) (m.1 107 e)
theorem mo_endTimer_eq (m : mx_M) {e : Nat} (he : e < 2) (hi : iEe m e 1400) : (¬ mo_brk m e → mo_endTimer m (Int32.ofNat e) = mo_et0 m e) ∧ (mo_brk m e → mo_endTimer m (Int32.ofNat e) = if e = 0 then mo_loseCircuits (mo_clear (my_pi m 112 e (m.1 112 e - 1)) (Int32.ofNat e) 0) else my_ps (mo_clear (my_pi m 112 e (m.1 112 e - 1)) (Int32.ofNat e) 0) 0) := by
  obtain ⟨i1, i2, i3, i4, i5⟩ := hi
  have ee : (Int32.ofNat e).toNatClampNeg = e := of_cl e (by omega)
  have e0 : (Int32.ofNat e = 0) ↔ e = 0 := by
    rw [i_eq, i_of e (by omega), show (0 : Int32).toInt = 0 from rfl]; omega
  have r1 : (my_pi m 112 e (m.1 112 e - 1)).1 111 e = m.1 111 e := qi_ne (by omega)
  have r2 (x y : Int32) : (my_pi (my_pi (my_pi m 112 e (m.1 112 e - 1)) 111 e x) 112 e y).1 107 e = m.1 107 e := by rw [qi_ne (by omega), qi_ne (by omega), qi_ne (by omega)]
  unfold mo_endTimer mo_et0 mo_brk
  simp only [ee, qi_eq, r1, r2]
  by_cases hem : m.1 109 e = m.1 107 e
  · refine ⟨fun _ => ?_, fun z => absurd hem z.1⟩
    rw [if_pos hem, if_pos hem]
    split <;> rfl
  · have hch : ¬ m.1 106 e = 0 := by
      intro z
      have := i5 z
      exact hem (i_eq.2 (by omega))
    rw [if_neg hch, if_neg hem, if_neg hem]
    by_cases hw : 0 < m.1 112 e - 1
    · rw [if_pos hw, if_pos hw]
      exact ⟨fun _ => rfl, fun z => absurd hw z.2.1⟩
    · rw [if_neg hw, if_neg hw]
      by_cases h3 : m.1 111 e = 3
      · rw [if_pos h3]
        refine ⟨fun z => absurd ⟨hem, hw, h3⟩ z, fun _ => ?_⟩
        by_cases hz : e = 0
        · rw [if_pos (e0.2 hz), if_pos hz]
        · rw [if_neg (fun q => hz (e0.1 q)), if_neg hz]
      · rw [if_neg h3]
        exact ⟨fun _ => rfl, fun z => absurd z.2.2 h3⟩
theorem x_et {c : mx_C} {m : mx_M} (h : rR c m) {e : Nat} (he : e < 2) (hi : iE m 1400) :
    (¬ mo_brk m e → (en_breaksAtTimer c (62 + 12 * e)).2 = 0 ∧ rR (en_breaksAtTimer c (62 + 12 * e)).1 (mo_et0 m e)) ∧
    (mo_brk m e → (en_breaksAtTimer c (62 + 12 * e)).2 = 1 ∧ rR (en_breaksAtTimer c (62 + 12 * e)).1 (mo_clear (my_pi m 112 e (m.1 112 e - 1)) (Int32.ofNat e) 0)) := by
  obtain ⟨i1, i2, i3, i4, i5⟩ := iE_get hi he
  have hb : ∀ e', e' < 2 → (m.1 109 e').toInt ≤ 1400 := fun e' h' => (iE_get hi h').2.2.1
  have hq := rR_q h
  have ge := rE_get h.2.2.2.2.1 he
  have hem2 : (en_isEmpty c (62 + 12 * e) = 0) ↔ ¬ m.1 109 e = m.1 107 e := by
    unfold en_isEmpty
    rw [rd_E7 hq he, rd_E8 hq he]
    by_cases hz : m.1 109 e = m.1 107 e
    · rw [if_pos hz.symm]; simp [hz]
    · rw [if_neg (fun z => hz z.symm)]; simp [hz]
  unfold en_breaksAtTimer mo_et0 mo_brk
  by_cases hem : m.1 109 e = m.1 107 e
  · rw [if_neg (fun z => (hem2.1 z) hem), if_pos hem]
    exact ⟨fun _ => ⟨rfl, h⟩, fun z => absurd hem z.1⟩
  · rw [if_pos (hem2.2 hem), if_neg hem]
    have g := ge.1 hem
    have hw6 := x_tw h he hb 6 112 (by omega) (m.1 112 e - 1)
    have r5 : (mx_pi c (62 + 12 * e) 6 (m.1 112 e - 1)).1 (62 + 12 * e) 5 = m.1 111 e := by rw [pi_ne (by omega), g.1]
    simp only [pi_eq, g.2, r5]
    by_cases hw : 0 < m.1 112 e - 1
    · rw [if_pos hw, if_pos hw]
      exact ⟨fun _ => ⟨rfl, hw6⟩, fun z => absurd hw z.2.1⟩
    · rw [if_neg hw, if_neg hw]
      have b6 : ∀ e', e' < 2 → ((my_pi m 112 e (m.1 112 e - 1)).1 109 e').toInt ≤ 1400 := fun e' h' => by rw [qi_ne (by omega)]; exact hb e' h'
      by_cases h3 : m.1 111 e = 3
      · rw [if_pos h3]
        exact ⟨fun z => absurd ⟨hem, hw, h3⟩ z, fun _ => ⟨rfl, x_begin hw6 he b6 0⟩⟩
      · rw [if_neg h3]
        refine ⟨fun _ => ⟨rfl, ?_⟩, fun z => absurd z.2.2 h3⟩
        have hw5 := x_tw hw6 he b6 5 111 (by omega) (m.1 111 e + 1)
        have b5 : ∀ e', e' < 2 → ((my_pi (my_pi m 112 e (m.1 112 e - 1)) 111 e (m.1 111 e + 1)).1 109 e').toInt ≤ 1400 := fun e' h' => by rw [qi_ne (by omega), qi_ne (by omega)]; exact hb e' h'
        have hw66 := x_tw hw5 he b5 6 112 (by omega) (2 <<< ((m.1 111 e + 1) &&& 31))
        have r7 (x y : Int32) : (mx_pi (mx_pi (mx_pi c (62 + 12 * e) 6 (m.1 112 e - 1)) (62 + 12 * e) 5 x) (62 + 12 * e) 6 y).1 (62 + 12 * e) 7 = m.1 107 e := by
          rw [pi_ne (by omega), pi_ne (by omega), pi_ne (by omega), rd_E7 hq he]
        rw [r7]
        have hlt : (m.1 107 e).toInt < (m.1 109 e).toInt := by
          have : ¬ (m.1 109 e).toInt = (m.1 107 e).toInt := fun z => hem (i_eq.2 z)
          omega
        have e7 : m.1 107 e = Int32.ofNat (m.1 107 e).toInt.toNat := of_nn i1
        have := x_transmit hw66 he (n := (m.1 107 e).toInt.toNat) (by rw [qi_ne (by omega), qi_ne (by omega), qi_ne (by omega)]; omega) (by omega)
        rw [← e7] at this
        exact this
/-! circuits -/
def iC (m : mx_M) : Prop := (∀ s : Nat, s < 4 → 0 ≤ (m.1 96 s).toInt ∧ 0 ≤ (m.1 97 s).toInt ∧ (m.1 96 s = 0 → m.1 97 s = 0)) ∧ (∀ s s' : Nat, s < 4 → s' < 4 → m.1 96 s = m.1 96 s' → ¬ m.1 96 s = 0 → s = s')
def cof (f : Nat → Int32) (l : Int32) : Int32 := if l = 0 then -1 else if f 0 = l then 0 else if f 1 = l then 1 else if f 2 = l then 2 else if f 3 = l then 3 else -1
theorem ac_so_eq {c : mx_C} {m : mx_M} (h : rR c m) (l : Int32) : ac_subscriberOf c l = cof (m.1 96) l := by
  have e0 : c.1 60 0 = m.1 96 0 := rdW h (twL (s := 0) (by decide))
  have e1 : c.1 60 1 = m.1 96 1 := rdW h (twL (s := 1) (by decide))
  have e2 : c.1 60 2 = m.1 96 2 := rdW h (twL (s := 2) (by decide))
  have e3 : c.1 60 3 = m.1 96 3 := rdW h (twL (s := 3) (by decide))
  unfold ac_subscriberOf cof
  simp only [ac_subscriberOf_2, show (0 : Int32) + 1 = 1 from rfl, show (1 : Int32) + 1 = 2 from rfl, show (2 : Int32) + 1 = 3 from rfl, show (3 : Int32) + 1 = 4 from rfl, show (0 : Int32).toNatClampNeg = 0 from rfl, show (1 : Int32).toNatClampNeg = 1 from rfl, show (2 : Int32).toNatClampNeg = 2 from rfl, show (3 : Int32).toNatClampNeg = 3 from rfl, show ((0 : Int32) < 4) = True from eq_true (by decide), show ((1 : Int32) < 4) = True from eq_true (by decide), show ((2 : Int32) < 4) = True from eq_true (by decide), show ((3 : Int32) < 4) = True from eq_true (by decide), show ((4 : Int32) < 4) = False from eq_false (by decide), if_true, if_false, e0, e1, e2, e3]
  by_cases hl : l = 0
  · simp [hl]
  · simp [hl]
theorem mo_co_eq {m : mx_M} (hi : iC m) (l : Int32) : mo_circuitOf m l = cof (m.1 96) l := by
  unfold mo_circuitOf cof
  simp only [mo_circuitOf_4, show (0 : Int32) + 1 = 1 from rfl, show (1 : Int32) + 1 = 2 from rfl, show (2 : Int32) + 1 = 3 from rfl, show (3 : Int32) + 1 = 4 from rfl, show (0 : Int32).toNatClampNeg = 0 from rfl, show (1 : Int32).toNatClampNeg = 1 from rfl, show (2 : Int32).toNatClampNeg = 2 from rfl, show (3 : Int32).toNatClampNeg = 3 from rfl, show ((0 : Int32) < 4) = True from eq_true (by decide), show ((1 : Int32) < 4) = True from eq_true (by decide), show ((2 : Int32) < 4) = True from eq_true (by decide), show ((3 : Int32) < 4) = True from eq_true (by decide), show ((4 : Int32) < 4) = False from eq_false (by decide), if_true, if_false]
  obtain ⟨h1, h2⟩ := hi
  have d01 := h2 0 1 (by decide) (by decide)
  have d02 := h2 0 2 (by decide) (by decide)
  have d03 := h2 0 3 (by decide) (by decide)
  have d12 := h2 1 2 (by decide) (by decide)
  have d13 := h2 1 3 (by decide) (by decide)
  have d23 := h2 2 3 (by decide) (by decide)
  by_cases hl : 0 < l
  · have hl0 : ¬ l = 0 := fun z => by rw [z] at hl; exact absurd hl (by decide)
    simp only [hl, hl0, if_true, if_false]
    by_cases c0 : m.1 96 0 = l
    · have n1 : ¬ m.1 96 1 = l := fun z => absurd (d01 (c0.trans z.symm) (by rw [c0]; exact hl0)) (by decide)
      have n2 : ¬ m.1 96 2 = l := fun z => absurd (d02 (c0.trans z.symm) (by rw [c0]; exact hl0)) (by decide)
      have n3 : ¬ m.1 96 3 = l := fun z => absurd (d03 (c0.trans z.symm) (by rw [c0]; exact hl0)) (by decide)
      simp only [if_pos c0, if_neg n1, if_neg n2, if_neg n3]
    · by_cases c1 : m.1 96 1 = l
      · have n2 : ¬ m.1 96 2 = l := fun z => absurd (d12 (c1.trans z.symm) (by rw [c1]; exact hl0)) (by decide)
        have n3 : ¬ m.1 96 3 = l := fun z => absurd (d13 (c1.trans z.symm) (by rw [c1]; exact hl0)) (by decide)
        simp only [if_neg c0, if_pos c1, if_neg n2, if_neg n3]
      · by_cases c2 : m.1 96 2 = l
        · have n3 : ¬ m.1 96 3 = l := fun z => absurd (d23 (c2.trans z.symm) (by rw [c2]; exact hl0)) (by decide)
          simp only [if_neg c0, if_neg c1, if_pos c2, if_neg n3]
        · by_cases c3 : m.1 96 3 = l
          · simp only [if_neg c0, if_neg c1, if_neg c2, if_pos c3]
          · simp only [if_neg c0, if_neg c1, if_neg c2, if_neg c3]
  · simp only [hl, if_false]
    have hn (s : Nat) (hs : s < 4) (hl0 : ¬ l = 0) : ¬ m.1 96 s = l := by
      intro z
      have := (h1 s hs).1
      rw [z] at this
      rw [i_lt] at hl
      exact hl0 (i_eq.2 (by rw [show (0 : Int32).toInt = 0 from rfl] at *; omega))
    by_cases hl0 : l = 0
    · simp [hl0]
    · simp [hl0, hn 0 (by decide) hl0, hn 1 (by decide) hl0, hn 2 (by decide) hl0, hn 3 (by decide) hl0]
theorem cof_cases (f : Nat → Int32) (l : Int32) : (cof f l = -1 ∧ (l = 0 ∨ ∀ s : Nat, s < 4 → ¬ f s = l)) ∨ (∃ s : Nat, s < 4 ∧ cof f l = Int32.ofNat s ∧ f s = l ∧ ¬ l = 0) := by
  unfold cof
  by_cases hl : l = 0
  · exact Or.inl ⟨if_pos hl, Or.inl hl⟩
  · rw [if_neg hl]
    by_cases c0 : f 0 = l
    · exact Or.inr ⟨0, by decide, by rw [if_pos c0]; rfl, c0, hl⟩
    · by_cases c1 : f 1 = l
      · exact Or.inr ⟨1, by decide, by rw [if_neg c0, if_pos c1]; rfl, c1, hl⟩
      · by_cases c2 : f 2 = l
        · exact Or.inr ⟨2, by decide, by rw [if_neg c0, if_neg c1, if_pos c2]; rfl, c2, hl⟩
        · by_cases c3 : f 3 = l
          · exact Or.inr ⟨3, by decide, by rw [if_neg c0, if_neg c1, if_neg c2, if_pos c3]; rfl, c3, hl⟩
          · refine Or.inl ⟨by rw [if_neg c0, if_neg c1, if_neg c2, if_neg c3], Or.inr fun s hs => ?_⟩
            have : s = 0 ∨ s = 1 ∨ s = 2 ∨ s = 3 := by omega
            rcases this with rfl | rfl | rfl | rfl <;> assumption
/-! frames of say and clear -/
theorem iEe_f {m m' : mx_M} {e : Nat} {B : Int} (h : iEe m e B) (h6 : m'.1 106 e = m.1 106 e) (h7 : m'.1 107 e = m.1 107 e) (h8 : m'.1 108 e = m.1 108 e) (h9 : m'.1 109 e = m.1 109 e) : iEe m' e B := by
  unfold iEe
  rw [h6, h7, h8, h9]
  exact h
theorem iE_f {m m' : mx_M} {B : Int} (h : iE m B) (hf : ∀ i, 106 ≤ i → i < 110 → m'.1 i = m.1 i) : iE m' B :=
  ⟨iEe_f h.1 (by rw [hf 106 (by omega) (by omega)]) (by rw [hf 107 (by omega) (by omega)]) (by rw [hf 108 (by omega) (by omega)]) (by rw [hf 109 (by omega) (by omega)]), iEe_f h.2 (by rw [hf 106 (by omega) (by omega)]) (by rw [hf 107 (by omega) (by omega)]) (by rw [hf 108 (by omega) (by omega)]) (by rw [hf 109 (by omega) (by omega)])⟩
theorem iE_mono {m : mx_M} {B B' : Int} (h : iE m B) (hb : B ≤ B') : iE m B' := by
  obtain ⟨⟨a1, a2, a3, a4, a5⟩, ⟨b1, b2, b3, b4, b5⟩⟩ := h
  exact ⟨⟨a1, a2, by omega, a4, a5⟩, ⟨b1, b2, by omega, b4, b5⟩⟩
theorem say_o {m : mx_M} {e : Nat} (he : e < 2) (hi : iEe m e 1399) (k a b : Int32) {i j : Nat} (h : ¬ (i = 85 ∨ i = 113 ∨ i = 114 ∨ i = 115 ∨ ((i = 108 ∨ i = 109 ∨ i = 111 ∨ i = 112) ∧ j = e))) : (mo_say m (Int32.ofNat e) k a b).1 i j = m.1 i j := by
  rw [mo_say_eq m he hi]
  have hb := hi.2.2.1
  split
  · rfl
  · split
    · rw [qi_ne (by omega), my_tr_o _ he _ (by omega) (by omega), sy6_o m e k a b (by omega) (by omega)]
    · exact sy6_o m e k a b (by omega) (by omega)
theorem say_s {m : mx_M} {e : Nat} (he : e < 2) (hi : iEe m e 1399) (k a b : Int32) : (mo_say m (Int32.ofNat e) k a b).2.2 = m.2.2 := by
  have hb := hi.2.2.1
  have h6 : (sy6 m e k a b).2 = m.2 := by unfold sy6; split <;> rfl
  rw [mo_say_eq m he hi]
  split
  · rfl
  · split
    · show (mo_transmit _ _ _).2.2 = _
      rw [mo_transmit_eq _ e he _ (by omega), my_send_s, h6]
    · rw [h6]
theorem say_iE {m : mx_M} {e : Nat} (he : e < 2) {B : Int} (hB : B ≤ 1399) (hi : iE m B) (k a b : Int32) : iE (mo_say m (Int32.ofNat e) k a b) (B + 1) := by
  have hie := iE_get hi he
  have hie' := iE_get (iE_mono hi hB) he
  have key : iEe (mo_say m (Int32.ofNat e) k a b) e (B + 1) := by
    obtain ⟨i1, i2, i3, i4, i5⟩ := hie
    rw [mo_say_eq m he hie']
    have p1 : (m.1 109 e + 1).toInt = (m.1 109 e).toInt + 1 := i_p1 (by omega)
    have s8 : (sy6 m e k a b).1 108 e = m.1 108 e := sy6_o m e k a b (by omega) (by omega)
    have s7 : (sy6 m e k a b).1 107 e = m.1 107 e := sy6_o m e k a b (by omega) (by omega)
    have s6 : (sy6 m e k a b).1 106 e = m.1 106 e := sy6_o m e k a b (by omega) (by omega)
    have s9 := sy6_109 m e k a b
    split
    · exact ⟨i1, i2, by omega, i4, i5⟩
    · rename_i hch
      split
      · rename_i hlt
        have t6 : (my_pi (mo_transmit (sy6 m e k a b) (Int32.ofNat e) (m.1 109 e)) 108 e (m.1 109 e + 1)).1 106 e = m.1 106 e := by rw [qi_ne (by omega), my_tr_o _ he _ (by omega) (by decide), s6]
        have t7 : (my_pi (mo_transmit (sy6 m e k a b) (Int32.ofNat e) (m.1 109 e)) 108 e (m.1 109 e + 1)).1 107 e = m.1 107 e := by rw [qi_ne (by omega), my_tr_o _ he _ (by omega) (by decide), s7]
        have t8 : (my_pi (mo_transmit (sy6 m e k a b) (Int32.ofNat e) (m.1 109 e)) 108 e (m.1 109 e + 1)).1 108 e = m.1 109 e + 1 := qi_eq
        have t9 : (my_pi (mo_transmit (sy6 m e k a b) (Int32.ofNat e) (m.1 109 e)) 108 e (m.1 109 e + 1)).1 109 e = m.1 109 e + 1 := by rw [qi_ne (by omega), my_tr_o _ he _ (by omega) (by decide), s9]
        unfold iEe
        rw [t6, t7, t8, t9, p1]
        exact ⟨i1, by omega, by omega, Or.inl ⟨rfl, by omega⟩, fun z => absurd z hch⟩
      · rename_i hlt
        unfold iEe
        rw [s6, s7, s8, s9, p1]
        exact ⟨i1, by omega, by omega, Or.inr ⟨by omega, by omega⟩, fun z => absurd z hch⟩
  have other : ∀ e', e' < 2 → ¬ e' = e → iEe (mo_say m (Int32.ofNat e) k a b) e' (B + 1) := by
    intro e' h' hne
    have g := iE_get (iE_mono hi (show B ≤ B + 1 by omega)) h'
    exact iEe_f g (say_o he hie' k a b (by omega)) (say_o he hie' k a b (by omega)) (say_o he hie' k a b (by omega)) (say_o he hie' k a b (by omega))
  have h01 : e = 0 ∨ e = 1 := by omega
  rcases h01 with rfl | rfl
  · exact ⟨key, other 1 (by decide) (by decide)⟩
  · exact ⟨other 0 (by decide) (by decide), key⟩
theorem clear_iE {m : mx_M} {e : Nat} (he : e < 2) {B : Int} (h0 : 0 ≤ B) (hi : iE m B) (v : Int32) : iE (mo_clear m (Int32.ofNat e) v) B := by
  have cv := clear_v m he v
  have z0 : (0 : Int32).toInt = 0 := rfl
  have key : iEe (mo_clear m (Int32.ofNat e) v) e B := by
    unfold iEe
    rw [cv.2.1, cv.2.2.1, cv.2.2.2.1, z0]
    exact ⟨by omega, by omega, h0, Or.inl ⟨rfl, by omega⟩, fun _ => rfl⟩
  have other : ∀ e', e' < 2 → ¬ e' = e → iEe (mo_clear m (Int32.ofNat e) v) e' B := by
    intro e' h' hne
    exact iEe_f (iE_get hi h') (clear_o m he v (by omega)) (clear_o m he v (by omega)) (clear_o m he v (by omega)) (clear_o m he v (by omega))
  have h01 : e = 0 ∨ e = 1 := by omega
  rcases h01 with rfl | rfl
  · exact ⟨key, other 1 (by decide) (by decide)⟩
  · exact ⟨other 0 (by decide) (by decide), key⟩
theorem x_say0 {c : mx_C} {m : mx_M} (h : rR c m) (hi : iE m 1399) (k a b : Int32) : rR (en_put c 62 k a b) (mo_say m 0 k a b) := x_say h (e := 0) (by decide) hi k a b
theorem x_say1 {c : mx_C} {m : mx_M} (h : rR c m) (hi : iE m 1399) (k a b : Int32) : rR (en_put c 74 k a b) (mo_say m 1 k a b) := x_say h (e := 1) (by decide) hi k a b
theorem rd_lk {c : mx_C} {m : mx_M} (h : rR c m) : c.1 59 6 = m.1 82 28 := rdW h (by decide +kernel : ((59, 6), (82, 28)) ∈ tbW)
theorem rd_ch {c : mx_C} {m : mx_M} (h : rR c m) : c.1 59 7 = m.1 82 30 := rdW h (by decide +kernel : ((59, 7), (82, 30)) ∈ tbW)
theorem rd_id {c : mx_C} {m : mx_M} (h : rR c m) : c.1 59 5 = m.1 82 17 := rdW h (by decide +kernel : ((59, 5), (82, 17)) ∈ tbW)
theorem x_rm {c : mx_C} {m : mx_M} (h : rR c m) {s : Nat} (hs : s < 4) : rR (ac_removeCircuit c (Int32.ofNat s)) (my_pi (my_pi m 96 s 0) 97 s 0) := by
  unfold ac_removeCircuit
  rw [of_cl s (by omega)]
  exact wr (wr h (twL hs) 0) (twQ hs) 0
theorem rm_iE {m : mx_M} {B : Int} (h : iE m B) (s : Nat) (u v : Int32) : iE (my_pi (my_pi m 96 s u) 97 s v) B := iE_f h (fun i h1 h2 => by rw [qi_row (by omega), qi_row (by omega)])
theorem x_takeDown {c : mx_C} {m : mx_M} (h : rR c m) (hi : iE m 1399) (hc : iC m) {s : Nat} (hs : s < 4) : rR (ac_takeDown c (Int32.ofNat s)) (mo_takeDown m (Int32.ofNat s)) := by
  unfold ac_takeDown mo_takeDown
  have e61 : c.1 61 s = m.1 97 s := rdW h (twQ hs)
  simp only [of_cl s (show s < 2147483648 by omega), e61]
  have hge := (hc.1 s hs).2.1
  by_cases hz : m.1 97 s = 0
  · rw [if_pos hz, if_neg (by rw [hz]; decide)]
    exact x_rm h hs
  · have : 0 < m.1 97 s := by
      rw [i_lt, show (0 : Int32).toInt = 0 from rfl]
      have : ¬ (m.1 97 s).toInt = 0 := fun z => hz (i_eq.2 z)
      omega
    rw [if_neg hz, if_pos this]
    exact x_say0 (x_rm h hs) (rm_iE hi s 0 0) _ _ _
theorem rm_self {m : mx_M} (hc : iC m) {s : Nat} (hs : s < 4) (hz : m.1 96 s = 0) : my_pi (my_pi m 96 s 0) 97 s 0 = m := by
  have h1 := qi_self m 96 s
  have h2 := qi_self m 97 s
  rw [hz] at h1
  rw [(hc.1 s hs).2.2 hz] at h2
  rw [h1, h2]
/-- a circuit is gone, with word to its subscriber -/
def mo_cl (m : mx_M) (s : Nat) : mx_M := if m.1 96 s = 0 then m else my_send (my_pi (my_pi m 96 s 0) 97 s 0) (pk9 3 4 (Int32.ofNat s) (m.1 96 s) 0 0 0 0 0)
theorem x_close {c : mx_C} {m : mx_M} (h : rR c m) {s : Nat} (hs : s < 4) : rR (ac_closeCircuit c (Int32.ofNat s)) (mo_cl m s) := by
  unfold ac_closeCircuit mo_cl ac_removeCircuit
  have e60 : c.1 60 s = m.1 96 s := rdW h (twL hs)
  simp only [of_cl s (show s < 2147483648 by omega), fl_launch_eq, pk_bear_eq, mc_send_o _ _ (show 45 ≤ 60 by decide), e60]
  by_cases hz : m.1 96 s = 0
  · rw [if_pos hz, if_pos hz]; exact h
  · rw [if_neg hz, if_neg hz, my_send_pi _ _ (by decide), my_send_pi _ _ (by decide)]
    exact wr (wr (rR_send h _) (twL hs) 0) (twQ hs) 0
/-- what follows in a join -/
def mo_jn (m : mx_M) (s : Nat) : mx_M :=
  let m2 := my_pi m 82 28 (m.1 82 28 + 1)
  let m3 := my_pi m2 96 s (m.1 82 28 + 1)
  let m4 := my_send m3 (pk9 2 4 (Int32.ofNat s) (m.1 82 28 + 1) 0 0 0 0 0)
  if m.1 106 0 = 0 then
    let m5 := my_pi m4 82 30 (m.1 82 30 + 1)
    let m6 := mo_clear m5 0 (m.1 82 30 + 1)
    let m7 := my_pi m6 82 17 0
    mo_say (mo_say m7 0 12 0 0) 0 13 (m.1 82 28 + 1) 0
  else mo_say m4 0 13 (m.1 82 28 + 1) 0
theorem mo_jn_eq (m : mx_M) {s : Nat} (hs : s < 4) (hi : iE m 1398) : mo_join m (Int32.ofNat s) = (if 0 < m.1 96 s then mo_join m (Int32.ofNat s) else mo_jn m s) := by
  by_cases hz : 0 < m.1 96 s
  · rw [if_pos hz]
  · rw [if_neg hz]
    unfold mo_join mo_jn
    simp only [of_cl s (show s < 2147483648 by omega)]
    rw [if_neg hz]
    have r1 : (my_pi m 82 28 (m.1 82 28 + 1)).1 82 28 = m.1 82 28 + 1 := qi_eq
    have r2 (v : Int32) : (my_pi (my_pi m 82 28 (m.1 82 28 + 1)) 96 s v).1 82 28 = m.1 82 28 + 1 := by rw [qi_ne (by omega), qi_eq]
    simp only [r1, r2, mo_sendOff_eq, my_send_o _ _ (show ¬ 106 = 85 by decide), my_send_o _ _ (show ¬ 96 = 85 by decide), my_send_o _ _ (show ¬ 82 = 85 by decide)]
    have r3 (v : Int32) : (my_pi (my_pi m 82 28 (m.1 82 28 + 1)) 96 s v).1 106 0 = m.1 106 0 := by rw [qi_ne (by omega), qi_ne (by omega)]
    have r4 (v : Int32) : (my_pi (my_pi m 82 28 (m.1 82 28 + 1)) 96 s v).1 82 30 = m.1 82 30 := by rw [qi_ne (by omega), qi_ne (by omega)]
    have r5 (v : Int32) : (my_pi (my_pi m 82 28 (m.1 82 28 + 1)) 96 s v).1 96 s = v := qi_eq
    simp only [r3, r4, r5, qi_eq]
    by_cases h0 : m.1 106 0 = 0
    · rw [if_pos h0, if_pos h0]
      generalize hm4 : my_send (my_pi (my_pi m 82 28 (m.1 82 28 + 1)) 96 s (m.1 82 28 + 1)) (pk9 2 4 (Int32.ofNat s) (m.1 82 28 + 1) 0 0 0 0 0) = m4
      have e4 : iE m4 1398 := by
        rw [← hm4]
        exact iE_f hi (fun i h1 h2 => by rw [my_send_o _ _ (by omega), qi_row (by omega), qi_row (by omega)])
      have e7 : iE (my_pi (mo_clear (my_pi m4 82 30 (m.1 82 30 + 1)) 0 (m.1 82 30 + 1)) 82 17 0) 1399 := by
        refine iE_f (iE_mono (clear_iE (e := 0) (by decide) (by decide) (iE_f e4 (fun i h1 h2 => qi_row (by omega))) (m.1 82 30 + 1)) (by decide)) (fun i h1 h2 => qi_row (by omega))
      have s96 : (mo_say (my_pi (mo_clear (my_pi m4 82 30 (m.1 82 30 + 1)) 0 (m.1 82 30 + 1)) 82 17 0) 0 12 0 0).1 96 s = m.1 82 28 + 1 := by
        have := say_o (e := 0) (by decide) e7.1 12 0 0 (i := 96) (j := s) (by omega)
        rw [show (0 : Int32) = Int32.ofNat 0 from rfl] at *
        rw [this, qi_ne (by omega), clear_o (e := 0) _ (by decide) _ (by omega), qi_ne (by omega), ← hm4, my_send_o _ _ (by omega), qi_eq]
      rw [s96]
    · rw [if_neg h0, if_neg h0]
theorem td_o {m : mx_M} (hi : iE m 1399) {s : Nat} (hs : s < 4) {i j : Nat} (h : ¬ (i = 85 ∨ i = 113 ∨ i = 114 ∨ i = 115 ∨ i = 108 ∨ i = 109 ∨ i = 111 ∨ i = 112 ∨ ((i = 96 ∨ i = 97) ∧ j = s))) : (mo_takeDown m (Int32.ofNat s)).1 i j = m.1 i j := by
  unfold mo_takeDown
  rw [of_cl s (by omega)]
  split
  · have := say_o (e := 0) (by decide) (rm_iE hi s 0 0).1 15 (m.1 97 s) 0 (i := i) (j := j) (by omega)
    show (mo_say _ _ _ _ _).1 i j = _
    rw [show (0 : Int32) = Int32.ofNat 0 from rfl] at *
    rw [this, qi_ne (by omega), qi_ne (by omega)]
  · show (my_pi _ _ _ _).1 i j = _
    rw [qi_ne (by omega), qi_ne (by omega)]
theorem td_96 {m : mx_M} (hi : iE m 1399) {s : Nat} (hs : s < 4) : (mo_takeDown m (Int32.ofNat s)).1 96 s = 0 ∧ (mo_takeDown m (Int32.ofNat s)).1 97 s = 0 := by
  unfold mo_takeDown
  rw [of_cl s (by omega)]
  split
  · have h6 := say_o (e := 0) (by decide) (rm_iE hi s 0 0).1 15 (m.1 97 s) 0 (i := 96) (j := s) (by omega)
    have h7 := say_o (e := 0) (by decide) (rm_iE hi s 0 0).1 15 (m.1 97 s) 0 (i := 97) (j := s) (by omega)
    rw [show (0 : Int32) = Int32.ofNat 0 from rfl] at *
    exact ⟨by rw [h6, qi_ne (by omega), qi_eq], by rw [h7, qi_eq]⟩
  · exact ⟨by show (my_pi _ _ _ _).1 96 s = _; rw [qi_ne (by omega), qi_eq], by show (my_pi _ _ _ _).1 97 s = _; rw [qi_eq]⟩
theorem td_iE {m : mx_M} {B : Int} (hB : B ≤ 1399) (hi : iE m B) {s : Nat} (hs : s < 4) : iE (mo_takeDown m (Int32.ofNat s)) (B + 1) := by
  unfold mo_takeDown
  rw [of_cl s (by omega)]
  split
  · exact say_iE (e := 0) (by decide) hB (rm_iE hi s 0 0) _ _ _
  · exact iE_mono (rm_iE hi s 0 0) (by omega)
theorem mo_join_eq (m : mx_M) {s : Nat} (hs : s < 4) (hi : iE m 1397) : mo_join m (Int32.ofNat s) = mo_jn (if 0 < m.1 96 s then mo_takeDown m (Int32.ofNat s) else m) s := by
  by_cases hz : 0 < m.1 96 s
  · rw [if_pos hz]
    have t96 := (td_96 (iE_mono hi (by decide)) hs).1
    have := mo_jn_eq (mo_takeDown m (Int32.ofNat s)) hs (td_iE (by decide) hi hs)
    rw [t96, if_neg (by decide)] at this
    rw [← this]
    unfold mo_join
    simp only [of_cl s (show s < 2147483648 by omega), t96]
    rw [if_pos hz, if_neg (show ¬ (0 : Int32) < 0 by decide)]
  · have := mo_jn_eq m hs (iE_mono hi (by decide))
    rw [if_neg hz] at this
    rw [if_neg hz, this]
theorem x_jn {c : mx_C} {m : mx_M} (h : rR c m) (hi : iE m 1398) {s : Nat} (hs : s < 4) :
    rR (let c2 := mx_pi c 59 6 (c.1 59 6 + 1)
        let c3 := mx_pi c2 60 s (c2.1 59 6)
        let q4 := fl_launch c3 2 4 (Int32.ofNat s)
        let c5 := pk_bear q4.1 q4.2 (q4.1.1 59 6) 0 0
        if (c5.1 62 3) = 0 then
          let c6 := mx_pi c5 59 7 ((c5.1 59 7) + 1)
          let c7 := en_begin c6 62 (c6.1 59 7)
          let c8 := mx_pi c7 59 5 0
          let c9 := en_put c8 62 12 0 0
          let c10 := en_put c9 62 13 (c9.1 59 6) 0
          c10
        else
          let c11 := en_put c5 62 13 (c5.1 59 6) 0
          c11) (mo_jn m s) := by
  have h2 := wr h (by decide +kernel : ((59, 6), (82, 28)) ∈ tbW) (m.1 82 28 + 1)
  have h3 := wr h2 (twL hs) (m.1 82 28 + 1)
  have h4 := rR_send h3 (pk9 2 4 (Int32.ofNat s) (m.1 82 28 + 1) 0 0 0 0 0)
  have b4 : iE (my_send (my_pi (my_pi m 82 28 (m.1 82 28 + 1)) 96 s (m.1 82 28 + 1)) (pk9 2 4 (Int32.ofNat s) (m.1 82 28 + 1) 0 0 0 0 0)) 1398 := iE_f hi (fun i h1 h2 => by rw [my_send_o _ _ (by omega), qi_row (by omega), qi_row (by omega)])
  simp only [fl_launch_eq, pk_bear_eq, mc_send_o _ _ (show 45 ≤ 59 by decide), mc_send_o _ _ (show 45 ≤ 62 by decide), rd_lk h, pi_if]
  simp only [show ¬ (59 : Nat) = 60 by decide, show ¬ (62 : Nat) = 60 by decide, show ¬ (62 : Nat) = 59 by decide, show ¬ (7 : Nat) = 6 by decide, false_and, and_false, if_false, and_self, if_true]
  unfold mo_jn
  have e3 : c.1 62 3 = m.1 106 0 := rd_E3 (rR_q h) (e := 0) (by decide)
  rw [e3, rd_ch h]
  by_cases h0 : m.1 106 0 = 0
  · rw [if_pos h0, if_pos h0]
    simp only
    have h5 := wr h4 (by decide +kernel : ((59, 7), (82, 30)) ∈ tbW) (m.1 82 30 + 1)
    have b5 := iE_f b4 (fun i h1 h2 => qi_row (show ¬ i = 82 by omega)) (m' := my_pi _ 82 30 (m.1 82 30 + 1))
    have h6 := x_begin h5 (e := 0) (by decide) (fun e' h' => by have := (iE_get b5 h').2.2.1; omega) (m.1 82 30 + 1)
    have b6 := clear_iE (e := 0) (by decide) (by decide) b5 (m.1 82 30 + 1)
    have h7 := wr h6 (by decide +kernel : ((59, 5), (82, 17)) ∈ tbW) 0
    have b7 := iE_f b6 (fun i h1 h2 => qi_row (show ¬ i = 82 by omega)) (m' := my_pi _ 82 17 0)
    have h8 := x_say0 h7 (iE_mono b7 (by decide)) 12 0 0
    have b8 := say_iE (e := 0) (by decide) (by decide) b7 12 0 0
    have h9 := x_say0 h8 b8 13 (m.1 82 28 + 1) 0
    have l8 := rd_lk h8
    have o8 := say_o (e := 0) (by decide) (iE_mono b7 (by decide)).1 12 0 0 (i := 82) (j := 28) (by omega)
    have o8' : (mo_say (my_pi (mo_clear (my_pi (my_send (my_pi (my_pi m 82 28 (m.1 82 28 + 1)) 96 s (m.1 82 28 + 1)) (pk9 2 4 (Int32.ofNat s) (m.1 82 28 + 1) 0 0 0 0 0)) 82 30 (m.1 82 30 + 1)) 0 (m.1 82 30 + 1)) 82 17 0) 0 12 0 0).1 82 28 = m.1 82 28 + 1 := by
      rw [show (0 : Int32) = Int32.ofNat 0 from rfl] at *
      rw [o8, qi_ne (by omega), clear_o (e := 0) _ (by decide) _ (by omega), qi_ne (by omega), my_send_o _ _ (by omega), qi_ne (by omega), qi_eq]
    have l8' := l8.trans o8'
    have l8'' : (en_put (mx_pi (en_begin (mx_pi (mc_send (mx_pi (mx_pi c 59 6 (m.1 82 28 + 1)) 60 s (m.1 82 28 + 1)) (pk9 2 4 (Int32.ofNat s) (m.1 82 28 + 1) 0 0 0 0 0)) 59 7 (m.1 82 30 + 1)) 62 (m.1 82 30 + 1)) 59 5 0) 62 12 0 0).1 59 6 = m.1 82 28 + 1 := l8'
    rw [l8'']
    exact h9
  · rw [if_neg h0, if_neg h0]
    exact x_say0 h4 (iE_mono b4 (by decide)) _ _ _
theorem x_join {c : mx_C} {m : mx_M} (h : rR c m) (hi : iE m 1397) (hc : iC m) {s : Nat} (hs : s < 4) : rR (ac_join c (Int32.ofNat s)) (mo_join m (Int32.ofNat s)) := by
  rw [mo_join_eq m hs hi]
  have key : rR (ac_takeDown c (Int32.ofNat s)) (if 0 < m.1 96 s then mo_takeDown m (Int32.ofNat s) else m) ∧ iE (if 0 < m.1 96 s then mo_takeDown m (Int32.ofNat s) else m) 1398 := by
    have ht := x_takeDown h (iE_mono hi (by decide)) hc hs
    by_cases hz : 0 < m.1 96 s
    · rw [if_pos hz]
      exact ⟨ht, td_iE (by decide) hi hs⟩
    · rw [if_neg hz]
      have h0 : m.1 96 s = 0 := by
        have := (hc.1 s hs).1
        rw [i_lt, show (0 : Int32).toInt = 0 from rfl] at hz
        exact i_eq.2 (by rw [show (0 : Int32).toInt = 0 from rfl]; omega)
      have e : mo_takeDown m (Int32.ofNat s) = m := by
        unfold mo_takeDown
        rw [of_cl s (by omega), (hc.1 s hs).2.2 h0, if_neg (by decide)]
        exact rm_self hc hs h0
      rw [e] at ht
      exact ⟨ht, iE_mono hi (by decide)⟩
  have := x_jn key.1 key.2 hs
  unfold ac_join
  simp only [of_cl s (show s < 2147483648 by omega)]
  exact this
/-! the access node -/
theorem so_fin {e : Nat} (he : e < 2) (q : Nat) (hq : q ≤ 1400) : ∀ (d : Nat) (m : mx_M) (j : Nat) (fM : Nat), j + d = q → d < fM → m.1 108 e = Int32.ofNat j → (∀ x : Nat, x ≤ 1400 → (x < q ↔ (x : Int) < (m.1 109 e).toInt ∧ (x : Int) < (m.1 107 e).toInt + 3)) → 0 ≤ (m.1 107 e).toInt → (m.1 107 e).toInt ≤ 1400 →
    (mo_sendOpen_0 fM m (Int32.ofNat e)).1 108 e = Int32.ofNat q := by
  have ee : (Int32.ofNat e).toNatClampNeg = e := of_cl e (by omega)
  intro d
  induction d with
  | zero =>
    intro m j fM hjd hfM h8 hx h0 h14
    have hjq : j = q := by omega
    subst hjq
    rw [so0_stop]
    · exact h8
    · rw [ee, h8]
      intro z
      have p3 : (m.1 107 e + 3).toInt = (m.1 107 e).toInt + 3 := i_p3 (by omega)
      rw [i_lt, i_lt, p3, i_of _ (by omega)] at z
      have := (hx j hq).2 z
      omega
  | succ d ih =>
    intro m j fM hjd hfM h8 hx h0 h14
    obtain ⟨fM, rfl⟩ : ∃ k, fM = k + 1 := ⟨fM - 1, by omega⟩
    have hj := (hx j (by omega)).1 (by omega)
    have p3 : (m.1 107 e + 3).toInt = (m.1 107 e).toInt + 3 := i_p3 (by omega)
    unfold mo_sendOpen_0
    rw [ee, h8, if_pos (by rw [i_lt, i_of _ (by omega)]; omega), if_pos (by rw [i_lt, i_of _ (by omega), p3]; omega)]
    have hn : (Int32.ofNat j).toInt < 1400 := by rw [i_of _ (by omega)]; omega
    have h8' : (mo_transmit m (Int32.ofNat e) (Int32.ofNat j)).1 108 e = Int32.ofNat j := by rw [my_tr_o _ he _ hn (by decide), h8]
    show (mo_sendOpen_0 fM (my_pi (mo_transmit m (Int32.ofNat e) (Int32.ofNat j)) 108 e ((mo_transmit m (Int32.ofNat e) (Int32.ofNat j)).1 108 e + 1)) (Int32.ofNat e)).1 108 e = _
    rw [h8', show Int32.ofNat j + 1 = Int32.ofNat (j + 1) from of_add j 1]
    have g7 : (my_pi (mo_transmit m (Int32.ofNat e) (Int32.ofNat j)) 108 e (Int32.ofNat (j + 1))).1 107 e = m.1 107 e := by rw [qi_ne (by omega), my_tr_o _ he _ hn (by decide)]
    have g9 : (my_pi (mo_transmit m (Int32.ofNat e) (Int32.ofNat j)) 108 e (Int32.ofNat (j + 1))).1 109 e = m.1 109 e := by rw [qi_ne (by omega), my_tr_o _ he _ hn (by decide)]
    refine ih _ (j + 1) fM (by omega) (by omega) qi_eq ?_ (by rw [g7]; exact h0) (by rw [g7]; exact h14)
    intro x hx14
    rw [g7, g9]
    exact hx x hx14
theorem so_o {e : Nat} (he : e < 2) (n : Nat) (m : mx_M) (hb : (m.1 109 e).toInt ≤ 1400) : (mo_sendOpen_0 n m (Int32.ofNat e)).2.2 = m.2.2 ∧ ∀ i j, ¬ i = 85 → ¬ (i = 108 ∧ j = e) → (mo_sendOpen_0 n m (Int32.ofNat e)).1 i j = m.1 i j := by
  refine so_ind (fun m' => m'.2.2 = m.2.2 ∧ ∀ i j, ¬ i = 85 → ¬ (i = 108 ∧ j = e) → m'.1 i j = m.1 i j) he ?_ n m ⟨rfl, fun _ _ _ _ => rfl⟩
  intro m' h h1 h2
  have hn : (m'.1 108 e).toInt < 1400 := by
    rw [i_lt, h.2 109 e (by decide) (by omega)] at h1
    omega
  refine ⟨?_, fun i j hi hj => ?_⟩
  · show (mo_transmit _ _ _).2.2 = _
    rw [mo_transmit_eq _ e he _ hn, my_send_s]; exact h.1
  · rw [qi_ne hj, my_tr_o _ he _ hn hi]; exact h.2 i j hi hj
theorem settle_o {m : mx_M} {e : Nat} (he : e < 2) (hb : (m.1 109 e).toInt ≤ 1400) (v : Int32) : (mo_settle m e v).2.2 = m.2.2 ∧ ∀ i j, ¬ i = 85 → ¬ ((i = 107 ∨ i = 108 ∨ i = 111 ∨ i = 112) ∧ j = e) → (mo_settle m e v).1 i j = m.1 i j := by
  unfold mo_settle
  split
  · rw [mo_sendOpen_0eq]
    have := so_o he 1403 (my_pi (my_pi (my_pi m 107 e (if v < m.1 109 e then v else m.1 109 e)) 111 e 0) 112 e 2) (by rw [qi_ne (by omega), qi_ne (by omega), qi_ne (by omega)]; exact hb)
    refine ⟨this.1, fun i j hi hj => ?_⟩
    rw [this.2 i j hi (by omega), qi_ne (by omega), qi_ne (by omega), qi_ne (by omega)]
  · exact ⟨rfl, fun _ _ _ _ => rfl⟩
/-- the counters after a settling -/
theorem settle_c {m : mx_M} {e : Nat} (he : e < 2) (hi : iEe m e 1400) (v : Int32) (hk : v.toInt ≤ (m.1 108 e).toInt ∨ (m.1 108 e).toInt = (m.1 109 e).toInt) :
    ((mo_settle m e v).1 107 e).toInt = max (m.1 107 e).toInt (min v.toInt (m.1 109 e).toInt) ∧
    ((mo_settle m e v).1 108 e).toInt = min (m.1 109 e).toInt (max (m.1 107 e).toInt (min v.toInt (m.1 109 e).toInt) + 3) := by
  obtain ⟨i1, i2, i3, i4, i5⟩ := hi
  unfold mo_settle
  by_cases h7 : m.1 107 e < v
  · rw [if_pos h7]
    rw [i_lt] at h7
    have hmin : (if v < m.1 109 e then v else m.1 109 e) = jx_min v (m.1 109 e) := by
      rw [i_eq, jx_min_i]
      split <;> rename_i z <;> rw [i_lt] at z <;> omega
    rw [hmin, mo_sendOpen_0eq]
    have K := jx_min_i v (m.1 109 e)
    have g8 : (my_pi (my_pi (my_pi m 107 e (jx_min v (m.1 109 e))) 111 e 0) 112 e 2).1 108 e = m.1 108 e := by rw [qi_ne (by omega), qi_ne (by omega), qi_ne (by omega)]
    have g9 : (my_pi (my_pi (my_pi m 107 e (jx_min v (m.1 109 e))) 111 e 0) 112 e 2).1 109 e = m.1 109 e := by rw [qi_ne (by omega), qi_ne (by omega), qi_ne (by omega)]
    have g7 : (my_pi (my_pi (my_pi m 107 e (jx_min v (m.1 109 e))) 111 e 0) 112 e 2).1 107 e = jx_min v (m.1 109 e) := by rw [qi_ne (by omega), qi_ne (by omega), qi_eq]
    have ho := (so_o he 1403 (my_pi (my_pi (my_pi m 107 e (jx_min v (m.1 109 e))) 111 e 0) 112 e 2) (by rw [g9]; exact i3)).2
    rw [ho 107 e (by decide) (by omega), g7]
    refine ⟨by omega, ?_⟩
    obtain ⟨q, hqn⟩ : ∃ q : Nat, min (m.1 109 e).toInt ((jx_min v (m.1 109 e)).toInt + 3) = (q : Int) := ⟨(min (m.1 109 e).toInt ((jx_min v (m.1 109 e)).toInt + 3)).toNat, by omega⟩
    obtain ⟨j, hjn⟩ : ∃ j : Nat, (m.1 108 e).toInt = (j : Int) := ⟨(m.1 108 e).toInt.toNat, by omega⟩
    have ej2 : m.1 108 e = Int32.ofNat j := by rw [i_eq, hjn, i_of _ (by omega)]
    rw [so_fin he q (by omega) (q - j) _ j 1403 (by omega) (by omega) (by rw [g8, ej2]) (by intro x hx; rw [g9, g7]; omega) (by rw [g7]; omega) (by rw [g7]; omega), i_of _ (by omega)]
    omega
  · rw [if_neg h7]
    rw [i_lt] at h7
    omega
theorem settle_iE {m : mx_M} {e : Nat} (he : e < 2) {B : Int} (hB : B ≤ 1400) (hi : iE m B) (v : Int32) (hk : v.toInt ≤ (m.1 108 e).toInt ∨ (m.1 108 e).toInt = (m.1 109 e).toInt) : iE (mo_settle m e v) B := by
  have hie := iE_get hi he
  have hie' := iE_get (iE_mono hi hB) he
  have hc := settle_c he hie' v hk
  have ho := (settle_o he hie'.2.2.1 v).2
  have key : iEe (mo_settle m e v) e B := by
    obtain ⟨i1, i2, i3, i4, i5⟩ := hie
    unfold iEe
    rw [ho 106 e (by decide) (by omega), ho 109 e (by decide) (by omega), hc.1, hc.2]
    exact ⟨by omega, by omega, i3, by omega, i5⟩
  have other : ∀ e', e' < 2 → ¬ e' = e → iEe (mo_settle m e v) e' B := by
    intro e' h' hne
    exact iEe_f (iE_get hi h') (ho 106 e' (by decide) (by omega)) (ho 107 e' (by decide) (by omega)) (ho 108 e' (by decide) (by omega)) (ho 109 e' (by decide) (by omega))
  have h01 : e = 0 ∨ e = 1 := by omega
  rcases h01 with rfl | rfl
  · exact ⟨key, other 1 (by decide) (by decide)⟩
  · exact ⟨other 0 (by decide) (by decide), key⟩
theorem iC_f {m m' : mx_M} (h : iC m) (h6 : m'.1 96 = m.1 96) (h7 : m'.1 97 = m.1 97) : iC m' := by
  unfold iC
  rw [h6, h7]
  exact h
/-- a packet of a subscriber arrives at the access node -/
theorem x_fromSub {c : mx_C} {m : mx_M} (h : rR c m) (hi : iE m 1397) (hc : iC m) {s : Nat} (hs : s < 4) (hf : c.1 (p40 c) 1 = Int32.ofNat s) (hk : c.1 (p40 c) 0 = 1 ∨ c.1 (p40 c) 0 = 3 ∨ c.1 (p40 c) 0 = 4 ∨ c.1 (p40 c) 0 = 7 ∨ c.1 (p40 c) 0 = 9 ∨ c.1 (p40 c) 0 = 10) :
    rR (if (c.1 (p40 c) 0) = 1 then ac_join c (c.1 (p40 c) 1) else if (c.1 (p40 c) 3) = (c.1 60 (Int32.toNatClampNeg (c.1 (p40 c) 1))) then ac_receiveOnCircuit c (p40 c) else c)
      (mo_fromSubscriber m (Int32.ofNat s) (c.1 (p40 c) 0) (c.1 (p40 c) 3) (c.1 (p40 c) 4) (c.1 (p40 c) 5)) := by
  have ec : (Int32.ofNat s).toNatClampNeg = s := of_cl s (by omega)
  have e60 : c.1 60 s = m.1 96 s := rdW h (twL hs)
  have e61 : c.1 61 s = m.1 97 s := rdW h (twQ hs)
  rw [hf, ec, e60]
  unfold mo_fromSubscriber
  simp only [ec]
  by_cases h1 : c.1 (p40 c) 0 = 1
  · rw [if_pos h1, if_pos h1]; exact x_join h hi hc hs
  · rw [if_neg h1, if_neg h1]
    have hj := rR_inj h
    have hsend (p : Nat → Int32) : (mc_send c p).1 (p40 c) = c.1 (p40 c) := (kp_send hj p).2
    unfold ac_receiveOnCircuit
    simp only [fl_launch_eq, pk_bear_eq, hsend, mc_send_o _ _ (show 45 ≤ 61 by decide), hf, ec, e61]
    by_cases h0 : m.1 96 s = 0
    · rw [if_pos h0]
      have z7 := (hc.1 s hs).2.2 h0
      split
      · split
        · have e : mo_takeDown m (Int32.ofNat s) = m := by
            unfold mo_takeDown
            rw [of_cl s (by omega), z7, if_neg (by decide)]
            exact rm_self hc hs h0
          have ht := x_takeDown h (iE_mono hi (by decide)) hc hs
          rw [e] at ht
          exact ht
        · first | exact h | (rw [if_pos z7]; exact h)
      · exact h
    · rw [if_neg h0]
      by_cases ha : m.1 96 s = c.1 (p40 c) 3
      · rw [if_pos ha, if_pos ha.symm]
        by_cases h3 : c.1 (p40 c) 0 = 3
        · rw [if_pos h3, if_pos h3]; exact x_takeDown h (iE_mono hi (by decide)) hc hs
        · rw [if_neg h3, if_neg h3]
          have hge := (hc.1 s hs).2.1
          by_cases hz : m.1 97 s = 0
          · rw [if_pos hz, if_neg (by rw [hz]; decide)]; exact h
          · have : 0 < m.1 97 s := by
              rw [i_lt, show (0 : Int32).toInt = 0 from rfl]
              have : ¬ (m.1 97 s).toInt = 0 := fun z => hz (i_eq.2 z)
              omega
            rw [if_neg hz, if_pos this]
            simp only [mo_sendOff_eq]
            have hs4 := rR_send h (pk9 (c.1 (p40 c) 0) 4 5 (m.1 97 s) (c.1 (p40 c) 4) (c.1 (p40 c) 5) 0 0 0)
            rcases hk with z | z | z | z | z | z
            · exact absurd z h1
            · exact absurd z h3
            · rw [if_pos z]; exact hs4
            · rw [if_neg (show ¬ c.1 (p40 c) 0 = 4 by rw [z]; decide), if_pos z]; exact hs4
            · rw [if_neg (show ¬ c.1 (p40 c) 0 = 4 by rw [z]; decide), if_neg (show ¬ c.1 (p40 c) 0 = 7 by rw [z]; decide), if_pos z]; exact hs4
            · rw [if_neg (show ¬ c.1 (p40 c) 0 = 4 by rw [z]; decide), if_neg (show ¬ c.1 (p40 c) 0 = 7 by rw [z]; decide), if_neg (show ¬ c.1 (p40 c) 0 = 9 by rw [z]; decide), if_pos z]; exact hs4
      · rw [if_neg ha, if_neg (fun z => ha z.symm)]; exact h
theorem neg1_lt : ((-1 : Int32) < 0) := by decide
theorem of_nneg {s : Nat} (hs : s < 4) : ¬ (Int32.ofNat s < 0) := by rw [i_lt, i_of s (by omega), show (0 : Int32).toInt = 0 from rfl]; omega
theorem x_fromSrv {c : mx_C} {m : mx_M} (h : rR c m) (hc : iC m) (hk : c.1 (p40 c) 0 = 5 ∨ c.1 (p40 c) 0 = 6 ∨ c.1 (p40 c) 0 = 8 ∨ c.1 (p40 c) 0 = 11) :
    rR (ac_passToSubscriber c (p40 c)) (mo_fromServer m (c.1 (p40 c) 0) (c.1 (p40 c) 3) (c.1 (p40 c) 4) (c.1 (p40 c) 5)) := by
  have hj := rR_inj h
  have hsend (p : Nat → Int32) : (mc_send c p).1 (p40 c) = c.1 (p40 c) := (kp_send hj p).2
  unfold ac_passToSubscriber mo_fromServer
  simp only [fl_launch_eq, pk_bear_eq, hsend, ac_so_eq h, mo_co_eq hc, mo_sendOff_eq]
  split
  · exact h
  · have hs4 := rR_send h (pk9 (c.1 (p40 c) 0) 4 (cof (m.1 96) (c.1 (p40 c) 3)) (c.1 (p40 c) 3) (c.1 (p40 c) 4) (c.1 (p40 c) 5) 0 0 0)
    rcases hk with z | z | z | z
    · rw [if_pos z]; exact hs4
    · rw [if_neg (show ¬ c.1 (p40 c) 0 = 5 by rw [z]; decide), if_pos z]; exact hs4
    · rw [if_neg (show ¬ c.1 (p40 c) 0 = 5 by rw [z]; decide), if_neg (show ¬ c.1 (p40 c) 0 = 6 by rw [z]; decide), if_pos z]; exact hs4
    · rw [if_neg (show ¬ c.1 (p40 c) 0 = 5 by rw [z]; decide), if_neg (show ¬ c.1 (p40 c) 0 = 6 by rw [z]; decide), if_neg (show ¬ c.1 (p40 c) 0 = 8 by rw [z]; decide), if_pos z]; exact hs4
theorem x_acDoes {c : mx_C} {m : mx_M} (h : rR c m) (hi : iE m 1399) (hc : iC m) (p : Nat) : rR (ac_perform c p) (mo_accessDoes m (c.1 p 0) (c.1 p 3) (c.1 p 4)) := by
  unfold ac_perform mo_accessDoes
  simp only [ac_so_eq h, mo_co_eq hc, mo_sendOff_eq]
  rcases cof_cases (m.1 96) (c.1 p 3) with ⟨hm, _⟩ | ⟨s, hs, hm, hf, hl⟩
  · rw [hm]
    simp only [show ((-1 : Int32) < 0) = True from eq_true neg1_lt, if_true]
    by_cases h15 : c.1 p 0 = 15
    · have n14 : ¬ c.1 p 0 = 14 := by rw [h15]; decide
      rw [if_pos h15, if_neg n14, if_neg n14, if_neg n14, if_pos h15]; exact h
    · rw [if_neg h15]
      by_cases h14 : c.1 p 0 = 14
      · simp only [if_pos h14]; exact x_say0 h hi _ _ _
      · simp only [if_neg h14, if_neg h15]; exact h
  · rw [hm]
    simp only [show (Int32.ofNat s < 0) = False from eq_false (of_nneg hs), if_false, of_cl s (show s < 2147483648 by omega)]
    by_cases h15 : c.1 p 0 = 15
    · have n14 : ¬ c.1 p 0 = 14 := by rw [h15]; decide
      rw [if_pos h15, if_neg n14, if_pos h15]
      have := x_close h hs
      unfold mo_cl at this
      rw [if_neg (by rw [hf]; exact hl), hf] at this
      exact this
    · rw [if_neg h15]
      by_cases h14 : c.1 p 0 = 14
      · rw [if_pos h14, if_pos h14]; exact wr h (twQ hs) _
      · simp only [if_neg h14, if_neg h15]; exact h
/-- a packet of the channel arrives at an end -/
theorem x_ctl {c : mx_C} {m : mx_M} (h : rR c m) {e : Nat} (he : e < 2) (hi : iE m 1397) (hk : c.1 (p40 c) 6 = m.1 106 e → (c.1 (p40 c) 8).toInt ≤ (m.1 108 e).toInt ∨ (m.1 108 e).toInt = (m.1 109 e).toInt) (F : mx_C → Nat → mx_C)
    (hF : c.1 (p40 c) 6 = m.1 106 e → ∀ c1, rR c1 (my_pi (mo_settle m e (c.1 (p40 c) 8)) 110 e ((mo_settle m e (c.1 (p40 c) 8)).1 110 e + 1)) → c1.1 (p40 c) = c.1 (p40 c) → rR (F c1 (p40 c)) (if e = 0 then mo_accessDoes (my_pi (mo_settle m e (c.1 (p40 c) 8)) 110 e ((mo_settle m e (c.1 (p40 c) 8)).1 110 e + 1)) (c.1 (p40 c) 0) (c.1 (p40 c) 3) (c.1 (p40 c) 4) else mo_serverDoes (my_pi (mo_settle m e (c.1 (p40 c) 8)) 110 e ((mo_settle m e (c.1 (p40 c) 8)).1 110 e + 1)) (c.1 (p40 c) 0) (c.1 (p40 c) 3))) :
    rR (let q := en_isNext c (62 + 12 * e) (p40 c)
        if q.2 = 0 then q.1 else en_acknowledge (F q.1 (p40 c)) (62 + 12 * e))
      (mo_control_34 1 m (Int32.ofNat e) (c.1 (p40 c) 0) (c.1 (p40 c) 3) (c.1 (p40 c) 4) (c.1 (p40 c) 6) (c.1 (p40 c) 7) (c.1 (p40 c) 8)) := by
  rw [mo_c34_eq m he]
  unfold en_isNext
  rw [rd_E3 (rR_q h) he]
  by_cases hch : c.1 (p40 c) 6 = m.1 106 e
  · rw [if_pos hch, if_pos hch]
    have hst := x_settle h he (iE_mono hi (by decide)) (c.1 (p40 c) 8) (hk hch)
    have hkp := (kp_settle (rR_inj h) (show 45 ≤ 62 + 12 * e by omega) (c.1 (p40 c) 8)).2
    simp only [hkp, rd_E4 (rR_q hst) he]
    by_cases h17 : c.1 (p40 c) 0 = 17
    · simp only [if_pos h17, if_true]; exact hst
    · simp only [if_neg h17]
      by_cases hn : c.1 (p40 c) 7 = (mo_settle m e (c.1 (p40 c) 8)).1 110 e
      · simp only [if_pos hn, show ¬ (1 : Int32) = 0 by decide, if_false]
        have h4 := wr hst (tE4 he) ((mo_settle m e (c.1 (p40 c) 8)).1 110 e + 1)
        refine x_ack (hF hch _ h4 ?_) he
        rw [pi_row (by have := p40_lt c; omega), hkp]
      · simp only [if_neg hn, if_true]; exact x_ack hst he
  · simp only [if_neg hch, if_true]; exact h
/-- all that arrives at the access node -/
theorem x_acRecv {c : mx_C} {m : mx_M} (h : rR c m) (hi : iE m 1397) (hc : iC m)
    (hw : c.1 (p40 c) 0 < 12 → (c.1 (p40 c) 1 = 5 ∧ (c.1 (p40 c) 0 = 5 ∨ c.1 (p40 c) 0 = 6 ∨ c.1 (p40 c) 0 = 8 ∨ c.1 (p40 c) 0 = 11)) ∨ (∃ s : Nat, s < 4 ∧ c.1 (p40 c) 1 = Int32.ofNat s ∧ (c.1 (p40 c) 0 = 1 ∨ c.1 (p40 c) 0 = 3 ∨ c.1 (p40 c) 0 = 4 ∨ c.1 (p40 c) 0 = 7 ∨ c.1 (p40 c) 0 = 9 ∨ c.1 (p40 c) 0 = 10)))
    (hk : ¬ c.1 (p40 c) 0 < 12 → c.1 (p40 c) 6 = m.1 106 0 → (c.1 (p40 c) 8).toInt ≤ (m.1 108 0).toInt ∨ (m.1 108 0).toInt = (m.1 109 0).toInt) :
    rR (ac_receive c (p40 c)) (if c.1 (p40 c) 0 < 12 then (if c.1 (p40 c) 1 < 4 then mo_fromSubscriber m (c.1 (p40 c) 1) (c.1 (p40 c) 0) (c.1 (p40 c) 3) (c.1 (p40 c) 4) (c.1 (p40 c) 5) else mo_fromServer m (c.1 (p40 c) 0) (c.1 (p40 c) 3) (c.1 (p40 c) 4) (c.1 (p40 c) 5)) else mo_control m 0 (c.1 (p40 c) 0) (c.1 (p40 c) 3) (c.1 (p40 c) 4) (c.1 (p40 c) 6) (c.1 (p40 c) 7) (c.1 (p40 c) 8)) := by
  unfold ac_receive
  by_cases h12 : c.1 (p40 c) 0 < 12
  · rw [if_pos h12, if_pos h12]
    rcases hw h12 with ⟨h5, hkk⟩ | ⟨s, hs, hf, hkk⟩
    · rw [if_pos h5, h5, if_neg (by decide)]
      exact x_fromSrv h hc hkk
    · have hn5 : ¬ c.1 (p40 c) 1 = 5 := by
        rw [hf, i_eq, i_of s (by omega), show (5 : Int32).toInt = 5 from rfl]; omega
      have hl4 : c.1 (p40 c) 1 < 4 := by
        rw [hf, i_lt, i_of s (by omega), show (4 : Int32).toInt = 4 from rfl]; omega
      have := x_fromSub h hi hc hs hf hkk
      rw [if_neg hn5, if_pos hl4]
      rw [← hf] at this
      exact this
  · rw [if_neg h12, if_neg h12]
    have hb : (m.1 109 0).toInt ≤ 1400 := by have := hi.1.2.2.1; omega
    have := x_ctl h (e := 0) (by decide) hi (hk h12) ac_perform (fun hch c1 h1 h2 => by
      have := x_acDoes h1 (iE_mono (iE_f (settle_iE (e := 0) (by decide) (by decide) hi (c.1 (p40 c) 8) ?_) (fun i hi1 hi2 => qi_row (by omega))) (by decide)) (iC_f hc ?_ ?_) (p40 c)
      · rw [h2] at this
        rw [if_pos rfl]
        exact this
      · exact hk h12 hch
      · funext j
        rw [qi_ne (by omega), (settle_o (e := 0) (by decide) hb _).2 96 j (by decide) (by omega)]
      · funext j
        rw [qi_ne (by omega), (settle_o (e := 0) (by decide) hb _).2 97 j (by decide) (by omega)])
    have e : mo_control m 0 (c.1 (p40 c) 0) (c.1 (p40 c) 3) (c.1 (p40 c) 4) (c.1 (p40 c) 6) (c.1 (p40 c) 7) (c.1 (p40 c) 8) = mo_control_34 1 m (Int32.ofNat 0) (c.1 (p40 c) 0) (c.1 (p40 c) 3) (c.1 (p40 c) 4) (c.1 (p40 c) 6) (c.1 (p40 c) 7) (c.1 (p40 c) 8) := by
      unfold mo_control
      rw [if_neg (by decide)]
      rfl
    rw [e]
    exact this
theorem qi_comm (m : mx_M) {i k i' k' : Nat} {v v' : Int32} (h : ¬ (i = i' ∧ k = k')) : my_pi (my_pi m i k v) i' k' v' = my_pi (my_pi m i' k' v') i k v := by
  refine Prod.ext ?_ rfl
  funext a b
  simp only [my_pi, mx_up_if]
  grind
theorem cl_o {m : mx_M} {s : Nat} {i j : Nat} (h : ¬ (i = 85 ∨ ((i = 96 ∨ i = 97) ∧ j = s))) : (mo_cl m s).1 i j = m.1 i j := by
  unfold mo_cl
  split
  · rfl
  · rw [my_send_o _ _ (by omega), qi_ne (by omega), qi_ne (by omega)]
theorem cl_z {m : mx_M} (hc : iC m) {s : Nat} (hs : s < 4) : (mo_cl m s).1 96 s = 0 ∧ (mo_cl m s).1 97 s = 0 := by
  unfold mo_cl
  split
  · rename_i z; exact ⟨z, (hc.1 s hs).2.2 z⟩
  · rw [my_send_o _ _ (by decide), my_send_o _ _ (by decide), qi_ne (by omega), qi_eq, qi_eq]; exact ⟨rfl, rfl⟩
theorem cl_s (m : mx_M) (s : Nat) : (mo_cl m s).2.2 = m.2.2 := by
  unfold mo_cl
  split
  · rfl
  · rw [my_send_s]; rfl
theorem cl_iC {m : mx_M} (hc : iC m) {s : Nat} (hs : s < 4) : iC (mo_cl m s) := by
  have z := cl_z hc hs
  refine ⟨fun s' hs' => ?_, fun a b ha hb hab hn => ?_⟩
  · by_cases h : s' = s
    · rw [h, z.1, z.2]; decide
    · rw [cl_o (by omega), cl_o (by omega)]; exact hc.1 s' hs'
  · by_cases h1 : a = s
    · rw [h1, z.1] at hn; exact absurd rfl hn
    · by_cases h2 : b = s
      · rw [h2, z.1] at hab; exact absurd hab hn
      · rw [cl_o (by omega)] at hab hn
        rw [cl_o (by omega)] at hab
        exact hc.2 a b ha hb hab hn
def mo_cl4 (m : mx_M) : mx_M := mo_cl (mo_cl (mo_cl (mo_cl m 0) 1) 2) 3
theorem lose_step {m : mx_M} (hc : iC m) {s : Nat} (hs : s < 4) : (if 0 < m.1 96 s then mo_sendOff (my_pi (my_pi m 96 s 0) 97 s 0) 3 4 (Int32.ofNat s) (m.1 96 s) 0 0 else my_pi (my_pi m 96 s 0) 97 s 0) = mo_cl m s := by
  unfold mo_cl
  have hge := (hc.1 s hs).1
  by_cases hz : m.1 96 s = 0
  · rw [if_neg (by rw [hz]; decide), if_pos hz]
    exact rm_self hc hs hz
  · have : 0 < m.1 96 s := by
      rw [i_lt, show (0 : Int32).toInt = 0 from rfl]
      have : ¬ (m.1 96 s).toInt = 0 := fun z => hz (i_eq.2 z)
      omega
    rw [if_pos this, if_neg hz, mo_sendOff_eq]
theorem lose_ite {m : mx_M} {s : Nat} {n : Nat} {v w : Int32} (hc : iC m) (hs : s < 4) (hv : v = Int32.ofNat s) (hw : w = Int32.ofNat s + 1) : (if 0 < m.1 96 s then mo_loseCircuits_2 n (mo_sendOff (my_pi (my_pi m 96 s 0) 97 s 0) 3 4 v (m.1 96 s) 0 0) w else mo_loseCircuits_2 n (my_pi (my_pi m 96 s 0) 97 s 0) w) = mo_loseCircuits_2 n (mo_cl m s) w := by
  subst hv
  rw [← lose_step hc hs]
  split <;> rfl
theorem mo_lose_eq {m : mx_M} (hc : iC m) : mo_loseCircuits m = mo_cl4 m := by
  have c0 := cl_iC hc (s := 0) (by decide)
  have c1 := cl_iC c0 (s := 1) (by decide)
  have c2 := cl_iC c1 (s := 2) (by decide)
  have st (n : Nat) (m : mx_M) (s : Nat) (hs : s < 4) (hc : iC m) : mo_loseCircuits_2 (n + 1) m (Int32.ofNat s) = mo_loseCircuits_2 n (mo_cl m s) (Int32.ofNat (s + 1)) := by
    have e : Int32.ofNat (s + 1) = Int32.ofNat s + 1 := (of_add s 1).symm
    rw [e, ← lose_ite hc hs rfl rfl, mo_loseCircuits_2, of_cl s (by omega), if_pos (by rw [i_lt, i_of s (by omega), show (4 : Int32).toInt = 4 from rfl]; omega)]
  unfold mo_loseCircuits
  have a0 := st 4 m 0 (by decide) hc
  have a1 := st 3 _ 1 (by decide) c0
  have a2 := st 2 _ 2 (by decide) c1
  have a3 := st 1 _ 3 (by decide) c2
  refine (a0.trans (a1.trans (a2.trans a3))).trans ?_
  rw [mo_loseCircuits_2, if_neg (by decide)]
  rfl
theorem cl4_o {m : mx_M} {i j : Nat} (h : ¬ (i = 85 ∨ i = 96 ∨ i = 97)) : (mo_cl4 m).1 i j = m.1 i j := by
  unfold mo_cl4
  rw [cl_o (by omega), cl_o (by omega), cl_o (by omega), cl_o (by omega)]
theorem cl4_s (m : mx_M) : (mo_cl4 m).2.2 = m.2.2 := by
  unfold mo_cl4
  rw [cl_s, cl_s, cl_s, cl_s]
theorem cl4_iC {m : mx_M} (hc : iC m) : iC (mo_cl4 m) := cl_iC (cl_iC (cl_iC (cl_iC hc (by decide)) (by decide)) (by decide)) (by decide)
def ac_cl4 (c : mx_C) : mx_C := ac_closeCircuit (ac_closeCircuit (ac_closeCircuit (ac_closeCircuit c 0) 1) 2) 3
theorem x_cl4 {c : mx_C} {m : mx_M} (h : rR c m) : rR (ac_cl4 c) (mo_cl4 m) := x_close (x_close (x_close (x_close h (s := 0) (by decide)) (s := 1) (by decide)) (s := 2) (by decide)) (s := 3) (by decide)
/-- the tail of the access node's timer -/
def ac_tl (c : mx_C) : mx_C :=
  if (c.1 62 3) = 0 then mx_pi c 59 5 0
  else if (en_isEmpty c 62) = 0 then mx_pi c 59 5 0
  else if c.1 59 5 + 1 = 10 then mx_pi (en_put (mx_pi c 59 5 (c.1 59 5 + 1)) 62 16 0 0) 59 5 0
  else mx_pi c 59 5 (c.1 59 5 + 1)
def mo_tl (m : mx_M) : mx_M :=
  if 0 < (m.1 106 0) then
    if (m.1 109 0) = (m.1 107 0) then
      if m.1 82 17 + 1 = 10 then my_pi (mo_say (my_pi m 82 17 (m.1 82 17 + 1)) 0 16 0 0) 82 17 0
      else my_pi m 82 17 (m.1 82 17 + 1)
    else my_pi m 82 17 0
  else my_pi m 82 17 0
theorem tId : ((59, 5), (82, 17)) ∈ tbW := by decide +kernel
theorem x_tl {c : mx_C} {m : mx_M} (h : rR c m) (hi : iE m 1399) (h6 : 0 ≤ (m.1 106 0).toInt) : rR (ac_tl c) (mo_tl m) := by
  unfold ac_tl mo_tl en_isEmpty
  have e3 : c.1 62 3 = m.1 106 0 := rd_E3 (rR_q h) (e := 0) (by decide)
  have e7 : c.1 62 7 = m.1 107 0 := rd_E7 (rR_q h) (e := 0) (by decide)
  have e8 : c.1 62 8 = m.1 109 0 := rd_E8 (rR_q h) (e := 0) (by decide)
  rw [e3, e7, e8, rd_id h]
  by_cases hz : m.1 106 0 = 0
  · rw [if_pos hz, if_neg (by rw [hz]; decide)]; exact wr h tId 0
  · have : 0 < m.1 106 0 := by
      rw [i_lt, show (0 : Int32).toInt = 0 from rfl]
      have : ¬ (m.1 106 0).toInt = 0 := fun z => hz (i_eq.2 z)
      omega
    rw [if_neg hz, if_pos this]
    by_cases he : m.1 109 0 = m.1 107 0
    · rw [if_pos he.symm, if_neg (by decide), if_pos he]
      have h1 := wr h tId (m.1 82 17 + 1)
      split
      · exact wr (x_say0 h1 (iE_f hi (fun i hi1 hi2 => qi_row (by omega))) 16 0 0) tId 0
      · exact h1
    · rw [if_neg (show ¬ m.1 107 0 = m.1 109 0 from fun z => he z.symm), if_pos rfl, if_neg he]; exact wr h tId 0
theorem ac_rt_eq (c : mx_C) : ac_runTimer c = if (en_breaksAtTimer c 62).2 = 0 then ac_tl (en_breaksAtTimer c 62).1 else ac_tl (ac_cl4 (en_breaksAtTimer c 62).1) := by
  unfold ac_runTimer
  by_cases hz : (en_breaksAtTimer c 62).2 = 0
  · simp only [if_pos hz, ac_tl, pi_eq]
  · simp only [if_neg hz]
    have st (n : Nat) (c : mx_C) (s : Nat) (hs : s < 4) : ac_runTimer_12 (n + 1) c (Int32.ofNat s) = ac_runTimer_12 n (ac_closeCircuit c (Int32.ofNat s)) (Int32.ofNat (s + 1)) := by
      rw [ac_runTimer_12, if_pos (by rw [i_lt, i_of s (by omega), show (4 : Int32).toInt = 4 from rfl]; omega)]
      rw [show Int32.ofNat (s + 1) = Int32.ofNat s + 1 from (of_add s 1).symm]
    have a0 := st 4 (en_breaksAtTimer c 62).1 0 (by decide)
    have a1 := st 3 (ac_closeCircuit (en_breaksAtTimer c 62).1 (Int32.ofNat 0)) 1 (by decide)
    have a2 := st 2 (ac_closeCircuit (ac_closeCircuit (en_breaksAtTimer c 62).1 (Int32.ofNat 0)) (Int32.ofNat 1)) 2 (by decide)
    have a3 := st 1 (ac_closeCircuit (ac_closeCircuit (ac_closeCircuit (en_breaksAtTimer c 62).1 (Int32.ofNat 0)) (Int32.ofNat 1)) (Int32.ofNat 2)) 3 (by decide)
    have a4 : ∀ c : mx_C, ac_runTimer_12 1 c (Int32.ofNat (3 + 1)) = ac_tl c := fun c => by
      rw [ac_runTimer_12, if_neg (by decide)]
      simp only [ac_tl, pi_eq]
    exact (a0.trans (a1.trans (a2.trans a3))).trans (a4 _)
theorem mo_at_eq2 (m : mx_M) : mo_accessTimer m = mo_tl (mo_endTimer m 0) := by
  unfold mo_accessTimer mo_tl
  simp only [qi_eq]
theorem et0_o {m : mx_M} {e : Nat} (he : e < 2) (hi : iEe m e 1400) {i j : Nat} (h : ¬ (i = 85 ∨ ((i = 111 ∨ i = 112) ∧ j = e))) : (mo_et0 m e).1 i j = m.1 i j := by
  unfold mo_et0
  split
  · rfl
  · rename_i hne
    have : ¬ (m.1 109 e).toInt = (m.1 107 e).toInt := fun z => hne (i_eq.2 z)
    have := hi.2.1
    have := hi.2.2.1
    split
    · exact qi_ne (by omega)
    · rw [my_tr_o _ he _ (by omega) (by omega), qi_ne (by omega), qi_ne (by omega), qi_ne (by omega)]
theorem et0_s {m : mx_M} {e : Nat} (he : e < 2) (hi : iEe m e 1400) : (mo_et0 m e).2.2 = m.2.2 := by
  unfold mo_et0
  split
  · rfl
  · rename_i hne
    have : ¬ (m.1 109 e).toInt = (m.1 107 e).toInt := fun z => hne (i_eq.2 z)
    have := hi.2.1
    have := hi.2.2.1
    split
    · rfl
    · rw [mo_transmit_eq _ e he _ (by omega), my_send_s]; rfl
/-- the reference's access node where its channel breaks -/
def mo_bk0 (m : mx_M) : mx_M := mo_cl4 (mo_clear (my_pi m 112 0 (m.1 112 0 - 1)) 0 0)
theorem bk0_iC {m : mx_M} (hc : iC m) : iC (mo_clear (my_pi m 112 0 (m.1 112 0 - 1)) 0 0) := iC_f hc (by funext j; exact (clear_o (e := 0) _ (by decide) _ (by omega)).trans (qi_ne (by omega))) (by funext j; exact (clear_o (e := 0) _ (by decide) _ (by omega)).trans (qi_ne (by omega)))
theorem mo_et_0 {m : mx_M} (hi : iE m 1400) (hc : iC m) : (¬ mo_brk m 0 → mo_endTimer m 0 = mo_et0 m 0) ∧ (mo_brk m 0 → mo_endTimer m 0 = mo_bk0 m) := by
  have := mo_endTimer_eq m (e := 0) (by decide) hi.1
  refine ⟨this.1, fun hb => ?_⟩
  have := this.2 hb
  rw [if_pos rfl] at this
  refine this.trans ?_
  exact mo_lose_eq (bk0_iC hc)
theorem x_acTimer {c : mx_C} {m : mx_M} (h : rR c m) (hi : iE m 1399) (hc : iC m) (h6 : 0 ≤ (m.1 106 0).toInt) : rR (ac_runTimer c) (mo_accessTimer m) := by
  rw [ac_rt_eq, mo_at_eq2]
  have hi' := iE_mono hi (show (1399 : Int) ≤ 1400 by decide)
  have hx := x_et h (e := 0) (by decide) hi'
  have hm := mo_et_0 hi' hc
  by_cases hb : mo_brk m 0
  · have g := hx.2 hb
    have g2 : (en_breaksAtTimer c 62).2 = 1 := g.1
    rw [if_neg (by rw [g2]; decide), hm.2 hb]
    unfold mo_bk0
    refine x_tl (x_cl4 g.2) ?_ ?_
    · refine iE_f (clear_iE (e := 0) (by decide) (by decide) (iE_f hi (fun i h1 h2 => qi_row (show ¬ i = 112 by omega))) 0 (m := my_pi m 112 0 (m.1 112 0 - 1))) (fun i h1 h2 => ?_)
      funext j
      exact cl4_o (by omega)
    · rw [cl4_o (by decide)]
      have := (clear_v (my_pi m 112 0 (m.1 112 0 - 1)) (e := 0) (by decide) 0).1
      rw [show (0 : Int32) = Int32.ofNat 0 from rfl] at *
      rw [this]
      decide
  · have g := hx.1 hb
    have g2 : (en_breaksAtTimer c 62).2 = 0 := g.1
    rw [if_pos g2, hm.1 hb]
    refine x_tl g.2 ?_ ?_
    · refine iE_f hi (fun i h1 h2 => ?_)
      funext j
      exact et0_o (by decide) hi'.1 (by omega)
    · rw [et0_o (by decide) hi'.1 (by omega)]; exact h6
/-! restarts -/
theorem rR_cnt0 {c : mx_C} {m : mx_M} (h : rR c m) : rR (mx_pc c 0) (my_ps m 0) := by
  obtain ⟨h1, h2, h3, h4, h5, h6⟩ := h
  refine ⟨h1, h2, ⟨rfl, fun k j hk hj => ?_, h3.2.2⟩, h4, h5, h6⟩
  exact absurd hk (Nat.not_lt_zero k)
theorem x_restart {c : mx_C} {m : mx_M} (h : rR c m) (hi : iE m 1400) (a1 : Int32) : rR (sl_restart c a1).1 (mo_restart m a1).1 ∧ (sl_restart c a1).2 = (mo_restart m a1).2 := by
  have hb : ∀ e', e' < 2 → (m.1 109 e').toInt ≤ 1400 := fun e' h' => (iE_get hi h').2.2.1
  unfold sl_restart mo_restart
  by_cases h4 : a1 = 4
  · subst h4
    rw [if_pos rfl, if_pos rfl]
    simp only [show ¬ (4 : Int32) = 5 by decide, if_false, show (4 : Int32).toNatClampNeg = 4 from rfl, show ((4 : Int32) - 4) = 0 from rfl, show (0 : Int32).toNatClampNeg = 0 from rfl]
    have st (n : Nat) (m : mx_M) (s : Nat) (hs : s < 4) : mo_restart_48 (n + 1) m 4 (Int32.ofNat s) = mo_restart_48 n (my_pi (my_pi m 96 s 0) 97 s 0) 4 (Int32.ofNat (s + 1)) := by
      rw [mo_restart_48, of_cl s (by omega), if_pos (by rw [i_lt, i_of s (by omega), show (4 : Int32).toInt = 4 from rfl]; omega)]
      rw [show Int32.ofNat (s + 1) = Int32.ofNat s + 1 from (of_add s 1).symm]
    have a0 := st 4 (my_pi (my_pi (mo_clear m 0 0) 105 0 3) 82 17 0) 0 (by decide)
    have a1 := st 3 (my_pi (my_pi (my_pi (my_pi (mo_clear m 0 0) 105 0 3) 82 17 0) 96 0 0) 97 0 0) 1 (by decide)
    have a2 := st 2 (my_pi (my_pi (my_pi (my_pi (my_pi (my_pi (mo_clear m 0 0) 105 0 3) 82 17 0) 96 0 0) 97 0 0) 96 1 0) 97 1 0) 2 (by decide)
    have a3 := st 1 (my_pi (my_pi (my_pi (my_pi (my_pi (my_pi (my_pi (my_pi (mo_clear m 0 0) 105 0 3) 82 17 0) 96 0 0) 97 0 0) 96 1 0) 97 1 0) 96 2 0) 97 2 0) 3 (by decide)
    have a4 : ∀ m : mx_M, mo_restart_48 1 m 4 (Int32.ofNat (3 + 1)) = (m, 1) := fun m => by rw [mo_restart_48, if_neg (by decide)]
    have aa := (a0.trans (a1.trans (a2.trans a3))).trans (a4 _)
    have aa' : mo_restart_48 5 (my_pi (my_pi (mo_clear m 0 0) 105 0 3) 82 17 0) 4 0 = (my_pi (my_pi (my_pi (my_pi (my_pi (my_pi (my_pi (my_pi (my_pi (my_pi (mo_clear m 0 0) 105 0 3) 82 17 0) 96 0 0) 97 0 0) 96 1 0) 97 1 0) 96 2 0) 97 2 0) 96 3 0) 97 3 0, 1) := aa
    rw [aa']
    refine ⟨?_, rfl⟩
    have sc (n : Nat) (c : mx_C) (s : Nat) (hs : s < 4) : ac_forget_15 (n + 1) c (Int32.ofNat s) = ac_forget_15 n (ac_removeCircuit c (Int32.ofNat s)) (Int32.ofNat (s + 1)) := by
      rw [ac_forget_15, if_pos (by rw [i_lt, i_of s (by omega), show (4 : Int32).toInt = 4 from rfl]; omega)]
      rw [show Int32.ofNat (s + 1) = Int32.ofNat s + 1 from (of_add s 1).symm]
    have b0 := sc 4 (mx_pi (en_begin c 62 0) 59 5 0) 0 (by decide)
    have b1 := sc 3 (ac_removeCircuit (mx_pi (en_begin c 62 0) 59 5 0) (Int32.ofNat 0)) 1 (by decide)
    have b2 := sc 2 (ac_removeCircuit (ac_removeCircuit (mx_pi (en_begin c 62 0) 59 5 0) (Int32.ofNat 0)) (Int32.ofNat 1)) 2 (by decide)
    have b3 := sc 1 (ac_removeCircuit (ac_removeCircuit (ac_removeCircuit (mx_pi (en_begin c 62 0) 59 5 0) (Int32.ofNat 0)) (Int32.ofNat 1)) (Int32.ofNat 2)) 3 (by decide)
    have b4 : ∀ c : mx_C, ac_forget_15 1 c (Int32.ofNat (3 + 1)) = c := fun c => by rw [ac_forget_15, if_neg (by decide)]
    have bb := (b0.trans (b1.trans (b2.trans b3))).trans (b4 _)
    have bb' : ac_forget c = ac_removeCircuit (ac_removeCircuit (ac_removeCircuit (ac_removeCircuit (mx_pi (en_begin c 62 0) 59 5 0) (Int32.ofNat 0)) (Int32.ofNat 1)) (Int32.ofNat 2)) (Int32.ofNat 3) := bb
    rw [bb']
    have r0 := x_begin h (e := 0) (by decide) hb 0
    have r1 := wr r0 tId 0
    have r2 := x_rm (x_rm (x_rm (x_rm r1 (s := 0) (by decide)) (s := 1) (by decide)) (s := 2) (by decide)) (s := 3) (by decide)
    have r3 := wr r2 (by decide +kernel : ((59, 0), (105, 0)) ∈ tbW) 3
    have em : my_pi (my_pi (my_pi (my_pi (my_pi (my_pi (my_pi (my_pi (my_pi (my_pi (mo_clear m 0 0) 105 0 3) 82 17 0) 96 0 0) 97 0 0) 96 1 0) 97 1 0) 96 2 0) 97 2 0) 96 3 0) 97 3 0 = my_pi (my_pi (my_pi (my_pi (my_pi (my_pi (my_pi (my_pi (my_pi (my_pi (mo_clear m 0 0) 82 17 0) 96 0 0) 97 0 0) 96 1 0) 97 1 0) 96 2 0) 97 2 0) 96 3 0) 97 3 0) 105 0 3 := by
      rw [qi_comm (mo_clear m 0 0) (i := 105) (i' := 82) (by decide), qi_comm _ (i := 105) (i' := 96) (by decide), qi_comm _ (i := 105) (i' := 97) (by decide), qi_comm _ (i := 105) (i' := 96) (by decide), qi_comm _ (i := 105) (i' := 97) (by decide), qi_comm _ (i := 105) (i' := 96) (by decide), qi_comm _ (i := 105) (i' := 97) (by decide), qi_comm _ (i := 105) (i' := 96) (by decide), qi_comm _ (i := 105) (i' := 97) (by decide)]
    rw [em]
    exact r3
  · by_cases h5 : a1 = 5
    · subst h5
      rw [if_neg h4, if_neg h4, if_pos rfl, if_pos rfl]
      simp only [show (5 : Int32).toNatClampNeg = 5 from rfl, show ((5 : Int32) - 4) = 1 from rfl, show (1 : Int32).toNatClampNeg = 1 from rfl]
      refine ⟨?_, trivial⟩
      exact rR_cnt0 (wr (x_begin h (e := 1) (by decide) hb 0) (by decide +kernel : ((66, 0), (105, 1)) ∈ tbW) 3)
    · rw [if_neg h4, if_neg h4, if_neg h5, if_neg h5]; exact ⟨h, rfl⟩
