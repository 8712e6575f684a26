/-! taking packets out -/
def fl_tk (c : mx_C) (k : Nat) : mx_C := (c.1, (fun j => if k ≤ j ∧ j < 40 then c.2.1 (j + 1) else if j = 40 then c.2.1 k else c.2.1 j), c.2.2.1, Fin.ofNat 41 (c.2.2.2.1.val - 1), c.2.2.2.2)
def mo_tk (m : mx_M) (k : Nat) : mx_M := ((fun a b => if a = 85 ∧ 9 * k ≤ b ∧ b < 9 * (m.2.1.val - 1) then m.1 85 (b + 9) else m.1 a b), Fin.ofNat 41 (m.2.1.val - 1), m.2.2)
theorem beq_f {i j : Nat} (h : ¬ i = j) : Nat.beq i j = false := by
  cases hbb : Nat.beq i j with
  | false => rfl
  | true => exact absurd (Nat.eq_of_beq_eq_true hbb) h
theorem beq_t (i : Nat) : Nat.beq i i = true := Nat.beq_refl i
theorem ofl40 {i : Nat} (h : i < 2147483648) : (Int32.ofNat i < 40) ↔ i < 40 := of_lt i h 40 (by decide)
theorem ofl4 {i : Nat} (h : i < 2147483648) : (Int32.ofNat i < 4) ↔ i < 4 := of_lt i h 4 (by decide)
theorem fl_tk19 (v1 : Int32) (r : Fin 41) : ∀ (n : Nat) (c : mx_C) (i : Nat), 1 ≤ c.2.2.2.1.val → i ≤ 40 → 40 - i < n →
    fl_take_19 n c v1 (4 + r.val) (Int32.ofNat i) = ((c.1, (fun j => if i ≤ j ∧ j < 40 then c.2.1 (j + 1) else if j = 40 then r else c.2.1 j), c.2.2.1, Fin.ofNat 41 (c.2.2.2.1.val - 1), c.2.2.2.2), 4 + r.val) := by
  intro n
  induction n with
  | zero => intro c i h1 h2 h3; omega
  | succ n ih =>
    intro c i h1 h2 h3
    have hb : c.2.2.2.1.val < 41 := c.2.2.2.1.isLt
    rw [fl_take_19]
    have hr : Fin.ofNat 41 (4 + r.val - 4) = r := by
      apply Fin.ext
      have := r.isLt
      simp [Fin.ofNat]
    by_cases hlt : i < 40
    · rw [if_pos ((ofl40 (show i < 2147483648 by omega)).2 hlt)]
      have e1 : Int32.ofNat i + 1 = Int32.ofNat (i + 1) := of_add i 1
      simp only [e1, of_cl i (show i < 2147483648 by omega), of_cl (i + 1) (show i + 1 < 2147483648 by omega)]
      have hf : Fin.ofNat 41 (4 + (c.2.1 (i + 1)).val - 4) = c.2.1 (i + 1) := by
        apply Fin.ext
        have := (c.2.1 (i + 1)).isLt
        simp [Fin.ofNat]
      rw [hf]
      refine (ih (mx_pr c i (c.2.1 (i + 1))) (i + 1) h1 (by omega) (by omega)).trans ?_
      refine Prod.ext (Prod.ext rfl (Prod.ext ?_ rfl)) rfl
      funext j
      show (if i + 1 ≤ j ∧ j < 40 then cond (Nat.beq (j + 1) i) (c.2.1 (i + 1)) (c.2.1 (j + 1)) else if j = 40 then r else cond (Nat.beq j i) (c.2.1 (i + 1)) (c.2.1 j)) = (if i ≤ j ∧ j < 40 then c.2.1 (j + 1) else if j = 40 then r else c.2.1 j)
      by_cases hj : j = i
      · subst hj
        rw [if_neg (by omega), if_neg (by omega), if_pos (by omega), beq_t]; rfl
      · rw [beq_f hj]
        by_cases hij : i + 1 ≤ j ∧ j < 40
        · rw [if_pos hij, if_pos (by omega), beq_f (by omega)]; rfl
        · rw [if_neg hij, if_neg (show ¬ (i ≤ j ∧ j < 40) by omega)]; rfl
    · rw [if_neg (fun z => hlt ((ofl40 (show i < 2147483648 by omega)).1 z)), hr]
      refine Prod.ext (Prod.ext rfl (Prod.ext ?_ (Prod.ext rfl (Prod.ext ?_ rfl)))) rfl
      · funext j
        show cond (Nat.beq j 40) r (c.2.1 j) = (if i ≤ j ∧ j < 40 then c.2.1 (j + 1) else if j = 40 then r else c.2.1 j)
        by_cases hj : j = 40
        · rw [if_neg (by omega), if_pos hj, hj]; rfl
        · rw [beq_f hj, if_neg (by omega), if_neg hj]; rfl
      · show Fin.ofNat 41 (Int32.ofNat c.2.2.2.1.val - 1).toNatClampNeg = _
        rw [of_sub1 h1 (by omega), of_cl _ (by omega)]
theorem fl_take_eqq (c : mx_C) {k : Nat} (hk : k < c.2.2.2.1.val) : fl_take c (Int32.ofNat k) = (fl_tk c k, 4 + (c.2.1 k).val) := by
  have hb : c.2.2.2.1.val < 41 := c.2.2.2.1.isLt
  unfold fl_take
  rw [of_cl k (by omega), fl_tk19 _ _ 42 c k (by omega) (by omega) (by omega)]
  rfl
theorem mo_tk15 (v1 : Int32) : ∀ (n : Nat) (m : mx_M) (i : Nat), i ≤ 360 → 9 * m.2.1.val - i < n →
    mo_takeOut_15 n m v1 (Int32.ofNat i) = ((fun a b => if a = 85 ∧ i ≤ b ∧ b < 9 * m.2.1.val then m.1 85 (b + 9) else m.1 a b), m.2) := by
  intro n
  induction n with
  | zero => intro m i h1 h2; omega
  | succ n ih =>
    intro m i h1 h2
    have hb : m.2.1.val < 41 := m.2.1.isLt
    rw [mo_takeOut_15, mul9]
    by_cases hlt : i < 9 * m.2.1.val
    · rw [if_pos ((of_le (by omega) (by omega)).2 hlt)]
      have e1 : Int32.ofNat i + 1 = Int32.ofNat (i + 1) := of_add i 1
      have e9 : Int32.ofNat i + 9 = Int32.ofNat (i + 9) := of_add i 9
      simp only [e1, e9, of_cl i (show i < 2147483648 by omega), of_cl (i + 9) (show i + 9 < 2147483648 by omega)]
      refine (ih (my_pi m 85 i (m.1 85 (i + 9))) (i + 1) (by omega) ?_).trans ?_
      · show 9 * m.2.1.val - (i + 1) < n
        omega
      refine Prod.ext ?_ rfl
      funext a b
      show (if a = 85 ∧ i + 1 ≤ b ∧ b < 9 * m.2.1.val then mx_up m.1 85 i (m.1 85 (i + 9)) 85 (b + 9) else mx_up m.1 85 i (m.1 85 (i + 9)) a b) = (if a = 85 ∧ i ≤ b ∧ b < 9 * m.2.1.val then m.1 85 (b + 9) else m.1 a b)
      simp only [mx_up_if]
      by_cases ha : a = 85
      · subst ha
        simp only [true_and]
        by_cases hbi : b = i
        · rw [if_neg (by omega), if_pos hbi, if_pos (by omega), hbi]
        · by_cases hc : i + 1 ≤ b ∧ b < 9 * m.2.1.val
          · rw [if_pos hc, if_neg (by omega), if_pos (by omega)]
          · rw [if_neg hc, if_neg hbi, if_neg (by omega)]
      · simp only [ha, false_and, if_false]
    · rw [if_neg (fun z => hlt ((of_le (by omega) (by omega)).1 z))]
      refine Prod.ext ?_ rfl
      funext a b
      exact (if_neg (by omega)).symm
theorem mo_take_eq (m : mx_M) {k : Nat} (hk : k < m.2.1.val) : mo_takeOut m (Int32.ofNat k) = mo_tk m k := by
  have hb : m.2.1.val < 41 := m.2.1.isLt
  unfold mo_takeOut
  rw [of_sub1 (by omega) (by omega)]
  have e : (my_pf m (Int32.ofNat (m.2.1.val - 1))).2.1.val = m.2.1.val - 1 := by
    show (Fin.ofNat 41 (Int32.ofNat (m.2.1.val - 1)).toNatClampNeg).val = _
    rw [of_cl _ (by omega)]
    simp [Fin.ofNat]; omega
  have e9 : 9 * Int32.ofNat k = Int32.ofNat (9 * k) := by rw [show (9 : Int32) = Int32.ofNat 9 from rfl, of_mul]
  rw [e9]
  refine (mo_tk15 _ 362 (my_pf m (Int32.ofNat (m.2.1.val - 1))) (9 * k) (by omega) (by rw [e]; omega)).trans ?_
  rw [e]
  refine Prod.ext rfl (Prod.ext ?_ rfl)
  apply Fin.ext
  rw [e]
  show _ = (Fin.ofNat 41 (m.2.1.val - 1)).val
  simp [Fin.ofNat]; omega
theorem tk_o {m : mx_M} {k i : Nat} (h : ¬ i = 85) : (mo_tk m k).1 i = m.1 i := by
  funext b
  exact if_neg (by omega)
theorem tk_cnt {m : mx_M} {k : Nat} (h : k < m.2.1.val) : (mo_tk m k).2.1.val = m.2.1.val - 1 := by
  have hb : m.2.1.val < 41 := m.2.1.isLt
  show (Fin.ofNat 41 (m.2.1.val - 1)).val = _
  simp [Fin.ofNat]; omega
theorem tk_fp {m : mx_M} {k : Nat} (h : k < m.2.1.val) (j f : Nat) (hj : j < m.2.1.val - 1) (hf : f < 9) : fp (mo_tk m k) j f = fp m (if k ≤ j then j + 1 else j) f := by
  show (if 85 = 85 ∧ 9 * k ≤ 9 * j + f ∧ 9 * j + f < 9 * (m.2.1.val - 1) then m.1 85 (9 * j + f + 9) else m.1 85 (9 * j + f)) = _
  unfold fp
  by_cases hkj : k ≤ j
  · rw [if_pos ⟨rfl, by omega, by omega⟩, if_pos hkj, show 9 * j + f + 9 = 9 * (j + 1) + f by omega]
  · rw [if_neg (by omega), if_neg hkj]
theorem rR_m85 {c c' : mx_C} {m m' : mx_M} (h : rR c m) (hc : c'.1 = c.1) (hs : c'.2.2.1 = c.2.2.1) (hn : c'.2.2.2.2 = c.2.2.2.2) (hm : ∀ i, ¬ i = 85 → m'.1 i = m.1 i) (hms : m'.2.2 = m.2.2) (hF : rF c' m') : rR c' m' := by
  obtain ⟨h1, h2, h3, h4, h5, h6⟩ := h
  refine ⟨hF, fun q hq => ?_, ⟨?_, fun k j hk hj => ?_, ?_⟩, ⟨fun s hs => ?_, ?_, ?_⟩, ?_, ?_⟩
  · have r4 := tb4_rng q hq
    rw [hc, hm _ r4.2.2.2.2.1]; exact h2 q hq
  · rw [hn, hms]; exact h3.1
  · rw [hms] at hk
    rw [hc, hs, hm _ (by omega)]; exact h3.2.1 k j hk hj
  · rw [hs]; exact h3.2.2
  · rw [hc, hm 95 (by decide), hm 94 (by decide)]; exact h4.1 s hs
  · rw [hc, hm 103 (by decide), hm 82 (by decide)]; exact h4.2.1
  · rw [hc, hm 104 (by decide), hm 82 (by decide)]; exact h4.2.2
  · unfold rE rEe
    rw [hc, hm 107 (by decide), hm 109 (by decide), hm 111 (by decide), hm 112 (by decide), hm 113 (by decide), hm 114 (by decide), hm 115 (by decide)]; exact h5
  · unfold rK
    rw [hc]; exact h6
theorem x_take {c : mx_C} {m : mx_M} (h : rR c m) {k : Nat} (hk : k < m.2.1.val) : rR (fl_take c (Int32.ofNat k)).1 (mo_takeOut m (Int32.ofNat k)) ∧ (fl_take c (Int32.ofNat k)).2 = p40 (fl_take c (Int32.ofNat k)).1 ∧ (∀ f, f < 9 → (fl_take c (Int32.ofNat k)).1.1 (p40 (fl_take c (Int32.ofNat k)).1) f = fp m k f) := by
  have hcn : c.2.2.2.1.val = m.2.1.val := h.1.1
  have hb : m.2.1.val < 41 := m.2.1.isLt
  rw [fl_take_eqq c (by omega), mo_take_eq m hk]
  have e40 : p40 (fl_tk c k) = 4 + (c.2.1 k).val := by
    show 4 + (if k ≤ 40 ∧ 40 < 40 then c.2.1 (40 + 1) else if 40 = 40 then c.2.1 k else c.2.1 40).val = _
    rw [if_neg (by omega), if_pos rfl]
  refine ⟨?_, e40.symm, fun f hf => ?_⟩
  · refine rR_m85 h rfl rfl rfl (fun i hi => tk_o hi) rfl ⟨?_, fun j f hj hf => ?_, fun i j hi hj hij => ?_⟩
    · rw [tk_cnt hk]
      show (Fin.ofNat 41 (c.2.2.2.1.val - 1)).val = _
      rw [hcn]
      simp [Fin.ofNat]; omega
    · rw [tk_cnt hk] at hj
      rw [tk_fp hk j f hj hf]
      show c.1 (4 + (if k ≤ j ∧ j < 40 then c.2.1 (j + 1) else if j = 40 then c.2.1 k else c.2.1 j).val) f = _
      by_cases hkj : k ≤ j
      · rw [if_pos (by omega), if_pos hkj]; exact h.1.2.1 (j + 1) f (by omega) hf
      · rw [if_neg (by omega), if_neg (by omega), if_neg hkj]; exact h.1.2.1 j f (by omega) hf
    · have inj := h.1.2.2
      have hij' : (if k ≤ i ∧ i < 40 then c.2.1 (i + 1) else if i = 40 then c.2.1 k else c.2.1 i) = (if k ≤ j ∧ j < 40 then c.2.1 (j + 1) else if j = 40 then c.2.1 k else c.2.1 j) := hij
      split at hij'
      · split at hij'
        · have := inj (i + 1) (j + 1) (by omega) (by omega) hij'; omega
        · split at hij'
          · have := inj (i + 1) k (by omega) (by omega) hij'; omega
          · have := inj (i + 1) j (by omega) (by omega) hij'; omega
      · split at hij'
        · split at hij'
          · have := inj k (j + 1) (by omega) (by omega) hij'; omega
          · split at hij'
            · omega
            · have := inj k j (by omega) (by omega) hij'; omega
        · split at hij'
          · have := inj i (j + 1) (by omega) (by omega) hij'; omega
          · split at hij'
            · have := inj i k (by omega) (by omega) hij'; omega
            · exact inj i j hi hj hij'
  · show c.1 (p40 (fl_tk c k)) f = _
    rw [e40]; exact h.1.2.1 k f hk hf
/-! the calls of the flight -/
theorem out_eq {c : mx_C} {m : mx_M} (a : Int32) (n : Nat) (hn : n < 2147483648) : (mo_out m a (Int32.ofNat n) = 0 ∧ ∃ k : Nat, k < n ∧ a = Int32.ofNat k) ∨ (mo_out m a (Int32.ofNat n) = 1 ∧ (a < 0 ∨ ¬ a < Int32.ofNat n)) := by
  unfold mo_out
  by_cases h0 : a < 0
  · exact Or.inr ⟨if_pos h0, Or.inl h0⟩
  · by_cases h1 : a < Int32.ofNat n
    · exact Or.inl ⟨by rw [if_neg h0, if_pos h1], in_of hn h0 h1⟩
    · exact Or.inr ⟨by rw [if_neg h0, if_neg h1], Or.inr h1⟩
theorem holds_eq {c : mx_C} {m : mx_M} (h : rR c m) (a : Int32) : (fl_holds c a = 1 ∧ mo_out m a (Int32.ofNat m.2.1.val) = 0 ∧ ∃ k : Nat, k < m.2.1.val ∧ a = Int32.ofNat k) ∨ (fl_holds c a = 0 ∧ mo_out m a (Int32.ofNat m.2.1.val) = 1) := by
  have hcn : c.2.2.2.1.val = m.2.1.val := h.1.1
  have hb : m.2.1.val < 41 := m.2.1.isLt
  unfold fl_holds
  rw [hcn]
  rcases out_eq (c := c) (m := m) a m.2.1.val (by omega) with ⟨e, k, hk, rfl⟩ | ⟨e, h0 | h1⟩
  · refine Or.inl ⟨?_, e, k, hk, rfl⟩
    rw [if_neg (by rw [i_lt, i_of k (by omega), show (0 : Int32).toInt = 0 from rfl]; omega), if_pos ((of_le (by omega) (by omega)).2 hk)]
  · exact Or.inr ⟨if_pos h0, e⟩
  · refine Or.inr ⟨?_, e⟩
    by_cases h0 : a < 0
    · exact if_pos h0
    · rw [if_neg h0, if_neg h1]
theorem x_drop {c : mx_C} {m : mx_M} (h : rR c m) (a : Int32) : rR (sl_drop c a).1 (mo_drop m a).1 ∧ (sl_drop c a).2 = (mo_drop m a).2 := by
  unfold sl_drop mo_drop
  rcases holds_eq h a with ⟨e1, e2, k, hk, rfl⟩ | ⟨e1, e2⟩
  · rw [e1, e2, if_neg (by decide), if_pos rfl]
    exact ⟨(x_take h hk).1, rfl⟩
  · rw [e1, e2, if_pos rfl, if_neg (by decide)]; exact ⟨h, rfl⟩
theorem x_allow {c : mx_C} {m : mx_M} (h : rR c m) (a1 a2 : Int32) : rR (sl_allow c a1 a2).1 (mo_allow m a1 a2).1 ∧ (sl_allow c a1 a2).2 = (mo_allow m a1 a2).2 := by
  unfold sl_allow mo_allow sv_admit
  rcases out_eq (c := c) (m := m) a1 4 (by decide) with ⟨e, k, hk, rfl⟩ | ⟨e, h0 | h1⟩
  · have e' : mo_out m (Int32.ofNat k) 4 = 0 := e
    simp only [e', if_true, of_cl k (show k < 2147483648 by omega)]
    rw [if_neg (of_nneg hk), if_pos ((ofl4 (show k < 2147483648 by omega)).2 hk)]
    exact ⟨wr (wr h (twA hk) 1) (twB hk) a2, rfl⟩
  · have e' : mo_out m a1 4 = 1 := e
    simp only [e', show ¬ (1 : Int32) = 0 by decide, if_false, if_pos h0]
    exact ⟨h, trivial⟩
  · have e' : mo_out m a1 4 = 1 := e
    have h1' : ¬ a1 < 4 := h1
    simp only [e', show ¬ (1 : Int32) = 0 by decide, if_false, if_neg h1']
    split <;> exact ⟨h, rfl⟩
/-! swap and the calls that only tell -/
def mo_swp (m : mx_M) (k : Nat) : mx_M := ((fun a b => if a = 85 ∧ 9 * k ≤ b ∧ b < 9 * k + 9 then m.1 85 (b + 9) else if a = 85 ∧ 9 * k + 9 ≤ b ∧ b < 9 * k + 18 then m.1 85 (b - 9) else m.1 a b), m.2)
theorem mo_sw20 (k : Nat) (hk : k < 40) : ∀ (n : Nat) (m : mx_M) (i : Nat), 9 * k ≤ i → i ≤ 9 * k + 9 → 9 * k + 9 - i < n →
    mo_swap_20 n m (Int32.ofNat k) (Int32.ofNat i) = (((fun a b => if a = 85 ∧ i ≤ b ∧ b < 9 * k + 9 then m.1 85 (b + 9) else if a = 85 ∧ i + 9 ≤ b ∧ b < 9 * k + 18 then m.1 85 (b - 9) else m.1 a b), m.2), 1) := by
  intro n
  induction n with
  | zero => intro m i h1 h2 h3; omega
  | succ n ih =>
    intro m i h1 h2 h3
    have e9 : 9 * Int32.ofNat k + 9 = Int32.ofNat (9 * k + 9) := by rw [show (9 : Int32) = Int32.ofNat 9 from rfl, of_mul, of_add]
    rw [mo_swap_20, e9]
    by_cases hlt : i < 9 * k + 9
    · rw [if_pos ((of_le (by omega) (by omega)).2 hlt)]
      have f1 : Int32.ofNat i + 1 = Int32.ofNat (i + 1) := of_add i 1
      have f9 : Int32.ofNat i + 9 = Int32.ofNat (i + 9) := of_add i 9
      simp only [f1, f9, of_cl i (show i < 2147483648 by omega), of_cl (i + 9) (show i + 9 < 2147483648 by omega)]
      refine (ih _ (i + 1) (by omega) (by omega) (by omega)).trans ?_
      refine Prod.ext (Prod.ext ?_ rfl) rfl
      funext a b
      show (if a = 85 ∧ i + 1 ≤ b ∧ b < 9 * k + 9 then mx_up (mx_up m.1 85 i (m.1 85 (i + 9))) 85 (i + 9) (m.1 85 i) 85 (b + 9) else if a = 85 ∧ i + 1 + 9 ≤ b ∧ b < 9 * k + 18 then mx_up (mx_up m.1 85 i (m.1 85 (i + 9))) 85 (i + 9) (m.1 85 i) 85 (b - 9) else mx_up (mx_up m.1 85 i (m.1 85 (i + 9))) 85 (i + 9) (m.1 85 i) a b) = (if a = 85 ∧ i ≤ b ∧ b < 9 * k + 9 then m.1 85 (b + 9) else if a = 85 ∧ i + 9 ≤ b ∧ b < 9 * k + 18 then m.1 85 (b - 9) else m.1 a b)
      simp only [mx_up_if]
      by_cases ha : a = 85
      · subst ha
        simp only [true_and]
        by_cases b1 : i + 1 ≤ b ∧ b < 9 * k + 9
        · rw [if_pos b1, if_neg (by omega), if_neg (by omega), if_pos (by omega)]
        · rw [if_neg b1]
          by_cases b2 : i + 1 + 9 ≤ b ∧ b < 9 * k + 18
          · rw [if_pos b2, if_neg (by omega), if_neg (by omega), if_neg (by omega), if_pos (by omega)]
          · rw [if_neg b2]
            by_cases b3 : b = i + 9
            · rw [if_pos b3, if_neg (by omega), if_pos (by omega), show b - 9 = i by omega]
            · rw [if_neg b3]
              by_cases b4 : b = i
              · rw [if_pos b4, if_pos (by omega), b4]
              · rw [if_neg b4, if_neg (by omega), if_neg (by omega)]
      · simp only [ha, false_and, if_false]
    · rw [if_neg (fun z => hlt ((of_le (by omega) (by omega)).1 z))]
      refine Prod.ext (Prod.ext ?_ rfl) rfl
      funext a b
      show m.1 a b = (if a = 85 ∧ i ≤ b ∧ b < 9 * k + 9 then m.1 85 (b + 9) else if a = 85 ∧ i + 9 ≤ b ∧ b < 9 * k + 18 then m.1 85 (b - 9) else m.1 a b)
      rw [if_neg (by omega), if_neg (by omega)]
theorem mo_swap_eq (m : mx_M) {k : Nat} (hk : k + 1 < m.2.1.val) : mo_swap m (Int32.ofNat k) = (mo_swp m k, 1) := by
  have hb : m.2.1.val < 41 := m.2.1.isLt
  unfold mo_swap mo_out
  rw [of_sub1 (by omega) (by omega), if_neg (show ¬ Int32.ofNat k < 0 by rw [i_lt, i_of k (by omega), show (0 : Int32).toInt = 0 from rfl]; omega), if_pos (show Int32.ofNat k < Int32.ofNat (m.2.1.val - 1) from (of_le (by omega) (by omega)).2 (by omega)), if_pos rfl]
  have e9 : 9 * Int32.ofNat k = Int32.ofNat (9 * k) := by rw [show (9 : Int32) = Int32.ofNat 9 from rfl, of_mul]
  rw [e9, mo_sw20 k (by omega) 11 m (9 * k) (by omega) (by omega) (by omega)]
  rfl
theorem sw_fp {m : mx_M} {k : Nat} (j f : Nat) (hf : f < 9) : fp (mo_swp m k) j f = fp m (if j = k then k + 1 else if j = k + 1 then k else j) f := by
  show (if 85 = 85 ∧ 9 * k ≤ 9 * j + f ∧ 9 * j + f < 9 * k + 9 then m.1 85 (9 * j + f + 9) else if 85 = 85 ∧ 9 * k + 9 ≤ 9 * j + f ∧ 9 * j + f < 9 * k + 18 then m.1 85 (9 * j + f - 9) else m.1 85 (9 * j + f)) = _
  unfold fp
  by_cases h1 : j = k
  · rw [if_pos ⟨rfl, by omega, by omega⟩, if_pos h1, show 9 * j + f + 9 = 9 * (k + 1) + f by omega]
  · rw [if_neg (by omega), if_neg h1]
    by_cases h2 : j = k + 1
    · rw [if_pos ⟨rfl, by omega, by omega⟩, if_pos h2, show 9 * j + f - 9 = 9 * k + f by omega]
    · rw [if_neg (by omega), if_neg h2]
theorem sw_o {m : mx_M} {k i : Nat} (h : ¬ i = 85) : (mo_swp m k).1 i = m.1 i := by
  funext b
  show (if i = 85 ∧ 9 * k ≤ b ∧ b < 9 * k + 9 then m.1 85 (b + 9) else if i = 85 ∧ 9 * k + 9 ≤ b ∧ b < 9 * k + 18 then m.1 85 (b - 9) else m.1 i b) = _
  rw [if_neg (by omega), if_neg (by omega)]
theorem fin41 (r : Fin 41) : Fin.ofNat 41 (4 + r.val - 4) = r := by
  apply Fin.ext
  have := r.isLt
  simp [Fin.ofNat]
theorem mo_swap_cases (m : mx_M) (a : Int32) : (∃ k : Nat, k + 1 < m.2.1.val ∧ a = Int32.ofNat k) ∨ (mo_swap m a = (m, 0) ∧ (a < 0 ∨ ¬ a < Int32.ofNat m.2.1.val - 1)) := by
  have hb : m.2.1.val < 41 := m.2.1.isLt
  by_cases h0 : a < 0
  · refine Or.inr ⟨?_, Or.inl h0⟩
    unfold mo_swap mo_out
    rw [if_pos h0, if_neg (by decide)]
  · by_cases h1 : a < Int32.ofNat m.2.1.val - 1
    · refine Or.inl ?_
      by_cases hz : m.2.1.val = 0
      · exfalso
        rw [hz] at h1
        rw [i_lt, show (Int32.ofNat 0 - 1).toInt = -1 from rfl] at h1
        rw [i_lt, show (0 : Int32).toInt = 0 from rfl] at h0
        omega
      · rw [of_sub1 (by omega) (by omega)] at h1
        obtain ⟨k, hk, rfl⟩ := in_of (n := m.2.1.val - 1) (by omega) h0 h1
        exact ⟨k, by omega, rfl⟩
    · refine Or.inr ⟨?_, Or.inr h1⟩
      unfold mo_swap mo_out
      rw [if_neg h0, if_neg h1, if_neg (by decide)]
theorem x_swap {c : mx_C} {m : mx_M} (h : rR c m) (a : Int32) : rR (sl_swap c a).1 (mo_swap m a).1 ∧ (sl_swap c a).2 = (mo_swap m a).2 := by
  have hcn : c.2.2.2.1.val = m.2.1.val := h.1.1
  have hb : m.2.1.val < 41 := m.2.1.isLt
  unfold sl_swap fl_exchange
  rw [hcn]
  rcases mo_swap_cases m a with ⟨k, hk, rfl⟩ | ⟨e, h0⟩
  · rw [mo_swap_eq m hk, of_sub1 (by omega) (by omega)]
    have e1 : Int32.ofNat k + 1 = Int32.ofNat (k + 1) := of_add k 1
    simp only [if_neg (show ¬ Int32.ofNat k < 0 by rw [i_lt, i_of k (by omega), show (0 : Int32).toInt = 0 from rfl]; omega), if_pos (show Int32.ofNat k < Int32.ofNat (m.2.1.val - 1) from (of_le (by omega) (by omega)).2 (by omega)), e1, of_cl k (show k < 2147483648 by omega), of_cl (k + 1) (show k + 1 < 2147483648 by omega), fin41]
    refine ⟨?_, trivial⟩
    refine rR_m85 h rfl rfl rfl (fun i hi => sw_o hi) rfl ⟨hcn, fun j f hj hf => ?_, fun i j hi hj hij => ?_⟩
    · rw [sw_fp j f hf]
      have hj' : j < m.2.1.val := hj
      show c.1 (4 + (cond (Nat.beq j (k + 1)) (c.2.1 k) (cond (Nat.beq j k) (c.2.1 (k + 1)) (c.2.1 j))).val) f = _
      by_cases h1 : j = k
      · rw [beq_f (show ¬ j = k + 1 by omega), h1, beq_t, if_pos rfl]; exact h.1.2.1 (k + 1) f (by omega) hf
      · by_cases h2 : j = k + 1
        · rw [h2, beq_t, if_neg (by omega), if_pos rfl]; exact h.1.2.1 k f (by omega) hf
        · rw [beq_f h2, beq_f h1, if_neg h1, if_neg h2]; exact h.1.2.1 j f hj' hf
    · have inj := h.1.2.2
      have hij' : cond (Nat.beq i (k + 1)) (c.2.1 k) (cond (Nat.beq i k) (c.2.1 (k + 1)) (c.2.1 i)) = cond (Nat.beq j (k + 1)) (c.2.1 k) (cond (Nat.beq j k) (c.2.1 (k + 1)) (c.2.1 j)) := hij
      have val : ∀ i, cond (Nat.beq i (k + 1)) (c.2.1 k) (cond (Nat.beq i k) (c.2.1 (k + 1)) (c.2.1 i)) = c.2.1 (if i = k + 1 then k else if i = k then k + 1 else i) := by
        intro i
        by_cases h2 : i = k + 1
        · rw [if_pos h2, h2, beq_t]; rfl
        · rw [if_neg h2, beq_f h2]
          by_cases h1 : i = k
          · rw [if_pos h1, h1, beq_t]; rfl
          · rw [if_neg h1, beq_f h1]; rfl
      rw [val, val] at hij'
      have := inj _ _ (by split <;> (try split) <;> omega) (by split <;> (try split) <;> omega) hij'
      clear hij hij' inj
      split at this <;> (try split at this) <;> (try split at this) <;> (try split at this) <;> omega
  · rw [e]
    rcases h0 with h0 | h0
    · simp only [if_pos h0]; exact ⟨h, trivial⟩
    · simp only [if_neg h0]; split <;> exact ⟨h, rfl⟩
theorem q_flight {c : mx_C} {m : mx_M} (h : rR c m) : sl_flight c = mo_flight m := by
  unfold sl_flight mo_flight
  rw [h.1.1]
theorem q_packet {c : mx_C} {m : mx_M} (h : rR c m) (a1 a2 : Int32) : sl_packet c a1 a2 = mo_packet m a1 a2 := by
  have hb : m.2.1.val < 41 := m.2.1.isLt
  unfold sl_packet mo_packet
  rcases holds_eq h a1 with ⟨e1, e2, k, hk, rfl⟩ | ⟨e1, e2⟩
  · rw [e1, e2, if_neg (by decide), if_pos rfl, of_cl k (by omega)]
    rcases out_eq (c := c) (m := m) a2 9 (by decide) with ⟨e, f, hf, rfl⟩ | ⟨e, h0⟩
    · have e' : mo_out m (Int32.ofNat f) 9 = 0 := e
      rw [e', if_pos rfl]
      have e9 : (9 * Int32.ofNat k + Int32.ofNat f).toNatClampNeg = 9 * k + f := by
        rw [show (9 : Int32) = Int32.ofNat 9 from rfl, of_mul, of_add, of_cl _ (by omega)]
      rw [e9]
      have g := h.1.2.1 k f hk hf
      unfold fp at g
      rw [← g]
      match f, hf with
      | 0, _ => rfl
      | 1, _ => rfl
      | 2, _ => rfl
      | 3, _ => rfl
      | 4, _ => rfl
      | 5, _ => rfl
      | 6, _ => rfl
      | 7, _ => rfl
      | 8, _ => rfl
    · have e' : mo_out m a2 9 = 1 := e
      rw [e', if_neg (by decide)]
      unfold pk_tell
      have hn : ∀ f : Nat, f < 9 → ¬ a2 = Int32.ofNat f := by
        intro f hf hz
        rw [hz] at h0
        rcases h0 with h0 | h0
        · rw [i_lt, i_of f (by omega), show (0 : Int32).toInt = 0 from rfl] at h0; omega
        · exact h0 ((of_le (by omega) (by decide)).2 hf)
      rw [if_neg (show ¬ a2 = 0 from hn 0 (by decide)), if_neg (show ¬ a2 = 1 from hn 1 (by decide)), if_neg (show ¬ a2 = 2 from hn 2 (by decide)), if_neg (show ¬ a2 = 3 from hn 3 (by decide)), if_neg (show ¬ a2 = 4 from hn 4 (by decide)), if_neg (show ¬ a2 = 5 from hn 5 (by decide)), if_neg (show ¬ a2 = 6 from hn 6 (by decide)), if_neg (show ¬ a2 = 7 from hn 7 (by decide)), if_neg (show ¬ a2 = 8 from hn 8 (by decide))]
  · rw [e1, e2, if_pos rfl, if_neg (by decide)]
theorem q_state {c : mx_C} {m : mx_M} (h : rR c m) (a1 : Int32) : sl_state c a1 = mo_state m a1 := by
  unfold sl_state mo_state
  rcases sub_cases c m a1 with ⟨s, hs, rfl, h1, h2⟩ | ⟨h1, h2⟩
  · rw [h1, h2, if_neg (by decide), if_pos rfl, of_cl s (by omega)]; exact rdW h (tw4 hs)
  · rw [h1, h2, if_pos rfl, if_neg (by decide)]
def iAd (m : mx_M) : Prop := ∀ s : Nat, s < 4 → ¬ m.1 86 s = 3 → m.1 90 s = 0
theorem q_address {c : mx_C} {m : mx_M} (h : rR c m) (hi : iAd m) (a1 : Int32) : sl_address c a1 = mo_address m a1 := by
  unfold sl_address mo_address
  rcases sub_cases c m a1 with ⟨s, hs, rfl, h1, h2⟩ | ⟨h1, h2⟩
  · rw [h1, h2, if_neg (by decide), if_pos rfl, of_cl s (by omega)]
    have e5 : c.1 (47 + 3 * s) 5 = m.1 90 s := rdW h (tw5 hs)
    rw [e5]
    by_cases h3 : m.1 86 s = 3
    · rw [if_pos h3]
    · rw [if_neg h3]; exact hi s hs h3
  · rw [h1, h2, if_pos rfl, if_neg (by decide)]
theorem hh_get {row ring : Nat → Int32} {n : Nat} {w : Int32} (h : rHh row ring n w) (hn : n = 4 ∨ n = 8) {k : Nat} (hk : k < n) (h0 : 0 ≤ w.toInt) : row k = if Int32.ofNat k < w then ring ((w - 1 - Int32.ofNat k) - (w - 1 - Int32.ofNat k) / Int32.ofNat n * Int32.ofNat n).toNatClampNeg else 0 := by
  have hr := i_rng w
  rw [h k hk]
  by_cases hlt : (k : Int) < w.toInt
  · rw [if_pos hlt, if_pos (by rw [i_lt, i_of k (by omega)]; exact hlt)]
    have e1 : (w - 1).toInt = w.toInt - 1 := by rw [i_sub] <;> rw [show (1 : Int32).toInt = 1 from rfl] <;> omega
    have e2 : (w - 1 - Int32.ofNat k).toInt = w.toInt - 1 - k := by rw [i_sub] <;> rw [e1, i_of k (by omega)] <;> omega
    have hm : (w.toInt.toNat - 1 - k) % n < n := Nat.mod_lt _ (by omega)
    rw [i_rmd _ n (by omega) (by rw [e2]; omega), e2, show (w.toInt - 1 - (k : Int)).toNat = w.toInt.toNat - 1 - k by omega, of_cl _ (by omega)]
  · rw [if_neg hlt, if_neg (by rw [i_lt, i_of k (by omega)]; exact hlt)]
theorem latest_out {c : mx_C} {t n : Nat} (hl : mx_len (t + 1) = n) {a : Int32} (h : a < 0 ∨ ¬ a < Int32.ofNat n) : hi_latest c t a = 0 := by
  unfold hi_latest
  rw [hl]
  rcases h with h | h
  · rw [if_pos h]
  · rw [if_neg h]; split <;> rfl
theorem latest_in {c : mx_C} {t n : Nat} (hl : mx_len (t + 1) = n) {k : Nat} (hk : k < n) (hn : n < 100) : hi_latest c t (Int32.ofNat k) = c.1 (t + 1) k := by
  unfold hi_latest
  rw [hl, if_neg (show ¬ Int32.ofNat k < 0 by rw [i_lt, i_of k (by omega), show (0 : Int32).toInt = 0 from rfl]; omega), if_pos ((of_le (by omega) (by omega)).2 hk), of_cl k (by omega)]
theorem q_heard {c : mx_C} {m : mx_M} (h : rR c m) (hw : ∀ s : Nat, s < 4 → 0 ≤ (m.1 94 s).toInt) (a1 a2 : Int32) : sl_heard c a1 a2 = mo_heard m a1 a2 := by
  unfold sl_heard mo_heard
  rcases sub_cases c m a1 with ⟨s, hs, rfl, h1, h2⟩ | ⟨h1, h2⟩
  · rw [h1, h2, if_neg (by decide), if_pos rfl, of_cl s (by omega)]
    have ew : c.1 (47 + 3 * s + 1) 1 = m.1 94 s := by
      have := h.2.1 _ (tbX_mem (txW hs))
      rw [show 47 + 3 * s + 1 = 48 + 3 * s by omega]; exact this
    have hl : mx_len (47 + 3 * s + 1 + 1) = 4 := (by decide +kernel : ∀ s : Fin 4, mx_len (47 + 3 * s.val + 1 + 1) = 4) ⟨s, hs⟩
    rw [ew]
    by_cases hm1 : a2 = -1
    · rw [if_pos hm1, if_pos hm1]
    · rw [if_neg hm1, if_neg hm1]
      rcases out_eq (c := c) (m := m) a2 4 (by decide) with ⟨e, k, hk, rfl⟩ | ⟨e, h0⟩
      · have e' : mo_out m (Int32.ofNat k) 4 = 0 := e
        rw [e', if_pos rfl, latest_in hl hk (by decide), show 47 + 3 * s + 1 + 1 = 49 + 3 * s by omega]
        have g := hh_get (h.2.2.2.1.1 s hs) (Or.inl rfl) hk (hw s hs)
        rw [g]
        by_cases hlt : Int32.ofNat k < m.1 94 s
        · rw [if_pos hlt, if_pos hlt]
          have hr := i_rng (m.1 94 s)
          have h0' := hw s hs
          rw [i_lt, i_of k (by omega)] at hlt
          have e1 : (m.1 94 s - 1).toInt = (m.1 94 s).toInt - 1 := by rw [i_sub] <;> rw [show (1 : Int32).toInt = 1 from rfl] <;> omega
          have e2 : (m.1 94 s - 1 - Int32.ofNat k).toInt = (m.1 94 s).toInt - 1 - k := by rw [i_sub] <;> rw [e1, i_of k (by omega)] <;> omega
          have er := i_rmd (m.1 94 s - 1 - Int32.ofNat k) 4 (by omega) (by rw [e2]; omega)
          have hm : (m.1 94 s - 1 - Int32.ofNat k).toInt.toNat % 4 < 4 := Nat.mod_lt _ (by decide)
          rw [show (4 : Int32) = Int32.ofNat 4 from rfl, er, of_mul, of_add, of_cl _ (by omega), of_cl _ (by omega)]
        · rw [if_neg hlt, if_neg hlt]
      · have e' : mo_out m a2 4 = 1 := e
        rw [e', if_neg (by decide), latest_out hl h0]
  · rw [h1, h2, if_pos rfl, if_neg (by decide)]
theorem q_cored {c : mx_C} {m : mx_M} (h : rR c m) (hw : 0 ≤ (m.1 82 24).toInt) (a1 : Int32) : sl_cored c a1 = mo_cored m a1 := by
  unfold sl_cored mo_cored
  have e10 : c.1 66 10 = m.1 82 25 := rdW h (by decide +kernel : ((66, 10), (82, 25)) ∈ tbW)
  have e70 : c.1 70 1 = m.1 82 24 := rdX h (by decide +kernel : ((70, 1), (82, 24)) ∈ tbX)
  rw [e10, e70]
  by_cases h2 : a1 = -2
  · rw [if_pos h2, if_neg (by rw [h2]; decide), if_pos h2]
  · rw [if_neg h2, if_neg h2]
    by_cases h1 : a1 = -1
    · rw [if_pos h1, if_pos h1]
    · rw [if_neg h1, if_neg h1]
      rcases out_eq (c := c) (m := m) a1 8 (by decide) with ⟨e, k, hk, rfl⟩ | ⟨e, h0⟩
      · have e' : mo_out m (Int32.ofNat k) 8 = 0 := e
        rw [e', if_pos rfl, latest_in (n := 8) (by decide) hk (by decide)]
        exact hh_get h.2.2.2.1.2.1 (Or.inr rfl) hk hw
      · have e' : mo_out m a1 8 = 1 := e
        rw [e', if_neg (by decide), latest_out (n := 8) (by decide) h0]
theorem q_source {c : mx_C} {m : mx_M} (h : rR c m) (hw : 0 ≤ (m.1 82 24).toInt) (a1 : Int32) : sl_source c a1 = mo_source m a1 := by
  unfold sl_source mo_source
  rcases out_eq (c := c) (m := m) a1 8 (by decide) with ⟨e, k, hk, rfl⟩ | ⟨e, h0⟩
  · have e' : mo_out m (Int32.ofNat k) 8 = 0 := e
    rw [e', if_pos rfl, latest_in (n := 8) (by decide) hk (by decide)]
    exact hh_get h.2.2.2.1.2.2 (Or.inr rfl) hk hw
  · have e' : mo_out m a1 8 = 1 := e
    rw [e', if_neg (by decide), latest_out (n := 8) (by decide) h0]
theorem q_circuit {c : mx_C} {m : mx_M} (h : rR c m) (a1 a2 : Int32) : sl_circuit c a1 a2 = mo_circuit m a1 a2 := by
  unfold sl_circuit mo_circuit ac_tell
  rcases sub_cases c m a1 with ⟨s, hs, rfl, h1, h2⟩ | ⟨h1, h2⟩
  · rw [h1, h2, if_neg (by decide), if_pos rfl, of_cl s (by omega)]
    have e60 : c.1 60 s = m.1 96 s := rdW h (twL hs)
    have e61 : c.1 61 s = m.1 97 s := rdW h (twQ hs)
    rw [e60, e61]
    rcases out_eq (c := c) (m := m) a2 2 (by decide) with ⟨e, k, hk, rfl⟩ | ⟨e, h0⟩
    · have e' : mo_out m (Int32.ofNat k) 2 = 0 := e
      rw [e', if_pos rfl]
      have : k = 0 ∨ k = 1 := by omega
      rcases this with rfl | rfl
      · rfl
      · rfl
    · have e' : mo_out m a2 2 = 1 := e
      rw [e', if_neg (show ¬ (1 : Int32) = 0 by decide)]
      have n0 : ¬ a2 = 0 := by
        intro z; subst z
        rcases h0 with h0 | h0
        · exact absurd h0 (by decide)
        · exact h0 (by decide)
      have n1 : ¬ a2 = 1 := by
        intro z; subst z
        rcases h0 with h0 | h0
        · exact absurd h0 (by decide)
        · exact h0 (by decide)
      rw [if_neg n0, if_neg n1]
  · rw [h1, h2, if_pos rfl, if_neg (by decide)]
theorem q_session {c : mx_C} {m : mx_M} (h : rR c m) (a1 a2 : Int32) : sl_session c a1 a2 = mo_session m a1 a2 := by
  have hb : m.2.2.val < 5 := m.2.2.isLt
  unfold sl_session mo_session se_tell
  rw [rd_cnt h]
  rcases out_eq (c := c) (m := m) a1 m.2.2.val (by omega) with ⟨e, k, hk, rfl⟩ | ⟨e, h0⟩
  · rw [e, if_pos rfl, if_neg (show ¬ Int32.ofNat k < 0 by rw [i_lt, i_of k (by omega), show (0 : Int32).toInt = 0 from rfl]; omega), if_pos ((of_le (by omega) (by omega)).2 hk), of_cl k (by omega), rdS h hk (by decide), rdS h hk (by decide), rdS h hk (by decide), rdS h hk (by decide), rdS h hk (by decide)]
  · rw [e, if_neg (show ¬ (1 : Int32) = 0 by decide)]
    rcases h0 with h0 | h0
    · rw [if_pos h0]
    · rw [if_neg h0]; split <;> rfl
theorem tell_eq {c : mx_C} {m : mx_M} (h : rR c m) {e : Nat} (he : e < 2) (hi : iEe m e 1400) (a : Int32) : en_tell c (62 + 12 * e) a = (if a = 0 then m.1 106 e else if a = 1 then m.1 109 e - m.1 107 e else if a = 2 then m.1 110 e else if a = 3 then (if 0 < m.1 109 e - m.1 107 e then m.1 111 e else 0) else if a = 4 then (if 0 < m.1 109 e - m.1 107 e then m.1 112 e else 0) else 0) := by
  obtain ⟨i1, i2, i3, i4, i5⟩ := hi
  have hq := rR_q h
  unfold en_tell en_isEmpty
  rw [rd_E3 hq he, rd_E4 hq he, rd_E7 hq he, rd_E8 hq he]
  have ed : (m.1 109 e - m.1 107 e).toInt = (m.1 109 e).toInt - (m.1 107 e).toInt := by rw [i_sub] <;> omega
  by_cases hz : m.1 107 e = m.1 109 e
  · have : ¬ 0 < m.1 109 e - m.1 107 e := by
      rw [i_lt, ed, hz, show (0 : Int32).toInt = 0 from rfl]; omega
    simp only [if_pos hz, if_neg this, show ¬ (1 : Int32) = 0 by decide, if_false]
  · have hz' : ¬ (m.1 107 e).toInt = (m.1 109 e).toInt := fun q => hz (i_eq.2 q)
    have : 0 < m.1 109 e - m.1 107 e := by
      rw [i_lt, ed, show (0 : Int32).toInt = 0 from rfl]; omega
    have g := (rE_get h.2.2.2.2.1 he).1 (fun q => hz q.symm)
    simp only [if_neg hz, if_pos this, if_true, g.1, g.2]
theorem q_channel {c : mx_C} {m : mx_M} (h : rR c m) (hi : iE m 1400) (a1 a2 : Int32) : sl_channel c a1 a2 = mo_channel m a1 a2 := by
  unfold sl_channel mo_channel
  by_cases h4 : a1 = 4
  · subst h4
    rw [if_pos rfl, if_pos rfl]
    exact tell_eq h (e := 0) (by decide) hi.1 a2
  · rw [if_neg h4, if_neg h4]
    by_cases h5 : a1 = 5
    · subst h5
      rw [if_pos rfl, if_pos rfl]
      exact tell_eq h (e := 1) (by decide) hi.2 a2
    · rw [if_neg h5, if_neg h5]
/-! one arrival -/
def iW (m : mx_M) : Prop := (∀ s : Nat, s < 4 → 0 ≤ (m.1 94 s).toInt ∧ (m.1 94 s).toInt < 2147483647) ∧ 0 ≤ (m.1 82 24).toInt ∧ (m.1 82 24).toInt < 2147483647
def iSi (m : mx_M) : Prop := 0 ≤ (m.1 105 0).toInt ∧ 0 ≤ (m.1 105 1).toInt
def pkOK (m : mx_M) (p : Nat → Int32) : Prop :=
  (∃ t : Nat, t < 6 ∧ p 2 = Int32.ofNat t) ∧ 0 ≤ (p 1).toInt ∧
  (p 2 = 4 → p 0 < 12 → (p 1 = 5 ∧ (p 0 = 5 ∨ p 0 = 6 ∨ p 0 = 8 ∨ p 0 = 11)) ∨ (∃ s : Nat, s < 4 ∧ p 1 = Int32.ofNat s ∧ (p 0 = 1 ∨ p 0 = 3 ∨ p 0 = 4 ∨ p 0 = 7 ∨ p 0 = 9 ∨ p 0 = 10))) ∧
  (p 2 = 4 → ¬ p 0 < 12 → p 6 = m.1 106 0 → (p 8).toInt ≤ (m.1 108 0).toInt ∨ (m.1 108 0).toInt = (m.1 109 0).toInt) ∧
  (p 2 = 5 → ¬ p 0 < 12 → ¬ (p 0 = 12 ∧ m.1 106 1 < p 6) → p 6 = m.1 106 1 → (p 8).toInt ≤ (m.1 108 1).toInt ∨ (m.1 108 1).toInt = (m.1 109 1).toInt)
def arOK (m : mx_M) : Prop := 1 ≤ m.2.1.val ∧ iSt m ∧ iW m ∧ iE m 1397 ∧ iC m ∧ iNm m ∧ iSi m ∧ (m.1 82 0).toInt ≤ 4 ∧ pkOK m (fp m 0)
theorem kl_p (r : Fin 41) : mx_kl (4 + r.val) = 2 := (by decide +kernel : ∀ r : Fin 41, mx_kl (4 + r.val) = 2) r
theorem kl_s {s : Nat} (h : s < 4) : mx_kl (47 + 3 * s) = 4 ∧ mx_no s = 47 + 3 * s := (by decide +kernel : ∀ s : Fin 4, mx_kl (47 + 3 * s.val) = 4 ∧ mx_no s.val = 47 + 3 * s.val) ⟨s, h⟩
theorem ofl6 {i : Nat} (h : i < 6) : vp_in (Int32.ofNat i) 6 := i_inN h (by decide)
theorem x_arrive {c : mx_C} {m : mx_M} (h : rR c m) (ok : arOK m) :
    ¬ fl_holds c 0 = 0 ∧ vp_in ((fl_take c 0).1.1 (fl_take c 0).2 2) 6 ∧
    ((fl_take c 0).1.1 (mx_no (Int32.toNatClampNeg ((fl_take c 0).1.1 (fl_take c 0).2 2))) 0 = 0 → no_rP (fl_take c 0).1 (mx_no (Int32.toNatClampNeg ((fl_take c 0).1.1 (fl_take c 0).2 2))) (fl_take c 0).2 ∧ rR (no_receive (fl_take c 0).1 (mx_no (Int32.toNatClampNeg ((fl_take c 0).1.1 (fl_take c 0).2 2))) (fl_take c 0).2) (mo_arrive m).1 ∧ (mo_arrive m).2 = 1) ∧
    (¬ (fl_take c 0).1.1 (mx_no (Int32.toNatClampNeg ((fl_take c 0).1.1 (fl_take c 0).2 2))) 0 = 0 → rR (fl_take c 0).1 (mo_arrive m).1 ∧ (mo_arrive m).2 = 0) := by
  obtain ⟨o1, oS, oW, oE, oC, oN, oI, oP, ⟨⟨t, ht, e2⟩, p1, p4, p40c, p5c⟩⟩ := ok
  have hb : m.2.1.val < 41 := m.2.1.isLt
  have hcn : c.2.2.2.1.val = m.2.1.val := h.1.1
  have xt := x_take h (k := 0) o1
  have x1 : rR (fl_take c 0).1 (mo_takeOut m 0) := xt.1
  have x2 : (fl_take c 0).2 = p40 (fl_take c 0).1 := xt.2.1
  have x3 : ∀ f, f < 9 → (fl_take c 0).1.1 (p40 (fl_take c 0).1) f = fp m 0 f := xt.2.2
  have tke : mo_takeOut m 0 = mo_tk m 0 := mo_take_eq m (k := 0) o1
  rw [tke] at x1
  have hfp (f : Nat) : fp m 0 f = m.1 85 f := by unfold fp; rw [show 9 * 0 + f = f by omega]
  have ho (i : Nat) (hi : ¬ i = 85) : (mo_tk m 0).1 i = m.1 i := tk_o hi
  generalize hq : (fl_take c 0).1 = c1 at *
  rw [x2]
  rw [x3 2 (by decide), e2, of_cl t (by omega)]
  have hh : ¬ fl_holds c 0 = 0 := by
    unfold fl_holds
    rw [if_neg (by decide), if_pos (show (0 : Int32) < Int32.ofNat c.2.2.2.1.val from (of_lt 0 (by decide) _ (by omega)).2 (by omega))]
    decide
  have g0 := x3 0 (by decide)
  have g1 := x3 1 (by decide)
  have g2 := x3 2 (by decide)
  have g3 := x3 3 (by decide)
  have g4 := x3 4 (by decide)
  have g5 := x3 5 (by decide)
  have g6 := x3 6 (by decide)
  have g7 := x3 7 (by decide)
  have g8 := x3 8 (by decide)
  have hE : iE (mo_tk m 0) 1397 := iE_f oE (fun i h1 h2 => ho i (by omega))
  have hC : iC (mo_tk m 0) := iC_f oC (ho 96 (by decide)) (ho 97 (by decide))
  have hN : iNm (mo_tk m 0) := by
    unfold iNm
    rw [ho 98 (by decide)]
    exact oN
  have hS : iSt (mo_tk m 0) := by
    unfold iSt
    rw [ho 86 (by decide)]
    exact oS
  have hp := p40_lt c1
  have hkl : mx_kl (p40 c1) = 2 := kl_p _
  refine ⟨hh, ofl6 ht, ?_⟩
  unfold mo_arrive
  simp only [tke]
  rw [← hfp 0, ← hfp 1, ← hfp 2, ← hfp 3, ← hfp 4, ← hfp 5, ← hfp 6, ← hfp 7, ← hfp 8, e2]
  by_cases t4 : t < 4
  · obtain ⟨k1, k2⟩ := kl_s t4
    rw [k2]
    have sil : c1.1 (47 + 3 * t) 0 = 0 := (x1.2.2.2.2.2.1 t t4).1
    rw [if_pos ((ofl4 (by omega)).2 t4)]
    refine ⟨fun _ => ⟨⟨hkl, Or.inl k1⟩, ?_, rfl⟩, fun z => absurd sil z⟩
    unfold no_receive
    rw [if_pos k1, ← g0, ← g3, ← g4, ← g5]
    have w := oW.1 t t4
    exact x_suRecv x1 hS t4 (by rw [ho 94 (by decide)]; exact w.1) (by rw [ho 94 (by decide)]; exact w.2) hp.2
  · rw [if_neg (fun z => t4 ((ofl4 (by omega)).1 z))]
    have t45 : t = 4 ∨ t = 5 := by omega
    rcases t45 with rfl | rfl
    · have e0 : (Int32.ofNat 4 - 4).toNatClampNeg = 0 := rfl
      rw [e0, show mx_no 4 = 59 from rfl, ho 105 (by decide)]
      have sil : c1.1 59 0 = m.1 105 0 := by
        have := rdW x1 (by decide +kernel : ((59, 0), (105, 0)) ∈ tbW)
        rw [ho 105 (by decide)] at this
        exact this
      rw [sil]
      have e24 : fp m 0 2 = 4 := e2
      constructor
      · intro hz
        rw [hz, if_neg (by decide)]
        have hrf : ac_reP c1 (p40 c1) := by
          intro hk hn5
          rw [g0] at hk
          rw [g1] at hn5
          refine ⟨?_, by omega, fun j hj hz => ?_⟩
          · rcases p4 e24 hk with ⟨z, _⟩ | ⟨s, hs, z, _⟩
            · exact absurd z hn5
            · rw [g1, z]; exact i_inN hs (by decide)
          · have := (rR_inj x1) j 40 (by omega) (by omega) (Fin.ext (by unfold p40 at hz; omega))
            omega
        have hrc := x_acRecv x1 hE hC (by rw [g0, g1]; exact p4 e24) (by rw [g0, g6, g8, ho 106 (by decide), ho 108 (by decide), ho 109 (by decide)]; exact p40c e24)
        refine ⟨⟨hkl, Or.inr (Or.inl ⟨rfl, hrf⟩)⟩, ?_⟩
        unfold no_receive
        rw [if_neg (show ¬ mx_kl 59 = 4 by decide), if_pos (show mx_kl 59 = 5 by decide)]
        rw [g0, g1, g3, g4, g5, g6, g7, g8] at hrc
        by_cases h12 : fp m 0 0 < 12
        · rw [if_pos h12] at hrc ⊢
          rw [if_neg (show ¬ Int32.ofNat 4 = 5 by decide)]
          by_cases hf : fp m 0 1 < 4
          · rw [if_pos hf] at hrc ⊢; exact ⟨hrc, rfl⟩
          · rw [if_neg hf] at hrc ⊢; exact ⟨hrc, rfl⟩
        · rw [if_neg h12] at hrc ⊢
          exact ⟨hrc, rfl⟩
      · intro hz
        have : 0 < m.1 105 0 := by
          rw [i_lt, show (0 : Int32).toInt = 0 from rfl]
          have := oI.1
          have : ¬ (m.1 105 0).toInt = 0 := fun z => hz (i_eq.2 z)
          omega
        rw [if_pos this]
        exact ⟨x1, rfl⟩
    · have e0 : (Int32.ofNat 5 - 4).toNatClampNeg = 1 := rfl
      rw [e0, show mx_no 5 = 66 from rfl, ho 105 (by decide)]
      have sil : c1.1 66 0 = m.1 105 1 := by
        have := rdW x1 (by decide +kernel : ((66, 0), (105, 1)) ∈ tbW)
        rw [ho 105 (by decide)] at this
        exact this
      rw [sil]
      have e25 : fp m 0 2 = 5 := e2
      constructor
      · intro hz
        rw [hz, if_neg (by decide)]
        have hpl : sv_pool c1 := by
          have := rdW x1 (by decide +kernel : ((66, 3), (82, 0)) ∈ tbW)
          unfold sv_pool
          rw [show c1.1 66 3 = (mo_tk m 0).1 82 0 from this, ho 82 (by decide)]
          exact oP
        have hrc := x_svRecv x1 hE hN (by rw [ho 82 (by decide)]; exact oW.2.1) (by rw [ho 82 (by decide)]; exact oW.2.2) (by rw [g0, g6, g8, ho 106 (by decide), ho 108 (by decide), ho 109 (by decide)]; exact p5c e25)
        refine ⟨⟨hkl, Or.inr (Or.inr ⟨rfl, hpl⟩)⟩, ?_⟩
        unfold no_receive
        rw [if_neg (show ¬ mx_kl 66 = 4 by decide), if_neg (show ¬ mx_kl 66 = 5 by decide)]
        rw [g0, g3, g4, g5, g6, g7, g8] at hrc
        by_cases h12 : fp m 0 0 < 12
        · rw [if_pos h12] at hrc ⊢
          rw [if_pos (show Int32.ofNat 5 = 5 by decide)]
          exact ⟨hrc, rfl⟩
        · rw [if_neg h12] at hrc ⊢
          exact ⟨hrc, rfl⟩
      · intro hz
        have : 0 < m.1 105 1 := by
          rw [i_lt, show (0 : Int32).toInt = 0 from rfl]
          have := oI.2
          have : ¬ (m.1 105 1).toInt = 0 := fun z => hz (i_eq.2 z)
          omega
        rw [if_pos this]
        exact ⟨x1, rfl⟩
/-! a tick -/
def sT4 (m : mx_M) : mx_M := mo_subscriberTimer (mo_subscriberTimer (mo_subscriberTimer (mo_subscriberTimer m 0) 1) 2) 3
def aT (m : mx_M) : mx_M := if 0 < m.1 105 0 then my_pi m 105 0 (m.1 105 0 - 1) else mo_accessTimer m
def vT (m : mx_M) : mx_M := if 0 < m.1 105 1 then my_pi m 105 1 (m.1 105 1 - 1) else mo_serverTimer m
def sOK (m : mx_M) : Prop := iSt m ∧ iRt m
def tmr (m : mx_M) : Prop := mo_b m 1394 ∧ sOK m ∧ sOK (mo_subscriberTimer m 0) ∧ sOK (mo_subscriberTimer (mo_subscriberTimer m 0) 1) ∧ sOK (mo_subscriberTimer (mo_subscriberTimer (mo_subscriberTimer m 0) 1) 2) ∧
  iE (sT4 m) 1399 ∧ iC (sT4 m) ∧ 0 ≤ ((sT4 m).1 106 0).toInt ∧ 0 ≤ ((sT4 m).1 105 0).toInt ∧ iE (aT (sT4 m)) 1395 ∧ 0 ≤ ((aT (sT4 m)).1 105 1).toInt
def arA : Nat → mx_M → Prop
  | 0, m => tmr m
  | k + 1, m => arOK m ∧ arA k (mo_arrive m).1
theorem mo_t37 (m : mx_M) (a b : Int32) : mo_tick_37 5 m a b 0 = (vT (aT (sT4 m)), b) := by
  have st (n : Nat) (m : mx_M) (s : Nat) (hs : s < 4) : mo_tick_37 (n + 1) m a b (Int32.ofNat s) = mo_tick_37 n (mo_subscriberTimer m (Int32.ofNat s)) a b (Int32.ofNat (s + 1)) := by
    rw [mo_tick_37, if_pos ((ofl4 (by omega)).2 hs), show Int32.ofNat (s + 1) = Int32.ofNat s + 1 from (of_add s 1).symm]
  have a0 := st 4 m 0 (by decide)
  have a1 := st 3 (mo_subscriberTimer m (Int32.ofNat 0)) 1 (by decide)
  have a2 := st 2 (mo_subscriberTimer (mo_subscriberTimer m (Int32.ofNat 0)) (Int32.ofNat 1)) 2 (by decide)
  have a3 := st 1 (mo_subscriberTimer (mo_subscriberTimer (mo_subscriberTimer m (Int32.ofNat 0)) (Int32.ofNat 1)) (Int32.ofNat 2)) 3 (by decide)
  have a4 : ∀ m : mx_M, mo_tick_37 1 m a b (Int32.ofNat (3 + 1)) = (vT (aT m), b) := fun m => by
    rw [mo_tick_37, if_neg (by decide)]
    unfold aT vT
    by_cases h0 : 0 < m.1 105 0
    · simp only [if_pos h0]
      split <;> rfl
    · simp only [if_neg h0]
      split <;> rfl
  exact (a0.trans (a1.trans (a2.trans a3))).trans (a4 _)
theorem sl_t66 {c : mx_C} {m : mx_M} (h : rR c m) (ht : tmr m) (a : Int32) : rR (sl_tick_66 7 c a 0).1 (vT (aT (sT4 m))) ∧ (sl_tick_66 7 c a 0).2 = a := by
  obtain ⟨hb, s0, s1, s2, s3, e4, c4, n4, i4, e5, i5⟩ := ht
  have stp (n : Nat) (c : mx_C) (m : mx_M) (s : Nat) (hs : s < 4) (g : rR c m) (so : sOK m) : sl_tick_66 (n + 1) c a (Int32.ofNat s) = sl_tick_66 n (su_runTimer c (47 + 3 * s)) a (Int32.ofNat (s + 1)) ∧ rR (su_runTimer c (47 + 3 * s)) (mo_subscriberTimer m (Int32.ofNat s)) := by
    obtain ⟨k1, k2⟩ := kl_s hs
    have sil : c.1 (47 + 3 * s) 0 = 0 := (g.2.2.2.2.2.1 s hs).1
    refine ⟨?_, x_suTimer g so.1 so.2 hs⟩
    rw [sl_tick_66, of_cl s (by omega), k2, sil, if_pos (show Int32.ofNat s < 6 from (of_lt s (by omega) 6 (by decide)).2 (by omega)), if_neg (show ¬ (0 : Int32) < 0 by decide), show Int32.ofNat (s + 1) = Int32.ofNat s + 1 from (of_add s 1).symm]
    unfold no_runTimer
    rw [if_pos k1]
  have b0 := stp 6 c m 0 (by decide) h s0
  have b1 := stp 5 _ _ 1 (by decide) b0.2 s1
  have b2 := stp 4 _ _ 2 (by decide) b1.2 s2
  have b3 := stp 3 _ _ 3 (by decide) b2.2 s3
  have b4 : sl_tick_66 7 c a 0 = sl_tick_66 3 (su_runTimer (su_runTimer (su_runTimer (su_runTimer c (47 + 3 * 0)) (47 + 3 * 1)) (47 + 3 * 2)) (47 + 3 * 3)) a (Int32.ofNat (3 + 1)) := b0.1.trans (b1.1.trans (b2.1.trans b3.1))
  rw [b4]
  have g4 : rR (su_runTimer (su_runTimer (su_runTimer (su_runTimer c (47 + 3 * 0)) (47 + 3 * 1)) (47 + 3 * 2)) (47 + 3 * 3)) (sT4 m) := b3.2
  generalize su_runTimer (su_runTimer (su_runTimer (su_runTimer c (47 + 3 * 0)) (47 + 3 * 1)) (47 + 3 * 2)) (47 + 3 * 3) = c4' at g4
  have pos (x : Int32) (hx : 0 ≤ x.toInt) : (0 < x) ↔ ¬ x = 0 := by
    rw [i_lt, show (0 : Int32).toInt = 0 from rfl]
    constructor
    · intro z q; rw [q] at z; exact absurd z (by decide)
    · intro z
      have : ¬ x.toInt = 0 := fun q => z (i_eq.2 q)
      omega
  have s59 : c4'.1 59 0 = (sT4 m).1 105 0 := rdW g4 (by decide +kernel : ((59, 0), (105, 0)) ∈ tbW)
  have e45 : Int32.ofNat (3 + 1) + 1 = Int32.ofNat 5 := of_add 4 1
  have e56 : Int32.ofNat 5 + 1 = Int32.ofNat 6 := of_add 5 1
  have fin : ∀ (n : Nat) (c : mx_C), sl_tick_66 (n + 1) c a (Int32.ofNat 6) = (c, a) := fun n c => by
    rw [sl_tick_66, if_neg (by decide)]
  have no4 : mx_no (Int32.ofNat (3 + 1)).toNatClampNeg = 59 := by rw [of_cl _ (by decide)]; rfl
  have no5 : mx_no (Int32.ofNat 5).toNatClampNeg = 66 := by rw [of_cl _ (by decide)]; rfl
  have nt4 : ∀ c : mx_C, no_runTimer c 59 = ac_runTimer c := fun c => by
    unfold no_runTimer
    rw [if_neg (show ¬ mx_kl 59 = 4 by decide), if_pos (show mx_kl 59 = 5 by decide)]
  have nt5 : ∀ c : mx_C, no_runTimer c 66 = sv_runTimer c := fun c => by
    unfold no_runTimer
    rw [if_neg (show ¬ mx_kl 66 = 4 by decide), if_neg (show ¬ mx_kl 66 = 5 by decide)]
  have step4 : ∀ (n : Nat) (c : mx_C), sl_tick_66 (n + 1) c a (Int32.ofNat (3 + 1)) = if 0 < c.1 59 0 then sl_tick_66 n (mx_pi c 59 0 (c.1 59 0 - 1)) a (Int32.ofNat 5) else sl_tick_66 n (ac_runTimer c) a (Int32.ofNat 5) := fun n c => by
    rw [sl_tick_66, if_pos (by decide)]
    simp only [e45, no4, nt4]
  have step5 : ∀ (n : Nat) (c : mx_C), sl_tick_66 (n + 1) c a (Int32.ofNat 5) = if 0 < c.1 66 0 then sl_tick_66 n (mx_pi c 66 0 (c.1 66 0 - 1)) a (Int32.ofNat 6) else sl_tick_66 n (sv_runTimer c) a (Int32.ofNat 6) := fun n c => by
    rw [sl_tick_66, if_pos (by decide)]
    simp only [e56, no5, nt5]
  rw [step4 2 c4']
  have f1 : (if 0 < c4'.1 59 0 then sl_tick_66 2 (mx_pi c4' 59 0 (c4'.1 59 0 - 1)) a (Int32.ofNat 5) else sl_tick_66 2 (ac_runTimer c4') a (Int32.ofNat 5)) = sl_tick_66 2 (if 0 < c4'.1 59 0 then mx_pi c4' 59 0 (c4'.1 59 0 - 1) else ac_runTimer c4') a (Int32.ofNat 5) := by
    by_cases hz : 0 < c4'.1 59 0
    · rw [if_pos hz, if_pos hz]
    · rw [if_neg hz, if_neg hz]
  have f2 : rR (if 0 < c4'.1 59 0 then mx_pi c4' 59 0 (c4'.1 59 0 - 1) else ac_runTimer c4') (aT (sT4 m)) := by
    rw [s59]
    unfold aT
    by_cases hz : 0 < (sT4 m).1 105 0
    · rw [if_pos hz, if_pos hz]
      exact wr g4 (by decide +kernel : ((59, 0), (105, 0)) ∈ tbW) _
    · rw [if_neg hz, if_neg hz]
      exact x_acTimer g4 e4 c4 n4
  rw [f1]
  generalize (if 0 < c4'.1 59 0 then mx_pi c4' 59 0 (c4'.1 59 0 - 1) else ac_runTimer c4') = c5 at f2
  generalize aT (sT4 m) = m5 at f2 e5 i5
  have s66 : c5.1 66 0 = m5.1 105 1 := rdW f2 (by decide +kernel : ((66, 0), (105, 1)) ∈ tbW)
  have st5 := step5 1 c5
  rw [s66] at st5
  unfold vT
  by_cases hz : 0 < m5.1 105 1
  · rw [if_pos hz, fin 0] at st5
    rw [if_pos hz]
    have st5' : sl_tick_66 2 c5 a (Int32.ofNat 5) = (mx_pi c5 66 0 (m5.1 105 1 - 1), a) := st5
    rw [st5']
    exact ⟨wr f2 (by decide +kernel : ((66, 0), (105, 1)) ∈ tbW) _, rfl⟩
  · rw [if_neg hz, fin 0] at st5
    rw [if_neg hz]
    have st5' : sl_tick_66 2 c5 a (Int32.ofNat 5) = (sv_runTimer c5, a) := st5
    rw [st5']
    exact ⟨x_svTimer f2 e5, rfl⟩
theorem ar_mo {m : mx_M} (h : arOK m) : mo_arP m := by
  obtain ⟨o1, oS, oW, oE, oC, oN, oI, oP, ⟨⟨t, ht, e2⟩, p1, _⟩⟩ := h
  have hfp (f : Nat) : fp m 0 f = m.1 85 f := by unfold fp; rw [show 9 * 0 + f = f by omega]
  rw [hfp] at e2 p1
  refine ⟨o1, fun e he => ?_, oP, oW.2.1, fun s hs => (oW.1 s hs).1, ?_, p1⟩
  · obtain ⟨i1, i2, i3, i4, i5⟩ := iE_get oE he
    exact ⟨i1, i2, by omega, i3⟩
  · rw [e2, i_of t (by omega)]; omega
theorem arA_tm : ∀ (k : Nat) (m : mx_M), arA k m → tm1 k m := by
  intro k
  induction k with
  | zero => intro m h; exact h.1
  | succ k ih => intro m h; exact ⟨ar_mo h.1, ih _ h.2⟩
theorem x_tl10 : ∀ (k : Nat) (c : mx_C) (m : mx_M) (n n' : Nat) (a : Int32) (i : Nat), rR c m → arA k m → k < n → k < n' → k + i ≤ 40 →
    rR (sl_tick_10 n c a (Int32.ofNat k)).1 (mo_tick_9 n' m (Int32.ofNat (k + i)) a (Int32.ofNat i)).1 ∧ (sl_tick_10 n c a (Int32.ofNat k)).2 = (mo_tick_9 n' m (Int32.ofNat (k + i)) a (Int32.ofNat i)).2 ∧ tk1 k c := by
  intro k
  induction k with
  | zero =>
    intro c m n n' a i h hA hn hn' hi
    obtain ⟨n, rfl⟩ : ∃ x, n = x + 1 := ⟨n - 1, by omega⟩
    obtain ⟨n', rfl⟩ : ∃ x, n' = x + 1 := ⟨n' - 1, by omega⟩
    rw [sl_tick_10, mo_tick_9, if_neg (by decide), if_neg (by rw [i_lt, i_of _ (by omega), i_of _ (by omega)]; omega), mo_t37]
    have hh := sl_t66 h hA a
    dsimp only
    exact ⟨hh.1, hh.2, True.intro⟩
  | succ k ih =>
    intro c m n n' a i h hA hn hn' hi
    obtain ⟨n, rfl⟩ : ∃ x, n = x + 1 := ⟨n - 1, by omega⟩
    obtain ⟨n', rfl⟩ : ∃ x, n' = x + 1 := ⟨n' - 1, by omega⟩
    obtain ⟨x1, x2, x3, x4⟩ := x_arrive h hA.1
    rw [sl_tick_10, mo_tick_9, if_pos (show 0 < Int32.ofNat (k + 1) from (of_lt 0 (by decide) _ (by omega)).2 (by omega)), if_pos ((of_le (by omega) (by omega)).2 (by omega))]
    have em1 : Int32.ofNat (k + 1) + (-1) = Int32.ofNat k := by
      rw [i_eq, i_add] <;> rw [i_of _ (by omega), show (-1 : Int32).toInt = -1 from rfl]
      · rw [i_of _ (by omega)]; omega
      · omega
      · omega
    have e1 : Int32.ofNat i + 1 = Int32.ofNat (i + 1) := of_add i 1
    have eki : k + 1 + i = k + (i + 1) := by omega
    simp only [em1, e1]
    rw [eki]
    by_cases hz : (fl_take c 0).1.1 (mx_no (Int32.toNatClampNeg ((fl_take c 0).1.1 (fl_take c 0).2 2))) 0 = 0
    · obtain ⟨y1, y2, y3⟩ := x3 hz
      rw [if_pos hz, if_neg (by rw [y3]; decide)]
      have r := ih _ _ n n' (a + 1) (i + 1) y2 hA.2 (by omega) (by omega) (by omega)
      exact ⟨r.1, r.2.1, ⟨x1, x2, fun _ => ⟨y1, r.2.2⟩, fun z => absurd hz z⟩⟩
    · obtain ⟨y2, y3⟩ := x4 hz
      rw [if_neg hz, if_pos y3]
      have r := ih _ _ n n' a (i + 1) y2 hA.2 (by omega) (by omega) (by omega)
      exact ⟨r.1, r.2.1, ⟨x1, x2, fun z => absurd z hz, fun _ => r.2.2⟩⟩
theorem x_tick {c : mx_C} {m : mx_M} (h : rR c m) (hA : arA m.2.1.val m) : rR (sl_tick c).1 (mo_tick m).1 ∧ (sl_tick c).2 = (mo_tick m).2 ∧ tk1 c.2.2.2.1.val c ∧ tm1 m.2.1.val m := by
  have hb : m.2.1.val < 41 := m.2.1.isLt
  have hcn : c.2.2.2.1.val = m.2.1.val := h.1.1
  have := x_tl10 m.2.1.val c m 42 42 0 0 h hA (by omega) (by omega) (by omega)
  unfold sl_tick mo_tick
  rw [hcn]
  exact ⟨this.1, this.2.1, this.2.2, arA_tm _ _ hA⟩
