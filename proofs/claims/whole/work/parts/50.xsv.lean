/-! the server's sessions -/
theorem wS {c : mx_C} {m : mx_M} (h : rR c m) {k j : Nat} (hk : k < m.2.2.val) (hj : j < 5) (v : Int32) : rR (mx_pi c (78 + (c.2.2.1 k).val) j v) (my_pi m (98 + j) k v) := by
  obtain ⟨h1, h2, h3, h4, h5, h6⟩ := h
  have hs := (c.2.2.1 k).isLt
  have hb : m.2.2.val < 5 := m.2.2.isLt
  refine ⟨rF_pi h1 (by omega) (by omega), ?_, ⟨h3.1, fun k' j' hk' hj' => ?_, h3.2.2⟩, rH_pi h4 (by omega) (by omega), ⟨rEe_pi h5.1 (by omega) (by omega), rEe_pi h5.2 (by omega) (by omega)⟩, rK_pi h6 (by omega)⟩
  · intro q hq
    have r4 := tb4_rng q hq
    rw [pi_ne (by omega), qi_ne (by omega)]
    exact h2 q hq
  · show (mx_pi c (78 + (c.2.2.1 k).val) j v).1 (78 + (c.2.2.1 k').val) j' = _
    have hk'' : k' < m.2.2.val := hk'
    by_cases hz : k' = k ∧ j' = j
    · rw [hz.1, hz.2, pi_eq, qi_eq]
    · have hne : ¬ (78 + (c.2.2.1 k').val = 78 + (c.2.2.1 k).val ∧ j' = j) := by
        intro z
        exact hz ⟨h3.2.2 k' k (by omega) (by omega) (Fin.ext (by omega)), z.2⟩
      rw [pi_ne hne, qi_ne (by omega)]
      exact h3.2.1 k' j' hk' hj'
theorem rdS {c : mx_C} {m : mx_M} (h : rR c m) {k j : Nat} (hk : k < m.2.2.val) (hj : j < 5) : c.1 (78 + (c.2.2.1 k).val) j = m.1 (98 + j) k := h.2.2.1.2.1 k j hk hj
theorem rd_cnt {c : mx_C} {m : mx_M} (h : rR c m) : c.2.2.2.2.val = m.2.2.val := h.2.2.1.1
def sv_rm (c : mx_C) (a : Nat) : mx_C := (c.1, c.2.1, (fun j => if a ≤ j ∧ j + 1 < c.2.2.2.2.val then c.2.2.1 (j + 1) else if j + 1 = c.2.2.2.2.val then c.2.2.1 a else c.2.2.1 j), c.2.2.2.1, Fin.ofNat 5 (c.2.2.2.2.val - 1))
def mo_rm (m : mx_M) (a : Nat) : mx_M := ((fun i b => if 98 ≤ i ∧ i < 103 ∧ a ≤ b ∧ b + 1 < m.2.2.val then m.1 i (b + 1) else m.1 i b), m.2.1, Fin.ofNat 5 (m.2.2.val - 1))
theorem of_sub1 {n : Nat} (h : 1 ≤ n) (h2 : n < 2147483648) : Int32.ofNat n - 1 = Int32.ofNat (n - 1) := by
  rw [i_eq, i_sub] <;> rw [i_of n (by omega), show (1 : Int32).toInt = 1 from rfl]
  · rw [i_of _ (by omega)]; omega
  · omega
  · omega
theorem of_le {n k : Nat} (hn : n < 2147483648) (hk : k < 2147483648) : (Int32.ofNat n < Int32.ofNat k) ↔ n < k := of_lt n hn k hk
theorem sv_rm9 (v1 : Int32) (r : Fin 4) : ∀ (n : Nat) (c : mx_C) (i : Nat), 1 ≤ c.2.2.2.2.val → i ≤ c.2.2.2.2.val - 1 → c.2.2.2.2.val - 1 - i < n →
    sv_remove_9 n c v1 (78 + r.val) (Int32.ofNat i) = (c.1, c.2.1, (fun j => if i ≤ j ∧ j + 1 < c.2.2.2.2.val then c.2.2.1 (j + 1) else if j + 1 = c.2.2.2.2.val then r else c.2.2.1 j), c.2.2.2.1, Fin.ofNat 5 (c.2.2.2.2.val - 1)) := by
  intro n
  induction n with
  | zero => intro c i h1 h2 h3; omega
  | succ n ih =>
    intro c i h1 h2 h3
    have hb : c.2.2.2.2.val < 5 := c.2.2.2.2.isLt
    rw [sv_remove_9, of_sub1 h1 (by omega)]
    have hr : Fin.ofNat 4 (78 + r.val - 78) = r := by
      apply Fin.ext
      have := r.isLt
      simp [Fin.ofNat]
    by_cases hlt : i < c.2.2.2.2.val - 1
    · rw [if_pos ((of_le (by omega) (by omega)).2 hlt)]
      have e1 : Int32.ofNat i + 1 = Int32.ofNat (i + 1) := of_add i 1
      simp only [e1, of_cl i (show i < 2147483648 by omega), of_cl (i + 1) (show i + 1 < 2147483648 by omega)]
      rw [ih (mx_ps c i (Fin.ofNat 4 (78 + (c.2.2.1 (i + 1)).val - 78))) (i + 1) h1 (show i + 1 ≤ c.2.2.2.2.val - 1 by omega) (show c.2.2.2.2.val - 1 - (i + 1) < n by omega)]
      have hf : Fin.ofNat 4 (78 + (c.2.2.1 (i + 1)).val - 78) = c.2.2.1 (i + 1) := by
        apply Fin.ext
        have := (c.2.2.1 (i + 1)).isLt
        simp [Fin.ofNat]
      rw [hf]
      refine Prod.ext rfl (Prod.ext rfl (Prod.ext ?_ rfl))
      funext j
      show (if i + 1 ≤ j ∧ j + 1 < c.2.2.2.2.val then cond (Nat.beq (j + 1) i) (c.2.2.1 (i + 1)) (c.2.2.1 (j + 1)) else if j + 1 = c.2.2.2.2.val then r else cond (Nat.beq j i) (c.2.2.1 (i + 1)) (c.2.2.1 j)) = (if i ≤ j ∧ j + 1 < c.2.2.2.2.val then c.2.2.1 (j + 1) else if j + 1 = c.2.2.2.2.val then r else c.2.2.1 j)
      by_cases hj : j = i
      · subst hj
        rw [if_neg (by omega), if_neg (by omega), if_pos (by omega)]
        simp
      · have n1 : Nat.beq j i = false := by
          cases hbb : Nat.beq j i with
          | false => rfl
          | true => exact absurd (Nat.eq_of_beq_eq_true hbb) hj
        rw [n1]
        by_cases hij : i + 1 ≤ j ∧ j + 1 < c.2.2.2.2.val
        · have n2 : Nat.beq (j + 1) i = false := by
            cases hbb : Nat.beq (j + 1) i with
            | false => rfl
            | true => have := Nat.eq_of_beq_eq_true hbb; omega
          rw [if_pos hij, if_pos (by omega), n2]; rfl
        · rw [if_neg hij, if_neg (show ¬ (i ≤ j ∧ j + 1 < c.2.2.2.2.val) by omega)]; rfl
    · rw [if_neg (fun z => hlt ((of_le (by omega) (by omega)).1 z))]
      have hi : i = c.2.2.2.2.val - 1 := by omega
      refine Prod.ext rfl (Prod.ext rfl (Prod.ext ?_ (Prod.ext rfl ?_)))
      · funext j
        show cond (Nat.beq j (Int32.ofNat (Fin.ofNat 5 (Int32.ofNat (c.2.2.2.2.val - 1)).toNatClampNeg).val).toNatClampNeg) (Fin.ofNat 4 (78 + r.val - 78)) (c.2.2.1 j) = (if i ≤ j ∧ j + 1 < c.2.2.2.2.val then c.2.2.1 (j + 1) else if j + 1 = c.2.2.2.2.val then r else c.2.2.1 j)
        have e2 : (Int32.ofNat (Fin.ofNat 5 (Int32.ofNat (c.2.2.2.2.val - 1)).toNatClampNeg).val).toNatClampNeg = c.2.2.2.2.val - 1 := by
          have : (Fin.ofNat 5 (c.2.2.2.2.val - 1)).val = c.2.2.2.2.val - 1 := by simp [Fin.ofNat]; omega
          rw [of_cl (c.2.2.2.2.val - 1) (by omega), this, of_cl _ (by omega)]
        rw [e2, hr]
        by_cases hj : j = c.2.2.2.2.val - 1
        · rw [if_neg (by omega), if_pos (by omega), hj]; simp
        · have n1 : Nat.beq j (c.2.2.2.2.val - 1) = false := by
            cases hbb : Nat.beq j (c.2.2.2.2.val - 1) with
            | false => rfl
            | true => exact absurd (Nat.eq_of_beq_eq_true hbb) hj
          rw [n1, if_neg (by omega), if_neg (by omega)]; rfl
      · show Fin.ofNat 5 (Int32.ofNat (c.2.2.2.2.val - 1)).toNatClampNeg = _
        rw [of_cl _ (by omega)]
theorem sv_remove_eq (c : mx_C) {a : Nat} (ha : a < c.2.2.2.2.val) : sv_remove c (Int32.ofNat a) = sv_rm c a := by
  have hb : c.2.2.2.2.val < 5 := c.2.2.2.2.isLt
  unfold sv_remove
  rw [of_cl a (by omega), sv_rm9 _ _ 6 c a (by omega) (by omega) (by omega)]
  rfl
theorem mo_rm12 (v1 : Int32) : ∀ (n : Nat) (m : mx_M) (i : Nat), i ≤ m.2.2.val → m.2.2.val - i < n →
    mo_endSession_12 n m v1 (Int32.ofNat i) = ((fun a b => if 98 ≤ a ∧ a < 103 ∧ i ≤ b ∧ b < m.2.2.val then m.1 a (b + 1) else m.1 a b), m.2) := by
  intro n
  induction n with
  | zero => intro m i h1 h2; omega
  | succ n ih =>
    intro m i h1 h2
    have hb : m.2.2.val < 5 := m.2.2.isLt
    rw [mo_endSession_12]
    by_cases hlt : i < m.2.2.val
    · rw [if_pos ((of_le (by omega) (by omega)).2 hlt)]
      have e1 : Int32.ofNat i + 1 = Int32.ofNat (i + 1) := of_add i 1
      simp only [e1, of_cl i (show i < 2147483648 by omega), of_cl (i + 1) (show i + 1 < 2147483648 by omega)]
      refine (ih _ (i + 1) ?_ ?_).trans ?_
      · show i + 1 ≤ m.2.2.val
        omega
      · show m.2.2.val - (i + 1) < n
        omega
      refine Prod.ext ?_ rfl
      funext a b
      simp only [my_pi, mx_up_if]
      by_cases ha : 98 ≤ a ∧ a < 103
      · have : a = 98 ∨ a = 99 ∨ a = 100 ∨ a = 101 ∨ a = 102 := by omega
        by_cases hbi : b = i
        · rcases this with rfl | rfl | rfl | rfl | rfl <;> simp [hbi, hlt]
        · have hb2 : ¬ b + 1 = i ∨ ¬ i + 1 ≤ b := by omega
          by_cases hbc : i + 1 ≤ b ∧ b < m.2.2.val
          · have hb3 : ¬ b + 1 = i := by omega
            rcases this with rfl | rfl | rfl | rfl | rfl <;> simp [hbi, hb3, hbc, show i ≤ b by omega]
          · have h5 : ¬ (i ≤ b ∧ b < m.2.2.val) := by omega
            rcases this with rfl | rfl | rfl | rfl | rfl <;> simp [hbi, hbc, h5]
      · rw [if_neg (by omega), if_neg (by omega), if_neg (by omega), if_neg (by omega), if_neg (by omega), if_neg (by omega), if_neg (by omega)]
    · rw [if_neg (fun z => hlt ((of_le (by omega) (by omega)).1 z))]
      refine Prod.ext ?_ rfl
      funext a b
      exact (if_neg (by omega)).symm
theorem mo_endS_eq (m : mx_M) {a : Nat} (ha : a < m.2.2.val) : mo_endSession m (Int32.ofNat a) = mo_rm m a := by
  have hb : m.2.2.val < 5 := m.2.2.isLt
  unfold mo_endSession
  rw [of_sub1 (by omega) (by omega)]
  have e : (my_ps m (Int32.ofNat (m.2.2.val - 1))).2.2.val = m.2.2.val - 1 := by
    show (Fin.ofNat 5 (Int32.ofNat (m.2.2.val - 1)).toNatClampNeg).val = _
    rw [of_cl _ (by omega)]
    simp [Fin.ofNat]; omega
  rw [mo_rm12 _ 6 _ a (by rw [e]; omega) (by rw [e]; omega), e]
  refine Prod.ext ?_ (Prod.ext rfl ?_)
  · funext i b
    show (if 98 ≤ i ∧ i < 103 ∧ a ≤ b ∧ b < m.2.2.val - 1 then m.1 i (b + 1) else m.1 i b) = if 98 ≤ i ∧ i < 103 ∧ a ≤ b ∧ b + 1 < m.2.2.val then m.1 i (b + 1) else m.1 i b
    by_cases h : 98 ≤ i ∧ i < 103 ∧ a ≤ b ∧ b + 1 < m.2.2.val
    · rw [if_pos h, if_pos (by omega)]
    · rw [if_neg h, if_neg (by omega)]
  · apply Fin.ext
    rw [e]
    show _ = (Fin.ofNat 5 (m.2.2.val - 1)).val
    simp [Fin.ofNat]; omega
theorem rm_o {m : mx_M} {a i : Nat} (h : ¬ (98 ≤ i ∧ i < 103)) : (mo_rm m a).1 i = m.1 i := by
  funext b
  exact if_neg (by omega)
theorem rm_cnt {m : mx_M} {a : Nat} (ha : a < m.2.2.val) : (mo_rm m a).2.2.val = m.2.2.val - 1 := by
  have hb : m.2.2.val < 5 := m.2.2.isLt
  show (Fin.ofNat 5 (m.2.2.val - 1)).val = _
  simp [Fin.ofNat]; omega
theorem x_rmS {c : mx_C} {m : mx_M} (h : rR c m) {a : Nat} (ha : a < m.2.2.val) : rR (sv_remove c (Int32.ofNat a)) (mo_endSession m (Int32.ofNat a)) := by
  have hcn := rd_cnt h
  have hb : m.2.2.val < 5 := m.2.2.isLt
  rw [sv_remove_eq c (by omega), mo_endS_eq m ha]
  obtain ⟨h1, h2, h3, h4, h5, h6⟩ := h
  have ho (i : Nat) (hi : ¬ (98 ≤ i ∧ i < 103)) : (mo_rm m a).1 i = m.1 i := rm_o hi
  refine ⟨⟨h1.1, fun k f hk hf => ?_, h1.2.2⟩, fun q hq => ?_, ⟨?_, fun k j hk hj => ?_, fun i j hi hj hij => ?_⟩, ⟨fun s hs => ?_, ?_, ?_⟩, ?_, h6⟩
  · show c.1 (4 + (c.2.1 k).val) f = (mo_rm m a).1 85 (9 * k + f)
    rw [ho 85 (by decide)]
    exact h1.2.1 k f hk hf
  · have r4 := tb4_rng q hq
    rw [ho _ (by omega)]
    exact h2 q hq
  · show (Fin.ofNat 5 (c.2.2.2.2.val - 1)).val = (Fin.ofNat 5 (m.2.2.val - 1)).val
    rw [hcn]
  · rw [rm_cnt ha] at hk
    show c.1 (78 + (if a ≤ k ∧ k + 1 < c.2.2.2.2.val then c.2.2.1 (k + 1) else if k + 1 = c.2.2.2.2.val then c.2.2.1 a else c.2.2.1 k).val) j = (if 98 ≤ 98 + j ∧ 98 + j < 103 ∧ a ≤ k ∧ k + 1 < m.2.2.val then m.1 (98 + j) (k + 1) else m.1 (98 + j) k)
    by_cases hak : a ≤ k
    · rw [if_pos (by omega), if_pos (by omega)]
      exact h3.2.1 (k + 1) j (by omega) hj
    · rw [if_neg (by omega), if_neg (by omega), if_neg (by omega)]
      exact h3.2.1 k j (by omega) hj
  · have hij' : (if a ≤ i ∧ i + 1 < c.2.2.2.2.val then c.2.2.1 (i + 1) else if i + 1 = c.2.2.2.2.val then c.2.2.1 a else c.2.2.1 i) = (if a ≤ j ∧ j + 1 < c.2.2.2.2.val then c.2.2.1 (j + 1) else if j + 1 = c.2.2.2.2.val then c.2.2.1 a else c.2.2.1 j) := hij
    have inj := h3.2.2
    split at hij'
    · split at hij'
      · have := inj (i + 1) (j + 1) (by omega) (by omega) hij'; omega
      · split at hij'
        · have := inj (i + 1) a (by omega) (by omega) hij'; omega
        · have := inj (i + 1) j (by omega) (by omega) hij'; omega
    · split at hij'
      · split at hij'
        · have := inj a (j + 1) (by omega) (by omega) hij'; omega
        · split at hij'
          · omega
          · have := inj a j (by omega) (by omega) hij'; omega
      · split at hij'
        · have := inj i (j + 1) (by omega) (by omega) hij'; omega
        · split at hij'
          · have := inj i a (by omega) (by omega) hij'; omega
          · exact inj i j hi hj hij'
  · rw [ho 95 (by decide), ho 94 (by decide)]; exact h4.1 s hs
  · rw [ho 103 (by decide), ho 82 (by decide)]; exact h4.2.1
  · rw [ho 104 (by decide), ho 82 (by decide)]; exact h4.2.2
  · unfold rE rEe
    rw [ho 107 (by decide), ho 109 (by decide), ho 111 (by decide), ho 112 (by decide), ho 113 (by decide), ho 114 (by decide), ho 115 (by decide)]
    exact h5
/-! searching a session -/
def iNm (m : mx_M) : Prop := ∀ i j : Nat, i < m.2.2.val → j < m.2.2.val → m.1 98 i = m.1 98 j → i = j
theorem sv_ix_eq {c : mx_C} {m : mx_M} (h : rR c m) (v : Int32) : ∀ (n i : Nat), i ≤ m.2.2.val → m.2.2.val - i < n →
    (∃ a : Nat, i ≤ a ∧ a < m.2.2.val ∧ m.1 98 a = v ∧ sv_indexOf_2 n c v (Int32.ofNat i) = Int32.ofNat a) ∨ ((∀ a : Nat, i ≤ a → a < m.2.2.val → ¬ m.1 98 a = v) ∧ sv_indexOf_2 n c v (Int32.ofNat i) = -1) := by
  have hcn := rd_cnt h
  have hb : m.2.2.val < 5 := m.2.2.isLt
  intro n
  induction n with
  | zero => intro i h1 h2; omega
  | succ n ih =>
    intro i h1 h2
    rw [sv_indexOf_2, hcn, of_cl i (by omega)]
    by_cases hlt : i < m.2.2.val
    · rw [if_pos ((of_le (by omega) (by omega)).2 hlt), rdS h hlt (by decide)]
      by_cases hv : m.1 98 i = v
      · rw [if_pos hv]
        exact Or.inl ⟨i, Nat.le_refl i, hlt, hv, rfl⟩
      · rw [if_neg hv, show Int32.ofNat i + 1 = Int32.ofNat (i + 1) from of_add i 1]
        rcases ih (i + 1) (by omega) (by omega) with ⟨a, ha1, ha2, ha3, ha4⟩ | ⟨ha1, ha2⟩
        · exact Or.inl ⟨a, by omega, ha2, ha3, ha4⟩
        · refine Or.inr ⟨fun a h3 h4 => ?_, ha2⟩
          by_cases hai : a = i
          · rw [hai]; exact hv
          · exact ha1 a (by omega) h4
    · rw [if_neg (fun z => hlt ((of_le (by omega) (by omega)).1 z))]
      exact Or.inr ⟨fun a h3 h4 => by omega, rfl⟩
theorem mo_ix_eq {m : mx_M} (hi : iNm m) (v : Int32) : ∀ (n i : Nat) (r : Int32), i ≤ m.2.2.val → m.2.2.val - i < n →
    (∃ a : Nat, i ≤ a ∧ a < m.2.2.val ∧ m.1 98 a = v ∧ mo_sessionOf_4 n m v r (Int32.ofNat i) = Int32.ofNat a) ∨ ((∀ a : Nat, i ≤ a → a < m.2.2.val → ¬ m.1 98 a = v) ∧ mo_sessionOf_4 n m v r (Int32.ofNat i) = r) := by
  have hb : m.2.2.val < 5 := m.2.2.isLt
  intro n
  induction n with
  | zero => intro i r h1 h2; omega
  | succ n ih =>
    intro i r h1 h2
    rw [mo_sessionOf_4, of_cl i (by omega)]
    by_cases hlt : i < m.2.2.val
    · rw [if_pos ((of_le (by omega) (by omega)).2 hlt)]
      by_cases hv : m.1 98 i = v
      · rw [if_pos hv, show Int32.ofNat i + 1 = Int32.ofNat (i + 1) from of_add i 1]
        rcases ih (i + 1) (Int32.ofNat i) (by omega) (by omega) with ⟨a, ha1, ha2, ha3, ha4⟩ | ⟨ha1, ha2⟩
        · have := hi a i ha2 hlt (ha3.trans hv.symm)
          omega
        · exact Or.inl ⟨i, Nat.le_refl i, hlt, hv, ha2⟩
      · rw [if_neg hv, show Int32.ofNat i + 1 = Int32.ofNat (i + 1) from of_add i 1]
        rcases ih (i + 1) r (by omega) (by omega) with ⟨a, ha1, ha2, ha3, ha4⟩ | ⟨ha1, ha2⟩
        · exact Or.inl ⟨a, by omega, ha2, ha3, ha4⟩
        · refine Or.inr ⟨fun a h3 h4 => ?_, ha2⟩
          by_cases hai : a = i
          · rw [hai]; exact hv
          · exact ha1 a (by omega) h4
    · rw [if_neg (fun z => hlt ((of_le (by omega) (by omega)).1 z))]
      exact Or.inr ⟨fun a h3 h4 => by omega, rfl⟩
/-- both find the same -/
theorem ix_both {c : mx_C} {m : mx_M} (h : rR c m) (hi : iNm m) (v : Int32) :
    (∃ a : Nat, a < m.2.2.val ∧ m.1 98 a = v ∧ sv_indexOf c v = Int32.ofNat a ∧ mo_sessionOf m v = Int32.ofNat a) ∨ (sv_indexOf c v = -1 ∧ mo_sessionOf m v = -1) := by
  have hb : m.2.2.val < 5 := m.2.2.isLt
  have h1 := sv_ix_eq h v 5 0 (by omega) (by omega)
  have h2 := mo_ix_eq hi v 5 0 (-1) (by omega) (by omega)
  rcases h1 with ⟨a, _, a2, a3, a4⟩ | ⟨a1, a2⟩
  · rcases h2 with ⟨b, _, b2, b3, b4⟩ | ⟨b1, b2⟩
    · have := hi a b a2 b2 (a3.trans b3.symm)
      subst this
      exact Or.inl ⟨a, a2, a3, a4, b4⟩
    · exact absurd a3 (b1 a (by omega) a2)
  · rcases h2 with ⟨b, _, b2, b3, b4⟩ | ⟨b1, b2⟩
    · exact absurd b3 (a1 b (by omega) b2)
    · exact Or.inr ⟨a2, b2⟩
theorem mo_ixx {m : mx_M} (hi : iNm m) (v : Int32) : (∃ a : Nat, a < m.2.2.val ∧ m.1 98 a = v ∧ mo_sessionOf m v = Int32.ofNat a) ∨ mo_sessionOf m v = -1 := by
  have hb : m.2.2.val < 5 := m.2.2.isLt
  rcases mo_ix_eq hi v 5 0 (-1) (by omega) (by omega) with ⟨b, _, b2, b3, b4⟩ | ⟨b1, b2⟩
  · exact Or.inl ⟨b, b2, b3, b4⟩
  · exact Or.inr b2
/-! the server -/
theorem wS2 {c : mx_C} {m : mx_M} (h : rR c m) {k j : Nat} (hk : k < 4) (hk2 : m.2.2.val ≤ k) (hj : j < 5) (v : Int32) : rR (mx_pi c (78 + (c.2.2.1 k).val) j v) (my_pi m (98 + j) k v) := by
  obtain ⟨h1, h2, h3, h4, h5, h6⟩ := h
  have hs := (c.2.2.1 k).isLt
  have hb : m.2.2.val < 5 := m.2.2.isLt
  refine ⟨rF_pi h1 (by omega) (by omega), ?_, ⟨h3.1, fun k' j' hk' hj' => ?_, h3.2.2⟩, rH_pi h4 (by omega) (by omega), ⟨rEe_pi h5.1 (by omega) (by omega), rEe_pi h5.2 (by omega) (by omega)⟩, rK_pi h6 (by omega)⟩
  · intro q hq
    have r4 := tb4_rng q hq
    rw [pi_ne (by omega), qi_ne (by omega)]
    exact h2 q hq
  · show (mx_pi c (78 + (c.2.2.1 k).val) j v).1 (78 + (c.2.2.1 k').val) j' = _
    have hk'' : k' < m.2.2.val := hk'
    have hne : ¬ (78 + (c.2.2.1 k').val = 78 + (c.2.2.1 k).val ∧ j' = j) := by
      intro z
      have := h3.2.2 k' k (by omega) (by omega) (Fin.ext (by omega))
      omega
    rw [pi_ne hne, qi_ne (by omega)]
    exact h3.2.1 k' j' hk' hj'
theorem rR_inc {c : mx_C} {m : mx_M} (h : rR c m) (hl : m.2.2.val < 4) (hv : ∀ j, j < 5 → c.1 (78 + (c.2.2.1 m.2.2.val).val) j = m.1 (98 + j) m.2.2.val) : rR (mx_pc c (Int32.ofNat (m.2.2.val + 1))) (my_ps m (Int32.ofNat (m.2.2.val + 1))) := by
  obtain ⟨h1, h2, h3, h4, h5, h6⟩ := h
  have e : (my_ps m (Int32.ofNat (m.2.2.val + 1))).2.2.val = m.2.2.val + 1 := by
    show (Fin.ofNat 5 (Int32.ofNat (m.2.2.val + 1)).toNatClampNeg).val = _
    rw [of_cl _ (by omega)]
    simp [Fin.ofNat]; omega
  refine ⟨h1, h2, ⟨rfl, fun k j hk hj => ?_, h3.2.2⟩, h4, h5, h6⟩
  rw [e] at hk
  by_cases hk2 : k = m.2.2.val
  · rw [hk2]; exact hv j hj
  · exact h3.2.1 k j (by omega) hj
theorem x_grant {c : mx_C} {m : mx_M} (h : rR c m) (hi : iE m 1399) (a : Int32) : rR (sv_grantOrDrop c a) (mo_serverDoes m 13 a) := by
  have hcn := rd_cnt h
  have hb : m.2.2.val < 5 := m.2.2.isLt
  have e11 : c.1 66 11 = m.1 82 29 := rdW h (by decide +kernel : ((66, 11), (82, 29)) ∈ tbW)
  unfold sv_grantOrDrop mo_serverDoes
  rw [if_neg (show ¬ (13 : Int32) = 15 by decide), if_pos rfl, hcn]
  have e4 : (Int32.ofNat m.2.2.val = 4) ↔ m.2.2.val = 4 := by
    rw [i_eq, i_of _ (by omega), show (4 : Int32).toInt = 4 from rfl]; omega
  by_cases h4 : m.2.2.val = 4
  · rw [if_pos (e4.2 h4), if_pos (e4.2 h4)]; exact x_say1 h hi _ _ _
  · rw [if_neg (fun z => h4 (e4.1 z)), if_neg (fun z => h4 (e4.1 z))]
    have e1 : Int32.ofNat m.2.2.val + 1 = Int32.ofNat (m.2.2.val + 1) := of_add _ 1
    simp only [show ∀ (q : mx_M) i k v, (my_pi q i k v).2 = q.2 from fun _ _ _ _ => rfl, show ∀ (q : mx_C) i k v, (mx_pi q i k v).2 = q.2 from fun _ _ _ _ => rfl, show ∀ (q : mx_C) t x y, (se_begin q t x y).2 = q.2 from fun _ _ _ _ => rfl, hcn, of_cl m.2.2.val (show m.2.2.val < 2147483648 by omega), e1, pi_eq, qi_eq, e11]
    have h1 := wr h (by decide +kernel : ((66, 11), (82, 29)) ∈ tbW) (m.1 82 29 + 1)
    have h2 := wS2 h1 (k := m.2.2.val) (j := 0) (by omega) (Nat.le_refl _) (by decide) (m.1 82 29 + 1)
    have h3 := wS2 h2 (k := m.2.2.val) (j := 1) (by omega) (Nat.le_refl _) (by decide) a
    have h4' := wS2 h3 (k := m.2.2.val) (j := 2) (by omega) (Nat.le_refl _) (by decide) 1
    have h5 := wS2 h4' (k := m.2.2.val) (j := 3) (by omega) (Nat.le_refl _) (by decide) 0
    have h6 := wS2 h5 (k := m.2.2.val) (j := 4) (by omega) (Nat.le_refl _) (by decide) 0
    have h7 := rR_inc h6 (show m.2.2.val < 4 by omega) (by
      intro j hj
      have : j = 0 ∨ j = 1 ∨ j = 2 ∨ j = 3 ∨ j = 4 := by omega
      simp only [show ∀ (q : mx_M) i k v, (my_pi q i k v).2 = q.2 from fun _ _ _ _ => rfl, show ∀ (q : mx_C) i k v, (mx_pi q i k v).2 = q.2 from fun _ _ _ _ => rfl, pi_if, qi_if]
      rcases this with rfl | rfl | rfl | rfl | rfl <;> simp)
    have b7 : iE (my_ps (my_pi (my_pi (my_pi (my_pi (my_pi (my_pi m 82 29 (m.1 82 29 + 1)) 98 m.2.2.val (m.1 82 29 + 1)) 99 m.2.2.val a) 100 m.2.2.val 1) 101 m.2.2.val 0) 102 m.2.2.val 0) (Int32.ofNat (m.2.2.val + 1))) 1399 := iE_f hi (fun i h1 h2 => by
        show (my_pi (my_pi (my_pi (my_pi (my_pi (my_pi m 82 29 (m.1 82 29 + 1)) 98 m.2.2.val (m.1 82 29 + 1)) 99 m.2.2.val a) 100 m.2.2.val 1) 101 m.2.2.val 0) 102 m.2.2.val 0).1 i = m.1 i
        rw [qi_row (by omega), qi_row (by omega), qi_row (by omega), qi_row (by omega), qi_row (by omega), qi_row (by omega)])
    have r1 : (mx_pc (se_begin (mx_pi c 66 11 (m.1 82 29 + 1)) (78 + (c.2.2.1 m.2.2.val).val) (m.1 82 29 + 1) a) (Int32.ofNat (m.2.2.val + 1))).1 66 11 = m.1 82 29 + 1 := by
      have hs := (c.2.2.1 m.2.2.val).isLt
      show (se_begin (mx_pi c 66 11 (m.1 82 29 + 1)) (78 + (c.2.2.1 m.2.2.val).val) (m.1 82 29 + 1) a).1 66 11 = _
      unfold se_begin
      rw [pi_ne (by omega), pi_ne (by omega), pi_ne (by omega), pi_ne (by omega), pi_ne (by omega), pi_eq]
    have r2 : (my_ps (my_pi (my_pi (my_pi (my_pi (my_pi (my_pi m 82 29 (m.1 82 29 + 1)) 98 m.2.2.val (m.1 82 29 + 1)) 99 m.2.2.val a) 100 m.2.2.val 1) 101 m.2.2.val 0) 102 m.2.2.val 0) (Int32.ofNat (m.2.2.val + 1))).1 82 29 = m.1 82 29 + 1 := by
      show (my_pi (my_pi (my_pi (my_pi (my_pi (my_pi m 82 29 (m.1 82 29 + 1)) 98 m.2.2.val (m.1 82 29 + 1)) 99 m.2.2.val a) 100 m.2.2.val 1) 101 m.2.2.val 0) 102 m.2.2.val 0).1 82 29 = _
      rw [qi_ne (by omega), qi_ne (by omega), qi_ne (by omega), qi_ne (by omega), qi_ne (by omega), qi_eq]
    rw [r1, r2]
    exact x_say1 h7 b7 14 a (m.1 82 29 + 1)
theorem x_svDoes {c : mx_C} {m : mx_M} (h : rR c m) (hi : iE m 1399) (hn : iNm m) (p : Nat) : rR (sv_perform c p) (mo_serverDoes m (c.1 p 0) (c.1 p 3)) := by
  unfold sv_perform
  by_cases h13 : c.1 p 0 = 13
  · rw [if_pos h13, h13]; exact x_grant h hi _
  · rw [if_neg h13]
    unfold mo_serverDoes
    by_cases h15 : c.1 p 0 = 15
    · rw [if_pos h15, if_pos h15]
      simp only [if_neg h13]
      rcases ix_both h hn (c.1 p 3) with ⟨a, ha, ha2, e1, e2⟩ | ⟨e1, e2⟩
      · have hb : m.2.2.val < 5 := m.2.2.isLt
        rw [e1, e2, if_neg (of_nneg (by omega)), if_neg (of_nneg (by omega))]
        exact x_rmS h ha
      · rw [e1, e2, if_pos neg1_lt, if_pos neg1_lt]; exact h
    · rw [if_neg h15, if_neg h15, if_neg h13]; exact h
/-! core -/
theorem x_speak {c : mx_C} {m : mx_M} (h : rR c m) (v1 v2 : Int32) : ∀ (n i : Nat), i ≤ m.2.2.val → rR (sv_speak_2 n c v1 v2 (Int32.ofNat i)).1 (mo_core_2 n m v1 v2 (Int32.ofNat i)).1 ∧ (sv_speak_2 n c v1 v2 (Int32.ofNat i)).2 = (mo_core_2 n m v1 v2 (Int32.ofNat i)).2 := by
  have hcn := rd_cnt h
  have hb : m.2.2.val < 5 := m.2.2.isLt
  intro n
  induction n with
  | zero => intro i hi; exact ⟨h, rfl⟩
  | succ n ih =>
    intro i hi
    rw [sv_speak_2, mo_core_2, hcn, of_cl i (by omega)]
    by_cases hlt : i < m.2.2.val
    · have e2 : c.1 (78 + (c.2.2.1 i).val) 2 = m.1 100 i := rdS h hlt (by decide)
      have e3 : c.1 (78 + (c.2.2.1 i).val) 3 = m.1 101 i := rdS h hlt (by decide)
      have e1 : c.1 (78 + (c.2.2.1 i).val) 1 = m.1 99 i := rdS h hlt (by decide)
      have hs := (c.2.2.1 i).isLt
      have g : Int32.ofNat i + 1 = Int32.ofNat (i + 1) := of_add i 1
      rw [if_pos ((of_le (by omega) (by omega)).2 hlt), if_pos ((of_le (by omega) (by omega)).2 hlt), e2, e3, g]
      simp only [fl_launch_eq, pk_bear_eq, mc_send_o _ _ (show 45 ≤ 78 + (c.2.2.1 i).val by omega), e1, mo_sendOff_eq]
      by_cases h3 : m.1 100 i = 3
      · rw [if_pos h3, if_pos h3]
        by_cases ha : m.1 101 i = v1
        · rw [if_pos ha, if_pos ha]; exact ⟨rR_send h _, rfl⟩
        · rw [if_neg ha, if_neg ha]; exact ih (i + 1) (by omega)
      · rw [if_neg h3, if_neg h3]; exact ih (i + 1) (by omega)
    · rw [if_neg (fun z => hlt ((of_le (by omega) (by omega)).1 z)), if_neg (fun z => hlt ((of_le (by omega) (by omega)).1 z))]
      exact ⟨h, rfl⟩
theorem x_corec {c : mx_C} {m : mx_M} (h : rR c m) (a1 a2 : Int32) : rR (sl_core c a1 a2).1 (mo_core m a1 a2).1 ∧ (sl_core c a1 a2).2 = (mo_core m a1 a2).2 := x_speak h a1 a2 5 0 (Nat.zero_le _)
/-! addresses -/
theorem sv_if_eq {c : mx_C} {m : mx_M} (h : rR c m) (v : Int32) : ∀ (n i : Nat), i ≤ m.2.2.val → m.2.2.val - i < n → (sv_isFree_2 n c v (Int32.ofNat i) = 0 ∧ ∃ a : Nat, i ≤ a ∧ a < m.2.2.val ∧ m.1 101 a = v) ∨ (sv_isFree_2 n c v (Int32.ofNat i) = 1 ∧ ∀ a : Nat, i ≤ a → a < m.2.2.val → ¬ m.1 101 a = v) := by
  have hcn := rd_cnt h
  have hb : m.2.2.val < 5 := m.2.2.isLt
  intro n
  induction n with
  | zero => intro i h1 h2; omega
  | succ n ih =>
    intro i h1 h2
    rw [sv_isFree_2, hcn, of_cl i (by omega)]
    by_cases hlt : i < m.2.2.val
    · rw [if_pos ((of_le (by omega) (by omega)).2 hlt), rdS h hlt (by decide), show Int32.ofNat i + 1 = Int32.ofNat (i + 1) from of_add i 1]
      by_cases hv : m.1 101 i = v
      · rw [if_pos hv]; exact Or.inl ⟨rfl, i, Nat.le_refl i, hlt, hv⟩
      · rw [if_neg hv]
        rcases ih (i + 1) (by omega) (by omega) with ⟨g1, a, g2, g3, g4⟩ | ⟨g1, g2⟩
        · exact Or.inl ⟨g1, a, by omega, g3, g4⟩
        · refine Or.inr ⟨g1, fun a h3 h4 => ?_⟩
          by_cases hai : a = i
          · rw [hai]; exact hv
          · exact g2 a (by omega) h4
    · rw [if_neg (fun z => hlt ((of_le (by omega) (by omega)).1 z))]
      exact Or.inr ⟨rfl, fun a h3 h4 => by omega⟩
theorem fa14_t (f : mx_M → Int32 → Int32) (m : mx_M) (v : Int32) : ∀ (n i : Nat), i ≤ m.2.2.val → m.2.2.val - i < n → mo_fa_14 f n m v 1 (Int32.ofNat i) = f m (v + 1) := by
  have hb : m.2.2.val < 5 := m.2.2.isLt
  intro n
  induction n with
  | zero => intro i h1 h2; omega
  | succ n ih =>
    intro i h1 h2
    rw [mo_fa_14]
    by_cases hlt : i < m.2.2.val
    · rw [if_pos ((of_le (by omega) (by omega)).2 hlt), if_neg (by decide), show Int32.ofNat i + 1 = Int32.ofNat (i + 1) from of_add i 1]
      exact ih (i + 1) (by omega) (by omega)
    · rw [if_neg (fun z => hlt ((of_le (by omega) (by omega)).1 z)), if_neg (by decide)]
theorem fa14_f (f : mx_M → Int32 → Int32) (m : mx_M) (v : Int32) : ∀ (n i : Nat), i ≤ m.2.2.val → m.2.2.val - i < n → (mo_fa_14 f n m v 0 (Int32.ofNat i) = f m (v + 1) ∧ ∃ a : Nat, i ≤ a ∧ a < m.2.2.val ∧ m.1 101 a = v) ∨ (mo_fa_14 f n m v 0 (Int32.ofNat i) = v ∧ ∀ a : Nat, i ≤ a → a < m.2.2.val → ¬ m.1 101 a = v) := by
  have hb : m.2.2.val < 5 := m.2.2.isLt
  intro n
  induction n with
  | zero => intro i h1 h2; omega
  | succ n ih =>
    intro i h1 h2
    rw [mo_fa_14]
    by_cases hlt : i < m.2.2.val
    · rw [if_pos ((of_le (by omega) (by omega)).2 hlt), if_pos rfl, of_cl i (by omega), show Int32.ofNat i + 1 = Int32.ofNat (i + 1) from of_add i 1]
      by_cases hv : m.1 101 i = v
      · rw [if_pos hv, fa14_t f m v n (i + 1) (by omega) (by omega)]
        exact Or.inl ⟨rfl, i, Nat.le_refl i, hlt, hv⟩
      · rw [if_neg hv]
        rcases ih (i + 1) (by omega) (by omega) with ⟨g1, a, g2, g3, g4⟩ | ⟨g1, g2⟩
        · exact Or.inl ⟨g1, a, by omega, g3, g4⟩
        · refine Or.inr ⟨g1, fun a h3 h4 => ?_⟩
          by_cases hai : a = i
          · rw [hai]; exact hv
          · exact g2 a (by omega) h4
    · rw [if_neg (fun z => hlt ((of_le (by omega) (by omega)).1 z)), if_pos rfl]
      exact Or.inr ⟨rfl, fun a h3 h4 => by omega⟩
theorem free_eq {c : mx_C} {m : mx_M} (h : rR c m) : ∀ (n : Nat) (v : Int32), sv_lowestFreeAddress_2 n c v = mo_fa_2 n m v := by
  have hb : m.2.2.val < 5 := m.2.2.isLt
  have ep : c.1 66 3 = m.1 82 0 := rdW h (by decide +kernel : ((66, 3), (82, 0)) ∈ tbW)
  intro n
  induction n with
  | zero => intro v; rfl
  | succ n ih =>
    intro v
    rw [sv_lowestFreeAddress_2, mo_fa_2, ep]
    by_cases hp : m.1 82 0 < v
    · rw [if_pos hp, if_pos hp]
    · rw [if_neg hp, if_neg hp]
      have g1 := sv_if_eq h v 5 0 (by omega) (by omega)
      have g2 := fa14_f (mo_fa_2 n) m v 5 0 (by omega) (by omega)
      have eS : sv_isFree c v = sv_isFree_2 5 c v (Int32.ofNat 0) := rfl
      have eM : mo_fa_14 (mo_fa_2 n) 5 m v 0 0 = mo_fa_14 (mo_fa_2 n) 5 m v 0 (Int32.ofNat 0) := rfl
      rw [eS, eM]
      rcases g1 with ⟨a1, a, a2, a3, a4⟩ | ⟨a1, a2⟩
      · rcases g2 with ⟨b1, b2⟩ | ⟨b1, b2⟩
        · rw [a1, if_pos rfl, b1, ih]
        · exact absurd a4 (b2 a a2 a3)
      · rcases g2 with ⟨b1, b, b2, b3, b4⟩ | ⟨b1, b2⟩
        · exact absurd b4 (a2 b b2 b3)
        · rw [a1, if_neg (by decide), b1]
theorem lowest_eq {c : mx_C} {m : mx_M} (h : rR c m) : sv_lowestFreeAddress c = mo_freeAddress m := free_eq h 5 1
/-! a packet in a session -/
def lg_ok (m : mx_M) (u w : Int32) : Prop := mo_out m u 4 = 0 ∧ ¬ m.1 83 u.toNatClampNeg = 0 ∧ m.1 84 u.toNatClampNeg = w ∧ ¬ mo_freeAddress m = 0
def lg_no (m : mx_M) (k : Nat) : mx_M := mo_say (mo_endSession (my_send m (pk9 6 5 4 (m.1 99 k) 0 0 0 0 0)) (Int32.ofNat k)) 1 15 (m.1 99 k) 0
def lg_ac (m : mx_M) (k : Nat) : mx_M := my_send m (pk9 5 5 4 (m.1 99 k) (m.1 101 k) 0 0 0 0)
def lg_yes (m : mx_M) (k : Nat) : mx_M := lg_ac (my_pi (my_pi m 100 k 2) 101 k (mo_freeAddress m)) k
theorem mo_login_eq (m : mx_M) {k : Nat} (hk : k < 5) (u w : Int32) : (m.1 100 k = 1 → lg_ok m u w → mo_login m (Int32.ofNat k) u w = lg_yes m k) ∧ (m.1 100 k = 1 → ¬ lg_ok m u w → mo_login m (Int32.ofNat k) u w = lg_no m k) ∧ (m.1 100 k = 2 → mo_login m (Int32.ofNat k) u w = lg_ac m k) ∧ (¬ m.1 100 k = 1 → ¬ m.1 100 k = 2 → mo_login m (Int32.ofNat k) u w = m) := by
  unfold mo_login lg_ok lg_no lg_yes lg_ac
  simp only [of_cl k (show k < 2147483648 by omega), mo_sendOff_eq]
  have r : ∀ v, (my_pi (my_pi m 100 k 2) 101 k v).1 100 k = 2 := fun v => by rw [qi_ne (by omega), qi_eq]
  simp only [r, if_true]
  refine ⟨fun h1 ok => ?_, fun h1 ok => ?_, fun h2 => ?_, fun h1 h2 => ?_⟩
  · rw [if_pos h1, if_pos ok.1, if_neg ok.2.1, if_pos ok.2.2.1, if_neg ok.2.2.2]
  · rw [if_pos h1]
    by_cases g1 : mo_out m u 4 = 0
    · rw [if_pos g1]
      by_cases g2 : m.1 83 u.toNatClampNeg = 0
      · rw [if_pos g2]
      · rw [if_neg g2]
        by_cases g3 : m.1 84 u.toNatClampNeg = w
        · rw [if_pos g3]
          by_cases g4 : mo_freeAddress m = 0
          · rw [if_pos g4]
          · exact absurd ⟨g1, g2, g3, g4⟩ ok
        · rw [if_neg g3]
    · rw [if_neg g1]
  · rw [if_neg (by rw [h2]; decide), if_pos h2]
  · rw [if_neg h1, if_neg h2]
def cr_add (m : mx_M) (b w : Int32) : mx_M := my_pi (my_pi (my_pi m 103 ((m.1 82 24).toInt.toNat % 8) w) 104 ((m.1 82 24).toInt.toNat % 8) b) 82 24 (m.1 82 24 + 1)
theorem mo_toS_eq (m : mx_M) (kd n b w : Int32) (h0 : 0 ≤ (m.1 82 24).toInt) {k : Nat} (hk : k < 5) (hf : mo_sessionOf m n = Int32.ofNat k) : mo_toSession m kd n b w =
    if kd = 4 then mo_login (my_pi m 102 k 0) (Int32.ofNat k) b w
    else if kd = 7 ∧ m.1 100 k = 2 then my_pi (my_pi m 102 k 0) 100 k 3
    else if kd = 10 then (if m.1 100 k = 3 ∧ m.1 101 k = b then cr_add (my_pi m 102 k 0) b w else my_pi (my_pi m 102 k 0) 82 25 (m.1 82 25 + 1))
    else my_pi m 102 k 0 := by
  unfold mo_toSession
  rw [hf]
  have hn : ¬ (Int32.ofNat k < 0) := by rw [i_lt, i_of k (by omega), show (0 : Int32).toInt = 0 from rfl]; omega
  rw [if_neg hn]
  simp only [of_cl k (show k < 2147483648 by omega)]
  have r100 : (my_pi m 102 k 0).1 100 k = m.1 100 k := qi_ne (by omega)
  have r101 : (my_pi m 102 k 0).1 101 k = m.1 101 k := qi_ne (by omega)
  have r24 : (my_pi m 102 k 0).1 82 24 = m.1 82 24 := qi_ne (by omega)
  have r25 : (my_pi m 102 k 0).1 82 25 = m.1 82 25 := qi_ne (by omega)
  have r24' (i : Nat) : (my_pi (my_pi m 102 k 0) 103 i w).1 82 24 = m.1 82 24 := by rw [qi_ne (by omega), r24]
  have r24'' (i j : Nat) : (my_pi (my_pi (my_pi m 102 k 0) 103 i w) 104 j b).1 82 24 = m.1 82 24 := by rw [qi_ne (by omega), r24']
  have er : (m.1 82 24 - m.1 82 24 / 8 * 8).toNatClampNeg = (m.1 82 24).toInt.toNat % 8 := by
    have e := i_rmd (m.1 82 24) 8 (by omega) h0
    have hlt : (m.1 82 24).toInt.toNat % 8 < 8 := Nat.mod_lt _ (by decide)
    rw [show (8 : Int32) = Int32.ofNat 8 from rfl, e, of_cl _ (by omega)]
  unfold cr_add
  rw [r100, r101, r24, r25, r24', r24'', er]
  generalize m.1 100 k = st
  generalize m.1 101 k = ls
  generalize mo_login (my_pi m 102 k 0) (Int32.ofNat k) b w = X1
  generalize my_pi (my_pi m 102 k 0) 100 k 3 = X2
  generalize my_pi (my_pi (my_pi (my_pi m 102 k 0) 103 ((m.1 82 24).toInt.toNat % 8) w) 104 ((m.1 82 24).toInt.toNat % 8) b) 82 24 (m.1 82 24 + 1) = X3
  generalize my_pi (my_pi m 102 k 0) 82 25 (m.1 82 25 + 1) = X4
  generalize my_pi m 102 k 0 = X5
  grind (splits := 40)
theorem sv_acc_eq (c : mx_C) {t : Nat} (ht : 45 ≤ t) : sv_sendAccept c t = mc_send c (pk9 5 5 4 (c.1 t 1) (c.1 t 3) 0 0 0 0) := by
  unfold sv_sendAccept
  simp only [fl_launch_eq, pk_bear_eq, mc_send_o _ _ ht]
theorem sv_ris_eq (c : mx_C) (p : Nat) (hp : p < 45) {k : Nat} (hk : k < 5) (hf : sv_indexOf c (c.1 p 3) = Int32.ofNat k) : sv_receiveInSession c p =
    if c.1 p 0 = 4 ∧ c.1 (78 + (c.2.2.1 k).val) 2 = 1 then
      (if (sv_logsIn (mx_pi c (78 + (c.2.2.1 k).val) 4 0) (78 + (c.2.2.1 k).val) p).2 = 0 then sv_endSession (sv_logsIn (mx_pi c (78 + (c.2.2.1 k).val) 4 0) (78 + (c.2.2.1 k).val) p).1 (Int32.ofNat k) else (sv_logsIn (mx_pi c (78 + (c.2.2.1 k).val) 4 0) (78 + (c.2.2.1 k).val) p).1)
    else if c.1 p 0 = 4 ∧ c.1 (78 + (c.2.2.1 k).val) 2 = 2 then sv_sendAccept (mx_pi c (78 + (c.2.2.1 k).val) 4 0) (78 + (c.2.2.1 k).val)
    else if c.1 p 0 = 7 ∧ c.1 (78 + (c.2.2.1 k).val) 2 = 2 then mx_pi (mx_pi c (78 + (c.2.2.1 k).val) 4 0) (78 + (c.2.2.1 k).val) 2 3
    else if c.1 p 0 = 10 then sv_passToCore (mx_pi c (78 + (c.2.2.1 k).val) 4 0) (78 + (c.2.2.1 k).val) p
    else mx_pi c (78 + (c.2.2.1 k).val) 4 0 := by
  have hn : ¬ (Int32.ofNat k < 0) := by rw [i_lt, i_of k (by omega), show (0 : Int32).toInt = 0 from rfl]; omega
  unfold sv_receiveInSession
  rw [hf, if_neg hn]
  simp only [of_cl k (show k < 2147483648 by omega)]
  have r0 : (mx_pi c (78 + (c.2.2.1 k).val) 4 0).1 p 0 = c.1 p 0 := pi_ne (by omega)
  have r2 : (mx_pi c (78 + (c.2.2.1 k).val) 4 0).1 (78 + (c.2.2.1 k).val) 2 = c.1 (78 + (c.2.2.1 k).val) 2 := pi_ne (by omega)
  rw [r0, r2]
  generalize c.1 p 0 = kd
  generalize c.1 (78 + (c.2.2.1 k).val) 2 = st
  generalize (if (sv_logsIn (mx_pi c (78 + (c.2.2.1 k).val) 4 0) (78 + (c.2.2.1 k).val) p).2 = 0 then sv_endSession (sv_logsIn (mx_pi c (78 + (c.2.2.1 k).val) 4 0) (78 + (c.2.2.1 k).val) p).1 (Int32.ofNat k) else (sv_logsIn (mx_pi c (78 + (c.2.2.1 k).val) 4 0) (78 + (c.2.2.1 k).val) p).1) = X1
  generalize sv_sendAccept (mx_pi c (78 + (c.2.2.1 k).val) 4 0) (78 + (c.2.2.1 k).val) = X2
  generalize sv_passToCore (mx_pi c (78 + (c.2.2.1 k).val) 4 0) (78 + (c.2.2.1 k).val) p = X3
  generalize mx_pi (mx_pi c (78 + (c.2.2.1 k).val) 4 0) (78 + (c.2.2.1 k).val) 2 3 = X4
  generalize mx_pi c (78 + (c.2.2.1 k).val) 4 0 = X5
  grind (splits := 40)
theorem x_endS {c : mx_C} {m : mx_M} (h : rR c m) (hi : iE m 1399) {k : Nat} (hk : k < m.2.2.val) : rR (sv_endSession c (Int32.ofNat k)) (mo_say (mo_endSession m (Int32.ofNat k)) 1 15 (m.1 99 k) 0) := by
  have hb : m.2.2.val < 5 := m.2.2.isLt
  unfold sv_endSession
  have e1 : c.1 (78 + (c.2.2.1 k).val) 1 = m.1 99 k := rdS h hk (by decide)
  simp only [of_cl k (show k < 2147483648 by omega), e1]
  refine x_say1 (x_rmS h hk) ?_ _ _ _
  rw [mo_endS_eq m hk]
  exact iE_f hi (fun i h1 h2 => rm_o (by omega))
theorem lgn_iE {m : mx_M} {B : Int} (hi : iE m B) (hB : B ≤ 1399) {k : Nat} (hk : k < m.2.2.val) (a : Int32) : iE (mo_say (mo_endSession m (Int32.ofNat k)) 1 15 a 0) (B + 1) := by
  refine say_iE (e := 1) (by decide) hB ?_ _ _ _
  rw [mo_endS_eq m hk]
  exact iE_f hi (fun i h1 h2 => rm_o (by omega))
theorem sv_allowed {c : mx_C} {m : mx_M} (h : rR c m) (u w : Int32) : (sv_isAllowed c u w = 0) ↔ ¬ (mo_out m u 4 = 0 ∧ ¬ m.1 83 u.toNatClampNeg = 0 ∧ m.1 84 u.toNatClampNeg = w) := by
  unfold sv_isAllowed mo_out
  by_cases h0 : u < 0
  · simp [h0]
  · by_cases h4 : u < 4
    · obtain ⟨s, hs, rfl⟩ := in_of (n := 4) (by decide) h0 h4
      have ea : c.1 68 s = m.1 83 s := rdW h (twA hs)
      have eb : c.1 69 s = m.1 84 s := rdW h (twB hs)
      rw [if_neg h0, if_neg h0, if_pos h4, if_pos h4, of_cl s (by omega), ea, eb]
      by_cases g1 : m.1 83 s = 0
      · simp [g1]
      · by_cases g2 : m.1 84 s = w
        · simp [g1, g2]
        · simp [g1, g2]
    · simp [h0, h4]
theorem x_logsIn {c : mx_C} {m : mx_M} (h : rR c m) (hi : iE m 1399) {p : Nat} (hp : p < 45) {k : Nat} (hk : k < m.2.2.val) :
    (lg_ok m (c.1 p 4) (c.1 p 5) → (sv_logsIn c (78 + (c.2.2.1 k).val) p).2 = 1 ∧ rR (sv_logsIn c (78 + (c.2.2.1 k).val) p).1 (lg_yes m k)) ∧
    (¬ lg_ok m (c.1 p 4) (c.1 p 5) → (sv_logsIn c (78 + (c.2.2.1 k).val) p).2 = 0 ∧ rR (sv_endSession (sv_logsIn c (78 + (c.2.2.1 k).val) p).1 (Int32.ofNat k)) (lg_no m k)) := by
  have hs := (c.2.2.1 k).isLt
  have e1 : c.1 (78 + (c.2.2.1 k).val) 1 = m.1 99 k := rdS h hk (by decide)
  have ht : 45 ≤ 78 + (c.2.2.1 k).val := by omega
  unfold sv_logsIn
  simp only [fl_launch_eq, pk_bear_eq, mc_send_o _ _ ht, e1, lowest_eq h, sv_acc_eq _ ht]
  have hno : rR (sv_endSession (mc_send c (pk9 6 5 4 (m.1 99 k) 0 0 0 0 0)) (Int32.ofNat k)) (lg_no m k) := by
    unfold lg_no
    have := x_endS (rR_send h (pk9 6 5 4 (m.1 99 k) 0 0 0 0 0)) (iE_f hi (fun i h1 h2 => my_send_o _ _ (by omega))) (k := k) (by rw [my_send_s]; exact hk)
    rw [my_send_o _ _ (by decide)] at this
    exact this
  by_cases hf : mo_freeAddress m = 0
  · rw [if_pos hf]
    exact ⟨fun z => absurd hf z.2.2.2, fun _ => ⟨rfl, hno⟩⟩
  · rw [if_neg hf]
    by_cases ha : sv_isAllowed c (c.1 p 4) (c.1 p 5) = 0
    · rw [if_pos ha]
      exact ⟨fun z => absurd ⟨z.1, z.2.1, z.2.2.1⟩ ((sv_allowed h _ _).1 ha), fun _ => ⟨rfl, hno⟩⟩
    · rw [if_neg ha]
      have hal : mo_out m (c.1 p 4) 4 = 0 ∧ ¬ m.1 83 (c.1 p 4).toNatClampNeg = 0 ∧ m.1 84 (c.1 p 4).toNatClampNeg = c.1 p 5 := Classical.byContradiction fun z => ha ((sv_allowed h _ _).2 z)
      refine ⟨fun _ => ⟨rfl, ?_⟩, fun z => absurd ⟨hal.1, hal.2.1, hal.2.2, hf⟩ z⟩
      have w1 := wS h hk (j := 2) (by decide) 2
      have w2 := wS w1 (k := k) hk (j := 3) (by decide) (mo_freeAddress m)
      unfold lg_yes lg_ac
      have w3 := rR_send w2 (pk9 5 5 4 (m.1 99 k) (mo_freeAddress m) 0 0 0 0)
      have r1 : (mx_pi (mx_pi c (78 + (c.2.2.1 k).val) 2 2) (78 + (c.2.2.1 k).val) 3 (mo_freeAddress m)).1 (78 + (c.2.2.1 k).val) 1 = m.1 99 k := by rw [pi_ne (by omega), pi_ne (by omega), e1]
      have r2 : (my_pi (my_pi m 100 k 2) 101 k (mo_freeAddress m)).1 99 k = m.1 99 k := by rw [qi_ne (by omega), qi_ne (by omega)]
      rw [r1, pi_eq, r2, qi_eq]
      exact w3
theorem x_toS {c : mx_C} {m : mx_M} (h : rR c m) (hi : iE m 1399) (hn : iNm m) (h0 : 0 ≤ (m.1 82 24).toInt) (h1 : (m.1 82 24).toInt < 2147483647) {p : Nat} (hp : p < 45) : rR (sv_receiveInSession c p) (mo_toSession m (c.1 p 0) (c.1 p 3) (c.1 p 4) (c.1 p 5)) := by
  have hb : m.2.2.val < 5 := m.2.2.isLt
  rcases ix_both h hn (c.1 p 3) with ⟨k, hk, hk2, e1, e2⟩ | ⟨e1, e2⟩
  · rw [sv_ris_eq c p hp (k := k) (by omega) e1, mo_toS_eq m _ _ _ _ h0 (k := k) (by omega) e2]
    have hs := (c.2.2.1 k).isLt
    have w4 := wS h hk (j := 4) (by decide) 0
    have eS : c.1 (78 + (c.2.2.1 k).val) 2 = m.1 100 k := rdS h hk (by decide)
    rw [eS]
    have b4 : iE (my_pi m 102 k 0) 1399 := iE_f hi (fun i h1 h2 => qi_row (by omega))
    have hlog := mo_login_eq (my_pi m 102 k 0) (k := k) (by omega) (c.1 p 4) (c.1 p 5)
    rw [show (my_pi m 102 k 0).1 100 k = m.1 100 k from qi_ne (by omega)] at hlog
    by_cases k4 : c.1 p 0 = 4
    · rw [if_pos k4]
      by_cases s1 : m.1 100 k = 1
      · rw [if_pos ⟨k4, s1⟩]
        have xl := x_logsIn w4 b4 hp (k := k) hk
        have r4 : (mx_pi c (78 + (c.2.2.1 k).val) 4 0).1 p 4 = c.1 p 4 := pi_ne (by omega)
        have r5 : (mx_pi c (78 + (c.2.2.1 k).val) 4 0).1 p 5 = c.1 p 5 := pi_ne (by omega)
        rw [r4, r5] at xl
        by_cases ok : lg_ok (my_pi m 102 k 0) (c.1 p 4) (c.1 p 5)
        · have g := xl.1 ok
          have g1 : (sv_logsIn (mx_pi c (78 + (c.2.2.1 k).val) 4 0) (78 + (c.2.2.1 k).val) p).2 = 1 := g.1
          rw [if_neg (by rw [g1]; decide), hlog.1 s1 ok]
          exact g.2
        · have g := xl.2 ok
          have g1 : (sv_logsIn (mx_pi c (78 + (c.2.2.1 k).val) 4 0) (78 + (c.2.2.1 k).val) p).2 = 0 := g.1
          rw [if_pos g1, hlog.2.1 s1 ok]
          exact g.2
      · rw [if_neg (fun z => s1 z.2)]
        by_cases s2 : m.1 100 k = 2
        · rw [if_pos ⟨k4, s2⟩, hlog.2.2.1 s2, sv_acc_eq _ (by omega)]
          unfold lg_ac
          have r1 : (mx_pi c (78 + (c.2.2.1 k).val) 4 0).1 (78 + (c.2.2.1 k).val) 1 = m.1 99 k := by rw [pi_ne (by omega)]; exact rdS h hk (by decide)
          have r3 : (mx_pi c (78 + (c.2.2.1 k).val) 4 0).1 (78 + (c.2.2.1 k).val) 3 = m.1 101 k := by rw [pi_ne (by omega)]; exact rdS h hk (by decide)
          rw [r1, r3, show (my_pi m 102 k 0).1 99 k = m.1 99 k from qi_ne (by omega), show (my_pi m 102 k 0).1 101 k = m.1 101 k from qi_ne (by omega)]
          exact rR_send w4 _
        · rw [if_neg (fun z => s2 z.2), if_neg (fun z => s2 z.2), if_neg (by rw [k4]; decide), hlog.2.2.2 s1 s2]
          exact w4
    · rw [if_neg (fun z => k4 z.1), if_neg (fun z => k4 z.1), if_neg k4]
      by_cases k7 : c.1 p 0 = 7 ∧ m.1 100 k = 2
      · rw [if_pos k7, if_pos k7]
        exact wS w4 (k := k) hk (j := 2) (by decide) 3
      · rw [if_neg k7, if_neg k7]
        by_cases k10 : c.1 p 0 = 10
        · rw [if_pos k10, if_pos k10]
          unfold sv_passToCore
          have r2 : (mx_pi c (78 + (c.2.2.1 k).val) 4 0).1 (78 + (c.2.2.1 k).val) 2 = m.1 100 k := by rw [pi_ne (by omega), eS]
          have r3 : (mx_pi c (78 + (c.2.2.1 k).val) 4 0).1 (78 + (c.2.2.1 k).val) 3 = m.1 101 k := by rw [pi_ne (by omega)]; exact rdS h hk (by decide)
          have r4 : (mx_pi c (78 + (c.2.2.1 k).val) 4 0).1 p 4 = c.1 p 4 := pi_ne (by omega)
          have r5 : (mx_pi c (78 + (c.2.2.1 k).val) 4 0).1 p 5 = c.1 p 5 := pi_ne (by omega)
          have r10 : (mx_pi c (78 + (c.2.2.1 k).val) 4 0).1 66 10 = m.1 82 25 := by
            rw [pi_ne (by omega)]
            exact rdW h (by decide +kernel : ((66, 10), (82, 25)) ∈ tbW)
          have r24 : (my_pi m 102 k 0).1 82 24 = m.1 82 24 := qi_ne (by omega)
          have hrj := wr w4 (by decide +kernel : ((66, 10), (82, 25)) ∈ tbW) (m.1 82 25 + 1)
          have r4' (w : Int32) : (hi_add (mx_pi c (78 + (c.2.2.1 k).val) 4 0) 70 w).1 p 4 = c.1 p 4 := by
            rw [hi_add_eq8 _ 70 w (by decide)]
            show (if _ then _ else _) = _
            rw [if_neg (by omega), if_neg (by omega), r4]
          simp only [r2, r3, r4, r5, r10, r4']
          by_cases s3 : m.1 100 k = 3
          · rw [if_pos s3]
            by_cases ha : c.1 p 4 = m.1 101 k
            · rw [if_pos ha, if_pos ⟨s3, ha.symm⟩]
              have := x_core w4 (by rw [r24]; exact h0) (by rw [r24]; exact h1) (c.1 p 5) (c.1 p 4)
              exact this
            · rw [if_neg ha, if_neg (fun z => ha z.2.symm)]; exact hrj
          · rw [if_neg s3, if_neg (fun z => s3 z.1)]; exact hrj
        · rw [if_neg k10, if_neg k10]; exact w4
  · have : sv_receiveInSession c p = c := by
      unfold sv_receiveInSession
      rw [e1, if_pos neg1_lt]
    rw [this]
    unfold mo_toSession
    rw [e2, if_pos neg1_lt]
    exact h
/-! all that arrives at the server -/
theorem x_svRecv {c : mx_C} {m : mx_M} (h : rR c m) (hi : iE m 1397) (hn : iNm m) (h0 : 0 ≤ (m.1 82 24).toInt) (h1 : (m.1 82 24).toInt < 2147483647)
    (hk : ¬ c.1 (p40 c) 0 < 12 → ¬ (c.1 (p40 c) 0 = 12 ∧ m.1 106 1 < c.1 (p40 c) 6) → c.1 (p40 c) 6 = m.1 106 1 → (c.1 (p40 c) 8).toInt ≤ (m.1 108 1).toInt ∨ (m.1 108 1).toInt = (m.1 109 1).toInt) :
    rR (sv_receive c (p40 c)) (if c.1 (p40 c) 0 < 12 then mo_toSession m (c.1 (p40 c) 0) (c.1 (p40 c) 3) (c.1 (p40 c) 4) (c.1 (p40 c) 5) else mo_control m 1 (c.1 (p40 c) 0) (c.1 (p40 c) 3) (c.1 (p40 c) 4) (c.1 (p40 c) 6) (c.1 (p40 c) 7) (c.1 (p40 c) 8)) := by
  have hp := p40_lt c
  unfold sv_receive
  by_cases h12 : c.1 (p40 c) 0 < 12
  · rw [if_pos h12, if_pos h12]
    exact x_toS h (iE_mono hi (by decide)) hn h0 h1 hp.2
  · rw [if_neg h12, if_neg h12]
    have e3 : c.1 74 3 = m.1 106 1 := rd_E3 (rR_q h) (e := 1) (by decide)
    have main : ∀ (c0 : mx_C) (m0 : mx_M), rR c0 m0 → iE m0 1397 → iNm m0 → p40 c0 = p40 c → c0.1 (p40 c) = c.1 (p40 c) → (c.1 (p40 c) 6 = m0.1 106 1 → (c.1 (p40 c) 8).toInt ≤ (m0.1 108 1).toInt ∨ (m0.1 108 1).toInt = (m0.1 109 1).toInt) →
        rR (let q := en_isNext c0 74 (p40 c); if q.2 = 0 then q.1 else en_acknowledge (sv_perform q.1 (p40 c)) 74) (mo_control_34 1 m0 1 (c.1 (p40 c) 0) (c.1 (p40 c) 3) (c.1 (p40 c) 4) (c.1 (p40 c) 6) (c.1 (p40 c) 7) (c.1 (p40 c) 8)) := by
      intro c0 m0 g hi0 hn0 ep ec hk0
      have hb : (m0.1 109 1).toInt ≤ 1400 := by have := hi0.2.2.2.1; omega
      have := x_ctl g (e := 1) (by decide) hi0 (by rw [ep, ec]; exact hk0) sv_perform (fun hch c1 g1 g2 => by
        have so := settle_o (e := 1) (by decide) hb (c0.1 (p40 c0) 8)
        have hkk : (c0.1 (p40 c0) 8).toInt ≤ (m0.1 108 1).toInt ∨ (m0.1 108 1).toInt = (m0.1 109 1).toInt := by
          rw [ep, ec] at hch ⊢
          exact hk0 hch
        have nn : iNm (my_pi (mo_settle m0 1 (c0.1 (p40 c0) 8)) 110 1 ((mo_settle m0 1 (c0.1 (p40 c0) 8)).1 110 1 + 1)) := by
          intro i j hi1 hj1
          rw [qi_ne (by omega), qi_ne (by omega), so.2 98 i (by decide) (by omega), so.2 98 j (by decide) (by omega)]
          have e22 : (my_pi (mo_settle m0 1 (c0.1 (p40 c0) 8)) 110 1 ((mo_settle m0 1 (c0.1 (p40 c0) 8)).1 110 1 + 1)).2.2 = m0.2.2 := so.1
          rw [e22] at hi1 hj1
          exact hn0 i j hi1 hj1
        have := x_svDoes g1 (iE_mono (iE_f (settle_iE (e := 1) (by decide) (by decide) hi0 (c0.1 (p40 c0) 8) hkk) (fun i hi1 hi2 => qi_row (by omega))) (by decide)) nn (p40 c0)
        rw [g2] at this
        rw [if_neg (by decide)]
        exact this)
      rw [ep, ec] at this
      exact this
    unfold mo_control
    rw [if_pos rfl, e3]
    by_cases ho : c.1 (p40 c) 0 = 12
    · rw [if_pos ho, if_pos ho]
      by_cases hl : m.1 106 1 < c.1 (p40 c) 6
      · rw [if_pos hl, if_pos hl]
        have hb : ∀ e', e' < 2 → (m.1 109 e').toInt ≤ 1400 := fun e' h' => by have := (iE_get hi h').2.2.1; omega
        have g := rR_cnt0 (x_begin h (e := 1) (by decide) hb (c.1 (p40 c) 6))
        have gi := clear_iE (e := 1) (by decide) (by decide) hi (c.1 (p40 c) 6)
        have cv := clear_v m (e := 1) (by decide) (c.1 (p40 c) 6)
        refine main _ (mo_clear (my_ps m 0) 1 (c.1 (p40 c) 6)) g gi ?_ rfl ?_ ?_
        · intro i j hi1
          exact absurd hi1 (Nat.not_lt_zero i)
        · show (en_begin c 74 (c.1 (p40 c) 6)).1 (p40 c) = c.1 (p40 c)
          unfold en_begin
          rw [pi_row (by omega), pi_row (by omega), pi_row (by omega), pi_row (by omega), pi_row (by omega), pi_row (by omega)]
        · intro _
          refine Or.inr ?_
          have c1 : (mo_clear (my_ps m 0) 1 (c.1 (p40 c) 6)).1 108 1 = 0 := cv.2.2.1
          have c2 : (mo_clear (my_ps m 0) 1 (c.1 (p40 c) 6)).1 109 1 = 0 := cv.2.2.2.1
          rw [c1, c2]
      · rw [if_neg hl, if_neg hl]
        exact main c m h hi hn rfl rfl (hk h12 (fun z => hl z.2))
    · rw [if_neg ho, if_neg ho]
      exact main c m h hi hn rfl rfl (hk h12 (fun z => ho z.1))
/-! the server's timer -/
def sv_eat (c : mx_C) (t : Nat) (v : Int32) : mx_C :=
  if c.1 t 2 = 2 ∧ v - v / 3 * 3 = 0 then mc_send (mx_pi c t 4 v) (pk9 5 5 4 (c.1 t 1) (c.1 t 3) 0 0 0 0)
  else if c.1 t 2 = 3 ∧ v - v / 4 * 4 = 0 then mc_send (mx_pi c t 4 v) (pk9 8 5 4 (c.1 t 1) 0 0 0 0 0)
  else mx_pi c t 4 v
def mo_eat (m : mx_M) (k : Nat) (v : Int32) : mx_M :=
  if m.1 100 k = 2 ∧ v - v / 3 * 3 = 0 then my_send (my_pi m 102 k v) (pk9 5 5 4 (m.1 99 k) (m.1 101 k) 0 0 0 0)
  else if m.1 100 k = 3 ∧ v - v / 4 * 4 = 0 then my_send (my_pi m 102 k v) (pk9 8 5 4 (m.1 99 k) 0 0 0 0 0)
  else my_pi m 102 k v
theorem sv_eat_eq (c : mx_C) {a : Nat} (ha : a < 5) (h12 : ¬ c.1 (78 + (c.2.2.1 a).val) 4 + 1 = 12) : sv_endsAtTimer c (Int32.ofNat a) = (sv_eat c (78 + (c.2.2.1 a).val) (c.1 (78 + (c.2.2.1 a).val) 4 + 1), 0) := by
  have ht : 45 ≤ 78 + (c.2.2.1 a).val := by omega
  unfold sv_endsAtTimer sv_eat
  simp only [of_cl a (show a < 2147483648 by omega), pi_eq, if_neg h12, fl_launch_eq, pk_bear_eq, mc_send_o _ _ ht, sv_acc_eq _ ht]
  generalize hv : c.1 (78 + (c.2.2.1 a).val) 4 + 1 = v
  have r1 : (mx_pi c (78 + (c.2.2.1 a).val) 4 v).1 (78 + (c.2.2.1 a).val) 1 = c.1 (78 + (c.2.2.1 a).val) 1 := pi_ne (by omega)
  have r2 : (mx_pi c (78 + (c.2.2.1 a).val) 4 v).1 (78 + (c.2.2.1 a).val) 2 = c.1 (78 + (c.2.2.1 a).val) 2 := pi_ne (by omega)
  have r3 : (mx_pi c (78 + (c.2.2.1 a).val) 4 v).1 (78 + (c.2.2.1 a).val) 3 = c.1 (78 + (c.2.2.1 a).val) 3 := pi_ne (by omega)
  rw [r1, r2, r3]
  generalize c.1 (78 + (c.2.2.1 a).val) 2 = st
  generalize mc_send (mx_pi c (78 + (c.2.2.1 a).val) 4 v) (pk9 5 5 4 (c.1 (78 + (c.2.2.1 a).val) 1) (c.1 (78 + (c.2.2.1 a).val) 3) 0 0 0 0) = A
  generalize mc_send (mx_pi c (78 + (c.2.2.1 a).val) 4 v) (pk9 8 5 4 (c.1 (78 + (c.2.2.1 a).val) 1) 0 0 0 0 0) = B
  generalize mx_pi c (78 + (c.2.2.1 a).val) 4 v = C
  generalize v - v / 3 * 3 = x3
  generalize v - v / 4 * 4 = x4
  grind (splits := 40)
theorem sv_eat12 (c : mx_C) {a : Nat} (ha : a < 5) (h12 : c.1 (78 + (c.2.2.1 a).val) 4 + 1 = 12) : sv_endsAtTimer c (Int32.ofNat a) = (sv_endSession (mx_pi c (78 + (c.2.2.1 a).val) 4 12) (Int32.ofNat a), 1) := by
  unfold sv_endsAtTimer
  simp only [of_cl a (show a < 2147483648 by omega), pi_eq, if_pos h12, h12]
  rfl
theorem mo_st_step (n : Nat) (m : mx_M) {k : Nat} (hk : k < m.2.2.val) : mo_serverTimer_2 (n + 1) m (Int32.ofNat k) =
    if m.1 102 k + 1 = 12 then mo_serverTimer_2 n (mo_say (mo_endSession (my_pi m 102 k (m.1 102 k + 1)) (Int32.ofNat k)) 1 15 (m.1 99 k) 0) (Int32.ofNat k)
    else mo_serverTimer_2 n (mo_eat m k (m.1 102 k + 1)) (Int32.ofNat (k + 1)) := by
  have hb : m.2.2.val < 5 := m.2.2.isLt
  rw [mo_serverTimer_2, if_pos ((of_le (by omega) (by omega)).2 hk)]
  simp only [of_cl k (show k < 2147483648 by omega), qi_eq, mo_sendOff_eq, my_send_o _ _ (show ¬ 102 = 85 by decide), my_send_o _ _ (show ¬ 100 = 85 by decide), my_send_o _ _ (show ¬ 99 = 85 by decide), show Int32.ofNat k + 1 = Int32.ofNat (k + 1) from of_add k 1]
  generalize hv : m.1 102 k + 1 = v
  have r99 : (my_pi m 102 k v).1 99 k = m.1 99 k := qi_ne (by omega)
  have r100 : (my_pi m 102 k v).1 100 k = m.1 100 k := qi_ne (by omega)
  have r101 : (my_pi m 102 k v).1 101 k = m.1 101 k := qi_ne (by omega)
  rw [r99, r100, r101]
  by_cases h12 : v = 12
  · rw [if_pos h12, if_pos h12]
  · rw [if_neg h12, if_neg h12]
    unfold mo_eat
    generalize m.1 100 k = st
    generalize my_send (my_pi m 102 k v) (pk9 5 5 4 (m.1 99 k) (m.1 101 k) 0 0 0 0) = A
    generalize my_send (my_pi m 102 k v) (pk9 8 5 4 (m.1 99 k) 0 0 0 0 0) = B
    generalize my_pi m 102 k v = C
    generalize v - v / 3 * 3 = x3
    generalize v - v / 4 * 4 = x4
    grind (splits := 40)
theorem eat_o {m : mx_M} {k : Nat} {v : Int32} {i j : Nat} (h : ¬ (i = 85 ∨ (i = 102 ∧ j = k))) : (mo_eat m k v).1 i j = m.1 i j := by
  unfold mo_eat
  split
  · rw [my_send_o _ _ (by omega), qi_ne (by omega)]
  · split
    · rw [my_send_o _ _ (by omega), qi_ne (by omega)]
    · exact qi_ne (by omega)
theorem eat_s {m : mx_M} {k : Nat} {v : Int32} : (mo_eat m k v).2.2 = m.2.2 := by
  unfold mo_eat
  split
  · rw [my_send_s]; rfl
  · split
    · rw [my_send_s]; rfl
    · rfl
theorem x_eat {c : mx_C} {m : mx_M} (h : rR c m) {k : Nat} (hk : k < m.2.2.val) (v : Int32) : rR (sv_eat c (78 + (c.2.2.1 k).val) v) (mo_eat m k v) := by
  have w := wS h hk (j := 4) (by decide) v
  unfold sv_eat mo_eat
  have e1 : c.1 (78 + (c.2.2.1 k).val) 1 = m.1 99 k := rdS h hk (by decide)
  have e2 : c.1 (78 + (c.2.2.1 k).val) 2 = m.1 100 k := rdS h hk (by decide)
  have e3 : c.1 (78 + (c.2.2.1 k).val) 3 = m.1 101 k := rdS h hk (by decide)
  rw [e1, e2, e3]
  split
  · exact rR_send w _
  · split
    · exact rR_send w _
    · exact w
theorem x_stl : ∀ (n : Nat) (c : mx_C) (m : mx_M) (k : Nat), rR c m → k ≤ m.2.2.val → m.2.2.val - k < n → iE m (1399 - (m.2.2.val : Int)) →
    rR (sv_runTimer_7 n c (Int32.ofNat k) (Int32.ofNat (m.2.2.val - k))) (mo_serverTimer_2 n m (Int32.ofNat k)) := by
  intro n
  induction n with
  | zero => intro c m k h h1 h2 hi; omega
  | succ n ih =>
    intro c m k h h1 h2 hi
    have hb : m.2.2.val < 5 := m.2.2.isLt
    by_cases hk : k < m.2.2.val
    · rw [mo_st_step n m hk, sv_runTimer_7, if_pos (by rw [i_lt, i_of _ (by omega), show (0 : Int32).toInt = 0 from rfl]; omega)]
      have e4 : c.1 (78 + (c.2.2.1 k).val) 4 = m.1 102 k := rdS h hk (by decide)
      have em1 : Int32.ofNat (m.2.2.val - k) + (-1) = Int32.ofNat (m.2.2.val - k - 1) := by
        rw [i_eq, i_add] <;> rw [i_of _ (by omega), show (-1 : Int32).toInt = -1 from rfl]
        · rw [i_of _ (by omega)]; omega
        · omega
        · omega
      rw [em1, show Int32.ofNat k + 1 = Int32.ofNat (k + 1) from of_add k 1]
      by_cases h12 : m.1 102 k + 1 = 12
      · rw [if_pos h12, sv_eat12 c (a := k) (by omega) (by rw [e4]; exact h12)]
        simp only [show ¬ (1 : Int32) = 0 by decide, if_false]
        have w := wS h hk (j := 4) (by decide) 12
        have b := iE_f hi (fun i h1 h2 => qi_row (show ¬ i = 102 by omega)) (m' := my_pi m 102 k 12)
        have g := x_endS w (iE_mono b (by omega)) (k := k) hk
        rw [show (my_pi m 102 k 12).1 99 k = m.1 99 k from qi_ne (by omega)] at g
        rw [h12]
        have gi := lgn_iE b (show 1399 - (m.2.2.val : Int) ≤ 1399 by omega) (k := k) hk (m.1 99 k)
        have es : (mo_say (mo_endSession (my_pi m 102 k 12) (Int32.ofNat k)) 1 15 (m.1 99 k) 0).2.2.val = m.2.2.val - 1 := by
          have hE : iEe (mo_endSession (my_pi m 102 k 12) (Int32.ofNat k)) 1 1399 := by
            rw [mo_endS_eq (my_pi m 102 k 12) (a := k) hk]
            exact (iE_f (iE_mono b (show 1399 - (m.2.2.val : Int) ≤ 1399 by omega)) (fun i h1 h2 => rm_o (by omega))).2
          have := say_s (e := 1) (by decide) hE 15 (m.1 99 k) 0
          have t2 : (mo_say (mo_endSession (my_pi m 102 k 12) (Int32.ofNat k)) 1 15 (m.1 99 k) 0).2.2 = (mo_endSession (my_pi m 102 k 12) (Int32.ofNat k)).2.2 := this
          rw [t2, mo_endS_eq (my_pi m 102 k 12) (a := k) hk]
          exact rm_cnt (m := my_pi m 102 k 12) hk
        have r := ih _ _ k g (by rw [es]; omega) (by rw [es]; omega) (by rw [es]; exact iE_mono gi (by omega))
        rw [es] at r
        rw [show m.2.2.val - k - 1 = m.2.2.val - 1 - k by omega]
        exact r
      · rw [if_neg h12, sv_eat_eq c (a := k) (by omega) (by rw [e4]; exact h12)]
        simp only [if_true]
        rw [e4]
        have g := x_eat h hk (m.1 102 k + 1)
        have r := ih _ _ (k + 1) g (by rw [eat_s]; omega) (by rw [eat_s]; omega) (by rw [eat_s]; exact iE_f hi (fun i h1 h2 => funext fun j => eat_o (by omega)))
        rw [eat_s] at r
        rw [show m.2.2.val - k - 1 = m.2.2.val - (k + 1) by omega]
        exact r
    · have hkk : k = m.2.2.val := by omega
      rw [sv_runTimer_7, mo_serverTimer_2, if_neg (by rw [i_lt, i_of _ (by omega), show (0 : Int32).toInt = 0 from rfl]; omega), if_neg (fun z => hk ((of_le (by omega) (by omega)).1 z))]
      have hi' := iE_mono hi (show 1399 - (m.2.2.val : Int) ≤ 1400 by omega)
      have hx := x_et h (e := 1) (by decide) hi'
      have hm := mo_endTimer_eq m (e := 1) (by decide) hi'.2
      by_cases hbk : mo_brk m 1
      · have g := hx.2 hbk
        have g1 : (en_breaksAtTimer c 74).2 = 1 := g.1
        have m1 : mo_endTimer m 1 = my_ps (mo_clear (my_pi m 112 1 (m.1 112 1 - 1)) 1 0) 0 := (hm.2 hbk).trans (if_neg (by decide))
        show rR (if (en_breaksAtTimer c 74).2 = 0 then _ else _) (mo_endTimer m 1)
        rw [if_neg (by rw [g1]; decide), m1]
        exact rR_cnt0 g.2
      · have g := hx.1 hbk
        have g1 : (en_breaksAtTimer c 74).2 = 0 := g.1
        have m1 : mo_endTimer m 1 = mo_et0 m 1 := hm.1 hbk
        show rR (if (en_breaksAtTimer c 74).2 = 0 then _ else _) (mo_endTimer m 1)
        rw [if_pos g1, m1]
        exact g.2
theorem x_svTimer {c : mx_C} {m : mx_M} (h : rR c m) (hi : iE m 1395) : rR (sv_runTimer c) (mo_serverTimer m) := by
  have hb : m.2.2.val < 5 := m.2.2.isLt
  have := x_stl 6 c m 0 h (by omega) (by omega) (iE_mono hi (by omega))
  unfold sv_runTimer
  rw [rd_cnt h]
  exact this
