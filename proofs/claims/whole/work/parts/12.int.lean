theorem rx_litT {α : Type} {c : Prop} [Decidable c] {a b r : α} (h : c) (h2 : a = r) : (if c then a else b) = r := (if_pos h).trans h2
theorem rx_litF {α : Type} {c : Prop} [Decidable c] {a b r : α} (h : ¬ c) (h2 : b = r) : (if c then a else b) = r := (if_neg h).trans h2
theorem rx_cc {cs0 : rx_C mx} {h : Nat} {f0 : rx_G} {Z : Nat → rx_G → Prop} (h1 : Z h f0) (h2 : ∀ pc f, rx_cut cs0 pc = some f → Z pc f) : ∀ pc f, rx_cut ((h, f0) :: cs0) pc = some f → Z pc f := by
  intro pc f hf
  rw [rx_cut] at hf
  cases hb : Nat.beq h pc with
  | false => rw [hb, cond_false] at hf; exact h2 pc f hf
  | true =>
    rw [hb, cond_true] at hf
    cases hf
    rw [← Nat.eq_of_beq_eq_true hb]
    exact h1
theorem rx_c0 {Z : Nat → rx_G → Prop} : ∀ pc f, rx_cut ([] : rx_C mx) pc = some f → Z pc f := fun _ _ h => by cases h
/-! numbers -/
theorem i_add {a b : Int32} (h1 : -2147483648 ≤ a.toInt + b.toInt) (h2 : a.toInt + b.toInt < 2147483648) : (a + b).toInt = a.toInt + b.toInt := by
  rw [Int32.toInt_add]
  exact Int.bmod_eq_of_le (by omega) (by omega)
theorem i_sub {a b : Int32} (h1 : -2147483648 ≤ a.toInt - b.toInt) (h2 : a.toInt - b.toInt < 2147483648) : (a - b).toInt = a.toInt - b.toInt := by
  rw [Int32.toInt_sub]
  exact Int.bmod_eq_of_le (by omega) (by omega)
theorem i_mul {a b : Int32} (h1 : -2147483648 ≤ a.toInt * b.toInt) (h2 : a.toInt * b.toInt < 2147483648) : (a * b).toInt = a.toInt * b.toInt := by
  rw [Int32.toInt_mul]
  exact Int.bmod_eq_of_le (by omega) (by omega)
theorem i_rng (a : Int32) : -2147483648 ≤ a.toInt ∧ a.toInt < 2147483648 := ⟨a.le_toInt, a.toInt_lt⟩
theorem i_cl (a : Int32) : (a.toNatClampNeg : Int) = if 0 ≤ a.toInt then a.toInt else 0 := by
  show ((a.toInt.toNat : Nat) : Int) = _
  split <;> omega
theorem i_of (n : Nat) (h : n < 2147483648) : (Int32.ofNat n).toInt = (n : Int) := Int32.toInt_ofNat_of_lt (by omega)
theorem i_lt {a b : Int32} : a < b ↔ a.toInt < b.toInt := Int32.lt_iff_toInt_lt
theorem i_le {a b : Int32} : a ≤ b ↔ a.toInt ≤ b.toInt := Int32.le_iff_toInt_le
theorem i_eq {a b : Int32} : a = b ↔ a.toInt = b.toInt := Int32.toInt_inj.symm
theorem i_in {j : Int32} {n : Nat} : vp_in j n ↔ 0 ≤ j.toInt ∧ j.toInt < (n : Int) := by
  unfold vp_in
  rw [i_lt, Int32.toInt_zero]
  have := i_cl j
  split at this <;> omega
theorem i_inN {n k : Nat} (h : n < k) (hk : k < 2147483648) : vp_in (Int32.ofNat n) k := by
  rw [i_in, i_of n (by omega)]
  omega
