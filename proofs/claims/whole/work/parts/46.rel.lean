/-! what is sent, on both sides -/
def pk9 (a b c d e f g h i : Int32) : Nat → Int32
  | 0 => a | 1 => b | 2 => c | 3 => d | 4 => e | 5 => f | 6 => g | 7 => h | 8 => i | _ => 0
def mc_wr (h : Nat → Nat → Int32) (i : Nat) (p : Nat → Int32) : Nat → Nat → Int32 := fun a b => if a = i ∧ b < 9 then p b else h a b
def mc_cell (c : mx_C) : Nat := if c.2.2.2.1.val < 40 then 4 + (c.2.1 c.2.2.2.1.val).val else 3
def mc_send (c : mx_C) (p : Nat → Int32) : mx_C :=
  (mc_wr c.1 (mc_cell c) p, c.2.1, c.2.2.1, Fin.ofNat 41 (if c.2.2.2.1.val < 40 then c.2.2.2.1.val + 1 else c.2.2.2.1.val), c.2.2.2.2)
def my_wr (h : Nat → Nat → Int32) (k : Nat) (p : Nat → Int32) : Nat → Nat → Int32 := fun a b => if a = 85 ∧ 9 * k ≤ b ∧ b < 9 * k + 9 then p (b - 9 * k) else h a b
def my_send (m : mx_M) (p : Nat → Int32) : mx_M :=
  if m.2.1.val < 40 then (my_wr m.1 m.2.1.val p, Fin.ofNat 41 (m.2.1.val + 1), m.2.2) else m
theorem mx_up_if (h : Nat → Nat → Int32) (i k : Nat) (v : Int32) (a b : Nat) : mx_up h i k v a b = if a = i ∧ b = k then v else h a b := by
  by_cases h1 : a = i ∧ b = k
  · rw [if_pos h1, h1.1, h1.2, mx_up_eq]
  · rw [if_neg h1, mx_up_ne h v h1]
theorem of_cl (n : Nat) (h : n < 2147483648) : (Int32.ofNat n).toNatClampNeg = n := by
  have := i_cl (Int32.ofNat n)
  rw [i_of n h] at this
  split at this <;> omega
theorem of_lt (n : Nat) (h : n < 2147483648) (k : Nat) (hk : k < 2147483648) : (Int32.ofNat n < Int32.ofNat k) ↔ n < k := by
  rw [i_lt, i_of n h, i_of k hk]; omega
theorem of_add (n k : Nat) : Int32.ofNat n + Int32.ofNat k = Int32.ofNat (n + k) := by
  exact (Int32.ofNat_add n k).symm
theorem lt40 (c : mx_C) : (Int32.ofNat c.2.2.2.1.val < 40) ↔ c.2.2.2.1.val < 40 := of_lt _ (by omega) 40 (by omega)
theorem fl_launch_eq (c : mx_C) (a b d : Int32) : fl_launch c a b d = (mc_send c (pk9 a b d 0 0 0 0 0 0), mc_cell c) := by
  unfold fl_launch mc_send mc_cell
  have hb : c.2.2.2.1.val < 41 := c.2.2.2.1.isLt
  by_cases h : c.2.2.2.1.val < 40
  · have h' := (lt40 c).2 h
    rw [if_pos h', if_pos h, if_pos h, of_cl _ (by omega)]
    refine Prod.ext ?_ rfl
    refine Prod.ext ?_ ?_
    · funext x y
      simp only [mx_pi, mx_pf, mx_up_if, mc_wr]
      by_cases hx : x = 4 + (c.2.1 c.2.2.2.1.val).val
      · simp only [hx, true_and]
        by_cases hy : y < 9
        · rw [if_pos hy]
          match y, hy with
          | 0, _ => rfl
          | 1, _ => rfl
          | 2, _ => rfl
          | 3, _ => rfl
          | 4, _ => rfl
          | 5, _ => rfl
          | 6, _ => rfl
          | 7, _ => rfl
          | 8, _ => rfl
        · rw [if_neg hy]
          repeat rw [if_neg (by omega)]
      · simp only [hx, false_and, if_false]
    · simp only [mx_pi, mx_pf]
      rw [show (1 : Int32) = Int32.ofNat 1 from rfl, of_add, of_cl _ (by omega)]
  · have h' := fun q => h ((lt40 c).1 q)
    rw [if_neg h', if_neg h, if_neg h]
    refine Prod.ext ?_ rfl
    refine Prod.ext ?_ ?_
    · funext x y
      simp only [mx_pi, mx_pf, mx_up_if, mc_wr]
      by_cases hx : x = 3
      · simp only [hx, true_and]
        by_cases hy : y < 9
        · rw [if_pos hy]
          match y, hy with
          | 0, _ => rfl
          | 1, _ => rfl
          | 2, _ => rfl
          | 3, _ => rfl
          | 4, _ => rfl
          | 5, _ => rfl
          | 6, _ => rfl
          | 7, _ => rfl
          | 8, _ => rfl
        · rw [if_neg hy]
          repeat rw [if_neg (by omega)]
      · simp only [hx, false_and, if_false]
    · simp only [mx_pi, mx_pf]
      have : c.2.2.2.1 = Fin.ofNat 41 c.2.2.2.1.val := by
        apply Fin.ext
        simp [Fin.ofNat, Nat.mod_eq_of_lt hb]
      rw [← this]
theorem mc_wr3 (h : Nat → Nat → Int32) (i : Nat) (p q : Nat → Int32) (x y : Nat) (hq : ∀ b, b < 9 → q b = p b) : mc_wr h i p x y = mc_wr h i q x y := by
  unfold mc_wr
  split
  · rename_i g; rw [hq y g.2]
  · rfl
theorem pk_bear_eq (c : mx_C) (a b d e f g x y z a1 a2 a3 : Int32) : pk_bear (mc_send c (pk9 a b d e f g x y z)) (mc_cell c) a1 a2 a3 = mc_send c (pk9 a b d a1 a2 a3 x y z) := by
  refine Prod.ext ?_ rfl
  funext u v
  simp only [pk_bear, mx_pi, mx_up_if, mc_send, mc_wr]
  by_cases hx : u = mc_cell c
  · simp only [hx, true_and]
    by_cases hy : v < 9
    · rw [if_pos hy]
      match v, hy with
      | 0, _ => rfl
      | 1, _ => rfl
      | 2, _ => rfl
      | 3, _ => rfl
      | 4, _ => rfl
      | 5, _ => rfl
      | 6, _ => rfl
      | 7, _ => rfl
      | 8, _ => rfl
    · rw [if_neg hy]
      repeat rw [if_neg (by omega)]
  · simp only [hx, false_and, if_false]
theorem pk_number_eq (c : mx_C) (a b d e f g x y z a1 a2 a3 : Int32) : pk_number (mc_send c (pk9 a b d e f g x y z)) (mc_cell c) a1 a2 a3 = mc_send c (pk9 a b d e f g a1 a2 a3) := by
  refine Prod.ext ?_ rfl
  funext u v
  simp only [pk_number, mx_pi, mx_up_if, mc_send, mc_wr]
  by_cases hx : u = mc_cell c
  · simp only [hx, true_and]
    by_cases hy : v < 9
    · rw [if_pos hy]
      match v, hy with
      | 0, _ => rfl
      | 1, _ => rfl
      | 2, _ => rfl
      | 3, _ => rfl
      | 4, _ => rfl
      | 5, _ => rfl
      | 6, _ => rfl
      | 7, _ => rfl
      | 8, _ => rfl
    · rw [if_neg hy]
      repeat rw [if_neg (by omega)]
  · simp only [hx, false_and, if_false]
theorem mc_cell_lt (c : mx_C) : 3 ≤ mc_cell c ∧ mc_cell c < 45 := by
  unfold mc_cell
  have := (c.2.1 c.2.2.2.1.val).isLt
  split <;> omega
theorem mc_send_o (c : mx_C) (p : Nat → Int32) {i : Nat} (h : 45 ≤ i) : (mc_send c p).1 i = c.1 i := by
  funext b
  have := mc_cell_lt c
  show mc_wr _ _ _ _ _ = _
  unfold mc_wr
  rw [if_neg (by omega)]
theorem mc_send_pi (c : mx_C) (p : Nat → Int32) {i k : Nat} {v : Int32} (h : 45 ≤ i) : mc_send (mx_pi c i k v) p = mx_pi (mc_send c p) i k v := by
  refine Prod.ext ?_ rfl
  funext a b
  have := mc_cell_lt c
  show mc_wr (mx_up c.1 i k v) (mc_cell c) p a b = mx_up (mc_wr c.1 (mc_cell c) p) i k v a b
  unfold mc_wr
  simp only [mx_up_if]
  split
  · rw [if_neg (by omega)]
  · rfl
/-! the reference's side -/
theorem mlt40 (m : mx_M) : (Int32.ofNat m.2.1.val < 40) ↔ m.2.1.val < 40 := of_lt _ (by omega) 40 (by omega)
theorem of_mul (n k : Nat) : Int32.ofNat n * Int32.ofNat k = Int32.ofNat (n * k) := (Int32.ofNat_mul n k).symm
theorem mo_fill_eq (m : mx_M) (k : Nat) (hk : k < 40) (a b c d e f : Int32) : mo_fill m (Int32.ofNat (9 * k)) a b c d e f = (my_wr m.1 k (pk9 a b c d e f 0 0 0), m.2) := by
  have h (j : Nat) (hj : j < 9) : (Int32.ofNat (9 * k) + Int32.ofNat j).toNatClampNeg = 9 * k + j := by
    rw [of_add, of_cl _ (by omega)]
  unfold mo_fill
  simp only [mo_fill_60]
  rw [if_pos (by decide), if_pos (by decide), if_pos (by decide), if_neg (by decide)]
  refine Prod.ext ?_ rfl
  funext u v
  have e0 : (Int32.ofNat (9 * k)).toNatClampNeg = 9 * k := of_cl _ (by omega)
  have e1 := h 1 (by omega)
  have e2 := h 2 (by omega)
  have e3 := h 3 (by omega)
  have e4 := h 4 (by omega)
  have e5 := h 5 (by omega)
  have e6 := h 6 (by omega)
  have e7 := h 7 (by omega)
  have e8 := h 8 (by omega)
  simp only [my_pi, mx_up_if, my_wr]
  rw [show (6 : Int32) + 1 + 1 = Int32.ofNat 8 from rfl, show (6 : Int32) + 1 = Int32.ofNat 7 from rfl, show (6 : Int32) = Int32.ofNat 6 from rfl, show (5 : Int32) = Int32.ofNat 5 from rfl, show (4 : Int32) = Int32.ofNat 4 from rfl, show (3 : Int32) = Int32.ofNat 3 from rfl, show (2 : Int32) = Int32.ofNat 2 from rfl, show (1 : Int32) = Int32.ofNat 1 from rfl, e0, e1, e2, e3, e4, e5, e6, e7, e8]
  by_cases hx : u = 85
  · simp only [hx, true_and]
    by_cases hy : 9 * k ≤ v ∧ v < 9 * k + 9
    · rw [if_pos hy]
      obtain ⟨j, rfl⟩ : ∃ j, v = 9 * k + j := ⟨v - 9 * k, by omega⟩
      have hj : j < 9 := by omega
      rw [show 9 * k + j - 9 * k = j by omega]
      match j, hj with
      | 0, _ => simp [pk9]
      | 1, _ => simp [pk9]
      | 2, _ => simp [pk9]
      | 3, _ => simp [pk9]
      | 4, _ => simp [pk9]
      | 5, _ => simp [pk9]
      | 6, _ => simp [pk9]
      | 7, _ => simp [pk9]
      | 8, _ => simp [pk9]
    · rw [if_neg hy]
      repeat rw [if_neg (by omega)]
  · simp only [hx, false_and, if_false]
theorem mul9 (m : mx_M) : 9 * Int32.ofNat m.2.1.val = Int32.ofNat (9 * m.2.1.val) := by
  rw [show (9 : Int32) = Int32.ofNat 9 from rfl, of_mul]
theorem mo_sendOff_eq (m : mx_M) (a b c d e f : Int32) : mo_sendOff m a b c d e f = my_send m (pk9 a b c d e f 0 0 0) := by
  unfold mo_sendOff my_send
  by_cases h : m.2.1.val < 40
  · rw [if_pos ((mlt40 m).2 h), if_pos h, mul9, mo_fill_eq m _ h]
    refine Prod.ext rfl ?_
    simp only [my_pf]
    rw [show (1 : Int32) = Int32.ofNat 1 from rfl, of_add, of_cl _ (by omega)]
  · rw [if_neg (fun q => h ((mlt40 m).1 q)), if_neg h]
theorem my_fin (m : mx_M) (h : Nat → Nat → Int32) (k : Nat) (hk : k < 40) (a b c d e f x y z : Int32) :
    my_pi (my_pi (my_pi (my_wr h k (pk9 a b c d e f 0 0 0), m.2) 85 (9 * k + 6) x) 85 (9 * k + 7) y) 85 (9 * k + 8) z = (my_wr h k (pk9 a b c d e f x y z), m.2) := by
  refine Prod.ext ?_ rfl
  funext u v
  simp only [my_pi, mx_up_if, my_wr]
  by_cases hx : u = 85
  · simp only [hx, true_and]
    by_cases hy : 9 * k ≤ v ∧ v < 9 * k + 9
    · obtain ⟨j, rfl⟩ : ∃ j, v = 9 * k + j := ⟨v - 9 * k, by omega⟩
      have hj : j < 9 := by omega
      rw [if_pos hy, show 9 * k + j - 9 * k = j by omega]
      match j, hj with
      | 0, _ => simp [pk9]
      | 1, _ => simp [pk9]
      | 2, _ => simp [pk9]
      | 3, _ => simp [pk9]
      | 4, _ => simp [pk9]
      | 5, _ => simp [pk9]
      | 6, _ => simp [pk9]
      | 7, _ => simp [pk9]
      | 8, _ => simp [pk9]
    · rw [if_neg hy]
      repeat rw [if_neg (by omega)]
  · simp only [hx, false_and, if_false]
/-- what an end sends: n < 0 is an ACK -/
def mo_pk (m : mx_M) (e : Nat) (n : Int32) : Nat → Int32 :=
  if n < 0 then pk9 17 (Int32.ofNat (4 + e)) (Int32.ofNat (5 - e)) 0 0 0 (m.1 106 e) 0 (m.1 110 e)
  else pk9 (m.1 113 (1400 * e + n.toNatClampNeg)) (Int32.ofNat (4 + e)) (Int32.ofNat (5 - e)) (m.1 114 (1400 * e + n.toNatClampNeg)) (m.1 115 (1400 * e + n.toNatClampNeg)) 0 (m.1 106 e) n (m.1 110 e)
theorem mo_at_eq (e : Nat) (he : e < 2) (n : Int32) (h0 : ¬ n < 0) (hn : n.toInt < 1400) : (1400 * Int32.ofNat e + n).toNatClampNeg = 1400 * e + n.toNatClampNeg := by
  rw [i_lt] at h0
  have h1 : n = Int32.ofNat n.toNatClampNeg := by
    rw [i_eq]
    have := i_cl n
    rw [i_of _ (by split at this <;> omega)]
    split at this
    · omega
    · rw [Int32.toInt_zero] at h0; omega
  have h2 := i_cl n
  rw [h1, show (1400 : Int32) = Int32.ofNat 1400 from rfl, of_mul, of_add, of_cl _ (by split at h2 <;> omega), of_cl _ (by split at h2 <;> omega)]
theorem mo_transmit_eq (m : mx_M) (e : Nat) (he : e < 2) (n : Int32) (hn : n.toInt < 1400) : mo_transmit m (Int32.ofNat e) n = my_send m (mo_pk m e n) := by
  unfold mo_transmit my_send
  by_cases h : m.2.1.val < 40
  · rw [if_pos ((mlt40 m).2 h), if_pos h]
    have hof (k : Nat) (hk : k < 9) : (9 * Int32.ofNat m.2.1.val + Int32.ofNat k).toNatClampNeg = 9 * m.2.1.val + k := by
      rw [mul9, of_add, of_cl _ (by omega)]
    have e1 : (1 : Int32) = Int32.ofNat 1 := rfl
    have e6 := hof 6 (by omega)
    have e7 := hof 7 (by omega)
    have e8 := hof 8 (by omega)
    have ee : (Int32.ofNat e).toNatClampNeg = e := of_cl e (by omega)
    have hw (p : Nat → Int32) (i : Nat) (hi : ¬ i = 85) : my_wr m.1 m.2.1.val p i = m.1 i := by
      funext b
      unfold my_wr
      rw [if_neg (by omega)]
    by_cases hneg : n < 0
    · have hP : mo_pk m e n = pk9 17 (Int32.ofNat (4 + e)) (Int32.ofNat (5 - e)) 0 0 0 (m.1 106 e) 0 (m.1 110 e) := if_pos hneg
      rw [hP]
      have hcase : e = 0 ∨ e = 1 := by omega
      rcases hcase with rfl | rfl
      · rw [if_pos (by decide), if_pos hneg, if_pos hneg]
        have hf : mo_fill m (9 * Int32.ofNat m.2.1.val) 17 4 5 0 0 0 = (my_wr m.1 m.2.1.val (pk9 17 4 5 0 0 0 0 0 0), m.2) := by rw [mul9, mo_fill_eq m _ h]
        simp only [hf, show ∀ q i k v, (my_pi q i k v).2 = q.2 from fun _ _ _ _ => rfl]
        rw [show (6 : Int32) = Int32.ofNat 6 from rfl, show (7 : Int32) = Int32.ofNat 7 from rfl, show (8 : Int32) = Int32.ofNat 8 from rfl, e6, e7, e8]
        have := my_fin m m.1 m.2.1.val h 17 4 5 0 0 0 (m.1 106 0) 0 (m.1 110 0)
        have g1 : (my_wr m.1 m.2.1.val (pk9 17 4 5 0 0 0 0 0 0)) 106 = m.1 106 := hw _ _ (by decide)
        have g2 (x y : Int32) (i j : Nat) : (my_pi (my_pi (my_wr m.1 m.2.1.val (pk9 17 4 5 0 0 0 0 0 0), m.2) 85 i x) 85 j y).1 110 = m.1 110 := by
          funext b
          simp only [my_pi, mx_up_if, my_wr]
          simp
        simp only [g1, g2, ee] at *
        rw [this]
        refine Prod.ext rfl ?_
        simp only [my_pf]
        rw [e1, of_add, of_cl _ (by omega)]
      · rw [if_neg (by decide), if_pos hneg, if_pos hneg]
        have hf : mo_fill m (9 * Int32.ofNat m.2.1.val) 17 5 4 0 0 0 = (my_wr m.1 m.2.1.val (pk9 17 5 4 0 0 0 0 0 0), m.2) := by rw [mul9, mo_fill_eq m _ h]
        simp only [hf, show ∀ q i k v, (my_pi q i k v).2 = q.2 from fun _ _ _ _ => rfl]
        rw [show (6 : Int32) = Int32.ofNat 6 from rfl, show (7 : Int32) = Int32.ofNat 7 from rfl, show (8 : Int32) = Int32.ofNat 8 from rfl, e6, e7, e8]
        have := my_fin m m.1 m.2.1.val h 17 5 4 0 0 0 (m.1 106 1) 0 (m.1 110 1)
        have g1 : (my_wr m.1 m.2.1.val (pk9 17 5 4 0 0 0 0 0 0)) 106 = m.1 106 := hw _ _ (by decide)
        have g2 (x y : Int32) (i j : Nat) : (my_pi (my_pi (my_wr m.1 m.2.1.val (pk9 17 5 4 0 0 0 0 0 0), m.2) 85 i x) 85 j y).1 110 = m.1 110 := by
          funext b
          simp only [my_pi, mx_up_if, my_wr]
          simp
        simp only [g1, g2, ee] at *
        rw [this]
        refine Prod.ext rfl ?_
        simp only [my_pf]
        rw [e1, of_add, of_cl _ (by omega)]
    · have hP : mo_pk m e n = pk9 (m.1 113 (1400 * e + n.toNatClampNeg)) (Int32.ofNat (4 + e)) (Int32.ofNat (5 - e)) (m.1 114 (1400 * e + n.toNatClampNeg)) (m.1 115 (1400 * e + n.toNatClampNeg)) 0 (m.1 106 e) n (m.1 110 e) := if_neg hneg
      rw [hP]
      have hat := mo_at_eq e he n hneg hn
      have hcase : e = 0 ∨ e = 1 := by omega
      rcases hcase with rfl | rfl
      · rw [if_pos (by decide), if_neg hneg, if_neg hneg, hat]
        have hf (a b c : Int32) : mo_fill m (9 * Int32.ofNat m.2.1.val) a 4 5 b c 0 = (my_wr m.1 m.2.1.val (pk9 a 4 5 b c 0 0 0 0), m.2) := by rw [mul9, mo_fill_eq m _ h]
        simp only [hf, show ∀ q i k v, (my_pi q i k v).2 = q.2 from fun _ _ _ _ => rfl]
        rw [show (6 : Int32) = Int32.ofNat 6 from rfl, show (7 : Int32) = Int32.ofNat 7 from rfl, show (8 : Int32) = Int32.ofNat 8 from rfl, e6, e7, e8]
        have := my_fin m m.1 m.2.1.val h (m.1 113 (1400 * 0 + n.toNatClampNeg)) 4 5 (m.1 114 (1400 * 0 + n.toNatClampNeg)) (m.1 115 (1400 * 0 + n.toNatClampNeg)) 0 (m.1 106 0) n (m.1 110 0)
        have g1 (p : Nat → Int32) : (my_wr m.1 m.2.1.val p) 106 = m.1 106 := hw _ _ (by decide)
        have g2 (p : Nat → Int32) (x y : Int32) (i j : Nat) : (my_pi (my_pi (my_wr m.1 m.2.1.val p, m.2) 85 i x) 85 j y).1 110 = m.1 110 := by
          funext b
          simp only [my_pi, mx_up_if, my_wr]
          simp
        simp only [g1, g2, ee] at *
        rw [this]
        refine Prod.ext rfl ?_
        simp only [my_pf]
        rw [e1, of_add, of_cl _ (by omega)]
      · rw [if_neg (by decide), if_neg hneg, if_neg hneg, hat]
        have hf (a b c : Int32) : mo_fill m (9 * Int32.ofNat m.2.1.val) a 5 4 b c 0 = (my_wr m.1 m.2.1.val (pk9 a 5 4 b c 0 0 0 0), m.2) := by rw [mul9, mo_fill_eq m _ h]
        simp only [hf, show ∀ q i k v, (my_pi q i k v).2 = q.2 from fun _ _ _ _ => rfl]
        rw [show (6 : Int32) = Int32.ofNat 6 from rfl, show (7 : Int32) = Int32.ofNat 7 from rfl, show (8 : Int32) = Int32.ofNat 8 from rfl, e6, e7, e8]
        have := my_fin m m.1 m.2.1.val h (m.1 113 (1400 * 1 + n.toNatClampNeg)) 5 4 (m.1 114 (1400 * 1 + n.toNatClampNeg)) (m.1 115 (1400 * 1 + n.toNatClampNeg)) 0 (m.1 106 1) n (m.1 110 1)
        have g1 (p : Nat → Int32) : (my_wr m.1 m.2.1.val p) 106 = m.1 106 := hw _ _ (by decide)
        have g2 (p : Nat → Int32) (x y : Int32) (i j : Nat) : (my_pi (my_pi (my_wr m.1 m.2.1.val p, m.2) 85 i x) 85 j y).1 110 = m.1 110 := by
          funext b
          simp only [my_pi, mx_up_if, my_wr]
          simp
        simp only [g1, g2, ee] at *
        rw [this]
        refine Prod.ext rfl ?_
        simp only [my_pf]
        rw [e1, of_add, of_cl _ (by omega)]
  · rw [if_neg (fun q => h ((mlt40 m).1 q)), if_neg h]
theorem my_send_o (m : mx_M) (p : Nat → Int32) {i : Nat} (h : ¬ i = 85) : (my_send m p).1 i = m.1 i := by
  unfold my_send
  split
  · funext b
    show my_wr _ _ _ _ _ = _
    unfold my_wr
    rw [if_neg (by omega)]
  · rfl
theorem my_send_s (m : mx_M) (p : Nat → Int32) : (my_send m p).2.2 = m.2.2 := by
  unfold my_send
  split <;> rfl
theorem my_send_pi (m : mx_M) (p : Nat → Int32) {i k : Nat} {v : Int32} (h : ¬ i = 85) : my_send (my_pi m i k v) p = my_pi (my_send m p) i k v := by
  unfold my_send
  have e : (my_pi m i k v).2 = m.2 := rfl
  rw [e]
  split
  · refine Prod.ext ?_ rfl
    funext a b
    show my_wr (mx_up m.1 i k v) _ p a b = mx_up (my_wr m.1 _ p) i k v a b
    unfold my_wr
    simp only [mx_up_if]
    split
    · rw [if_neg (by omega)]
    · rfl
  · rfl
/-! the relation -/
def fp (m : mx_M) (k f : Nat) : Int32 := m.1 85 (9 * k + f)
/-- cells that are written alike at any time -/
def tbW : List ((Nat × Nat) × (Nat × Nat)) :=
  [((47, 4), (86, 0)), ((50, 4), (86, 1)), ((53, 4), (86, 2)), ((56, 4), (86, 3)),
   ((47, 5), (90, 0)), ((50, 5), (90, 1)), ((53, 5), (90, 2)), ((56, 5), (90, 3)),
   ((47, 6), (87, 0)), ((50, 6), (87, 1)), ((53, 6), (87, 2)), ((56, 6), (87, 3)),
   ((47, 7), (88, 0)), ((50, 7), (88, 1)), ((53, 7), (88, 2)), ((56, 7), (88, 3)),
   ((47, 8), (89, 0)), ((50, 8), (89, 1)), ((53, 8), (89, 2)), ((56, 8), (89, 3)),
   ((47, 9), (92, 0)), ((50, 9), (92, 1)), ((53, 9), (92, 2)), ((56, 9), (92, 3)),
   ((47, 10), (91, 0)), ((50, 10), (91, 1)), ((53, 10), (91, 2)), ((56, 10), (91, 3)),
   ((47, 11), (93, 0)), ((50, 11), (93, 1)), ((53, 11), (93, 2)), ((56, 11), (93, 3)),
   ((60, 0), (96, 0)), ((60, 1), (96, 1)), ((60, 2), (96, 2)), ((60, 3), (96, 3)),
   ((61, 0), (97, 0)), ((61, 1), (97, 1)), ((61, 2), (97, 2)), ((61, 3), (97, 3)),
   ((68, 0), (83, 0)), ((68, 1), (83, 1)), ((68, 2), (83, 2)), ((68, 3), (83, 3)),
   ((69, 0), (84, 0)), ((69, 1), (84, 1)), ((69, 2), (84, 2)), ((69, 3), (84, 3)),
   ((59, 0), (105, 0)), ((66, 0), (105, 1)), ((59, 5), (82, 17)), ((59, 6), (82, 28)), ((59, 7), (82, 30)),
   ((66, 3), (82, 0)), ((66, 10), (82, 25)), ((66, 11), (82, 29)),
   ((62, 3), (106, 0)), ((62, 4), (110, 0)), ((74, 3), (106, 1)), ((74, 4), (110, 1))]
/-- cells that are written alike, but other parts hang on them -/
def tbX : List ((Nat × Nat) × (Nat × Nat)) :=
  [((48, 1), (94, 0)), ((51, 1), (94, 1)), ((54, 1), (94, 2)), ((57, 1), (94, 3)), ((70, 1), (82, 24)),
   ((62, 7), (107, 0)), ((62, 8), (109, 0)), ((74, 7), (107, 1)), ((74, 8), (109, 1))]
def tb4 : List ((Nat × Nat) × (Nat × Nat)) := tbX ++ tbW
def rF (c : mx_C) (m : mx_M) : Prop := c.2.2.2.1.val = m.2.1.val ∧ (∀ k f : Nat, k < m.2.1.val → f < 9 → c.1 (4 + (c.2.1 k).val) f = fp m k f) ∧ (∀ i j : Nat, i ≤ 40 → j ≤ 40 → c.2.1 i = c.2.1 j → i = j)
def rT (c : mx_C) (m : mx_M) : Prop := ∀ q, q ∈ tb4 → c.1 q.1.1 q.1.2 = m.1 q.2.1 q.2.2
def rS (c : mx_C) (m : mx_M) : Prop := c.2.2.2.2.val = m.2.2.val ∧ (∀ k j : Nat, k < m.2.2.val → j < 5 → c.1 (78 + (c.2.2.1 k).val) j = m.1 (98 + j) k) ∧ (∀ i j : Nat, i < 4 → j < 4 → c.2.2.1 i = c.2.2.1 j → i = j)
/-- a row of the latest words against a ring of n places from cell a, place b on -/
def rHh (row : Nat → Int32) (ring : Nat → Int32) (n : Nat) (w : Int32) : Prop := ∀ k : Nat, k < n → row k = if (k : Int) < w.toInt then ring ((w.toInt.toNat - 1 - k) % n) else 0
def rH (c : mx_C) (m : mx_M) : Prop := (∀ s : Nat, s < 4 → rHh (c.1 (49 + 3 * s)) (fun k => m.1 95 (4 * s + k)) 4 (m.1 94 s)) ∧ rHh (c.1 71) (m.1 103) 8 (m.1 82 24) ∧ rHh (c.1 73) (m.1 104) 8 (m.1 82 24)
def rEe (h : Nat → Nat → Int32) (g : Nat → Nat → Int32) (t e : Nat) : Prop :=
  (¬ g 109 e = g 107 e → h t 5 = g 111 e ∧ h t 6 = g 112 e) ∧
  (∀ n : Nat, (n : Int) < (g 109 e).toInt → h (t + 1) n = g 113 (1400 * e + n) ∧ h (t + 2) n = g 114 (1400 * e + n) ∧ h (t + 3) n = g 115 (1400 * e + n))
def rE (c : mx_C) (m : mx_M) : Prop := rEe c.1 m.1 62 0 ∧ rEe c.1 m.1 74 1
def rK (c : mx_C) : Prop := (∀ s : Nat, s < 4 → c.1 (47 + 3 * s) 0 = 0 ∧ c.1 (47 + 3 * s) 1 = Int32.ofNat s) ∧ c.1 62 0 = 4 ∧ c.1 62 1 = 5 ∧ c.1 74 0 = 5 ∧ c.1 74 1 = 4
def rR (c : mx_C) (m : mx_M) : Prop := rF c m ∧ rT c m ∧ rS c m ∧ rH c m ∧ rE c m ∧ rK c
theorem pi_ne {c : mx_C} {i k : Nat} {v : Int32} {a b : Nat} (h : ¬ (a = i ∧ b = k)) : (mx_pi c i k v).1 a b = c.1 a b := mx_up_ne _ _ h
theorem pi_eq {c : mx_C} {i k : Nat} {v : Int32} : (mx_pi c i k v).1 i k = v := mx_up_eq _ _ _ _
theorem pi_row {c : mx_C} {i k : Nat} {v : Int32} {a : Nat} (h : ¬ a = i) : (mx_pi c i k v).1 a = c.1 a := mx_up_row _ _ _ _ h
theorem qi_ne {c : mx_M} {i k : Nat} {v : Int32} {a b : Nat} (h : ¬ (a = i ∧ b = k)) : (my_pi c i k v).1 a b = c.1 a b := mx_up_ne _ _ h
theorem qi_eq {c : mx_M} {i k : Nat} {v : Int32} : (my_pi c i k v).1 i k = v := mx_up_eq _ _ _ _
theorem qi_row {c : mx_M} {i k : Nat} {v : Int32} {a : Nat} (h : ¬ a = i) : (my_pi c i k v).1 a = c.1 a := mx_up_row _ _ _ _ h
theorem fp_pi {m : mx_M} {i k : Nat} {v : Int32} {a b : Nat} (h : ¬ i = 85) : fp (my_pi m i k v) a b = fp m a b := qi_ne (fun q => h q.1.symm)
theorem tb4_inj : ∀ q ∈ tb4, ∀ r ∈ tb4, (q.1 = r.1 ↔ q.2 = r.2) := by decide +kernel
theorem tb4_rng : ∀ q ∈ tb4, 47 ≤ q.1.1 ∧ q.1.1 < 78 ∧ 82 ≤ q.2.1 ∧ q.2.1 < 111 ∧ ¬ q.2.1 = 85 ∧ ¬ (98 ≤ q.2.1 ∧ q.2.1 < 105) := by decide +kernel
theorem tbW_mem {q : (Nat × Nat) × (Nat × Nat)} (h : q ∈ tbW) : q ∈ tb4 := List.mem_append_right _ h
theorem tbX_mem {q : (Nat × Nat) × (Nat × Nat)} (h : q ∈ tbX) : q ∈ tb4 := List.mem_append_left _ h
theorem rT_w {c : mx_C} {m : mx_M} (h : rT c m) {q : (Nat × Nat) × (Nat × Nat)} (hq : q ∈ tb4) (v : Int32) : rT (mx_pi c q.1.1 q.1.2 v) (my_pi m q.2.1 q.2.2 v) := by
  intro r hr
  by_cases he : r.1 = q.1
  · have he2 := (tb4_inj r hr q hq).1 he
    rw [he, he2, pi_eq, qi_eq]
  · have he2 : ¬ r.2 = q.2 := fun z => he ((tb4_inj r hr q hq).2 z)
    rw [pi_ne (fun z => he (Prod.ext z.1 z.2)), qi_ne (fun z => he2 (Prod.ext z.1 z.2))]
    exact h r hr
theorem rT_c {c : mx_C} {m : mx_M} (h : rT c m) {i k : Nat} (v : Int32) (hn : ∀ q ∈ tb4, ¬ q.1 = (i, k)) : rT (mx_pi c i k v) m := by
  intro r hr
  rw [pi_ne (fun z => hn r hr (Prod.ext z.1 z.2))]
  exact h r hr
theorem rT_m {c : mx_C} {m : mx_M} (h : rT c m) {i k : Nat} (v : Int32) (hn : ∀ q ∈ tb4, ¬ q.2 = (i, k)) : rT c (my_pi m i k v) := by
  intro r hr
  rw [qi_ne (fun z => hn r hr (Prod.ext z.1 z.2))]
  exact h r hr
theorem rF_pi {c : mx_C} {m : mx_M} (h : rF c m) {i k i' k' : Nat} {v v' : Int32} (hi : 45 ≤ i) (hi' : ¬ i' = 85) : rF (mx_pi c i k v) (my_pi m i' k' v') := by
  refine ⟨h.1, fun a b ha hb => ?_, h.2.2⟩
  have := (c.2.1 a).isLt
  rw [fp_pi hi', pi_ne (by intro z; have := z.1; show False; have e : (mx_pi c i k v).2.1 a = c.2.1 a := rfl; omega)]
  exact h.2.1 a b ha hb
theorem rS_pi {c : mx_C} {m : mx_M} (h : rS c m) {i k i' k' : Nat} {v v' : Int32} (hi : i < 78) (hi' : ¬ (98 ≤ i' ∧ i' < 103)) : rS (mx_pi c i k v) (my_pi m i' k' v') := by
  refine ⟨h.1, fun a b ha hb => ?_, h.2.2⟩
  rw [pi_ne (by intro z; have := z.1; show False; have e : (mx_pi c i k v).2.2.1 a = c.2.2.1 a := rfl; omega), qi_ne (by omega)]
  exact h.2.1 a b ha hb
theorem rH_pi {c : mx_C} {m : mx_M} (h : rH c m) {i k i' k' : Nat} {v v' : Int32} (hi : ¬ (i = 49 ∨ i = 52 ∨ i = 55 ∨ i = 58 ∨ i = 71 ∨ i = 73)) (hi' : ¬ (i' = 95 ∨ i' = 94 ∨ i' = 103 ∨ i' = 104 ∨ (i' = 82 ∧ k' = 24))) : rH (mx_pi c i k v) (my_pi m i' k' v') := by
  refine ⟨fun s hs => ?_, ?_, ?_⟩
  · rw [pi_row (show ¬ 49 + 3 * s = i by omega), qi_row (show ¬ 95 = i' by omega), qi_row (show ¬ 94 = i' by omega)]
    exact h.1 s hs
  · rw [pi_row (show ¬ 71 = i by omega), qi_row (show ¬ 103 = i' by omega), qi_ne (show ¬ (82 = i' ∧ 24 = k') by omega)]
    exact h.2.1
  · rw [pi_row (show ¬ 73 = i by omega), qi_row (show ¬ 104 = i' by omega), qi_ne (show ¬ (82 = i' ∧ 24 = k') by omega)]
    exact h.2.2
theorem rEe_pi {h g : Nat → Nat → Int32} {t e : Nat} (hr : rEe h g t e) {i k i' k' : Nat} {v v' : Int32} (hi : ¬ (i = t ∧ (k = 5 ∨ k = 6)) ∧ ¬ (t < i ∧ i < t + 4)) (hi' : ¬ (i' = 107 ∨ i' = 109 ∨ i' = 111 ∨ i' = 112 ∨ i' = 113 ∨ i' = 114 ∨ i' = 115)) : rEe (mx_up h i k v) (mx_up g i' k' v') t e := by
  unfold rEe
  simp only [mx_up_row g i' k' v' (show ¬ 107 = i' by omega), mx_up_row g i' k' v' (show ¬ 109 = i' by omega), mx_up_row g i' k' v' (show ¬ 111 = i' by omega), mx_up_row g i' k' v' (show ¬ 112 = i' by omega), mx_up_row g i' k' v' (show ¬ 113 = i' by omega), mx_up_row g i' k' v' (show ¬ 114 = i' by omega), mx_up_row g i' k' v' (show ¬ 115 = i' by omega),
    mx_up_row h i k v (show ¬ t + 1 = i by omega), mx_up_row h i k v (show ¬ t + 2 = i by omega), mx_up_row h i k v (show ¬ t + 3 = i by omega), mx_up_ne h v (show ¬ (t = i ∧ 5 = k) by omega), mx_up_ne h v (show ¬ (t = i ∧ 6 = k) by omega)]
  exact hr
theorem rK_pi {c : mx_C} (h : rK c) {i k : Nat} {v : Int32} (hk : ¬ ((i = 47 ∨ i = 50 ∨ i = 53 ∨ i = 56 ∨ i = 62 ∨ i = 74) ∧ k < 2)) : rK (mx_pi c i k v) := by
  refine ⟨fun s hs => ?_, ?_, ?_, ?_, ?_⟩
  · rw [pi_ne (show ¬ (47 + 3 * s = i ∧ 0 = k) by omega), pi_ne (show ¬ (47 + 3 * s = i ∧ 1 = k) by omega)]
    exact h.1 s hs
  · rw [pi_ne (by omega)]; exact h.2.1
  · rw [pi_ne (by omega)]; exact h.2.2.1
  · rw [pi_ne (by omega)]; exact h.2.2.2.1
  · rw [pi_ne (by omega)]; exact h.2.2.2.2
theorem tbW_rng : ∀ q ∈ tbW, ¬ (q.1.1 = 49 ∨ q.1.1 = 52 ∨ q.1.1 = 55 ∨ q.1.1 = 58 ∨ q.1.1 = 71 ∨ q.1.1 = 73) ∧ ¬ (q.2.1 = 95 ∨ q.2.1 = 94 ∨ q.2.1 = 103 ∨ q.2.1 = 104 ∨ (q.2.1 = 82 ∧ q.2.2 = 24)) ∧
   ¬ ((q.1.1 = 62 ∨ q.1.1 = 74) ∧ (q.1.2 = 5 ∨ q.1.2 = 6)) ∧ ¬ (62 < q.1.1 ∧ q.1.1 < 66) ∧ ¬ (74 < q.1.1 ∧ q.1.1 < 78) ∧ ¬ (q.2.1 = 107 ∨ q.2.1 = 109 ∨ q.2.1 = 111 ∨ q.2.1 = 112 ∨ q.2.1 = 113 ∨ q.2.1 = 114 ∨ q.2.1 = 115) ∧
   ¬ ((q.1.1 = 47 ∨ q.1.1 = 50 ∨ q.1.1 = 53 ∨ q.1.1 = 56 ∨ q.1.1 = 62 ∨ q.1.1 = 74) ∧ q.1.2 < 2) := by decide +kernel
/-- one of the free cells is written on both sides -/
theorem rR_w {c : mx_C} {m : mx_M} (h : rR c m) {q : (Nat × Nat) × (Nat × Nat)} (hq : q ∈ tbW) (v : Int32) : rR (mx_pi c q.1.1 q.1.2 v) (my_pi m q.2.1 q.2.2 v) := by
  obtain ⟨h1, h2, h3, h4, h5, h6⟩ := h
  have r4 := tb4_rng q (tbW_mem hq)
  have rw4 := tbW_rng q hq
  refine ⟨rF_pi h1 (by omega) r4.2.2.2.2.1, rT_w h2 (tbW_mem hq) v, rS_pi h3 r4.2.1 (by omega), rH_pi h4 rw4.1 rw4.2.1, ⟨rEe_pi h5.1 (by omega) rw4.2.2.2.2.2.1, rEe_pi h5.2 (by omega) rw4.2.2.2.2.2.1⟩, rK_pi h6 rw4.2.2.2.2.2.2⟩
/-- something is sent on both sides -/
theorem rR_send {c : mx_C} {m : mx_M} (h : rR c m) (p : Nat → Int32) : rR (mc_send c p) (my_send m p) := by
  obtain ⟨h1, h2, h3, h4, h5, h6⟩ := h
  have ho (i : Nat) (hi : 45 ≤ i) : (mc_send c p).1 i = c.1 i := mc_send_o c p hi
  have hm (i : Nat) (hi : ¬ i = 85) : (my_send m p).1 i = m.1 i := my_send_o m p hi
  refine ⟨?_, ?_, ?_, ?_, ?_, ?_⟩
  · obtain ⟨a1, a2, a3⟩ := h1
    have hcb : c.2.2.2.1.val < 41 := c.2.2.2.1.isLt
    by_cases hl : m.2.1.val < 40
    · have hl' : c.2.2.2.1.val < 40 := by omega
      have e1 : (mc_send c p).2.2.2.1.val = c.2.2.2.1.val + 1 := by
        show (Fin.ofNat 41 (if c.2.2.2.1.val < 40 then c.2.2.2.1.val + 1 else c.2.2.2.1.val)).val = _
        rw [if_pos hl']
        simp [Fin.ofNat] <;> omega
      have e2 : (my_send m p).2.1.val = m.2.1.val + 1 := by
        unfold my_send
        rw [if_pos hl]
        simp [Fin.ofNat] <;> omega
      have e3 : (mc_send c p).2.1 = c.2.1 := rfl
      refine ⟨by rw [e1, e2, a1], ?_, a3⟩
      intro k f hk hf
      rw [e2] at hk
      rw [e3]
      have g1 : (mc_send c p).1 = mc_wr c.1 (4 + (c.2.1 c.2.2.2.1.val).val) p := by
        show mc_wr c.1 (mc_cell c) p = _
        unfold mc_cell
        rw [if_pos hl']
      have g2 : (my_send m p).1 = my_wr m.1 m.2.1.val p := by
        unfold my_send
        rw [if_pos hl]
      unfold fp
      rw [g1, g2]
      unfold mc_wr my_wr
      by_cases hkk : k = m.2.1.val
      · subst hkk
        rw [if_pos ⟨by rw [a1], hf⟩, if_pos ⟨rfl, by omega, by omega⟩]
        congr 1
        omega
      · have hne : ¬ 4 + (c.2.1 k).val = 4 + (c.2.1 c.2.2.2.1.val).val := by
          intro z
          have := a3 k c.2.2.2.1.val (by omega) (by omega) (Fin.ext (by omega))
          omega
        rw [if_neg (fun z => hne z.1), if_neg (by omega)]
        exact a2 k f (by omega) hf
    · have hl' : ¬ c.2.2.2.1.val < 40 := by omega
      have e0 : my_send m p = m := by unfold my_send; rw [if_neg hl]
      have e1 : (mc_send c p).2.2.2.1.val = c.2.2.2.1.val := by
        show (Fin.ofNat 41 (if c.2.2.2.1.val < 40 then c.2.2.2.1.val + 1 else c.2.2.2.1.val)).val = _
        rw [if_neg hl']
        simp [Fin.ofNat] <;> omega
      rw [e0]
      refine ⟨by rw [e1, a1], ?_, a3⟩
      intro k f hk hf
      have g1 : (mc_send c p).1 = mc_wr c.1 3 p := by
        show mc_wr c.1 (mc_cell c) p = _
        unfold mc_cell
        rw [if_neg hl']
      rw [g1]
      unfold mc_wr
      rw [if_neg (by omega)]
      exact a2 k f hk hf
  · intro q hq
    have r4 := tb4_rng q hq
    rw [ho _ (by omega), hm _ r4.2.2.2.2.1]
    exact h2 q hq
  · refine ⟨?_, ?_, h3.2.2⟩
    · rw [my_send_s]; exact h3.1
    · intro k j hk hj
      rw [my_send_s] at hk
      rw [ho _ (by omega), hm _ (by omega)]
      exact h3.2.1 k j hk hj
  · refine ⟨fun s hs => ?_, ?_, ?_⟩
    · rw [ho _ (by omega), hm 95 (by decide), hm 94 (by decide)]; exact h4.1 s hs
    · rw [ho _ (by omega), hm 103 (by decide), hm 82 (by decide)]; exact h4.2.1
    · rw [ho _ (by omega), hm 104 (by decide), hm 82 (by decide)]; exact h4.2.2
  · unfold rE rEe
    rw [hm 107 (by decide), hm 109 (by decide), hm 111 (by decide), hm 112 (by decide), hm 113 (by decide), hm 114 (by decide), hm 115 (by decide), ho 62 (by decide), ho (62 + 1) (by decide), ho (62 + 2) (by decide), ho (62 + 3) (by decide), ho 74 (by decide), ho (74 + 1) (by decide), ho (74 + 2) (by decide), ho (74 + 3) (by decide)]
    exact h5
  · refine ⟨fun s hs => ?_, ?_⟩
    · rw [ho _ (by omega)]; exact h6.1 s hs
    · rw [ho 62 (by decide), ho 74 (by decide)]; exact h6.2
