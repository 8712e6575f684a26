/-! The memory of both sides: ints by cell and slot, the two rows of references that change, the four counters that are indices too -/
abbrev mx_C : Type := (Nat → Nat → Int32) × (Nat → Fin 41) × (Nat → Fin 4) × Fin 41 × Fin 5
abbrev mx_M : Type := (Nat → Nat → Int32) × Fin 41 × Fin 5
abbrev mx : Type := mx_C × mx_M
def mx_up (h : Nat → Nat → Int32) (i k : Nat) (v : Int32) : Nat → Nat → Int32 := fun a b => cond (Nat.beq b k && Nat.beq a i) v (h a b)
def mx_pi (c : mx_C) (i k : Nat) (v : Int32) : mx_C := (mx_up c.1 i k v, c.2)
def mx_pr (c : mx_C) (k : Nat) (q : Fin 41) : mx_C := (c.1, (fun j => cond (Nat.beq j k) q (c.2.1 j)), c.2.2)
def mx_ps (c : mx_C) (k : Nat) (q : Fin 4) : mx_C := (c.1, c.2.1, (fun j => cond (Nat.beq j k) q (c.2.2.1 j)), c.2.2.2)
def mx_pf (c : mx_C) (v : Int32) : mx_C := (c.1, c.2.1, c.2.2.1, Fin.ofNat 41 v.toNatClampNeg, c.2.2.2.2)
def mx_pc (c : mx_C) (v : Int32) : mx_C := (c.1, c.2.1, c.2.2.1, c.2.2.2.1, Fin.ofNat 5 v.toNatClampNeg)
def my_pi (m : mx_M) (i k : Nat) (v : Int32) : mx_M := (mx_up m.1 i k v, m.2)
def my_pf (m : mx_M) (v : Int32) : mx_M := (m.1, Fin.ofNat 41 v.toNatClampNeg, m.2.2)
def my_ps (m : mx_M) (v : Int32) : mx_M := (m.1, m.2.1, Fin.ofNat 5 v.toNatClampNeg)
def mx_nth : List Nat → Nat → Nat
  | [], _ => 99
  | x :: _, 0 => x
  | _ :: r, n + 1 => mx_nth r n
def mx_kx : List Nat := [0, 1, 24, 2, 2, 2, 2, 2, 2, 2, 2, 2, 2, 2, 2, 2, 2, 2, 2, 2, 2, 2, 2, 2, 2, 2, 2, 2, 2, 2, 2, 2, 2, 2, 2, 2, 2, 2, 2, 2, 2, 2, 2, 2, 2, 26, 27, 4, 3, 20, 4, 3, 20, 4, 3, 20, 4, 3, 20, 5, 20, 20, 8, 22, 22, 22, 7, 25, 23, 20, 3, 21, 3, 21, 8, 22, 22, 22, 6, 6, 6, 6, 9, 34, 28, 30, 28, 28, 28, 28, 28, 28, 28, 28, 28, 31, 28, 28, 28, 28, 28, 28, 28, 29, 29, 32, 32, 32, 32, 32, 32, 32, 32, 33, 33, 33]
def mx_kl (i : Nat) : Nat := mx_nth mx_kx i
abbrev mx_d : Type := Nat × Nat × Nat
def mx_dl : List (List mx_d) := [[(1, 0, 1), (1, 0, 45), (1, 0, 59), (1, 0, 66), (1, 0, 46)],
  [(1, 0, 2), (1, 0, 3), (2, 0, 0)],
  [(0, 0, 0), (0, 0, 0), (0, 0, 0), (0, 0, 0), (0, 0, 0), (0, 0, 0), (0, 0, 0), (0, 0, 0), (0, 0, 0)],
  [(1, 1, 1), (0, 0, 0)],
  [(0, 0, 0), (0, 0, 0), (1, 0, 1), (1, 1, 1), (0, 0, 0), (0, 0, 0), (0, 0, 0), (0, 0, 0), (0, 0, 0), (0, 0, 0), (0, 0, 0), (0, 0, 0)],
  [(0, 0, 0), (1, 0, 1), (1, 0, 62), (1, 0, 60), (1, 0, 61), (0, 0, 0), (0, 0, 0), (0, 0, 0)],
  [(0, 0, 0), (0, 0, 0), (0, 0, 0), (0, 0, 0), (0, 0, 0)],
  [(0, 0, 0), (1, 0, 1), (1, 0, 74), (0, 0, 0), (1, 0, 67), (3, 0, 0), (1, 0, 68), (1, 0, 69), (1, 0, 70), (1, 0, 72), (0, 0, 0), (0, 0, 0)],
  [(0, 0, 0), (0, 0, 0), (1, 0, 1), (0, 0, 0), (0, 0, 0), (0, 0, 0), (0, 0, 0), (0, 0, 0), (0, 0, 0), (1, 1, 1), (1, 1, 2), (1, 1, 3)],
  [(6, 0, 0), (1, 0, 83), (1, 0, 84), (4, 0, 0), (1, 0, 85), (1, 0, 86), (1, 0, 87), (1, 0, 88), (1, 0, 89), (1, 0, 90), (1, 0, 91), (1, 0, 92), (1, 0, 93), (1, 0, 94), (1, 0, 95), (1, 0, 96), (1, 0, 97), (6, 0, 0), (5, 0, 0), (1, 0, 98), (1, 0, 99), (1, 0, 100), (1, 0, 101), (1, 0, 102), (6, 0, 0), (6, 0, 0), (1, 0, 103), (1, 0, 104), (6, 0, 0), (6, 0, 0), (6, 0, 0), (1, 0, 105), (1, 0, 106), (1, 0, 107), (1, 0, 108), (1, 0, 109), (1, 0, 110), (1, 0, 111), (1, 0, 112), (1, 0, 113), (1, 0, 114), (1, 0, 115)]]
def mx_nthd : List (List mx_d) → Nat → List mx_d
  | [], _ => []
  | x :: _, 0 => x
  | _ :: r, n + 1 => mx_nthd r n
def mx_ds (q : Nat) : List mx_d := mx_nthd mx_dl q
def mx_al : List mx_d := [(0, 4, 0), (0, 8, 0), (0, 2048, 0), (1, 4, 0), (2, 41, 2), (3, 4, 3), (4, 4, 4), (5, 6, 5), (0, 4, 1), (0, 8, 1), (0, 360, 1), (0, 16, 1), (0, 2, 1), (0, 2800, 1), (1, 4, 1)]
def mx_ntha : List mx_d → Nat → mx_d
  | [], _ => (9, 0, 9)
  | x :: _, 0 => x
  | _ :: r, n + 1 => mx_ntha r n
def mx_ar (q : Nat) : mx_d := mx_ntha mx_al (q - 20)
def mx_no (j : Nat) : Nat := mx_nth [47, 50, 53, 56, 59, 66] j
def mx_v (ad : Nat → Nat) (x : mx) (i k : Nat) (d : mx_d) : Value :=
  match d with
  | (0, _, _) => .int (x.1.1 i k)
  | (1, mu, off) => .ref (ad (i * mu + off))
  | (2, _, _) => .int (Int32.ofNat x.1.2.2.2.1.val)
  | (3, _, _) => .int (Int32.ofNat x.1.2.2.2.2.val)
  | (4, _, _) => .int (Int32.ofNat x.2.2.1.val)
  | (5, _, _) => .int (Int32.ofNat x.2.2.2.val)
  | (_, _, _) => .int (x.2.1 i k)
def mx_fs (ad : Nat → Nat) (x : mx) (i : Nat) : Nat → List mx_d → List Value
  | _, [] => []
  | k, d :: r => mx_v ad x i k d :: mx_fs ad x i (k + 1) r
abbrev mx_S : Type := (Nat → Int32) ⊕ (Nat → Int64) ⊕ (Nat → UInt32) ⊕ (Nat → UInt64) ⊕ (Nat → Option Nat)
def mx_as (ad : Nat → Nat) (x : mx) (i src : Nat) : mx_S :=
  match src with
  | 0 => .inl (x.1.1 i)
  | 1 => .inl (x.2.1 i)
  | 2 => .inr (.inr (.inr (.inr (fun k => some (ad (4 + (x.1.2.1 k).val))))))
  | 3 => .inr (.inr (.inr (.inr (fun k => some (ad (78 + (x.1.2.2.1 k).val))))))
  | 4 => .inr (.inr (.inr (.inr (fun k => some (ad (47 + 3 * k))))))
  | _ => .inr (.inr (.inr (.inr (fun k => some (ad (mx_no k))))))
def mx_en (g : Nat → ClassId) (ad : Nat → Nat) (x : mx) (i : Nat) : va_E :=
  cond (Nat.blt (mx_kl i) 20) (.inr (mx_kl i, mx_fs ad x i 0 (mx_ds (mx_kl i)))) (.inl (g (mx_ar (mx_kl i)).1, (mx_ar (mx_kl i)).2.1, mx_as ad x i (mx_ar (mx_kl i)).2.2))
def mx_ws (g : Nat → ClassId) (ad : Nat → Nat) (x : mx) : va_W := (List.range 116).map (fun i => (ad i, mx_en g ad x i))
theorem mx_kl_lt {i q : Nat} (h : mx_kl i = q) (hq : ¬ q = 99) : i < 116 := by
  have key : ∀ (l : List Nat) (i : Nat), ¬ i < l.length → mx_nth l i = 99 := by
    intro l
    induction l with
    | nil => intro i _; rfl
    | cons a r ih =>
      intro i hi
      cases i with
      | zero => simp at hi
      | succ i => exact ih i (by simpa using hi)
  refine Classical.byContradiction fun hn => hq ?_
  rw [← h]
  exact key mx_kx i hn
theorem mx_blt_t {q n : Nat} (h : q < n) : Nat.blt q n = true := Nat.ble_eq_true_of_le h
theorem mx_blt_f {q n : Nat} (h : ¬ q < n) : Nat.blt q n = false := by
  cases hb : Nat.blt q n with
  | false => rfl
  | true => exact absurd (Nat.le_of_ble_eq_true hb) h
theorem mx_ws_at {g : Nat → ClassId} {ad : Nat → Nat} {x : mx} {i : Nat} (h : i < 116) : (mx_ws g ad x)[i]? = some (ad i, mx_en g ad x i) := by
  simp [mx_ws, h]
theorem mx_ws_ob {g : Nat → ClassId} {ad : Nat → Nat} {x : mx} {i q : Nat} (h : mx_kl i = q) (hq : q < 20) : (mx_ws g ad x)[i]? = some (ad i, .inr (q, mx_fs ad x i 0 (mx_ds q))) := by
  rw [mx_ws_at (mx_kl_lt h (by omega)), mx_en, h]
  have : Nat.blt q 20 = true := mx_blt_t hq
  rw [this]
  rfl
theorem mx_ws_ar {g : Nat → ClassId} {ad : Nat → Nat} {x : mx} {i q : Nat} (h : mx_kl i = q) (hq : 20 ≤ q) (hq2 : ¬ q = 99) : (mx_ws g ad x)[i]? = some (ad i, .inl (g (mx_ar q).1, (mx_ar q).2.1, mx_as ad x i (mx_ar q).2.2)) := by
  rw [mx_ws_at (mx_kl_lt h hq2), mx_en, h]
  have : Nat.blt q 20 = false := mx_blt_f (by omega)
  rw [this]
  rfl
theorem mx_fs_at {ad : Nat → Nat} {x : mx} {i : Nat} : ∀ (ds : List mx_d) (j k : Nat) (d : mx_d), ds[k]? = some d → (mx_fs ad x i j ds)[k]? = some (mx_v ad x i (j + k) d) := by
  intro ds
  induction ds with
  | nil => intro j k d h; simp at h
  | cons a r ih =>
    intro j k d h
    cases k with
    | zero =>
      have ha : a = d := by simpa using h
      subst ha
      rfl
    | succ k =>
      have := ih (j + 1) k d (by simpa using h)
      rw [show j + (k + 1) = j + 1 + k by omega]
      simpa [mx_fs] using this
theorem mx_fs_len {ad : Nat → Nat} {x : mx} {i : Nat} : ∀ (ds : List mx_d) (j : Nat), (mx_fs ad x i j ds).length = ds.length := by
  intro ds
  induction ds with
  | nil => intro j; rfl
  | cons a r ih => intro j; simp [mx_fs, ih]
/-- where another memory gives the same fields but for one -/
theorem mx_fs_set {ad : Nat → Nat} {x y : mx} {i k0 : Nat} {w : Value} : ∀ (ds : List mx_d) (j : Nat), (∀ (k : Nat) (d : mx_d), ds[k]? = some d → ¬ j + k = k0 → mx_v ad y i (j + k) d = mx_v ad x i (j + k) d) → (∀ (k : Nat) (d : mx_d), ds[k]? = some d → j + k = k0 → mx_v ad y i (j + k) d = w) → j ≤ k0 → mx_fs ad y i j ds = (mx_fs ad x i j ds).set (k0 - j) w := by
  intro ds
  induction ds with
  | nil => intro j _ _ _; rfl
  | cons a r ih =>
    intro j h1 h2 hj
    by_cases h0 : j = k0
    · subst h0
      rw [Nat.sub_self]
      have e0 := h2 0 a rfl rfl
      show mx_v ad y i j a :: mx_fs ad y i (j + 1) r = w :: mx_fs ad x i (j + 1) r
      have e1 : ∀ (r : List mx_d) (j' : Nat), j < j' → (∀ (k : Nat) (d : mx_d), r[k]? = some d → mx_v ad y i (j' + k) d = mx_v ad x i (j' + k) d) → mx_fs ad y i j' r = mx_fs ad x i j' r := by
        intro r
        induction r with
        | nil => intro j' _ _; rfl
        | cons b r ih2 =>
          intro j' hj' hr
          show mx_v ad y i j' b :: mx_fs ad y i (j' + 1) r = mx_v ad x i j' b :: mx_fs ad x i (j' + 1) r
          rw [show mx_v ad y i j' b = mx_v ad x i j' b from hr 0 b rfl, ih2 (j' + 1) (by omega) (fun k d hd => by
            have := hr (k + 1) d (by simpa using hd)
            rwa [show j' + (k + 1) = j' + 1 + k by omega] at this)]
      rw [show mx_v ad y i j a = w from e0, e1 r (j + 1) (by omega) (fun k d hd => by
        have := h1 (k + 1) d (by simpa using hd) (by omega)
        rwa [show j + (k + 1) = j + 1 + k by omega] at this)]
    · have hs : k0 - j = (k0 - (j + 1)) + 1 := by omega
      rw [hs]
      show mx_v ad y i j a :: mx_fs ad y i (j + 1) r = mx_v ad x i j a :: (mx_fs ad x i (j + 1) r).set (k0 - (j + 1)) w
      rw [show mx_v ad y i j a = mx_v ad x i j a from h1 0 a rfl (by omega), ih (j + 1) (fun k d hd hne => by
        have := h1 (k + 1) d (by simpa using hd) (by omega)
        rwa [show j + (k + 1) = j + 1 + k by omega] at this) (fun k d hd he => by
        have := h2 (k + 1) d (by simpa using hd) (by omega)
        rwa [show j + (k + 1) = j + 1 + k by omega] at this) (by omega)]
theorem mx_ws_set {g : Nat → ClassId} {ad : Nat → Nat} {x y : mx} {i : Nat} {q : va_E} (hi : mx_en g ad y i = q) (ho : ∀ j, ¬ j = i → mx_en g ad y j = mx_en g ad x j) : (mx_ws g ad x).set i (ad i, q) = mx_ws g ad y := by
  refine List.ext_getElem? fun j => ?_
  rw [List.getElem?_set]
  by_cases hj : i = j
  · subst hj
    by_cases hl : i < 116
    · rw [if_pos rfl, mx_ws_at hl, ← hi]
      simp [mx_ws, hl]
    · rw [if_pos rfl]
      simp [mx_ws, hl]
  · rw [if_neg hj]
    by_cases hl : j < 116
    · rw [mx_ws_at hl, mx_ws_at hl, ho j (fun h => hj h.symm)]
    · simp [mx_ws, hl]
theorem mx_en_eq {g : Nat → ClassId} {ad : Nat → Nat} {x y : mx} {j : Nat} (h1 : mx_kl j < 20 → mx_fs ad y j 0 (mx_ds (mx_kl j)) = mx_fs ad x j 0 (mx_ds (mx_kl j))) (h2 : ¬ mx_kl j < 20 → mx_as ad y j (mx_ar (mx_kl j)).2.2 = mx_as ad x j (mx_ar (mx_kl j)).2.2) : mx_en g ad y j = mx_en g ad x j := by
  unfold mx_en
  by_cases h : mx_kl j < 20
  · have : Nat.blt (mx_kl j) 20 = true := mx_blt_t h
    rw [this, cond_true, cond_true, h1 h]
  · have : Nat.blt (mx_kl j) 20 = false := mx_blt_f h
    rw [this, cond_false, cond_false, h2 h]
theorem mx_fs_eq {ad : Nat → Nat} {x y : mx} {i : Nat} : ∀ (ds : List mx_d) (j : Nat), (∀ (k : Nat) (d : mx_d), ds[k]? = some d → mx_v ad y i (j + k) d = mx_v ad x i (j + k) d) → mx_fs ad y i j ds = mx_fs ad x i j ds := by
  intro ds
  induction ds with
  | nil => intro j _; rfl
  | cons b r ih =>
    intro j hr
    show mx_v ad y i j b :: mx_fs ad y i (j + 1) r = mx_v ad x i j b :: mx_fs ad x i (j + 1) r
    rw [show mx_v ad y i j b = mx_v ad x i j b from hr 0 b rfl, ih (j + 1) (fun k d hd => by
      have := hr (k + 1) d (by simpa using hd)
      rwa [show j + (k + 1) = j + 1 + k by omega] at this)]
theorem mx_up_eq (h : Nat → Nat → Int32) (i k : Nat) (v : Int32) : mx_up h i k v i k = v := by simp [mx_up]
theorem mx_up_ne (h : Nat → Nat → Int32) {i k a b : Nat} (v : Int32) (hn : ¬ (a = i ∧ b = k)) : mx_up h i k v a b = h a b := by
  unfold mx_up
  cases hb : (Nat.beq b k && Nat.beq a i) with
  | false => rfl
  | true =>
    rw [Bool.and_eq_true] at hb
    exact absurd ⟨Nat.eq_of_beq_eq_true hb.2, Nat.eq_of_beq_eq_true hb.1⟩ hn
theorem mx_up_row (h : Nat → Nat → Int32) (i k : Nat) (v : Int32) {a : Nat} (hn : ¬ a = i) : mx_up h i k v a = h a := by
  funext b
  exact mx_up_ne h v (fun q => hn q.1)
