/-! counting packets by kind -/
def cn (g : Nat → Bool) : Nat → Nat
  | 0 => 0
  | n + 1 => cn g n + (if g n then 1 else 0)
theorem cn_ext {g g' : Nat → Bool} : ∀ n : Nat, (∀ j, j < n → g j = g' j) → cn g n = cn g' n := by
  intro n
  induction n with
  | zero => intro _; rfl
  | succ n ih =>
    intro h
    show cn g n + (if g n then 1 else 0) = cn g' n + (if g' n then 1 else 0)
    rw [ih (fun j hj => h j (by omega)), h n (by omega)]
theorem cn_shift (g : Nat → Bool) : ∀ n : Nat, cn g (n + 1) = (if g 0 then 1 else 0) + cn (fun j => g (j + 1)) n := by
  intro n
  induction n with
  | zero => show 0 + (if g 0 then 1 else 0) = (if g 0 then 1 else 0) + 0; omega
  | succ n ih =>
    show cn g (n + 1) + (if g (n + 1) then 1 else 0) = (if g 0 then 1 else 0) + (cn (fun j => g (j + 1)) n + (if g (n + 1) then 1 else 0))
    rw [ih]; omega
theorem cn_drop (g : Nat → Bool) (k : Nat) : ∀ n : Nat, k ≤ n → cn (fun j => g (if k ≤ j then j + 1 else j)) n + (if g k then 1 else 0) = cn g (n + 1) := by
  intro n
  induction n with
  | zero =>
    intro h
    have : k = 0 := by omega
    subst this
    show 0 + (if g 0 then 1 else 0) = 0 + (if g 0 then 1 else 0)
    rfl
  | succ n ih =>
    intro h
    show cn (fun j => g (if k ≤ j then j + 1 else j)) n + (if g (if k ≤ n then n + 1 else n) then 1 else 0) + (if g k then 1 else 0) = cn g (n + 1) + (if g (n + 1) then 1 else 0)
    by_cases hk : k ≤ n
    · rw [if_pos hk]
      have := ih hk
      omega
    · have hkn : k = n + 1 := by omega
      rw [if_neg hk]
      have e : cn (fun j => g (if k ≤ j then j + 1 else j)) n = cn g n := cn_ext n (fun j hj => by rw [if_neg (by omega)])
      rw [e, hkn]
      show cn g n + (if g n then 1 else 0) + (if g (n + 1) then 1 else 0) = cn g n + (if g n then 1 else 0) + (if g (n + 1) then 1 else 0)
      rfl
theorem cn_swap (g : Nat → Bool) (k : Nat) : ∀ n : Nat, k + 1 < n → cn (fun j => g (if j = k then k + 1 else if j = k + 1 then k else j)) n = cn g n := by
  intro n
  induction n with
  | zero => intro h; omega
  | succ n ih =>
    intro h
    show cn (fun j => g (if j = k then k + 1 else if j = k + 1 then k else j)) n + (if g (if n = k then k + 1 else if n = k + 1 then k else n) then 1 else 0) = cn g n + (if g n then 1 else 0)
    by_cases hn : n = k + 1
    · subst hn
      have e1 : (if k + 1 = k then k + 1 else if k + 1 = k + 1 then k else k + 1) = k := by rw [if_neg (by omega), if_pos rfl]
      rw [e1]
      show cn (fun j => g (if j = k then k + 1 else if j = k + 1 then k else j)) k + (if g (if k = k then k + 1 else if k = k + 1 then k else k) then 1 else 0) + (if g k then 1 else 0) = cn g k + (if g k then 1 else 0) + (if g (k + 1) then 1 else 0)
      have e : cn (fun j => g (if j = k then k + 1 else if j = k + 1 then k else j)) k = cn g k := cn_ext k (fun j hj => by rw [if_neg (by omega), if_neg (by omega)])
      have e2 : (if k = k then k + 1 else if k = k + 1 then k else k) = k + 1 := if_pos rfl
      rw [e, e2]; omega
    · have e1 : (if n = k then k + 1 else if n = k + 1 then k else n) = n := by rw [if_neg (by omega), if_neg hn]
      rw [ih (by omega), e1]
def ck (m : mx_M) (k : Int32) : Nat := cn (fun j => decide (fp m j 0 = k)) m.2.1.val
theorem ck_tk {m : mx_M} (h1 : 1 ≤ m.2.1.val) (k : Int32) : ck (mo_tk m 0) k + (if fp m 0 0 = k then 1 else 0) = ck m k := by
  unfold ck
  rw [tk_cnt h1]
  obtain ⟨n, hn⟩ : ∃ n, m.2.1.val = n + 1 := ⟨m.2.1.val - 1, by omega⟩
  rw [hn, Nat.add_sub_cancel, cn_shift]
  have e : cn (fun j => decide (fp (mo_tk m 0) j 0 = k)) n = cn (fun j => decide (fp m (j + 1) 0 = k)) n := cn_ext n (fun j hj => by
    rw [tk_fp h1 j 0 (by omega) (by decide), if_pos (Nat.zero_le j)])
  rw [e]
  by_cases hk : fp m 0 0 = k
  · simp [hk]; omega
  · simp [hk]
theorem ck_drop {m : mx_M} {k : Nat} (h : k < m.2.1.val) (q : Int32) : ck (mo_tk m k) q ≤ ck m q := by
  unfold ck
  rw [tk_cnt h]
  obtain ⟨n, hn⟩ : ∃ n, m.2.1.val = n + 1 := ⟨m.2.1.val - 1, by omega⟩
  rw [hn, Nat.add_sub_cancel]
  have e : cn (fun j => decide (fp (mo_tk m k) j 0 = q)) n = cn (fun j => decide (fp m (if k ≤ j then j + 1 else j) 0 = q)) n := cn_ext n (fun j hj => by
    rw [tk_fp h j 0 (by omega) (by decide)])
  have := cn_drop (fun j => decide (fp m j 0 = q)) k n (by omega)
  rw [e]
  omega
theorem ck_swp {m : mx_M} {k : Nat} (h : k + 1 < m.2.1.val) (q : Int32) : ck (mo_swp m k) q = ck m q := by
  unfold ck
  have e0 : (mo_swp m k).2.1 = m.2.1 := rfl
  rw [e0]
  have e : cn (fun j => decide (fp (mo_swp m k) j 0 = q)) m.2.1.val = cn (fun j => decide (fp m (if j = k then k + 1 else if j = k + 1 then k else j) 0 = q)) m.2.1.val := cn_ext _ (fun j hj => by
    rw [sw_fp j 0 (by decide)])
  rw [e]
  exact cn_swap (fun j => decide (fp m j 0 = q)) k _ h
/-- what is added is not of this kind -/
theorem ck_ext {S : vS} {m m' : mx_M} (h : ext S m m') {q : Int32} (hq : ∀ b, ¬ S q b) : ck m' q = ck m q := by
  obtain ⟨h1, h2, h3⟩ := h
  unfold ck
  have key : ∀ n : Nat, m.2.1.val ≤ n → n ≤ m'.2.1.val → cn (fun j => decide (fp m' j 0 = q)) n = cn (fun j => decide (fp m j 0 = q)) m.2.1.val := by
    intro n
    induction n with
    | zero =>
      intro a b
      have : m.2.1.val = 0 := by omega
      rw [this]
      rfl
    | succ n ih =>
      intro a b
      by_cases hz : m.2.1.val = n + 1
      · rw [hz]
        exact cn_ext _ (fun j hj => by rw [h2 j 0 (by omega) (by decide)])
      · show cn (fun j => decide (fp m' j 0 = q)) n + (if decide (fp m' n 0 = q) then 1 else 0) = _
        rw [ih (by omega) (by omega)]
        have : ¬ fp m' n 0 = q := by
          intro z
          have := h3 n (by omega) (by omega)
          rw [z] at this
          exact hq _ this
        simp [this]
  exact key _ h1 (Nat.le_refl _)
theorem ck_send (m : mx_M) (p : Nat → Int32) (q : Int32) : ck (my_send m p) q ≤ ck m q + (if p 0 = q then 1 else 0) := by
  unfold ck
  rw [send_cnt]
  by_cases hl : m.2.1.val < 40
  · rw [if_pos hl]
    show cn (fun j => decide (fp (my_send m p) j 0 = q)) m.2.1.val + (if decide (fp (my_send m p) m.2.1.val 0 = q) then 1 else 0) ≤ _
    have e : cn (fun j => decide (fp (my_send m p) j 0 = q)) m.2.1.val = cn (fun j => decide (fp m j 0 = q)) m.2.1.val := cn_ext _ (fun j hj => by rw [send_fp m p j 0 (by decide), if_neg (by omega)])
    have e2 : fp (my_send m p) m.2.1.val 0 = p 0 := by rw [send_fp m p m.2.1.val 0 (by decide), if_pos ⟨rfl, hl⟩]
    rw [e, e2]
    by_cases hq : p 0 = q
    · simp [hq]
    · simp [hq]
  · rw [if_neg hl]
    have e : cn (fun j => decide (fp (my_send m p) j 0 = q)) m.2.1.val = cn (fun j => decide (fp m j 0 = q)) m.2.1.val := cn_ext _ (fun j hj => by rw [send_fp m p j 0 (by decide), if_neg (by omega)])
    rw [e]; omega
theorem ck_sendn (m : mx_M) (p : Nat → Int32) (q : Int32) (h : ¬ p 0 = q) : ck (my_send m p) q ≤ ck m q := by
  have := ck_send m p q
  rw [if_neg h] at this
  exact this
theorem ck_f {m m' : mx_M} (h85 : m'.1 85 = m.1 85) (hf : m'.2.1 = m.2.1) (q : Int32) : ck m' q = ck m q := by
  unfold ck fp
  rw [h85, hf]
theorem ck_w (m : mx_M) {i k : Nat} {v : Int32} (hi : ¬ i = 85) (q : Int32) : ck (my_pi m i k v) q = ck m q := ck_f (qi_row (fun z => hi z.symm)) rfl q
/-! what subscribers may still send -/
def ua (m : mx_M) (s : Nat) : Int := if m.1 86 s = 1 then 4 - (m.1 92 s).toInt else 0
def ub (m : mx_M) (s : Nat) : Int := if m.1 86 s = 1 then (m.1 91 s).toInt else 0
def uc (m : mx_M) (s : Nat) : Int := if m.1 86 s = 2 then 4 - (m.1 92 s).toInt else if m.1 86 s = 1 then 4 else 0
def ud (m : mx_M) (s : Nat) : Int := if m.1 86 s = 2 then (m.1 91 s).toInt else if m.1 86 s = 1 then 3 else 0
def sum4 (f : Nat → Int) : Int := f 0 + f 1 + f 2 + f 3
theorem sum4_1 {f f' : Nat → Int} {t : Nat} (ht : t < 4) (h : ∀ s, ¬ s = t → f' s = f s) : sum4 f' = sum4 f + f' t - f t := by
  unfold sum4
  have : t = 0 ∨ t = 1 ∨ t = 2 ∨ t = 3 := by omega
  rcases this with rfl | rfl | rfl | rfl
  · rw [h 1 (by decide), h 2 (by decide), h 3 (by decide)]; omega
  · rw [h 0 (by decide), h 2 (by decide), h 3 (by decide)]; omega
  · rw [h 0 (by decide), h 1 (by decide), h 3 (by decide)]; omega
  · rw [h 0 (by decide), h 1 (by decide), h 2 (by decide)]; omega
def NF (m : mx_M) (d tau X1 X4 : Int) : Prop := X1 + sum4 (ua m) ≤ 4 * d ∧ 3 * X1 + sum4 (ub m) ≤ 3 * d + tau ∧ X4 + sum4 (uc m) ≤ 4 * d ∧ 3 * X4 + sum4 (ud m) ≤ 3 * d + tau
theorem u_eq {m m' : mx_M} {s : Nat} (h6 : m'.1 86 s = m.1 86 s) (h1 : m'.1 91 s = m.1 91 s) (h2 : m'.1 92 s = m.1 92 s) : ua m' s = ua m s ∧ ub m' s = ub m s ∧ uc m' s = uc m s ∧ ud m' s = ud m s := by
  unfold ua ub uc ud
  rw [h6, h1, h2]
  exact ⟨rfl, rfl, rfl, rfl⟩
theorem NF_f {m m' : mx_M} {d tau X1 X4 : Int} (h : NF m d tau X1 X4) (h6 : m'.1 86 = m.1 86) (h1 : m'.1 91 = m.1 91) (h2 : m'.1 92 = m.1 92) : NF m' d tau X1 X4 := by
  have e (s : Nat) := u_eq (m := m) (m' := m') (s := s) (by rw [h6]) (by rw [h1]) (by rw [h2])
  have a : ua m' = ua m := funext fun s => (e s).1
  have b : ub m' = ub m := funext fun s => (e s).2.1
  have c : uc m' = uc m := funext fun s => (e s).2.2.1
  have dd : ud m' = ud m := funext fun s => (e s).2.2.2
  unfold NF
  rw [a, b, c, dd]
  exact h
theorem NF_mono {m : mx_M} {d tau X1 X4 d' tau' X1' X4' : Int} (h : NF m d tau X1 X4) (h1 : X1' ≤ X1) (h4 : X4' ≤ X4) (hd : d ≤ d') (ht : tau ≤ tau') : NF m d' tau' X1' X4' := by
  unfold NF at *
  omega
/-- one subscriber changes -/
theorem NF_1 {m m' : mx_M} {d tau X1 X4 d' tau' X1' X4' : Int} (h : NF m d tau X1 X4) {t : Nat} (ht : t < 4) (ho : ∀ i s, (i = 86 ∨ i = 91 ∨ i = 92) → ¬ s = t → m'.1 i s = m.1 i s)
    (ha : X1' + ua m' t + 4 * d ≤ X1 + ua m t + 4 * d') (hb : 3 * X1' + ub m' t + (3 * d + tau) ≤ 3 * X1 + ub m t + (3 * d' + tau')) (hc : X4' + uc m' t + 4 * d ≤ X4 + uc m t + 4 * d') (hd : 3 * X4' + ud m' t + (3 * d + tau) ≤ 3 * X4 + ud m t + (3 * d' + tau')) : NF m' d' tau' X1' X4' := by
  have e (s : Nat) (hs : ¬ s = t) := u_eq (m := m) (m' := m') (s := s) (ho 86 s (by omega) hs) (ho 91 s (by omega) hs) (ho 92 s (by omega) hs)
  have a := sum4_1 (f := ua m) (f' := ua m') ht (fun s hs => (e s hs).1)
  have b := sum4_1 (f := ub m) (f' := ub m') ht (fun s hs => (e s hs).2.1)
  have c := sum4_1 (f := uc m) (f' := uc m') ht (fun s hs => (e s hs).2.2.1)
  have dd := sum4_1 (f := ud m) (f' := ud m') ht (fun s hs => (e s hs).2.2.2)
  unfold NF at *
  omega
theorem u_nn {m : mx_M} {s : Nat} (h : gs1 m s) : 0 ≤ ua m s ∧ 0 ≤ ub m s ∧ 0 ≤ uc m s ∧ 0 ≤ ud m s := by
  unfold ua ub uc ud
  have h2 := h.2.1
  refine ⟨?_, ?_, ?_, ?_⟩
  · split
    · rename_i z; have := h2 (Or.inl z); omega
    · omega
  · split
    · rename_i z; have := h2 (Or.inl z); omega
    · omega
  · split
    · rename_i z; have := h2 (Or.inr z); omega
    · split <;> omega
  · split
    · rename_i z; have := h2 (Or.inr z); omega
    · split <;> omega
theorem u_0 {m : mx_M} {s : Nat} (h1 : ¬ m.1 86 s = 1) (h2 : ¬ m.1 86 s = 2) : ua m s = 0 ∧ ub m s = 0 ∧ uc m s = 0 ∧ ud m s = 0 := by
  unfold ua ub uc ud
  rw [if_neg h1, if_neg h1, if_neg h2, if_neg h2]
  exact ⟨rfl, rfl, if_neg h1, if_neg h1⟩
theorem NF_off {m m' : mx_M} {d tau X1 X4 : Int} (h : NF m d tau X1 X4) (hs : gS m) {t : Nat} (ht : t < 4) (ho : ∀ i s, (i = 86 ∨ i = 91 ∨ i = 92) → ¬ s = t → m'.1 i s = m.1 i s) (hn : m'.1 86 t = 0 ∨ m'.1 86 t = 3) : NF m' d tau X1 X4 := by
  have n := u_nn (hs t ht)
  have z := u_0 (m := m') (s := t) (by rcases hn with z | z <;> rw [z] <;> decide) (by rcases hn with z | z <;> rw [z] <;> decide)
  exact NF_1 h ht ho (by omega) (by omega) (by omega) (by omega)
theorem ask_ck (m : mx_M) (x : Int32) (q : Int32) : ck (mo_ask m x) q ≤ ck m q + (if (if m.1 86 x.toNatClampNeg = 1 then (1 : Int32) else 4) = q then 1 else 0) := by
  unfold mo_ask
  split
  · rename_i z
    have e : ck (my_pi (my_pi (mo_sendOff m 1 x 4 0 0 0) 92 x.toNatClampNeg ((mo_sendOff m 1 x 4 0 0 0).1 92 x.toNatClampNeg + 1)) 91 x.toNatClampNeg 0) q = ck (mo_sendOff m 1 x 4 0 0 0) q := by rw [ck_w _ (by decide), ck_w _ (by decide)]
    show ck (my_pi (my_pi (mo_sendOff m 1 x 4 0 0 0) 92 x.toNatClampNeg ((mo_sendOff m 1 x 4 0 0 0).1 92 x.toNatClampNeg + 1)) 91 x.toNatClampNeg 0) q ≤ _
    rw [e, mo_sendOff_eq]
    exact ck_send m _ q
  · rename_i z
    have e : ck (my_pi (my_pi (mo_sendOff m 4 x 4 (m.1 87 x.toNatClampNeg) (m.1 88 x.toNatClampNeg) (m.1 89 x.toNatClampNeg)) 92 x.toNatClampNeg ((mo_sendOff m 4 x 4 (m.1 87 x.toNatClampNeg) (m.1 88 x.toNatClampNeg) (m.1 89 x.toNatClampNeg)).1 92 x.toNatClampNeg + 1)) 91 x.toNatClampNeg 0) q = ck (mo_sendOff m 4 x 4 (m.1 87 x.toNatClampNeg) (m.1 88 x.toNatClampNeg) (m.1 89 x.toNatClampNeg)) q := by rw [ck_w _ (by decide), ck_w _ (by decide)]
    show ck (my_pi (my_pi (mo_sendOff m 4 x 4 (m.1 87 x.toNatClampNeg) (m.1 88 x.toNatClampNeg) (m.1 89 x.toNatClampNeg)) 92 x.toNatClampNeg ((mo_sendOff m 4 x 4 (m.1 87 x.toNatClampNeg) (m.1 88 x.toNatClampNeg) (m.1 89 x.toNatClampNeg)).1 92 x.toNatClampNeg + 1)) 91 x.toNatClampNeg 0) q ≤ _
    rw [e, mo_sendOff_eq]
    exact ck_send m _ q
theorem leave_ck (m : mx_M) (x : Int32) {q : Int32} (hq : ¬ q = 3) : ck (mo_leave m x) q ≤ ck m q := by
  unfold mo_leave mo_off
  have e : ck (my_pi (my_pi (my_pi (mo_sendOff m 3 x 4 (m.1 87 x.toNatClampNeg) 0 0) 86 x.toNatClampNeg 0) 87 x.toNatClampNeg 0) 90 x.toNatClampNeg 0) q = ck (mo_sendOff m 3 x 4 (m.1 87 x.toNatClampNeg) 0 0) q := by rw [ck_w _ (by decide), ck_w _ (by decide), ck_w _ (by decide)]
  show ck (my_pi (my_pi (my_pi (mo_sendOff m 3 x 4 (m.1 87 x.toNatClampNeg) 0 0) 86 x.toNatClampNeg 0) 87 x.toNatClampNeg 0) 90 x.toNatClampNeg 0) q ≤ _
  rw [e, mo_sendOff_eq]
  have := ck_send m (pk9 3 x 4 (m.1 87 x.toNatClampNeg) 0 0 0 0 0) q
  rw [if_neg (show ¬ pk9 3 x 4 (m.1 87 x.toNatClampNeg) 0 0 0 0 0 0 = q from fun z => hq z.symm)] at this
  exact this
theorem off_ck (m : mx_M) (x q : Int32) : ck (mo_off m x) q = ck m q := by
  unfold mo_off
  rw [ck_w _ (by decide), ck_w _ (by decide), ck_w _ (by decide)]
/-- a packet arrives at a subscriber -/
theorem toSub_n {m : mx_M} (hs : gS m) {t : Nat} (ht : t < 4) (k x y w : Int32) (h0 : 0 ≤ (m.1 94 t).toInt) (h1 : (m.1 94 t).toInt < 2147483647) : ∃ a4 : Nat, ck (mo_toSubscriber m (Int32.ofNat t) k x y w) 1 ≤ ck m 1 ∧ ck (mo_toSubscriber m (Int32.ofNat t) k x y w) 4 ≤ ck m 4 + a4 ∧ ∀ d tau X1 X4 : Int, NF m d tau X1 X4 → NF (mo_toSubscriber m (Int32.ofNat t) k x y w) d tau X1 (X4 + a4) := by
  rw [mo_toSub_eq m ht k x y w h0 h1]
  have idn : ∃ a4 : Nat, ck m 1 ≤ ck m 1 ∧ ck m 4 ≤ ck m 4 + a4 ∧ ∀ d tau X1 X4 : Int, NF m d tau X1 X4 → NF m d tau X1 (X4 + a4) := ⟨0, Nat.le_refl _, Nat.le_refl _, fun d tau X1 X4 h => NF_mono h (by omega) (by omega) (by omega) (by omega)⟩
  split
  · split
    · rename_i _ hst
      obtain ⟨a1, a2, a3⟩ := ask_v (my_pi (my_pi (my_pi m 87 t x) 86 t 2) 92 t 0) ht
      have s86 : (my_pi (my_pi (my_pi m 87 t x) 86 t 2) 92 t 0).1 86 t = 2 := by rw [qi_ne (by omega), qi_eq]
      have c1 := ask_ck (my_pi (my_pi (my_pi m 87 t x) 86 t 2) 92 t 0) (Int32.ofNat t) 1
      have c4 := ask_ck (my_pi (my_pi (my_pi m 87 t x) 86 t 2) 92 t 0) (Int32.ofNat t) 4
      rw [of_cl t (by omega), s86, if_neg (show ¬ (2 : Int32) = 1 by decide)] at c1 c4
      rw [if_neg (show ¬ (4 : Int32) = 1 by decide)] at c1
      rw [if_pos rfl] at c4
      have e (q : Int32) : ck (my_pi (my_pi (my_pi m 87 t x) 86 t 2) 92 t 0) q = ck m q := by rw [ck_w _ (by decide), ck_w _ (by decide), ck_w _ (by decide)]
      rw [e] at c1 c4
      refine ⟨1, by omega, c4, fun d tau X1 X4 h => ?_⟩
      have g := (hs t ht).2.1 (Or.inl hst)
      have n86 : (mo_ask (my_pi (my_pi (my_pi m 87 t x) 86 t 2) 92 t 0) (Int32.ofNat t)).1 86 t = 2 := by rw [a3 86 t (by decide) (by omega), s86]
      have n92 : ((mo_ask (my_pi (my_pi (my_pi m 87 t x) 86 t 2) 92 t 0) (Int32.ofNat t)).1 92 t).toInt = 1 := by rw [a2, qi_eq]; rfl
      have n91 : ((mo_ask (my_pi (my_pi (my_pi m 87 t x) 86 t 2) 92 t 0) (Int32.ofNat t)).1 91 t).toInt = 0 := by rw [a1]; rfl
      have ea : ua m t = 4 - (m.1 92 t).toInt := if_pos hst
      have eb : ub m t = (m.1 91 t).toInt := if_pos hst
      have ec : uc m t = 4 := by unfold uc; rw [if_neg (by rw [hst]; decide), if_pos hst]
      have ed : ud m t = 3 := by unfold ud; rw [if_neg (by rw [hst]; decide), if_pos hst]
      generalize mo_ask (my_pi (my_pi (my_pi m 87 t x) 86 t 2) 92 t 0) (Int32.ofNat t) = m' at *
      have fa : ua m' t = 0 := by unfold ua; rw [if_neg (by rw [n86]; decide)]
      have fb : ub m' t = 0 := by unfold ub; rw [if_neg (by rw [n86]; decide)]
      have fc : uc m' t = 3 := by unfold uc; rw [if_pos n86, n92]; rfl
      have fd : ud m' t = 0 := by unfold ud; rw [if_pos n86, n91]
      refine NF_1 h ht (fun i s hi hss => ?_) (by omega) (by omega) (by omega) (by omega)
      rw [a3 i s (by omega) (by omega), qi_ne (by omega), qi_ne (by omega), qi_ne (by omega)]
    · exact idn
  · split
    · exact idn
    · split
      · exact idn
      · split
        · obtain ⟨a1, a2, a3⟩ := off_v m ht
          refine ⟨0, by rw [off_ck]; exact Nat.le_refl _, by rw [off_ck]; exact Nat.le_refl _, fun d tau X1 X4 h => ?_⟩
          exact NF_mono (NF_off h hs ht (fun i s hi hss => a3 i s (by omega)) (Or.inl a1)) (by omega) (by omega) (by omega) (by omega)
        · split
          · rcases acc_v m ht y with e | ⟨a1, a2⟩
            · rw [e]; exact idn
            · have c (q : Int32) (hq : ¬ q = 7) : ck (mo_accepted m (Int32.ofNat t) y) q ≤ ck m q := by
                unfold mo_accepted
                have key : ck (mo_sendOff (my_pi (my_pi (my_pi m 86 (Int32.ofNat t).toNatClampNeg 3) 90 (Int32.ofNat t).toNatClampNeg y) 93 (Int32.ofNat t).toNatClampNeg 0) 7 (Int32.ofNat t) 4 ((my_pi (my_pi (my_pi m 86 (Int32.ofNat t).toNatClampNeg 3) 90 (Int32.ofNat t).toNatClampNeg y) 93 (Int32.ofNat t).toNatClampNeg 0).1 87 (Int32.ofNat t).toNatClampNeg) 0 0) q ≤ ck m q := by
                  rw [mo_sendOff_eq]
                  refine Nat.le_trans (ck_sendn _ _ q (fun z => hq z.symm)) ?_
                  rw [ck_w _ (by decide), ck_w _ (by decide), ck_w _ (by decide)]
                  exact Nat.le_refl _
                split
                · split
                  · exact key
                  · exact Nat.le_refl _
                · exact key
              refine ⟨0, c 1 (by decide), c 4 (by decide), fun d tau X1 X4 h => ?_⟩
              exact NF_mono (NF_off h hs ht (fun i s hi hss => a2 i s (by omega) (by omega)) (Or.inr a1)) (by omega) (by omega) (by omega) (by omega)
          · split
            · obtain ⟨a1, a2, a3⟩ := leave_v m ht
              refine ⟨0, leave_ck m _ (by decide), leave_ck m _ (by decide), fun d tau X1 X4 h => ?_⟩
              exact NF_mono (NF_off h hs ht (fun i s hi hss => a3 i s (by omega) (by omega)) (Or.inl a1)) (by omega) (by omega) (by omega) (by omega)
            · split
              · have c (q : Int32) (hq : ¬ q = 9) : ck (my_send (my_pi m 93 t 0) (pk9 9 (Int32.ofNat t) 4 x 0 0 0 0 0)) q ≤ ck m q := by
                  refine Nat.le_trans (ck_sendn _ _ q (fun z => hq z.symm)) ?_
                  rw [ck_w _ (by decide)]
                  exact Nat.le_refl _
                exact ⟨0, c 1 (by decide), c 4 (by decide), fun d tau X1 X4 h => NF_mono (NF_f h (by rw [my_send_o _ _ (by decide), qi_row (by decide)]) (by rw [my_send_o _ _ (by decide), qi_row (by decide)]) (by rw [my_send_o _ _ (by decide), qi_row (by decide)])) (by omega) (by omega) (by omega) (by omega)⟩
              · split
                · have c (q : Int32) : ck (my_pi (my_pi (my_pi m 93 t 0) 95 (4 * t + (m.1 94 t).toInt.toNat % 4) w) 94 t (m.1 94 t + 1)) q = ck m q := by rw [ck_w _ (by decide), ck_w _ (by decide), ck_w _ (by decide)]
                  exact ⟨0, by rw [c]; exact Nat.le_refl _, by rw [c]; exact Nat.le_refl _, fun d tau X1 X4 h => NF_mono (NF_f h (by rw [qi_row (by decide), qi_row (by decide), qi_row (by decide)]) (by rw [qi_row (by decide), qi_row (by decide), qi_row (by decide)]) (by rw [qi_row (by decide), qi_row (by decide), qi_row (by decide)])) (by omega) (by omega) (by omega) (by omega)⟩
                · exact idn
theorem subT_n {m : mx_M} (hs : gS m) {t : Nat} (ht : t < 4) : ∃ a1 a4 : Nat, ck (mo_subscriberTimer m (Int32.ofNat t)) 1 ≤ ck m 1 + a1 ∧ ck (mo_subscriberTimer m (Int32.ofNat t)) 4 ≤ ck m 4 + a4 ∧ ∀ d tau X1 X4 : Int, NF m d tau X1 X4 → NF (mo_subscriberTimer m (Int32.ofNat t)) d (tau + 1) (X1 + a1) (X4 + a4) := by
  have g1 := hs t ht
  unfold mo_subscriberTimer
  rw [of_cl t (by omega)]
  dsimp only
  have lv (m0 : mx_M) (i : Nat) (v : Int32) (hi : ¬ (i = 85 ∨ i = 86 ∨ i = 92)) (h0 : m0 = my_pi m i t v) : ∃ a1 a4 : Nat, ck (mo_leave m0 (Int32.ofNat t)) 1 ≤ ck m 1 + a1 ∧ ck (mo_leave m0 (Int32.ofNat t)) 4 ≤ ck m 4 + a4 ∧ ∀ d tau X1 X4 : Int, NF m d tau X1 X4 → NF (mo_leave m0 (Int32.ofNat t)) d (tau + 1) (X1 + a1) (X4 + a4) := by
    subst h0
    obtain ⟨a1, a2, a3⟩ := leave_v (my_pi m i t v) ht
    refine ⟨0, 0, ?_, ?_, fun d tau X1 X4 h => ?_⟩
    · have := leave_ck (my_pi m i t v) (Int32.ofNat t) (q := 1) (by decide)
      rw [ck_w _ (by omega)] at this; exact this
    · have := leave_ck (my_pi m i t v) (Int32.ofNat t) (q := 4) (by decide)
      rw [ck_w _ (by omega)] at this; exact this
    · refine NF_mono (NF_off h hs ht (fun j s hj hss => ?_) (Or.inl a1)) (by omega) (by omega) (by omega) (by omega)
      rw [a3 j s (by omega) (by omega), qi_ne (by omega)]
  split
  · rename_i h3
    split
    · exact lv _ 93 _ (by omega) rfl
    · refine ⟨0, 0, by rw [ck_w _ (by decide)]; exact Nat.le_refl _, by rw [ck_w _ (by decide)]; exact Nat.le_refl _, fun d tau X1 X4 h => ?_⟩
      exact NF_mono (NF_f h (qi_row (by decide)) (qi_row (by decide)) (qi_row (by decide))) (by omega) (by omega) (by omega) (by omega)
  · rename_i h3
    split
    · exact ⟨0, 0, Nat.le_refl _, Nat.le_refl _, fun d tau X1 X4 h => NF_mono h (by omega) (by omega) (by omega) (by omega)⟩
    · rename_i h0
      have hst : m.1 86 t = 1 ∨ m.1 86 t = 2 := by
        rcases g1.1 with z | z | z | z
        · exact absurd z h0
        · exact Or.inl z
        · exact Or.inr z
        · exact absurd z h3
      obtain ⟨⟨r0, r2⟩, ⟨t1, t4⟩⟩ := g1.2.1 hst
      have ea : (m.1 91 t + 1).toInt = (m.1 91 t).toInt + 1 := i_p1 (by omega)
      rw [qi_eq]
      split
      · rename_i hl
        refine ⟨0, 0, by rw [ck_w _ (by decide)]; exact Nat.le_refl _, by rw [ck_w _ (by decide)]; exact Nat.le_refl _, fun d tau X1 X4 h => ?_⟩
        have q86 : (my_pi m 91 t (m.1 91 t + 1)).1 86 t = m.1 86 t := qi_ne (by omega)
        have q92 : (my_pi m 91 t (m.1 91 t + 1)).1 92 t = m.1 92 t := qi_ne (by omega)
        have q91 : (my_pi m 91 t (m.1 91 t + 1)).1 91 t = m.1 91 t + 1 := qi_eq
        refine NF_1 h ht (fun i s hi hss => qi_ne (by omega)) ?_ ?_ ?_ ?_
        · unfold ua; rw [q86, q92]; omega
        · unfold ub; rw [q86, q91, ea]; split <;> omega
        · unfold uc; rw [q86, q92]; omega
        · unfold ud; rw [q86, q91, ea]; split <;> omega
      · rename_i hl
        rw [i_lt, ea, show (3 : Int32).toInt = 3 from rfl] at hl
        rw [qi_ne (show ¬ (92 = 91 ∧ t = t) by omega)]
        split
        · rename_i hl4
          rw [i_lt, show (4 : Int32).toInt = 4 from rfl] at hl4
          obtain ⟨a1, a2, a3⟩ := ask_v (my_pi m 91 t (m.1 91 t + 1)) ht
          have q86 : (my_pi m 91 t (m.1 91 t + 1)).1 86 t = m.1 86 t := qi_ne (by omega)
          have q92 : (my_pi m 91 t (m.1 91 t + 1)).1 92 t = m.1 92 t := qi_ne (by omega)
          have c1 := ask_ck (my_pi m 91 t (m.1 91 t + 1)) (Int32.ofNat t) 1
          have c4 := ask_ck (my_pi m 91 t (m.1 91 t + 1)) (Int32.ofNat t) 4
          rw [of_cl t (by omega), q86, ck_w _ (by decide)] at c1 c4
          have n86 : (mo_ask (my_pi m 91 t (m.1 91 t + 1)) (Int32.ofNat t)).1 86 t = m.1 86 t := by rw [a3 86 t (by decide) (by omega), q86]
          have n92 : ((mo_ask (my_pi m 91 t (m.1 91 t + 1)) (Int32.ofNat t)).1 92 t).toInt = (m.1 92 t).toInt + 1 := by rw [a2, q92, i_p1 (by omega)]
          have n91 : ((mo_ask (my_pi m 91 t (m.1 91 t + 1)) (Int32.ofNat t)).1 91 t).toInt = 0 := by rw [a1]; rfl
          have oo : ∀ i s, (i = 86 ∨ i = 91 ∨ i = 92) → ¬ s = t → (mo_ask (my_pi m 91 t (m.1 91 t + 1)) (Int32.ofNat t)).1 i s = m.1 i s := fun i s hi hss => by rw [a3 i s (by omega) (by omega), qi_ne (by omega)]
          generalize mo_ask (my_pi m 91 t (m.1 91 t + 1)) (Int32.ofNat t) = m' at *
          rcases hst with z | z
          · rw [if_pos z] at c1 c4
            rw [if_pos rfl] at c1
            rw [if_neg (show ¬ (1 : Int32) = 4 by decide)] at c4
            refine ⟨1, 0, c1, c4, fun d tau X1 X4 h => NF_1 h ht oo ?_ ?_ ?_ ?_⟩
            · unfold ua; rw [n86, if_pos z, if_pos z, n92]; omega
            · unfold ub; rw [n86, if_pos z, if_pos z, n91]; omega
            · unfold uc; rw [n86, if_neg (by rw [z]; decide), if_pos z, if_neg (by rw [z]; decide)]; omega
            · unfold ud; rw [n86, if_neg (by rw [z]; decide), if_pos z, if_neg (by rw [z]; decide)]; omega
          · have nz : ¬ m.1 86 t = 1 := by rw [z]; decide
            rw [if_neg nz] at c1 c4
            rw [if_neg (show ¬ (4 : Int32) = 1 by decide)] at c1
            rw [if_pos rfl] at c4
            refine ⟨0, 1, c1, c4, fun d tau X1 X4 h => NF_1 h ht oo ?_ ?_ ?_ ?_⟩
            · unfold ua; rw [n86, if_neg nz, if_neg nz]; omega
            · unfold ub; rw [n86, if_neg nz, if_neg nz]; omega
            · unfold uc; rw [n86, if_pos z, if_pos z, n92]; omega
            · unfold ud; rw [n86, if_pos z, if_pos z, n91]; omega
        · split
          · exact lv _ 91 _ (by omega) rfl
          · obtain ⟨a1, a2, a3⟩ := off_v (my_pi m 91 t (m.1 91 t + 1)) ht
            refine ⟨0, 0, by rw [off_ck, ck_w _ (by decide)]; exact Nat.le_refl _, by rw [off_ck, ck_w _ (by decide)]; exact Nat.le_refl _, fun d tau X1 X4 h => ?_⟩
            refine NF_mono (NF_off h hs ht (fun j s hj hss => ?_) (Or.inl a1)) (by omega) (by omega) (by omega) (by omega)
            rw [a3 j s (by omega), qi_ne (by omega)]
theorem dial_n {m : mx_M} (hs : gS m) (x y z : Int32) : ∃ a1 : Nat, ck (mo_dial m x y z).1 1 ≤ ck m 1 + a1 ∧ ck (mo_dial m x y z).1 4 ≤ ck m 4 ∧ ∀ d tau X1 X4 : Int, NF m d tau X1 X4 → NF (mo_dial m x y z).1 (d + 1) tau (X1 + a1) X4 := by
  rcases dial_eq m x y z with ⟨t, ht, _, h0, e⟩ | e
  · rw [e]
    obtain ⟨a1, a2, a3⟩ := ask_v (my_pi (my_pi (my_pi (my_pi m 88 t y) 89 t z) 86 t 1) 92 t 0) ht
    have q86 : (my_pi (my_pi (my_pi (my_pi m 88 t y) 89 t z) 86 t 1) 92 t 0).1 86 t = 1 := by rw [qi_ne (by omega), qi_eq]
    have c1 := ask_ck (my_pi (my_pi (my_pi (my_pi m 88 t y) 89 t z) 86 t 1) 92 t 0) (Int32.ofNat t) 1
    have c4 := ask_ck (my_pi (my_pi (my_pi (my_pi m 88 t y) 89 t z) 86 t 1) 92 t 0) (Int32.ofNat t) 4
    rw [of_cl t (by omega), q86, if_pos rfl, ck_w _ (by decide), ck_w _ (by decide), ck_w _ (by decide), ck_w _ (by decide)] at c1 c4
    rw [if_pos rfl] at c1
    rw [if_neg (show ¬ (1 : Int32) = 4 by decide)] at c4
    have n86 : (mo_ask (my_pi (my_pi (my_pi (my_pi m 88 t y) 89 t z) 86 t 1) 92 t 0) (Int32.ofNat t)).1 86 t = 1 := by rw [a3 86 t (by decide) (by omega), q86]
    have n92 : ((mo_ask (my_pi (my_pi (my_pi (my_pi m 88 t y) 89 t z) 86 t 1) 92 t 0) (Int32.ofNat t)).1 92 t).toInt = 1 := by rw [a2, qi_eq]; rfl
    have n91 : ((mo_ask (my_pi (my_pi (my_pi (my_pi m 88 t y) 89 t z) 86 t 1) 92 t 0) (Int32.ofNat t)).1 91 t).toInt = 0 := by rw [a1]; rfl
    have oo : ∀ i s, (i = 86 ∨ i = 91 ∨ i = 92) → ¬ s = t → (mo_ask (my_pi (my_pi (my_pi (my_pi m 88 t y) 89 t z) 86 t 1) 92 t 0) (Int32.ofNat t)).1 i s = m.1 i s := fun i s hi hss => by rw [a3 i s (by omega) (by omega), qi_ne (by omega), qi_ne (by omega), qi_ne (by omega), qi_ne (by omega)]
    generalize mo_ask (my_pi (my_pi (my_pi (my_pi m 88 t y) 89 t z) 86 t 1) 92 t 0) (Int32.ofNat t) = m' at *
    have u := u_0 (m := m) (s := t) (by rw [h0]; decide) (by rw [h0]; decide)
    refine ⟨1, c1, by omega, fun d tau X1 X4 h => NF_1 h ht oo ?_ ?_ ?_ ?_⟩
    · rw [u.1]; unfold ua; rw [if_pos n86, n92]; omega
    · rw [u.2.1]; unfold ub; rw [if_pos n86, n91]; omega
    · rw [u.2.2.1]; unfold uc; rw [if_neg (by rw [n86]; decide), if_pos n86]; omega
    · rw [u.2.2.2]; unfold ud; rw [if_neg (by rw [n86]; decide), if_pos n86]; omega
  · rw [e]
    exact ⟨0, Nat.le_refl _, Nat.le_refl _, fun d tau X1 X4 h => NF_mono h (by omega) (by omega) (by omega) (by omega)⟩
theorem hang_n {m : mx_M} (hs : gS m) (x : Int32) : ck (mo_hangup m x).1 1 ≤ ck m 1 ∧ ck (mo_hangup m x).1 4 ≤ ck m 4 ∧ ∀ d tau X1 X4 : Int, NF m d tau X1 X4 → NF (mo_hangup m x).1 d tau X1 X4 := by
  rcases hang_eq m x with ⟨t, ht, e | e⟩ | e
  · rw [e]
    obtain ⟨a1, a2, a3⟩ := leave_v m ht
    exact ⟨leave_ck m _ (by decide), leave_ck m _ (by decide), fun d tau X1 X4 h => NF_off h hs ht (fun i s hi hss => a3 i s (by omega) (by omega)) (Or.inl a1)⟩
  · rw [e]
    obtain ⟨a1, a2, a3⟩ := off_v m ht
    exact ⟨by rw [off_ck]; exact Nat.le_refl _, by rw [off_ck]; exact Nat.le_refl _, fun d tau X1 X4 h => NF_off h hs ht (fun i s hi hss => a3 i s (by omega)) (Or.inl a1)⟩
  · rw [e]; exact ⟨Nat.le_refl _, Nat.le_refl _, fun _ _ _ _ h => h⟩
/-! the messages of the access node -/
def nz (m : mx_M) (s : Nat) : Int := if m.1 97 s = 0 then 0 else 1
def NE0 (m : mx_M) (J Hl : Int) : Prop := vpt m 0 + sum4 (nz m) ≤ 1 + J + vex m 0 + Hl
theorem nz_r (m : mx_M) (s : Nat) : 0 ≤ nz m s ∧ nz m s ≤ 1 := by
  unfold nz; split <;> omega
theorem nz_f {m m' : mx_M} (h : m'.1 97 = m.1 97) : nz m' = nz m := by
  funext s; unfold nz; rw [h]
theorem NE0_f {m m' : mx_M} {J Hl : Int} (h : NE0 m J Hl) (h7 : m'.1 97 = m.1 97) (h9 : m'.1 109 0 = m.1 109 0) (h10 : m'.1 110 0 = m.1 110 0) : NE0 m' J Hl := by
  unfold NE0 at *
  have e1 : vpt m' 0 = vpt m 0 := by show (m'.1 109 0).toInt = _; rw [h9]
  have e2 : vex m' 0 = vex m 0 := by show (m'.1 110 0).toInt = _; rw [h10]
  rw [nz_f h7, e1, e2]
  exact h
theorem say_pt {m : mx_M} {e : Nat} (he : e < 2) (hi : iE m 1399) (k a b : Int32) : vpt (mo_say m (Int32.ofNat e) k a b) e ≤ vpt m e + 1 := by
  have hie := iE_get hi he
  show ((mo_say m (Int32.ofNat e) k a b).1 109 e).toInt ≤ _
  rw [mo_say_eq m he hie]
  obtain ⟨i1, i2, i3, i4, i5⟩ := hie
  have vve := vv m e
  split
  · omega
  · split
    · rw [qi_ne (by omega), my_tr_o _ he _ (by omega) (by decide), sy6_109, i_p1 (by omega)]; omega
    · rw [sy6_109, i_p1 (by omega)]; omega
theorem NE0_say {m : mx_M} {J Hl J' Hl' : Int} (h : NE0 m J Hl) (hi : iE m 1399) (hJ : J + Hl + 1 ≤ J' + Hl') (k a b : Int32) : NE0 (mo_say m 0 k a b) J' Hl' := by
  have hp : vpt (mo_say m 0 k a b) 0 ≤ vpt m 0 + 1 := say_pt (e := 0) (by decide) hi k a b
  have o (i j : Nat) (hij : ¬ (i = 85 ∨ 113 ≤ i ∨ ((i = 108 ∨ i = 109 ∨ i = 111 ∨ i = 112) ∧ j = 0))) : (mo_say m 0 k a b).1 i j = m.1 i j := say_o (e := 0) (by decide) hi.1 k a b (by omega)
  have hx : vex (mo_say m 0 k a b) 0 = vex m 0 := by show ((mo_say m 0 k a b).1 110 0).toInt = _; rw [o 110 0 (by omega)]
  have hz : nz (mo_say m 0 k a b) = nz m := nz_f (funext fun j => o 97 j (by omega))
  unfold NE0 at *
  rw [hx, hz]
  omega
theorem NE0_td {m : mx_M} {J Hl : Int} (h : NE0 m J Hl) (hi : iE m 1399) (hc : iC m) {t : Nat} (ht : t < 4) : NE0 (mo_takeDown m (Int32.ofNat t)) J Hl := by
  unfold mo_takeDown
  rw [of_cl t (by omega)]
  have hr : sum4 (nz (my_pi (my_pi m 96 t 0) 97 t 0)) = sum4 (nz m) + 0 - nz m t := by
    have e := sum4_1 (f := nz m) (f' := nz (my_pi (my_pi m 96 t 0) 97 t 0)) ht (fun s hs => by unfold nz; rw [qi_ne (by omega), qi_ne (by omega)])
    have e2 : nz (my_pi (my_pi m 96 t 0) 97 t 0) t = 0 := by unfold nz; rw [qi_eq, if_pos rfl]
    rw [e2] at e
    exact e
  have e1 : vpt (my_pi (my_pi m 96 t 0) 97 t 0) 0 = vpt m 0 := by show ((my_pi (my_pi m 96 t 0) 97 t 0).1 109 0).toInt = _; rw [qi_ne (by omega), qi_ne (by omega)]
  have e2 : vex (my_pi (my_pi m 96 t 0) 97 t 0) 0 = vex m 0 := by show ((my_pi (my_pi m 96 t 0) 97 t 0).1 110 0).toInt = _; rw [qi_ne (by omega), qi_ne (by omega)]
  have nr := nz_r m t
  split
  · rename_i hz
    have n1 : nz m t = 1 := by unfold nz; rw [if_neg (fun q => by rw [q] at hz; exact absurd hz (by decide))]
    have g : NE0 (my_pi (my_pi m 96 t 0) 97 t 0) (J - 1) Hl := by
      unfold NE0 at *
      rw [e1, e2, hr]
      omega
    exact NE0_say g (rm_iE hi t 0 0) (by omega) _ _ _
  · unfold NE0 at *
    show vpt (my_pi (my_pi m 96 t 0) 97 t 0) 0 + sum4 (nz (my_pi (my_pi m 96 t 0) 97 t 0)) ≤ 1 + J + vex (my_pi (my_pi m 96 t 0) 97 t 0) 0 + Hl
    rw [e1, e2, hr]
    omega
theorem NE0_jn {m : mx_M} {J Hl : Int} (h : NE0 m J Hl) (h0 : 0 ≤ J ∧ 0 ≤ Hl) (hi : iE m 1398) (hc : m.1 106 0 = 0 → ∀ s : Nat, s < 4 → m.1 97 s = 0) (t : Nat) : NE0 (mo_jn m t) (J + 1) Hl := by
  unfold mo_jn
  dsimp only
  have i4 := iE_snd (iE_w (iE_w hi (i := 82) (k := 28) (v := m.1 82 28 + 1) (by omega)) (i := 96) (k := t) (v := m.1 82 28 + 1) (by omega)) (pk9 2 4 (Int32.ofNat t) (m.1 82 28 + 1) 0 0 0 0 0)
  have o4 (i j : Nat) (h : ¬ (i = 85 ∨ i = 96 ∨ i = 82)) : (my_send (my_pi (my_pi m 82 28 (m.1 82 28 + 1)) 96 t (m.1 82 28 + 1)) (pk9 2 4 (Int32.ofNat t) (m.1 82 28 + 1) 0 0 0 0 0)).1 i j = m.1 i j := by
    rw [my_send_o _ _ (by omega), qi_ne (by omega), qi_ne (by omega)]
  generalize my_send (my_pi (my_pi m 82 28 (m.1 82 28 + 1)) 96 t (m.1 82 28 + 1)) (pk9 2 4 (Int32.ofNat t) (m.1 82 28 + 1) 0 0 0 0 0) = M at *
  split
  · rename_i hz
    have i7 := iE_w (clear_iE (e := 0) (by decide) (by decide) (iE_w i4 (i := 82) (k := 30) (v := m.1 82 30 + 1) (by omega)) (m.1 82 30 + 1)) (i := 82) (k := 17) (v := 0) (by omega)
    have cv := clear_v (my_pi M 82 30 (m.1 82 30 + 1)) (e := 0) (by decide) (m.1 82 30 + 1)
    have g7 : NE0 (my_pi (mo_clear (my_pi M 82 30 (m.1 82 30 + 1)) 0 (m.1 82 30 + 1)) 82 17 0) (J - 1) Hl := by
      have e1 : vpt (my_pi (mo_clear (my_pi M 82 30 (m.1 82 30 + 1)) 0 (m.1 82 30 + 1)) 82 17 0) 0 = 0 := by
        show ((my_pi (mo_clear (my_pi M 82 30 (m.1 82 30 + 1)) (Int32.ofNat 0) (m.1 82 30 + 1)) 82 17 0).1 109 0).toInt = _
        rw [qi_ne (by omega), cv.2.2.2.1]; rfl
      have e2 : vex (my_pi (mo_clear (my_pi M 82 30 (m.1 82 30 + 1)) 0 (m.1 82 30 + 1)) 82 17 0) 0 = 0 := by
        show ((my_pi (mo_clear (my_pi M 82 30 (m.1 82 30 + 1)) (Int32.ofNat 0) (m.1 82 30 + 1)) 82 17 0).1 110 0).toInt = _
        rw [qi_ne (by omega), cv.2.2.2.2]; rfl
      have e3 (s : Nat) (hs : s < 4) : nz (my_pi (mo_clear (my_pi M 82 30 (m.1 82 30 + 1)) 0 (m.1 82 30 + 1)) 82 17 0) s = 0 := by
        unfold nz
        have : (my_pi (mo_clear (my_pi M 82 30 (m.1 82 30 + 1)) (Int32.ofNat 0) (m.1 82 30 + 1)) 82 17 0).1 97 s = 0 := by
          rw [qi_ne (by omega), clear_o _ (by decide) _ (by omega), qi_ne (by omega), o4 97 s (by omega)]; exact hc hz s hs
        exact if_pos this
      unfold NE0 sum4
      rw [e1, e2, e3 0 (by decide), e3 1 (by decide), e3 2 (by decide), e3 3 (by decide)]
      omega
    have i8 := say_iE (e := 0) (by decide) (by decide) i7 12 0 0
    exact NE0_say (NE0_say g7 (iE_mono i7 (by decide)) (J' := J) (Hl' := Hl) (by omega) 12 0 0) i8 (by omega) 13 _ 0
  · refine NE0_say (J := J) (Hl := Hl) (NE0_f h (funext fun j => o4 97 j (by omega)) (o4 109 0 (by omega)) (o4 110 0 (by omega))) (iE_mono i4 (by decide)) (by omega) 13 _ 0
