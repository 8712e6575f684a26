/-! The constructors, evaluated: a run step by step, by place in the code; the pool is the only open value -/
def zx_stp {M : Type} (code : List (zx_E M)) (j : Nat) (mem : M) (ls : rx_L) (st : List Value) : Option (Nat × M × rx_L × List Value) :=
  match code.drop j with
  | [] => none
  | (_, i, _, kd, a, v, _, K) :: _ =>
    match kd with
    | 0 => match rx_st i a v ls st with
      | some (ls', st') => some (j + 1, mem, ls', st')
      | none => none
    | 1 => some (a, mem, ls, st)
    | 2 => match rx_cmp i st with
      | some (o, x, y, st) => match o with
        | .eq => if x = y then some (a, mem, ls, st) else some (j + 1, mem, ls, st)
        | .ne => if x = y then some (j + 1, mem, ls, st) else some (a, mem, ls, st)
        | .lt => if x < y then some (a, mem, ls, st) else some (j + 1, mem, ls, st)
        | .ge => if x < y then some (j + 1, mem, ls, st) else some (a, mem, ls, st)
        | .gt => if y < x then some (a, mem, ls, st) else some (j + 1, mem, ls, st)
        | .le => if y < x then some (j + 1, mem, ls, st) else some (a, mem, ls, st)
      | none => none
    | 3 => none
    | 4 => none
    | 5 => none
    | 6 => none
    | _ => cond (Nat.ble a st.length && Nat.ble st.length (a + 8)) (match K (st.take a).reverse mem with
      | some (mem', w) => some (j + 1, mem', ls, w.toList ++ st.drop a)
      | none => none) none
def zx_nst {M : Type} (code : List (zx_E M)) : Nat → Nat → M → rx_L → List Value → Option (Nat × M × rx_L × List Value)
  | 0, j, mem, ls, st => some (j, mem, ls, st)
  | n + 1, j, mem, ls, st => match zx_stp code j mem ls st with
    | some (j', mem', ls', st') => zx_nst code n j' mem' ls' st'
    | none => none
theorem zx_run_stp {M : Type} {code : List (zx_E M)} {j j' : Nat} {mem mem' : M} {ls ls' : rx_L} {st st' : List Value} (h : zx_stp code j mem ls st = some (j', mem', ls', st')) (n : Nat) : zx_run code (n + 1) (code.drop j) mem ls st = zx_run code n (code.drop j') mem' ls' st' := by
  unfold zx_stp at h
  cases hd : code.drop j with
  | nil => rw [hd] at h; cases h
  | cons e r =>
    have hr : code.drop (j + 1) = r := by
      rw [← List.drop_drop, hd]; rfl
    rw [hd] at h
    obtain ⟨pc, i, len, kd, a, v, sw, K⟩ := e
    match kd, h with
    | 0, h =>
      simp only [zx_run] at h ⊢
      split at h
      · next x y hs => cases h; rw [hs]; simp only [hr]
      · cases h
    | 1, h => cases h; rfl
    | 2, h =>
      simp only [zx_run] at h ⊢
      split at h
      · next o x y st2 hs =>
        rw [hs]
        cases o <;> simp only at h ⊢ <;> split at h <;> rename_i hc <;> cases h <;> simp only [hc, if_true, if_false, hr]
      · cases h
    | 3, h => cases h
    | 4, h => cases h
    | 5, h => cases h
    | 6, h => cases h
    | kd + 7, h =>
      simp only [zx_run] at h ⊢
      cases hb : (Nat.ble a st.length && Nat.ble st.length (a + 8)) with
      | false => rw [hb] at h; cases h
      | true =>
        rw [hb] at h
        simp only [cond_true] at h ⊢
        split at h
        · next m2 w hs => cases h; rw [hs]; simp only [hr]
        · cases h
theorem zx_run_nst {M : Type} {code : List (zx_E M)} : ∀ (k : Nat) {j j' : Nat} {mem mem' : M} {ls ls' : rx_L} {st st' : List Value}, zx_nst code k j mem ls st = some (j', mem', ls', st') → ∀ n : Nat, zx_run code (n + k) (code.drop j) mem ls st = zx_run code n (code.drop j') mem' ls' st' := by
  intro k
  induction k with
  | zero => intro j j' mem mem' ls ls' st st' h n; cases h; rfl
  | succ k ih =>
    intro j j' mem mem' ls ls' st st' h n
    simp only [zx_nst] at h
    split at h
    · next a b c d hs =>
      rw [← Nat.add_assoc, zx_run_stp hs (n + k)]
      exact ih h n
    · cases h
/-! a slot that is not read may hold anything -/
theorem rx_at_set {ls : rx_L} {a : Nat} {y : Option Value} : ∀ {b : Nat}, ¬ a = b → rx_at (ls.set a y) b = rx_at ls b := by
  induction ls generalizing a with
  | nil => intro b _; rfl
  | cons x r ih =>
    intro b hn
    cases a with
    | zero => cases b with
      | zero => exact absurd rfl hn
      | succ b => rfl
    | succ a => cases b with
      | zero => rfl
      | succ b => exact ih (fun h => hn (congrArg _ h))
theorem rx_at_setE {ls : rx_L} {y : Option Value} : ∀ {b : Nat}, b < ls.length → rx_at (ls.set b y) b = y := by
  induction ls with
  | nil => intro b h; exact absurd h (Nat.not_lt_zero _)
  | cons x r ih =>
    intro b h
    cases b with
    | zero => rfl
    | succ b => exact ih (Nat.lt_of_succ_lt_succ h)
theorem rx_st_sl {i : rx_I} {a q : Nat} {v : Int32} {ls ls' : rx_L} {st st' : List Value} {x : Option Value} (hq : q < ls.length) (h : rx_st i a v ls st = some (ls', st')) (h0 : rx_at ls' q = none) :
    q < ls'.length ∧ rx_at ls q = none ∧ rx_st i a v (ls.set q x) st = some (ls'.set q x, st') := by
  have key : ∀ {w : Value}, rx_at (ls.set a (some w)) q = none → ¬ a = q := by
    intro w hw e
    subst e
    rw [rx_at_setE hq] at hw
    cases hw
  have key2 : ∀ {w : Value}, rx_at ls a = some w → ¬ a = q → rx_at (ls.set q x) a = some w := by
    intro w hw e
    rw [rx_at_set (fun z => e z.symm), hw]
  have key3 : ∀ {w : Value}, rx_at ls q = none → rx_at ls a = some w → ¬ a = q := by
    intro w h1 h2 e
    rw [e, h1] at h2
    cases h2
  have len : ∀ {w : Option Value}, (ls.set a w).length = ls.length := List.length_set
  unfold rx_st at h ⊢
  split at h <;> first
    | (cases h; exact ⟨hq, h0, rfl⟩)
    | cases h
    | skip
  all_goals try (split at h <;> first | cases h | skip)
  all_goals first
    | exact ⟨hq, h0, rfl⟩
    | (next hs => exact ⟨hq, h0, by rw [key2 hs (key3 h0 hs)]⟩)
    | (refine ⟨by rw [len]; exact hq, by rw [rx_at_set (key h0)] at h0; exact h0, ?_⟩; rw [List.set_comm _ _ (fun z => key h0 z.symm)])
    | skip
  · next hs =>
    refine ⟨by rw [len]; exact hq, by rw [rx_at_set (key h0)] at h0; exact h0, ?_⟩
    rw [key2 hs (key h0)]
    simp only
    rw [List.set_comm _ _ (fun z => key h0 z.symm)]
  · split at h
    · cases h
    · next hy => cases h; exact ⟨hq, h0, by rw [if_neg hy]⟩
theorem zx_stp_sl {M : Type} {code : List (zx_E M)} {j j' q : Nat} {mem mem' : M} {ls ls' : rx_L} {st st' : List Value} {x : Option Value} (hq : q < ls.length) (h : zx_stp code j mem ls st = some (j', mem', ls', st')) (h0 : rx_at ls' q = none) :
    q < ls'.length ∧ rx_at ls q = none ∧ zx_stp code j mem (ls.set q x) st = some (j', mem', ls'.set q x, st') := by
  unfold zx_stp at h ⊢
  cases hd : code.drop j with
  | nil => rw [hd] at h; cases h
  | cons e r =>
    rw [hd] at h
    obtain ⟨pc, i, len, kd, a, v, sw, K⟩ := e
    match kd, h with
    | 0, h =>
      simp only at h ⊢
      split at h
      · next l2 s2 hs =>
        cases h
        obtain ⟨h1, h2, h3⟩ := rx_st_sl (x := x) hq hs h0
        exact ⟨h1, h2, by rw [h3]⟩
      · cases h
    | 1, h => cases h; exact ⟨hq, h0, rfl⟩
    | 2, h =>
      simp only at h ⊢
      split at h
      · next o y z st2 hs =>
        cases o <;> simp only at h ⊢ <;> split at h <;> rename_i hc <;> cases h <;> simp only [hc, if_true, if_false] <;> exact ⟨hq, h0, trivial⟩
      · cases h
    | 3, h => cases h
    | 4, h => cases h
    | 5, h => cases h
    | 6, h => cases h
    | kd + 7, h =>
      simp only at h ⊢
      cases hb : (Nat.ble a st.length && Nat.ble st.length (a + 8)) with
      | false => rw [hb] at h; cases h
      | true =>
        rw [hb] at h
        simp only [cond_true] at h ⊢
        split at h
        · next m2 w hs => cases h; exact ⟨hq, h0, rfl⟩
        · cases h
theorem rx_st_len {i : rx_I} {a : Nat} {v : Int32} {ls ls' : rx_L} {st st' : List Value} (h : rx_st i a v ls st = some (ls', st')) : ls'.length = ls.length := by
  unfold rx_st at h
  split at h <;> first
    | (cases h; rfl)
    | cases h
    | skip
  all_goals try (split at h <;> first | cases h | skip)
  all_goals first
    | rfl
    | exact List.length_set
    | (split at h <;> first | (cases h; rfl) | cases h)
theorem zx_stp_len {M : Type} {code : List (zx_E M)} {j j' : Nat} {mem mem' : M} {ls ls' : rx_L} {st st' : List Value} (h : zx_stp code j mem ls st = some (j', mem', ls', st')) : ls'.length = ls.length := by
  unfold zx_stp at h
  cases hd : code.drop j with
  | nil => rw [hd] at h; cases h
  | cons e r =>
    rw [hd] at h
    obtain ⟨pc, i, len, kd, a, v, sw, K⟩ := e
    match kd, h with
    | 0, h =>
      simp only at h
      split at h
      · next l2 s2 hs => cases h; exact rx_st_len hs
      · cases h
    | 1, h => cases h; rfl
    | 2, h =>
      simp only at h
      split at h
      · next o y z st2 hs => cases o <;> simp only at h <;> split at h <;> cases h <;> rfl
      · cases h
    | 3, h => cases h
    | 4, h => cases h
    | 5, h => cases h
    | 6, h => cases h
    | kd + 7, h =>
      simp only at h
      cases hb : (Nat.ble a st.length && Nat.ble st.length (a + 8)) with
      | false => rw [hb] at h; cases h
      | true =>
        rw [hb] at h
        simp only [cond_true] at h
        split at h
        · cases h; rfl
        · cases h
theorem zx_nst_sl {M : Type} {code : List (zx_E M)} {q : Nat} {x : Option Value} : ∀ (k : Nat) {j j' : Nat} {mem mem' : M} {ls ls' : rx_L} {st st' : List Value}, q < ls.length → zx_nst code k j mem ls st = some (j', mem', ls', st') → rx_at ls' q = none → rx_at ls q = none ∧ zx_nst code k j mem (ls.set q x) st = some (j', mem', ls'.set q x, st') := by
  intro k
  induction k with
  | zero => intro j j' mem mem' ls ls' st st' hq h h0; cases h; exact ⟨h0, rfl⟩
  | succ k ih =>
    intro j j' mem mem' ls ls' st st' hq h h0
    simp only [zx_nst] at h ⊢
    split at h
    · next a b c d hs =>
      by_cases hn : rx_at c q = none
      · obtain ⟨h1, h2, h3⟩ := zx_stp_sl (x := x) hq hs hn
        rw [h3]
        exact ⟨h2, (ih h1 h h0).2⟩
      · exact absurd (ih (by rw [zx_stp_len hs]; exact hq) h h0).1 hn
    · cases h
