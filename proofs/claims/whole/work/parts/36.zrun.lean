/-! The phase in which cells are made: a run that may fail, the list of the cells made so far -/
abbrev zx_K (M : Type) : Type := List Value → M → Option (rx_R M)
abbrev zx_E (M : Type) : Type := Nat × rx_I × Nat × Nat × Nat × Int32 × List (Int32 × Nat) × zx_K M
def zx_k {M : Type} (K : zx_K M) : rx_K M := fun av x => match K av x with
  | some r => (True, r)
  | none => (False, (x, none))
def zx_c {M : Type} (x : zx_E M) : rx_E M := match x with
  | (pc, i, len, kd, a, v, sw, K) => (pc, i, len, kd, a, v, sw, zx_k K)
def zx_run {M : Type} (code : List (zx_E M)) : Nat → List (zx_E M) → M → rx_L → List Value → Option (rx_R M)
  | 0, _, _, _, _ => none
  | _ + 1, [], _, _, _ => none
  | n + 1, (_, i, _, kd, a, v, _, K) :: r, mem, ls, st =>
    match kd with
    | 0 => match rx_st i a v ls st with
      | some (ls', st') => zx_run code n r mem ls' st'
      | none => none
    | 1 => zx_run code n (code.drop a) mem ls st
    | 2 => match rx_cmp i st with
      | some (o, x, y, st) => match o with
        | .eq => if x = y then zx_run code n (code.drop a) mem ls st else zx_run code n r mem ls st
        | .ne => if x = y then zx_run code n r mem ls st else zx_run code n (code.drop a) mem ls st
        | .lt => if x < y then zx_run code n (code.drop a) mem ls st else zx_run code n r mem ls st
        | .ge => if x < y then zx_run code n r mem ls st else zx_run code n (code.drop a) mem ls st
        | .gt => if y < x then zx_run code n (code.drop a) mem ls st else zx_run code n r mem ls st
        | .le => if y < x then zx_run code n r mem ls st else zx_run code n (code.drop a) mem ls st
      | none => none
    | 3 => none
    | 4 => none
    | 5 => none
    | 6 => match st with
      | [] => some (mem, none)
      | _ => none
    | _ => cond (Nat.ble a st.length && Nat.ble st.length (a + 8)) (match K (st.take a).reverse mem with
      | some (mem', w) => zx_run code n r mem' ls (w.toList ++ st.drop a)
      | none => none) none
theorem zx_sound {M : Type} (code : List (zx_E M)) : ∀ (n : Nat) (r : List (zx_E M)) (mem : M) (ls : rx_L) (st : List Value) (res : rx_R M), zx_run code n r mem ls st = some res → rx_sf (code.map zx_c) [] n (r.map zx_c) mem ls st ∧ rx_ev (code.map zx_c) [] n (r.map zx_c) mem ls st = res := by
  intro n
  induction n with
  | zero => intro r mem ls st res h; cases h
  | succ n ih =>
    have go : ∀ (r : List (zx_E M)) (mem : M) (ls : rx_L) (st : List Value) (d : rx_R M) (res : rx_R M), zx_run code n r mem ls st = some res → rx_go False (rx_cP []) (rx_sf (code.map zx_c) [] n) (r.map zx_c) mem ls st ∧ rx_go d (rx_cF []) (rx_ev (code.map zx_c) [] n) (r.map zx_c) mem ls st = res := by
      intro r mem ls st d res h
      cases r with
      | nil => cases n <;> cases h
      | cons e r => exact ih (e :: r) mem ls st res h
    have goD : ∀ (a : Nat) (mem : M) (ls : rx_L) (st : List Value) (d : rx_R M) (res : rx_R M), zx_run code n (code.drop a) mem ls st = some res → rx_go False (rx_cP []) (rx_sf (code.map zx_c) [] n) ((code.map zx_c).drop a) mem ls st ∧ rx_go d (rx_cF []) (rx_ev (code.map zx_c) [] n) ((code.map zx_c).drop a) mem ls st = res := by
      intro a mem ls st d res h
      rw [← List.map_drop]
      exact go _ mem ls st d res h
    intro r mem ls st res h
    cases r with
    | nil => cases h
    | cons e r =>
      obtain ⟨pc, i, len, kd, a, v, sw, K⟩ := e
      match kd, h with
      | 0, h =>
        simp only [zx_run] at h
        simp only [List.map_cons, zx_c, rx_sf, rx_ev]
        split at h
        · next ls' st' hs => simp only [hs]; exact go _ _ _ _ _ _ h
        · cases h
      | 1, h =>
        simp only [zx_run] at h
        simp only [List.map_cons, zx_c, rx_sf, rx_ev]
        exact goD _ _ _ _ _ _ h
      | 2, h =>
        simp only [zx_run] at h
        simp only [List.map_cons, zx_c, rx_sf, rx_ev]
        split at h
        · next o x y st' hs =>
          simp only [hs]
          cases o <;> simp only at h ⊢ <;> split at h <;> rename_i hc <;> simp only [hc, if_true, if_false, not_true_eq_false, false_implies, true_implies, not_false_eq_true, true_and, and_true] <;> first | exact goD _ _ _ _ _ _ h | exact go _ _ _ _ _ _ h
        · cases h
      | 3, h => cases h
      | 4, h => cases h
      | 5, h => cases h
      | 6, h =>
        simp only [zx_run] at h
        simp only [List.map_cons, zx_c, rx_sf, rx_ev]
        split at h
        · cases h; exact ⟨trivial, rfl⟩
        · cases h
      | kd + 7, h =>
        simp only [zx_run] at h
        simp only [List.map_cons, zx_c, rx_sf, rx_ev]
        cases hb : (Nat.ble a st.length && Nat.ble st.length (a + 8)) with
        | false => rw [hb] at h; cases h
        | true =>
          rw [hb] at h
          simp only [cond_true] at h ⊢
          unfold zx_k
          split at h
          · next mem' w hs => simp only [hs]; exact ⟨⟨trivial, (go _ _ _ _ (mem', none) _ h).1⟩, (go _ _ _ _ _ _ h).2⟩
          · cases h
