/-! A small runner over the machine's own instructions: code as a list of entries, 'rx_ev' what a run answers, 'rx_sf' what it takes for granted; 'rx_sound' ties both to the machine -/
abbrev rx_I : Type := Jvm.ClassFile.Instr
abbrev rx_L : Type := List (Option Value)
abbrev rx_K (M : Type) : Type := List Value → M → Prop × M × Option Value
abbrev rx_E (M : Type) : Type := Nat × rx_I × Nat × Nat × Nat × Int32 × List (Int32 × Nat) × rx_K M
abbrev rx_R (M : Type) : Type := M × Option Value
abbrev rx_C (M : Type) : Type := List (Nat × (M → rx_L → List Value → Prop × rx_R M))
def rx_at : rx_L → Nat → Option Value
  | [], _ => none
  | x :: _, 0 => x
  | _ :: r, n + 1 => rx_at r n
def rx_cut {α : Type} : List (Nat × α) → Nat → Option α
  | [], _ => none
  | (q, g) :: t, pc => cond (Nat.beq q pc) (some g) (rx_cut t pc)
def rx_st (i : rx_I) (a : Nat) (v : Int32) (ls : rx_L) (st : List Value) : Option (rx_L × List Value) :=
  match i with
  | .iconst _ => some (ls, .int v :: st)
  | .bipush _ => some (ls, .int v :: st)
  | .sipush _ => some (ls, .int v :: st)
  | .iload_n _ => match rx_at ls a with
    | some (.int x) => some (ls, .int x :: st)
    | _ => none
  | .iload _ => match rx_at ls a with
    | some (.int x) => some (ls, .int x :: st)
    | _ => none
  | .aload_n _ => match rx_at ls a with
    | some (.ref x) => some (ls, .ref x :: st)
    | some .null => some (ls, .null :: st)
    | _ => none
  | .aload _ => match rx_at ls a with
    | some (.ref x) => some (ls, .ref x :: st)
    | some .null => some (ls, .null :: st)
    | _ => none
  | .istore_n _ => match st with
    | .int x :: st => some (ls.set a (some (.int x)), st)
    | _ => none
  | .istore _ => match st with
    | .int x :: st => some (ls.set a (some (.int x)), st)
    | _ => none
  | .astore_n _ => match st with
    | .ref x :: st => some (ls.set a (some (.ref x)), st)
    | .null :: st => some (ls.set a (some .null), st)
    | _ => none
  | .astore _ => match st with
    | .ref x :: st => some (ls.set a (some (.ref x)), st)
    | .null :: st => some (ls.set a (some .null), st)
    | _ => none
  | .iinc _ _ => match rx_at ls a with
    | some (.int x) => some (ls.set a (some (.int (x + v))), st)
    | _ => none
  | .iadd => match st with
    | .int y :: .int x :: st => some (ls, .int (x + y) :: st)
    | _ => none
  | .isub => match st with
    | .int y :: .int x :: st => some (ls, .int (x - y) :: st)
    | _ => none
  | .imul => match st with
    | .int y :: .int x :: st => some (ls, .int (x * y) :: st)
    | _ => none
  | .iand => match st with
    | .int y :: .int x :: st => some (ls, .int (x &&& y) :: st)
    | _ => none
  | .irem => match st with
    | .int y :: .int x :: st => if y = 0 then none else some (ls, .int (x - x / y * y) :: st)
    | _ => none
  | .ishl => match st with
    | .int y :: .int x :: st => some (ls, .int (x <<< (y &&& 31)) :: st)
    | _ => none
  | .dup => match st with
    | x :: st => some (ls, x :: x :: st)
    | _ => none
  | .dup2 => match st with
    | y :: x :: st => some (ls, y :: x :: y :: x :: st)
    | _ => none
  | .pop => match st with
    | _ :: st => some (ls, st)
    | _ => none
  | .aconst_null => some (ls, .null :: st)
  | _ => none
def rx_cmp (i : rx_I) (st : List Value) : Option (Jvm.ClassFile.Cond × Int32 × Int32 × List Value) :=
  match i with
  | .ifCond o _ => match st with
    | .int x :: st => some (o, x, 0, st)
    | _ => none
  | .if_icmp o _ => match st with
    | .int y :: .int x :: st => some (o, x, y, st)
    | _ => none
  | _ => none
def rx_go {M α : Type} (d : α) (cut : Nat → Option (M → rx_L → List Value → α)) (f : List (rx_E M) → M → rx_L → List Value → α) (r : List (rx_E M)) (mem : M) (ls : rx_L) (st : List Value) : α :=
  match r with
  | [] => d
  | e :: r' => match cut e.1 with
    | some g => g mem ls st
    | none => f (e :: r') mem ls st
def rx_swe {α : Type} (f : Nat → α) (x : Int32) (d : Nat) : List (Int32 × Nat) → α
  | [] => f d
  | (v, t) :: r => if x = v then f t else rx_swe f x d r
def rx_sws (f : Nat → Prop) (x : Int32) (d : Nat) : List (Int32 × Nat) → Prop
  | [] => f d
  | (v, t) :: r => (x = v → f t) ∧ (¬ x = v → rx_sws f x d r)
def rx_cF {M : Type} (cut : rx_C M) (pc : Nat) : Option (M → rx_L → List Value → rx_R M) := (rx_cut cut pc).map (fun g => fun mem ls st => (g mem ls st).2)
def rx_cP {M : Type} (cut : rx_C M) (pc : Nat) : Option (M → rx_L → List Value → Prop) := (rx_cut cut pc).map (fun g => fun mem ls st => (g mem ls st).1)
def rx_ev {M : Type} (code : List (rx_E M)) (cut : rx_C M) : Nat → List (rx_E M) → M → rx_L → List Value → rx_R M
  | 0, _, mem, _, _ => (mem, none)
  | _ + 1, [], mem, _, _ => (mem, none)
  | n + 1, (_, i, _, kd, a, v, sw, K) :: r, mem, ls, st =>
    match kd with
    | 0 => match rx_st i a v ls st with
      | some (ls', st') => rx_go (mem, none) (rx_cF cut) (rx_ev code cut n) r mem ls' st'
      | none => (mem, none)
    | 1 => rx_go (mem, none) (rx_cF cut) (rx_ev code cut n) (code.drop a) mem ls st
    | 2 => match rx_cmp i st with
      | some (o, x, y, st) => match o with
        | .eq => if x = y then rx_go (mem, none) (rx_cF cut) (rx_ev code cut n) (code.drop a) mem ls st else rx_go (mem, none) (rx_cF cut) (rx_ev code cut n) r mem ls st
        | .ne => if x = y then rx_go (mem, none) (rx_cF cut) (rx_ev code cut n) r mem ls st else rx_go (mem, none) (rx_cF cut) (rx_ev code cut n) (code.drop a) mem ls st
        | .lt => if x < y then rx_go (mem, none) (rx_cF cut) (rx_ev code cut n) (code.drop a) mem ls st else rx_go (mem, none) (rx_cF cut) (rx_ev code cut n) r mem ls st
        | .ge => if x < y then rx_go (mem, none) (rx_cF cut) (rx_ev code cut n) r mem ls st else rx_go (mem, none) (rx_cF cut) (rx_ev code cut n) (code.drop a) mem ls st
        | .gt => if y < x then rx_go (mem, none) (rx_cF cut) (rx_ev code cut n) (code.drop a) mem ls st else rx_go (mem, none) (rx_cF cut) (rx_ev code cut n) r mem ls st
        | .le => if y < x then rx_go (mem, none) (rx_cF cut) (rx_ev code cut n) r mem ls st else rx_go (mem, none) (rx_cF cut) (rx_ev code cut n) (code.drop a) mem ls st
      | none => (mem, none)
    | 3 => match st with
      | .null :: st => rx_go (mem, none) (rx_cF cut) (rx_ev code cut n) (code.drop a) mem ls st
      | .ref _ :: st => rx_go (mem, none) (rx_cF cut) (rx_ev code cut n) r mem ls st
      | _ => (mem, none)
    | 4 => match st with
      | .int x :: st => rx_swe (fun t => rx_go (mem, none) (rx_cF cut) (rx_ev code cut n) (code.drop t) mem ls st) x a sw
      | _ => (mem, none)
    | 5 => match st with
      | x :: _ => (mem, some x)
      | _ => (mem, none)
    | 6 => (mem, none)
    | _ => match K (st.take a).reverse mem with
      | (_, mem', w) => rx_go (mem', none) (rx_cF cut) (rx_ev code cut n) r mem' ls (w.toList ++ st.drop a)
def rx_sf {M : Type} (code : List (rx_E M)) (cut : rx_C M) : Nat → List (rx_E M) → M → rx_L → List Value → Prop
  | 0, _, _, _, _ => False
  | _ + 1, [], _, _, _ => False
  | n + 1, (_, i, _, kd, a, v, sw, K) :: r, mem, ls, st =>
    match kd with
    | 0 => match rx_st i a v ls st with
      | some (ls', st') => rx_go False (rx_cP cut) (rx_sf code cut n) r mem ls' st'
      | none => False
    | 1 => rx_go False (rx_cP cut) (rx_sf code cut n) (code.drop a) mem ls st
    | 2 => match rx_cmp i st with
      | some (o, x, y, st) => match o with
        | .eq => (x = y → rx_go False (rx_cP cut) (rx_sf code cut n) (code.drop a) mem ls st) ∧ (¬ x = y → rx_go False (rx_cP cut) (rx_sf code cut n) r mem ls st)
        | .ne => (x = y → rx_go False (rx_cP cut) (rx_sf code cut n) r mem ls st) ∧ (¬ x = y → rx_go False (rx_cP cut) (rx_sf code cut n) (code.drop a) mem ls st)
        | .lt => (x < y → rx_go False (rx_cP cut) (rx_sf code cut n) (code.drop a) mem ls st) ∧ (¬ x < y → rx_go False (rx_cP cut) (rx_sf code cut n) r mem ls st)
        | .ge => (x < y → rx_go False (rx_cP cut) (rx_sf code cut n) r mem ls st) ∧ (¬ x < y → rx_go False (rx_cP cut) (rx_sf code cut n) (code.drop a) mem ls st)
        | .gt => (y < x → rx_go False (rx_cP cut) (rx_sf code cut n) (code.drop a) mem ls st) ∧ (¬ y < x → rx_go False (rx_cP cut) (rx_sf code cut n) r mem ls st)
        | .le => (y < x → rx_go False (rx_cP cut) (rx_sf code cut n) r mem ls st) ∧ (¬ y < x → rx_go False (rx_cP cut) (rx_sf code cut n) (code.drop a) mem ls st)
      | none => False
    | 3 => match st with
      | .null :: st => rx_go False (rx_cP cut) (rx_sf code cut n) (code.drop a) mem ls st
      | .ref _ :: st => rx_go False (rx_cP cut) (rx_sf code cut n) r mem ls st
      | _ => False
    | 4 => match st with
      | .int x :: st => rx_sws (fun t => rx_go False (rx_cP cut) (rx_sf code cut n) (code.drop t) mem ls st) x a sw
      | _ => False
    | 5 => match st with
      | [.int x] => (match a with
        | 0 => True
        | 1 => x = 0 ∨ x = 1
        | _ => False)
      | [.ref _] => (match a with
        | 2 => True
        | _ => False)
      | [.null] => (match a with
        | 2 => True
        | _ => False)
      | _ => False
    | 6 => match st with
      | [] => True
      | _ => False
    | _ => cond (Nat.ble a st.length && Nat.ble st.length (a + 8)) ((K (st.take a).reverse mem).1 ∧ match K (st.take a).reverse mem with
      | (_, mem', w) => rx_go False (rx_cP cut) (rx_sf code cut n) r mem' ls (w.toList ++ st.drop a)) False
def rx_pcAt {M : Type} (code : List (rx_E M)) (i : Nat) : Option Nat := (code[i]?).map (fun e => e.1)
def rx_okI (i : rx_I) (len a : Nat) (v : Int32) (nL : Nat) : Bool :=
  match i with
  | .iconst n => decide (Int32.ofInt n = v) && decide (len = 1)
  | .bipush n => decide ((Int8.ofInt n).toInt32 = v) && decide (len = 2)
  | .sipush n => decide ((Int16.ofInt n).toInt32 = v) && decide (len = 3)
  | .iload_n k => decide ((k : Nat) = a) && decide (len = 1)
  | .iload k => decide (k = a) && decide (len = 2)
  | .aload_n k => decide ((k : Nat) = a) && decide (len = 1)
  | .aload k => decide (k = a) && decide (len = 2)
  | .istore_n k => decide ((k : Nat) = a) && decide (len = 1) && decide (a < nL)
  | .istore k => decide (k = a) && decide (len = 2) && decide (a < nL)
  | .astore_n k => decide ((k : Nat) = a) && decide (len = 1) && decide (a < nL)
  | .astore k => decide (k = a) && decide (len = 2) && decide (a < nL)
  | .iinc k n => decide (k = a) && decide (Int32.ofInt n = v) && decide (len = 3) && decide (a < nL)
  | .iadd => decide (len = 1)
  | .isub => decide (len = 1)
  | .imul => decide (len = 1)
  | .iand => decide (len = 1)
  | .irem => decide (len = 1)
  | .ishl => decide (len = 1)
  | .dup => decide (len = 1)
  | .dup2 => decide (len = 1)
  | .pop => decide (len = 1)
  | .aconst_null => decide (len = 1)
  | _ => false
def rx_okT (pc : Nat) (off : Int) (t : Option Nat) : Bool :=
  match t with
  | some q => decide ((pc : Int) + off = (q : Int))
  | none => false
def rx_okS {M : Type} (code : List (rx_E M)) (pc : Nat) : Int → List Int → List (Int32 × Nat) → Bool
  | _, [], [] => true
  | lo, o :: os, (v, t) :: r => decide (v.toInt = lo) && rx_okT pc o (rx_pcAt code t) && rx_okS code pc (lo + 1) os r
  | _, _, _ => false
def rx_okR (i : rx_I) (len a : Nat) (ret : Option FieldType) : Bool :=
  match i with
  | .ireturn => decide (len = 1) && (match a, ret with
    | 0, some .int => true
    | 1, some .boolean => true
    | _, _ => false)
  | .areturn => decide (len = 1) && (match a, ret with
    | 2, some (.object _) => true
    | _, _ => false)
  | _ => false
def rx_okB (pc : Nat) (t : Option Nat) (ins : rx_I) : Bool :=
  match ins with
  | .ifCond _ off => rx_okT pc off t
  | .if_icmp _ off => rx_okT pc off t
  | _ => false
def rx_okN (pc : Nat) (t : Option Nat) (ins : rx_I) : Bool :=
  match ins with
  | .ifnull off => rx_okT pc off t
  | _ => false
def rx_okO (ret : Option FieldType) : Bool :=
  match ret with
  | none => true
  | _ => false
def rx_okK {M : Type} (nL : Nat) (ret : Option FieldType) (code : List (rx_E M)) (i pc : Nat) (ins : rx_I) (len a : Nat) (v : Int32) (sw : List (Int32 × Nat)) (kd : Nat) : Bool :=
  match kd with
  | 0 => rx_okI ins len a v nL && decide (rx_pcAt code (i + 1) = some (pc + len))
  | 1 => (match ins with
    | .goto off => decide (len = 3) && rx_okT pc off (rx_pcAt code a)
    | _ => false)
  | 2 => decide (len = 3) && rx_okB pc (rx_pcAt code a) ins && decide (rx_pcAt code (i + 1) = some (pc + 3))
  | 3 => decide (len = 3) && rx_okN pc (rx_pcAt code a) ins && decide (rx_pcAt code (i + 1) = some (pc + 3))
  | 4 => (match ins with
    | .tableswitch d lo hi offs => rx_okT pc d (rx_pcAt code a) && decide (lo + (offs.toList.length : Int) = hi + 1) && rx_okS code pc lo offs.toList sw
    | _ => false)
  | 5 => rx_okR ins len a ret
  | 6 => (match ins with
    | .return_ => decide (len = 1) && rx_okO ret
    | _ => false)
  | _ => decide (rx_pcAt code (i + 1) = some (pc + len))
def rx_okA {M : Type} (cc : ByteArray) (nL : Nat) (ret : Option FieldType) (code : List (rx_E M)) (i : Nat) (e : rx_E M) : Bool :=
  match e with
  | (pc, ins, len, kd, a, v, sw, _) => decide (decode cc pc = .ok (ins, len)) && rx_okK nL ret code i pc ins len a v sw kd
def rx_okF {M : Type} (cc : ByteArray) (nL : Nat) (ret : Option FieldType) (code : List (rx_E M)) : Nat → List (rx_E M) → Bool
  | _, [] => true
  | i, e :: r => rx_okA cc nL ret code i e && rx_okF cc nL ret code (i + 1) r
theorem rx_okF_at {M : Type} {cc : ByteArray} {nL : Nat} {ret : Option FieldType} {code : List (rx_E M)} : ∀ (r : List (rx_E M)) (j : Nat), rx_okF cc nL ret code j r = true → ∀ (i : Nat) (e : rx_E M), r[i]? = some e → rx_okA cc nL ret code (j + i) e = true := by
  intro r
  induction r with
  | nil => intro j _ i e h; simp at h
  | cons x r ih =>
    intro j h i e he
    rw [rx_okF, Bool.and_eq_true] at h
    cases i with
    | zero =>
      have hx : x = e := by simpa using he
      subst hx
      exact h.1
    | succ i =>
      have := ih (j + 1) h.2 i e (by simpa using he)
      rw [show j + (i + 1) = j + 1 + i by omega]
      exact this
def rx_tr (ad : Nat → Nat) (v : Value) : Value :=
  match v with
  | .int x => .int x
  | .ref i => .ref (ad i)
  | _ => .null
theorem rx_tr_cat (ad : Nat → Nat) (v : Value) : (rx_tr ad v).category = 1 := by cases v <;> rfl
def rx_lv (ad : Nat → Nat) : Nat → rx_L → List (Nat × Value)
  | _, [] => []
  | i, none :: r => rx_lv ad (i + 1) r
  | i, some v :: r => (i, rx_tr ad v) :: rx_lv ad (i + 1) r
theorem rx_lv_at {ad : Nat → Nat} : ∀ (ls : rx_L) (i a : Nat) (v : Value), rx_at ls a = some v → (i + a, rx_tr ad v) ∈ rx_lv ad i ls := by
  intro ls
  induction ls with
  | nil => intro i a v h; cases a <;> simp [rx_at] at h
  | cons x r ih =>
    intro i a v h
    cases a with
    | zero =>
      have hx : x = some v := h
      subst hx
      simp [rx_lv]
    | succ a =>
      have h1 := ih (i + 1) a v h
      rw [show i + (a + 1) = i + 1 + a by omega]
      cases x with
      | none => exact h1
      | some w => exact List.mem_cons_of_mem _ h1
theorem rx_lv_set {ad : Nat → Nat} {v : Value} : ∀ (ls : rx_L) (i a : Nat) (q : Nat × Value), q ∈ rx_lv ad i (ls.set a (some v)) → q = (i + a, rx_tr ad v) ∨ (q ∈ rx_lv ad i ls ∧ ¬ q.1 = i + a) := by
  have hge : ∀ (ls : rx_L) (i : Nat) (q : Nat × Value), q ∈ rx_lv ad i ls → i ≤ q.1 := by
    intro ls
    induction ls with
    | nil => intro i q h; simp [rx_lv] at h
    | cons x r ih =>
      intro i q h
      cases x with
      | none => have := ih (i + 1) q h; omega
      | some w =>
        rcases List.mem_cons.mp h with h | h
        · rw [h]; exact Nat.le_refl _
        · have := ih (i + 1) q h; omega
  intro ls
  induction ls with
  | nil => intro i a q h; simp [rx_lv] at h
  | cons x r ih =>
    intro i a q h0
    cases a with
    | zero =>
      rcases List.mem_cons.mp (show q ∈ (i, rx_tr ad v) :: rx_lv ad (i + 1) r from h0) with h | h
      · exact Or.inl h
      · have := hge r (i + 1) q h
        clear h0
        refine Or.inr ⟨?_, by omega⟩
        cases x with
        | none => exact h
        | some w => exact List.mem_cons_of_mem _ h
    | succ a =>
      cases x with
      | none =>
        rcases ih (i + 1) a q h0 with h | h
        · exact Or.inl (by rw [h, show i + (a + 1) = i + 1 + a by omega])
        · exact Or.inr ⟨h.1, by omega⟩
      | some w =>
        rcases List.mem_cons.mp (show q ∈ (i, rx_tr ad w) :: rx_lv ad (i + 1) (r.set a (some v)) from h0) with h | h
        · exact Or.inr ⟨by rw [h]; exact List.mem_cons_self, by rw [h]; simp⟩
        · rcases ih (i + 1) a q h with h | h
          · exact Or.inl (by rw [h, show i + (a + 1) = i + 1 + a by omega])
          · exact Or.inr ⟨List.mem_cons_of_mem _ h.1, by omega⟩
theorem rx_lv_cat {ad : Nat → Nat} : ∀ (ls : rx_L) (i : Nat) (q : Nat × Value), q ∈ rx_lv ad i ls → q.2.category = 1 := by
  intro ls
  induction ls with
  | nil => intro i q h; simp [rx_lv] at h
  | cons x r ih =>
    intro i q h
    cases x with
    | none => exact ih (i + 1) q h
    | some w =>
      rcases List.mem_cons.mp (show q ∈ (i, rx_tr ad w) :: rx_lv ad (i + 1) r from h) with h | h
      · rw [h]; exact rx_tr_cat ad w
      · exact ih (i + 1) q h
theorem rx_has_set {ad : Nat → Nat} {lA : Array Slot} {nL a : Nat} {v : Value} {ls : rx_L} (h : lv_has lA nL ((a, rx_tr ad v) :: (rx_lv ad 0 ls).filter (fun q => !(q.1 == a) && !(q.1 + 1 == a && q.2.category == 2)))) : lv_has lA nL (rx_lv ad 0 (ls.set a (some v))) := by
  refine ⟨h.1, h.2.1, fun q hq => h.2.2 q ?_⟩
  rcases rx_lv_set ls 0 a q hq with h1 | ⟨h1, h2⟩
  · rw [h1, Nat.zero_add]; exact List.mem_cons_self
  · refine List.mem_cons_of_mem _ (List.mem_filter.mpr ⟨h1, ?_⟩)
    have hc := rx_lv_cat ls 0 q h1
    rw [Nat.zero_add] at h2
    simp [h2, hc]
theorem rx_has_at {ad : Nat → Nat} {lA : Array Slot} {nL a : Nat} {v : Value} {ls : rx_L} (h : lv_has lA nL (rx_lv ad 0 ls)) (ha : rx_at ls a = some v) : lA[a]? = some (.val (rx_tr ad v)) := by
  have h1 := rx_lv_at (ad := ad) ls 0 a v ha
  rw [Nat.zero_add] at h1
  exact h.2.2 _ h1
theorem rx_has_pl {ad : Nat → Nat} {lA : Array Slot} {nL a : Nat} {v : Value} {ls : rx_L} (h : lv_has lA nL (rx_lv ad 0 ls)) (ha : rx_at ls a = some v) : ∃ k : Nat, (rx_lv ad 0 ls)[k]? = some (a, rx_tr ad v) := by
  have h1 := rx_lv_at (ad := ad) ls 0 a v ha
  rw [Nat.zero_add] at h1
  exact List.getElem?_of_mem h1
section RXs
variable {p : Program} {l : Launch} {e : Env} {R : Room} {s : State} {m : MethodId} {args : Array Value} {below : List Frame} {meth : Method} {c : Code} {Q : State → Prop} {cc : ByteArray} {nL : Nat} {ad : Nat → Nat} {M : Type} {WM : M → Heap → List Loc → Prop} {cs : M → Nat × Nat}
def rx_X (p : Program) (l : Launch) (e : Env) (R : Room) (s : State) (m : MethodId) (args : Array Value) (below : List Frame) (meth : Method) (c : Code) (Q : State → Prop) (nL : Nat) (ad : Nat → Nat) {M : Type} (WM : M → Heap → List Loc → Prop) (cs : M → Nat × Nat) (pc : Nat) (mem : M) (ls : rx_L) (st : List Value) : Prop :=
  ∀ (H : Heap) (locs : List Loc) (lA : Array Slot), WM mem H locs → lv_has lA nL (rx_lv ad 0 ls) → W p l e R s m args below meth c H locs (cs mem).1 (cs mem).2 Q (F0 m pc lA (st.map (rx_tr ad)))
theorem rx_st_ok (hx : p.tables.exec = Jvm.exec) (hb : c.code = cc) {pc len a : Nat} {v : Int32} {mem : M} {ls : rx_L} {st : List Value} {q : rx_L × List Value} : ∀ i : rx_I, rx_okI i len a v nL = true → rx_st i a v ls st = some q → decode cc pc = .ok (i, len) →
    rx_X p l e R s m args below meth c Q nL ad WM cs (pc + len) mem q.1 q.2 → rx_X p l e R s m args below meth c Q nL ad WM cs pc mem ls st := by
  intro i
  cases i with
  | iconst n =>
    intro ho hq hd k
    simp only [rx_okI, Bool.and_eq_true, decide_eq_true_eq] at ho
    obtain ⟨h1, rfl⟩ := ho
    simp only [rx_st, Option.some.injEq] at hq
    subst hq
    intro H locs lA hW hl
    exact lv_iconst hx hb hd h1 (k H locs lA hW hl)
  | bipush n =>
    intro ho hq hd k
    simp only [rx_okI, Bool.and_eq_true, decide_eq_true_eq] at ho
    obtain ⟨h1, rfl⟩ := ho
    simp only [rx_st, Option.some.injEq] at hq
    subst hq
    intro H locs lA hW hl
    exact lv_bipush hx hb hd h1 (k H locs lA hW hl)
  | sipush n =>
    intro ho hq hd k
    simp only [rx_okI, Bool.and_eq_true, decide_eq_true_eq] at ho
    obtain ⟨h1, rfl⟩ := ho
    simp only [rx_st, Option.some.injEq] at hq
    subst hq
    intro H locs lA hW hl
    exact lv_sipush hx hb hd h1 (k H locs lA hW hl)
  | iload_n n =>
    intro ho hq hd k
    simp only [rx_okI, Bool.and_eq_true, decide_eq_true_eq] at ho
    obtain ⟨h1, rfl⟩ := ho
    simp only [rx_st] at hq
    cases hz : rx_at ls a with
    | none => rw [hz] at hq; simp at hq
    | some z =>
      rw [hz] at hq
      cases z with
      | int x =>
        simp only [Option.some.injEq] at hq
        subst hq
        intro H locs lA hW hl
        exact lv_iload_n hx hb hd h1 (rx_has_at hl hz) (k H locs lA hW hl)
      | _ => simp at hq
  | iload n =>
    intro ho hq hd k
    simp only [rx_okI, Bool.and_eq_true, decide_eq_true_eq] at ho
    obtain ⟨rfl, rfl⟩ := ho
    simp only [rx_st] at hq
    cases hz : rx_at ls n with
    | none => rw [hz] at hq; simp at hq
    | some z =>
      rw [hz] at hq
      cases z with
      | int x =>
        simp only [Option.some.injEq] at hq
        subst hq
        intro H locs lA hW hl
        exact lv_iload hx hb hd (rx_has_at hl hz) (k H locs lA hW hl)
      | _ => simp at hq
  | aload_n n =>
    intro ho hq hd k
    simp only [rx_okI, Bool.and_eq_true, decide_eq_true_eq] at ho
    obtain ⟨h1, rfl⟩ := ho
    simp only [rx_st] at hq
    cases hz : rx_at ls a with
    | none => rw [hz] at hq; simp at hq
    | some z =>
      rw [hz] at hq
      cases z with
      | ref x =>
        simp only [Option.some.injEq] at hq
        subst hq
        intro H locs lA hW hl
        exact lv_aload_n hx hb hd h1 (rx_has_at hl hz) (k H locs lA hW hl)
      | null =>
        simp only [Option.some.injEq] at hq
        subst hq
        intro H locs lA hW hl
        exact lv_aload_nN hx hb hd h1 (rx_has_at hl hz) (k H locs lA hW hl)
      | _ => simp at hq
  | aload n =>
    intro ho hq hd k
    simp only [rx_okI, Bool.and_eq_true, decide_eq_true_eq] at ho
    obtain ⟨rfl, rfl⟩ := ho
    simp only [rx_st] at hq
    cases hz : rx_at ls n with
    | none => rw [hz] at hq; simp at hq
    | some z =>
      rw [hz] at hq
      cases z with
      | ref x =>
        simp only [Option.some.injEq] at hq
        subst hq
        intro H locs lA hW hl
        exact lv_aload hx hb hd (rx_has_at hl hz) (k H locs lA hW hl)
      | null =>
        simp only [Option.some.injEq] at hq
        subst hq
        intro H locs lA hW hl
        exact lv_aloadN hx hb hd (rx_has_at hl hz) (k H locs lA hW hl)
      | _ => simp at hq
  | istore_n n =>
    intro ho hq hd k
    simp only [rx_okI, Bool.and_eq_true, decide_eq_true_eq] at ho
    obtain ⟨⟨h1, rfl⟩, h3⟩ := ho
    cases st with
    | nil => simp [rx_st] at hq
    | cons z st =>
      cases z with
      | int x =>
        simp only [rx_st, Option.some.injEq] at hq
        subst hq
        intro H locs lA hW hl
        exact lv_istore_n hx hb hd h1 hl h3 rfl (fun ls' h' => k H locs ls' hW (rx_has_set (v := .int x) h'))
      | _ => simp [rx_st] at hq
  | istore n =>
    intro ho hq hd k
    simp only [rx_okI, Bool.and_eq_true, decide_eq_true_eq] at ho
    obtain ⟨⟨rfl, rfl⟩, h3⟩ := ho
    cases st with
    | nil => simp [rx_st] at hq
    | cons z st =>
      cases z with
      | int x =>
        simp only [rx_st, Option.some.injEq] at hq
        subst hq
        intro H locs lA hW hl
        exact lv_istore hx hb hd hl h3 rfl (fun ls' h' => k H locs ls' hW (rx_has_set (v := .int x) h'))
      | _ => simp [rx_st] at hq
  | astore_n n =>
    intro ho hq hd k
    simp only [rx_okI, Bool.and_eq_true, decide_eq_true_eq] at ho
    obtain ⟨⟨h1, rfl⟩, h3⟩ := ho
    cases st with
    | nil => simp [rx_st] at hq
    | cons z st =>
      cases z with
      | ref x =>
        simp only [rx_st, Option.some.injEq] at hq
        subst hq
        intro H locs lA hW hl
        exact lv_astore_n hx hb hd h1 hl h3 rfl (fun ls' h' => k H locs ls' hW (rx_has_set (v := .ref x) h'))
      | null =>
        simp only [rx_st, Option.some.injEq] at hq
        subst hq
        intro H locs lA hW hl
        exact lv_astore_nN hx hb hd h1 hl h3 rfl (fun ls' h' => k H locs ls' hW (rx_has_set (v := .null) h'))
      | _ => simp [rx_st] at hq
  | astore n =>
    intro ho hq hd k
    simp only [rx_okI, Bool.and_eq_true, decide_eq_true_eq] at ho
    obtain ⟨⟨rfl, rfl⟩, h3⟩ := ho
    cases st with
    | nil => simp [rx_st] at hq
    | cons z st =>
      cases z with
      | ref x =>
        simp only [rx_st, Option.some.injEq] at hq
        subst hq
        intro H locs lA hW hl
        exact lv_astore hx hb hd hl h3 rfl (fun ls' h' => k H locs ls' hW (rx_has_set (v := .ref x) h'))
      | null =>
        simp only [rx_st, Option.some.injEq] at hq
        subst hq
        intro H locs lA hW hl
        exact lv_astoreN hx hb hd hl h3 rfl (fun ls' h' => k H locs ls' hW (rx_has_set (v := .null) h'))
      | _ => simp [rx_st] at hq
  | iinc n w =>
    intro ho hq hd k
    simp only [rx_okI, Bool.and_eq_true, decide_eq_true_eq] at ho
    obtain ⟨⟨⟨rfl, h2⟩, rfl⟩, h3⟩ := ho
    simp only [rx_st] at hq
    cases hz : rx_at ls n with
    | none => rw [hz] at hq; simp at hq
    | some z =>
      rw [hz] at hq
      cases z with
      | int x =>
        simp only [Option.some.injEq] at hq
        subst hq
        intro H locs lA hW hl
        obtain ⟨k0, hk0⟩ := rx_has_pl hl hz
        exact lv_iinc hx hb hd hl hk0 (by rw [h2]) h3 rfl (fun ls' h' => k H locs ls' hW (rx_has_set (v := .int (x + v)) h'))
      | _ => simp at hq
  | iadd =>
    intro ho hq hd k
    simp only [rx_okI, decide_eq_true_eq] at ho
    subst ho
    rcases st with _ | ⟨z, _ | ⟨w, st⟩⟩
    · simp [rx_st] at hq
    · cases z <;> simp [rx_st] at hq
    · cases z <;> cases w <;> first
        | (simp only [rx_st, Option.some.injEq] at hq
           subst hq
           intro H locs lA hW hl
           exact lv_iadd hx hb hd (k H locs lA hW hl))
        | simp [rx_st] at hq
  | isub =>
    intro ho hq hd k
    simp only [rx_okI, decide_eq_true_eq] at ho
    subst ho
    rcases st with _ | ⟨z, _ | ⟨w, st⟩⟩
    · simp [rx_st] at hq
    · cases z <;> simp [rx_st] at hq
    · cases z <;> cases w <;> first
        | (simp only [rx_st, Option.some.injEq] at hq
           subst hq
           intro H locs lA hW hl
           exact lv_isub hx hb hd (k H locs lA hW hl))
        | simp [rx_st] at hq
  | imul =>
    intro ho hq hd k
    simp only [rx_okI, decide_eq_true_eq] at ho
    subst ho
    rcases st with _ | ⟨z, _ | ⟨w, st⟩⟩
    · simp [rx_st] at hq
    · cases z <;> simp [rx_st] at hq
    · cases z <;> cases w <;> first
        | (simp only [rx_st, Option.some.injEq] at hq
           subst hq
           intro H locs lA hW hl
           exact lv_imul hx hb hd (k H locs lA hW hl))
        | simp [rx_st] at hq
  | iand =>
    intro ho hq hd k
    simp only [rx_okI, decide_eq_true_eq] at ho
    subst ho
    rcases st with _ | ⟨z, _ | ⟨w, st⟩⟩
    · simp [rx_st] at hq
    · cases z <;> simp [rx_st] at hq
    · cases z <;> cases w <;> first
        | (simp only [rx_st, Option.some.injEq] at hq
           subst hq
           intro H locs lA hW hl
           exact lv_iand hx hb hd (k H locs lA hW hl))
        | simp [rx_st] at hq
  | ishl =>
    intro ho hq hd k
    simp only [rx_okI, decide_eq_true_eq] at ho
    subst ho
    rcases st with _ | ⟨z, _ | ⟨w, st⟩⟩
    · simp [rx_st] at hq
    · cases z <;> simp [rx_st] at hq
    · cases z <;> cases w <;> first
        | (simp only [rx_st, Option.some.injEq] at hq
           subst hq
           intro H locs lA hW hl
           exact lv_ishl hx hb hd (k H locs lA hW hl))
        | simp [rx_st] at hq
  | irem =>
    intro ho hq hd k
    simp only [rx_okI, decide_eq_true_eq] at ho
    subst ho
    rcases st with _ | ⟨z, _ | ⟨w, st⟩⟩
    · simp [rx_st] at hq
    · cases z <;> simp [rx_st] at hq
    · cases z <;> cases w <;> first
        | (rename_i y x
           simp only [rx_st] at hq
           by_cases hy : y = 0
           · rw [if_pos hy] at hq
             cases hq
           · rw [if_neg hy] at hq
             simp only [Option.some.injEq] at hq
             subst hq
             intro H locs lA hW hl
             exact lv_irem hx hb hd hy (k H locs lA hW hl))
        | simp [rx_st] at hq
  | dup =>
    intro ho hq hd k
    simp only [rx_okI, decide_eq_true_eq] at ho
    subst ho
    rcases st with _ | ⟨z, st⟩
    · simp [rx_st] at hq
    · simp only [rx_st, Option.some.injEq] at hq
      subst hq
      intro H locs lA hW hl
      exact lv_dup hx hb hd (rx_tr_cat ad z) (k H locs lA hW hl)
  | dup2 =>
    intro ho hq hd k
    simp only [rx_okI, decide_eq_true_eq] at ho
    subst ho
    rcases st with _ | ⟨z, _ | ⟨w, st⟩⟩
    · simp [rx_st] at hq
    · simp [rx_st] at hq
    · simp only [rx_st, Option.some.injEq] at hq
      subst hq
      intro H locs lA hW hl
      exact lv_dup2_11 hx hb hd (rx_tr_cat ad z) (rx_tr_cat ad w) (k H locs lA hW hl)
  | pop =>
    intro ho hq hd k
    simp only [rx_okI, decide_eq_true_eq] at ho
    subst ho
    rcases st with _ | ⟨z, st⟩
    · simp [rx_st] at hq
    · simp only [rx_st, Option.some.injEq] at hq
      subst hq
      intro H locs lA hW hl
      exact lv_pop hx hb hd (rx_tr_cat ad z) (k H locs lA hW hl)
  | aconst_null =>
    intro ho hq hd k
    simp only [rx_okI, decide_eq_true_eq] at ho
    subst ho
    simp only [rx_st, Option.some.injEq] at hq
    subst hq
    intro H locs lA hW hl
    exact lv_null hx hb hd (k H locs lA hW hl)
  | _ => intro ho; simp [rx_okI] at ho
def rx_P (o : Jvm.ClassFile.Cond) (x y : Int32) : Prop :=
  match o with
  | .eq => x = y
  | .ne => ¬ x = y
  | .lt => x < y
  | .ge => ¬ x < y
  | .gt => y < x
  | .le => ¬ y < x
theorem rx_br_ok (hx : p.tables.exec = Jvm.exec) (hb : c.code = cc) {pc tgt : Nat} {mem : M} {ls : rx_L} {st st' : List Value} {o : Jvm.ClassFile.Cond} {x y : Int32} : ∀ i : rx_I, rx_cmp i st = some (o, x, y, st') → decode cc pc = .ok (i, 3) →
    rx_okB pc (some tgt) i = true →
    (rx_P o x y → rx_X p l e R s m args below meth c Q nL ad WM cs tgt mem ls st') → (¬ rx_P o x y → rx_X p l e R s m args below meth c Q nL ad WM cs (pc + 3) mem ls st') → rx_X p l e R s m args below meth c Q nL ad WM cs pc mem ls st := by
  intro i
  cases i with
  | ifCond o' off =>
    intro hq hd ho kt kf
    have ht : (pc : Int) + off = (tgt : Int) := by simpa [rx_okB, rx_okT] using ho
    rcases st with _ | ⟨z, st⟩
    · simp [rx_cmp] at hq
    · cases z <;> first
        | (simp only [rx_cmp, Option.some.injEq, Prod.mk.injEq] at hq
           obtain ⟨rfl, rfl, rfl, rfl⟩ := hq
           intro H locs lA hW hl
           cases o' with
           | eq => exact lv_if_eq hx hb hd ht (fun h => kt h H locs lA hW hl) (fun h => kf h H locs lA hW hl)
           | ne => exact lv_if_ne hx hb hd ht (fun h => kt h H locs lA hW hl) (fun h => kf (fun h' => h' h) H locs lA hW hl)
           | lt => exact lv_if_lt hx hb hd ht (fun h => kt h H locs lA hW hl) (fun h => kf h H locs lA hW hl)
           | ge => exact lv_if_ge hx hb hd ht (fun h => kt (Int32.not_lt.mpr h) H locs lA hW hl) (fun h => kf (fun h' => h (Int32.not_lt.mp h')) H locs lA hW hl)
           | gt => exact lv_if_gt hx hb hd ht (fun h => kt h H locs lA hW hl) (fun h => kf h H locs lA hW hl)
           | le => exact lv_if_le hx hb hd ht (fun h => kt (Int32.not_lt.mpr h) H locs lA hW hl) (fun h => kf (fun h' => h (Int32.not_lt.mp h')) H locs lA hW hl))
        | simp [rx_cmp] at hq
  | if_icmp o' off =>
    intro hq hd ho kt kf
    have ht : (pc : Int) + off = (tgt : Int) := by simpa [rx_okB, rx_okT] using ho
    rcases st with _ | ⟨z, _ | ⟨w, st⟩⟩
    · simp [rx_cmp] at hq
    · cases z <;> simp [rx_cmp] at hq
    · cases z <;> cases w <;> first
        | (simp only [rx_cmp, Option.some.injEq, Prod.mk.injEq] at hq
           obtain ⟨rfl, rfl, rfl, rfl⟩ := hq
           intro H locs lA hW hl
           cases o' with
           | eq => exact lv_icmp_eq hx hb hd ht (fun h => kt h H locs lA hW hl) (fun h => kf h H locs lA hW hl)
           | ne => exact lv_icmp_ne hx hb hd ht (fun h => kt h H locs lA hW hl) (fun h => kf (fun h' => h' h) H locs lA hW hl)
           | lt => exact lv_icmp_lt hx hb hd ht (fun h => kt h H locs lA hW hl) (fun h => kf h H locs lA hW hl)
           | ge => exact lv_icmp_ge hx hb hd ht (fun h => kt (Int32.not_lt.mpr h) H locs lA hW hl) (fun h => kf (fun h' => h (Int32.not_lt.mp h')) H locs lA hW hl)
           | gt => exact lv_icmp_gt hx hb hd ht (fun h => kt h H locs lA hW hl) (fun h => kf h H locs lA hW hl)
           | le => exact lv_icmp_le hx hb hd ht (fun h => kt (Int32.not_lt.mpr h) H locs lA hW hl) (fun h => kf (fun h' => h (Int32.not_lt.mp h')) H locs lA hW hl))
        | simp [rx_cmp] at hq
  | _ => intro hq; simp [rx_cmp] at hq
theorem rx_sw_ok {α : Type} {code : List (rx_E M)} {pc d : Nat} {x : Int32} {F : Nat → Prop} {G : Nat → α} {res : α} : ∀ (os : List Int) (sw : List (Int32 × Nat)) (lo : Int), rx_okS code pc lo os sw = true → rx_sws F x d sw → rx_swe G x d sw = res →
    (∃ (t j : Nat) (off : Int), os[j]? = some off ∧ x.toInt = lo + (j : Int) ∧ F t ∧ G t = res ∧ rx_okT pc off (rx_pcAt code t) = true) ∨ ((x.toInt < lo ∨ lo + (os.length : Int) ≤ x.toInt) ∧ F d ∧ G d = res) := by
  intro os
  induction os with
  | nil =>
    intro sw lo ho hs he
    cases sw with
    | nil => exact Or.inr ⟨by simp only [List.length_nil]; omega, hs, he⟩
    | cons a r => simp [rx_okS] at ho
  | cons o os ih =>
    intro sw lo ho hs he
    cases sw with
    | nil => simp [rx_okS] at ho
    | cons a r =>
      obtain ⟨v, t⟩ := a
      simp only [rx_okS, Bool.and_eq_true, decide_eq_true_eq] at ho
      obtain ⟨⟨h1, h2⟩, h3⟩ := ho
      by_cases hv : x = v
      · refine Or.inl ⟨t, 0, o, by simp, by rw [hv, h1]; simp, hs.1 hv, ?_, h2⟩
        rw [rx_swe, if_pos hv] at he
        exact he
      · rw [rx_swe, if_neg hv] at he
        have hne : ¬ x.toInt = lo := fun h => hv (Int32.toInt_inj.mp (by rw [h1]; exact h))
        rcases ih r (lo + 1) h3 (hs.2 hv) he with ⟨t', j, off, a1, a2, a3, a4, a5⟩ | ⟨a1, a2, a3⟩
        · exact Or.inl ⟨t', j + 1, off, by simpa using a1, by rw [a2]; omega, a3, a4, a5⟩
        · refine Or.inr ⟨?_, a2, a3⟩
          simp only [List.length_cons]
          omega
def rx_OK (p : Program) (l : Launch) (e : Env) (R : Room) (s : State) (m : MethodId) (args : Array Value) (below : List Frame) (meth : Method) (c : Code) (cc : ByteArray) (nL : Nat) (ad : Nat → Nat) {M : Type} (WM : M → Heap → List Loc → Prop) (cs : M → Nat × Nat) (i : rx_I) (len a : Nat) (K : rx_K M) : Prop :=
  ∀ (pc : Nat) (mem : M) (H : Heap) (locs : List Loc) (lA : Array Slot) (av rest : List Value) (Q : State → Prop), av.length = a → (K av mem).1 → WM mem H locs → lA.size = nL → rest.length ≤ 8 → decode cc pc = .ok (i, len) →
    (∀ (H' : Heap) (locs' : List Loc), WM (K av mem).2.1 H' locs' → W p l e R s m args below meth c H' locs' (cs (K av mem).2.1).1 (cs (K av mem).2.1).2 Q (F0 m (pc + len) lA (((K av mem).2.2.toList ++ rest).map (rx_tr ad)))) →
    W p l e R s m args below meth c H locs (cs mem).1 (cs mem).2 Q (F0 m pc lA ((av.reverse ++ rest).map (rx_tr ad)))
def rx_ops (p : Program) (l : Launch) (e : Env) (R : Room) (s : State) (m : MethodId) (args : Array Value) (below : List Frame) (meth : Method) (c : Code) (cc : ByteArray) (nL : Nat) (ad : Nat → Nat) {M : Type} (WM : M → Heap → List Loc → Prop) (cs : M → Nat × Nat) : List (rx_E M) → Prop
  | [] => True
  | (_, i, len, kd, a, _, _, K) :: r => match kd with
    | 0 => rx_ops p l e R s m args below meth c cc nL ad WM cs r
    | 1 => rx_ops p l e R s m args below meth c cc nL ad WM cs r
    | 2 => rx_ops p l e R s m args below meth c cc nL ad WM cs r
    | 3 => rx_ops p l e R s m args below meth c cc nL ad WM cs r
    | 4 => rx_ops p l e R s m args below meth c cc nL ad WM cs r
    | 5 => rx_ops p l e R s m args below meth c cc nL ad WM cs r
    | 6 => rx_ops p l e R s m args below meth c cc nL ad WM cs r
    | _ => rx_OK p l e R s m args below meth c cc nL ad WM cs i len a K ∧ rx_ops p l e R s m args below meth c cc nL ad WM cs r
theorem rx_ops_at : ∀ (code : List (rx_E M)), rx_ops p l e R s m args below meth c cc nL ad WM cs code → ∀ (pc : Nat) (i : rx_I) (len kd a : Nat) (v : Int32) (sw : List (Int32 × Nat)) (K : rx_K M), (pc, i, len, kd + 7, a, v, sw, K) ∈ code → rx_OK p l e R s m args below meth c cc nL ad WM cs i len a K := by
  intro code
  induction code with
  | nil => intro _ pc i len kd a v sw K h; simp at h
  | cons x r ih =>
    intro h pc i len kd a v sw K hm
    obtain ⟨pc', i', len', kd', a', v', sw', K'⟩ := x
    rcases List.mem_cons.mp hm with hm | hm
    · cases hm
      exact h.1
    · refine ih ?_ pc i len kd a v sw K hm
      match kd', h with
      | 0, h => exact h
      | 1, h => exact h
      | 2, h => exact h
      | 3, h => exact h
      | 4, h => exact h
      | 5, h => exact h
      | 6, h => exact h
      | _ + 7, h => exact h.2
theorem rx_okT_spec {pc : Nat} {off : Int} {t : Option Nat} (h : rx_okT pc off t = true) : ∃ q : Nat, t = some q ∧ (pc : Int) + off = (q : Int) := by
  cases t with
  | none => simp [rx_okT] at h
  | some q => exact ⟨q, rfl, by simpa [rx_okT] using h⟩
theorem rx_okR0 {len : Nat} {ret : Option FieldType} : ∀ i : rx_I, rx_okR i len 0 ret = true → i = .ireturn ∧ len = 1 ∧ ret = some .int := by
  intro i h
  cases i with
  | ireturn =>
    rcases ret with _ | ty
    · simp [rx_okR] at h
    · cases ty <;> simp [rx_okR] at h
      exact ⟨rfl, h, rfl⟩
  | _ => simp [rx_okR] at h
theorem rx_okR1 {len : Nat} {ret : Option FieldType} : ∀ i : rx_I, rx_okR i len 1 ret = true → i = .ireturn ∧ len = 1 ∧ ret = some .boolean := by
  intro i h
  cases i with
  | ireturn =>
    rcases ret with _ | ty
    · simp [rx_okR] at h
    · cases ty <;> simp [rx_okR] at h
      exact ⟨rfl, h, rfl⟩
  | _ => simp [rx_okR] at h
theorem rx_okR2 {len : Nat} {ret : Option FieldType} : ∀ i : rx_I, rx_okR i len 2 ret = true → i = .areturn ∧ len = 1 ∧ ∃ n, ret = some (.object n) := by
  intro i h
  cases i with
  | areturn =>
    rcases ret with _ | ty
    · simp [rx_okR] at h
    · cases ty <;> simp [rx_okR] at h
      exact ⟨rfl, h, _, rfl⟩
  | _ => simp [rx_okR] at h
theorem rx_sound {Qc : Array Value → State → Outcome → State → Prop} {free : Addr → Prop} {mc ms : Nat} {ret : Option FieldType} {code : List (rx_E M)} {cut : rx_C M} {res : rx_R M}
    (hx : p.tables.exec = Jvm.exec) (hb : c.code = cc) (hr : meth.sig.returnType = ret) (hlk : meth.locks = false) (hok : rx_okF cc nL ret code 0 code = true) (hops : rx_ops p l e R s m args below meth c cc nL ad WM cs code)
    (hret : ∀ (mem : M) (r : Option Value), (mem, r) = res → ∀ (H : Heap) (locs : List Loc), WM mem H locs → (∀ t : State, t.heap = H → s.WarmedH t.vm → Qc args s (.returned (r.map (rx_tr ad))) t) ∧ (∀ q ∈ locs, free q.base) ∧ (cs mem).1 ≤ mc ∧ (cs mem).2 ≤ ms)
    (hcut : ∀ (pc : Nat) (g : M → rx_L → List Value → Prop × rx_R M), rx_cut cut pc = some g → ∀ (mem : M) (ls : rx_L) (st : List Value), (g mem ls st).1 → (g mem ls st).2 = res → rx_X p l e R s m args below meth c (MQ below Qc args s mc ms free) nL ad WM cs pc mem ls st) :
    ∀ (n i : Nat) (en : rx_E M) (mem : M) (ls : rx_L) (st : List Value), code[i]? = some en → rx_sf code cut n (code.drop i) mem ls st → rx_ev code cut n (code.drop i) mem ls st = res → rx_X p l e R s m args below meth c (MQ below Qc args s mc ms free) nL ad WM cs en.1 mem ls st := by
  have hdrop : ∀ (i : Nat) (en : rx_E M), code[i]? = some en → code.drop i = en :: code.drop (i + 1) := by
    intro i en he
    obtain ⟨hlt, hv⟩ := List.getElem?_eq_some_iff.mp he
    rw [List.drop_eq_getElem_cons hlt, hv]
  intro n
  induction n with
  | zero => intro i en mem ls st he hs; exact False.elim hs
  | succ n ih =>
    intro i en mem ls st he hs hr'
    rw [hdrop i en he] at hs hr'
    have hk := rx_okF_at code 0 hok i en he
    rw [Nat.zero_add] at hk
    have hmem : en ∈ code := List.mem_of_getElem? he
    have go : ∀ (j pc' : Nat) (mem' : M) (ls' : rx_L) (st' : List Value) (d : rx_R M), rx_pcAt code j = some pc' → rx_go False (rx_cP cut) (rx_sf code cut n) (code.drop j) mem' ls' st' → rx_go d (rx_cF cut) (rx_ev code cut n) (code.drop j) mem' ls' st' = res → rx_X p l e R s m args below meth c (MQ below Qc args s mc ms free) nL ad WM cs pc' mem' ls' st' := by
      intro j pc' mem' ls' st' d hp h1 h2
      obtain ⟨e', he', hpe⟩ : ∃ e' : rx_E M, code[j]? = some e' ∧ e'.1 = pc' := by
        unfold rx_pcAt at hp
        cases hz : code[j]? with
        | none => rw [hz] at hp; simp at hp
        | some e' => rw [hz] at hp; exact ⟨e', rfl, by simpa using hp⟩
      rw [hdrop j e' he'] at h1 h2
      subst hpe
      simp only [rx_go, rx_cP, rx_cF] at h1 h2
      cases hc : rx_cut cut e'.1 with
      | none =>
        rw [hc] at h1 h2
        exact ih j e' mem' ls' st' he' (by rw [hdrop j e' he']; exact h1) (by rw [hdrop j e' he']; exact h2)
      | some g =>
        rw [hc] at h1 h2
        exact hcut _ g hc mem' ls' st' h1 h2
    obtain ⟨pc, ins, len, kd, a, v, sw, K⟩ := en
    replace hk : (decide (decode cc pc = .ok (ins, len)) && rx_okK nL ret code i pc ins len a v sw kd) = true := hk
    rw [Bool.and_eq_true, decide_eq_true_eq] at hk
    obtain ⟨hdec, hk⟩ := hk
    clear he
    revert hk hs hr' hmem
    match kd with
    | 0 =>
      intro hs hr' hmem hk
      clear hmem
      replace hk : (rx_okI ins len a v nL && decide (rx_pcAt code (i + 1) = some (pc + len))) = true := hk
      rw [Bool.and_eq_true, decide_eq_true_eq] at hk
      simp only [rx_sf] at hs
      simp only [rx_ev] at hr'
      cases hq : rx_st ins a v ls st with
      | none => rw [hq] at hs; exact False.elim hs
      | some q =>
        obtain ⟨ls', st'⟩ := q
        rw [hq] at hs hr'
        exact rx_st_ok hx hb ins hk.1 hq hdec (go (i + 1) (pc + len) mem ls' st' _ hk.2 hs hr')
    | 1 =>
      intro hs hr' hmem hk
      clear hmem
      simp only [rx_sf] at hs
      simp only [rx_ev] at hr'
      cases ins with
      | goto off =>
        replace hk : (decide (len = 3) && rx_okT pc off (rx_pcAt code a)) = true := hk
        rw [Bool.and_eq_true, decide_eq_true_eq] at hk
        obtain ⟨rfl, ht⟩ := hk
        obtain ⟨q, hq, ht⟩ := rx_okT_spec ht
        intro H locs lA hW hl
        exact lv_goto hx hb hdec ht (go a q mem ls st _ hq hs hr' H locs lA hW hl)
      | _ => simp [rx_okK] at hk
    | 2 =>
      intro hs hr' hmem hk
      clear hmem
      replace hk : (decide (len = 3) && rx_okB pc (rx_pcAt code a) ins && decide (rx_pcAt code (i + 1) = some (pc + 3))) = true := hk
      rw [Bool.and_eq_true, Bool.and_eq_true, decide_eq_true_eq, decide_eq_true_eq] at hk
      obtain ⟨⟨rfl, hk⟩, hnext⟩ := hk
      simp only [rx_sf] at hs
      simp only [rx_ev] at hr'
      obtain ⟨tgt, htgt⟩ : ∃ tgt : Nat, rx_pcAt code a = some tgt := by
        cases ht : rx_pcAt code a with
        | none =>
          rw [ht] at hk
          cases ins with
          | ifCond o off => simp [rx_okB, rx_okT] at hk
          | if_icmp o off => simp [rx_okB, rx_okT] at hk
          | _ => simp [rx_okB] at hk
        | some q => exact ⟨q, rfl⟩
      rw [htgt] at hk
      cases hq : rx_cmp ins st with
      | none => rw [hq] at hs; exact False.elim hs
      | some z =>
        obtain ⟨o, x, y, st'⟩ := z
        rw [hq] at hs hr'
        cases o with
        | eq => exact rx_br_ok hx hb ins hq hdec hk (fun h => go a tgt mem ls st' _ htgt (hs.1 h) ((if_pos h).symm.trans hr')) (fun h => go (i + 1) (pc + 3) mem ls st' _ hnext (hs.2 h) ((if_neg h).symm.trans hr'))
        | ne => exact rx_br_ok hx hb ins hq hdec hk (fun h => go a tgt mem ls st' _ htgt (hs.2 h) ((if_neg h).symm.trans hr')) (fun h => go (i + 1) (pc + 3) mem ls st' _ hnext (hs.1 (Classical.not_not.mp h)) ((if_pos (Classical.not_not.mp h)).symm.trans hr'))
        | lt => exact rx_br_ok hx hb ins hq hdec hk (fun h => go a tgt mem ls st' _ htgt (hs.1 h) ((if_pos h).symm.trans hr')) (fun h => go (i + 1) (pc + 3) mem ls st' _ hnext (hs.2 h) ((if_neg h).symm.trans hr'))
        | ge => exact rx_br_ok hx hb ins hq hdec hk (fun h => go a tgt mem ls st' _ htgt (hs.2 h) ((if_neg h).symm.trans hr')) (fun h => go (i + 1) (pc + 3) mem ls st' _ hnext (hs.1 (Classical.not_not.mp h)) ((if_pos (Classical.not_not.mp h)).symm.trans hr'))
        | gt => exact rx_br_ok hx hb ins hq hdec hk (fun h => go a tgt mem ls st' _ htgt (hs.1 h) ((if_pos h).symm.trans hr')) (fun h => go (i + 1) (pc + 3) mem ls st' _ hnext (hs.2 h) ((if_neg h).symm.trans hr'))
        | le => exact rx_br_ok hx hb ins hq hdec hk (fun h => go a tgt mem ls st' _ htgt (hs.2 h) ((if_neg h).symm.trans hr')) (fun h => go (i + 1) (pc + 3) mem ls st' _ hnext (hs.1 (Classical.not_not.mp h)) ((if_pos (Classical.not_not.mp h)).symm.trans hr'))
    | 3 =>
      intro hs hr' hmem hk
      clear hmem
      replace hk : (decide (len = 3) && rx_okN pc (rx_pcAt code a) ins && decide (rx_pcAt code (i + 1) = some (pc + 3))) = true := hk
      rw [Bool.and_eq_true, Bool.and_eq_true, decide_eq_true_eq, decide_eq_true_eq] at hk
      obtain ⟨⟨rfl, hk⟩, hnext⟩ := hk
      simp only [rx_sf] at hs
      simp only [rx_ev] at hr'
      cases ins with
      | ifnull off =>
        obtain ⟨tgt, htgt, ht⟩ := rx_okT_spec hk
        cases st with
        | nil => exact False.elim hs
        | cons z st =>
          cases z with
          | null =>
            intro H locs lA hW hl
            exact lv_ifnullN hx hb hdec ht (go a tgt mem ls st _ htgt hs hr' H locs lA hW hl)
          | ref x =>
            intro H locs lA hW hl
            exact lv_ifnull hx hb hdec (go (i + 1) (pc + 3) mem ls st _ hnext hs hr' H locs lA hW hl)
          | _ => exact False.elim hs
      | _ => simp [rx_okN] at hk
    | 4 =>
      intro hs hr' hmem hk
      clear hmem
      simp only [rx_sf] at hs
      simp only [rx_ev] at hr'
      cases ins with
      | tableswitch d lo hi offs =>
        replace hk : (rx_okT pc d (rx_pcAt code a) && decide (lo + (offs.toList.length : Int) = hi + 1) && rx_okS code pc lo offs.toList sw) = true := hk
        rw [Bool.and_eq_true, Bool.and_eq_true, decide_eq_true_eq] at hk
        obtain ⟨⟨hk1, hk2⟩, hk3⟩ := hk
        cases st with
        | nil => exact False.elim hs
        | cons z st =>
          cases z with
          | int x =>
            rcases rx_sw_ok offs.toList sw lo hk3 hs hr' with ⟨t, j, off, a1, a2, a3, a4, a5⟩ | ⟨a1, a2, a3⟩
            · obtain ⟨q, hq, ht⟩ := rx_okT_spec a5
              have hj : j < offs.toList.length := (List.getElem?_eq_some_iff.mp a1).1
              intro H locs lA hW hl
              exact lv_tableIn hx hb hdec (by omega) (by omega) (by rw [a2, show (lo + (j : Int) - lo).toNat = j by omega, ← Array.getElem?_toList]; exact a1) ht (go t q mem ls st _ hq a3 a4 H locs lA hW hl)
            · obtain ⟨q, hq, ht⟩ := rx_okT_spec hk1
              intro H locs lA hW hl
              exact lv_tableOut hx hb hdec (by omega) ht (go a q mem ls st _ hq a2 a3 H locs lA hW hl)
          | _ => exact False.elim hs
      | _ => simp [rx_okK] at hk
    | 5 =>
      intro hs hr' hmem hk
      clear hmem
      replace hk : rx_okR ins len a ret = true := hk
      simp only [rx_sf] at hs
      simp only [rx_ev] at hr'
      rcases st with _ | ⟨z, _ | ⟨w, st⟩⟩
      · exact False.elim hs
      · cases z with
        | int x =>
          match a, hs, hk with
          | 0, _, hk =>
            obtain ⟨rfl, rfl, rfl⟩ := rx_okR0 ins hk
            intro H locs lA hW hl
            obtain ⟨hq, hf, h1, h2⟩ := hret mem (some (.int x)) hr' H locs hW
            exact W.widen h1 h2 (W.iret hx hb hr hq hf hdec (hlocks := hlk))
          | 1, hs, hk =>
            obtain ⟨rfl, rfl, rfl⟩ := rx_okR1 ins hk
            intro H locs lA hW hl
            obtain ⟨hq, hf, h1, h2⟩ := hret mem (some (.int x)) hr' H locs hW
            exact W.widen h1 h2 (W.zret hx hb hr (by rcases hs with rfl | rfl <;> rfl) hq hf hdec (hlocks := hlk))
          | _ + 2, hs, _ => exact False.elim hs
        | ref x =>
          match a, hs, hk with
          | 0, hs, _ => exact False.elim hs
          | 1, hs, _ => exact False.elim hs
          | 2, _, hk =>
            obtain ⟨rfl, rfl, n0, hn0⟩ := rx_okR2 ins hk
            intro H locs lA hW hl
            obtain ⟨hq, hf, h1, h2⟩ := hret mem (some (.ref x)) hr' H locs hW
            exact W.widen h1 h2 (W.aret hx hb (hr.trans hn0) (Or.inl ⟨n0, rfl⟩) (Or.inr ⟨_, rfl⟩) hq hf hdec (hlocks := hlk))
          | _ + 3, hs, _ => exact False.elim hs
        | null =>
          match a, hs, hk with
          | 0, hs, _ => exact False.elim hs
          | 1, hs, _ => exact False.elim hs
          | 2, _, hk =>
            obtain ⟨rfl, rfl, n0, hn0⟩ := rx_okR2 ins hk
            intro H locs lA hW hl
            obtain ⟨hq, hf, h1, h2⟩ := hret mem (some .null) hr' H locs hW
            exact W.widen h1 h2 (W.aret hx hb (hr.trans hn0) (Or.inl ⟨n0, rfl⟩) (Or.inl rfl) hq hf hdec (hlocks := hlk))
          | _ + 3, hs, _ => exact False.elim hs
        | _ => exact False.elim hs
      · cases z <;> exact False.elim hs
    | 6 =>
      intro hs hr' hmem hk
      clear hmem
      simp only [rx_sf] at hs
      simp only [rx_ev] at hr'
      cases ins with
      | return_ =>
        replace hk : (decide (len = 1) && rx_okO ret) = true := hk
        rw [Bool.and_eq_true, decide_eq_true_eq] at hk
        obtain ⟨rfl, hk⟩ := hk
        cases ret with
        | some ty => simp [rx_okO] at hk
        | none =>
          cases st with
          | nil =>
            intro H locs lA hW hl
            obtain ⟨hq, hf, h1, h2⟩ := hret mem none hr' H locs hW
            exact W.widen h1 h2 (W.vret hx hb hr hq hf hdec (hlocks := hlk))
          | cons z st => exact False.elim hs
      | _ => simp [rx_okK] at hk
    | kd + 7 =>
      intro hs hr' hmem hk
      replace hk : decide (rx_pcAt code (i + 1) = some (pc + len)) = true := hk
      rw [decide_eq_true_eq] at hk
      replace hs : cond (Nat.ble a st.length && Nat.ble st.length (a + 8)) ((K (st.take a).reverse mem).1 ∧ rx_go False (rx_cP cut) (rx_sf code cut n) (code.drop (i + 1)) (K (st.take a).reverse mem).2.1 ls ((K (st.take a).reverse mem).2.2.toList ++ st.drop a)) False := hs
      replace hr' : rx_go ((K (st.take a).reverse mem).2.1, none) (rx_cF cut) (rx_ev code cut n) (code.drop (i + 1)) (K (st.take a).reverse mem).2.1 ls ((K (st.take a).reverse mem).2.2.toList ++ st.drop a) = res := hr'
      cases hc : (Nat.ble a st.length && Nat.ble st.length (a + 8)) with
      | false => rw [hc] at hs; exact False.elim hs
      | true =>
        rw [hc] at hs
        obtain ⟨hp, hs⟩ := hs
        rw [Bool.and_eq_true] at hc
        have h1 := Nat.le_of_ble_eq_true hc.1
        have h2 := Nat.le_of_ble_eq_true hc.2
        have hOK := rx_ops_at code hops pc ins len kd a v sw K hmem
        intro H locs lA hW hl
        have key := hOK pc mem H locs lA (st.take a).reverse (st.drop a) (MQ below Qc args s mc ms free) (by rw [List.length_reverse, List.length_take]; omega) hp hW hl.1 (by rw [List.length_drop]; omega) hdec
          (fun H' locs' hW' => go (i + 1) (pc + len) (K (st.take a).reverse mem).2.1 ls ((K (st.take a).reverse mem).2.2.toList ++ st.drop a) _ hk hs hr' H' locs' lA hW' hl)
        rw [List.reverse_reverse, List.take_append_drop] at key
        exact key
end RXs
