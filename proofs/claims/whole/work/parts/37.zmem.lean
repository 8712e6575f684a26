/-! The cells made so far, with indices for references -/
abbrev zE : Type := (Nat × Nat × Option (List (Option Nat))) ⊕ (Nat × List Value)
abbrev zM : Type := List zE
def zc (g : Nat → ClassId) (ad : Nat → Nat) (x : zE) : va_E := match x with
  | .inl (t, n, none) => .inl (g t, n, .inl (fun _ => 0))
  | .inl (t, n, some l) => .inl (g t, n, .inr (.inr (.inr (.inr (fun k => ((l[k]?).join).map ad)))))
  | .inr (q, fs) => .inr (q, fs.map (rx_tr ad))
def zw (g : Nat → ClassId) (ad : Nat → Nat) : Nat → zM → va_W
  | _, [] => []
  | i, e :: r => (ad i, zc g ad e) :: zw g ad (i + 1) r
theorem zw_at {g : Nat → ClassId} {ad : Nat → Nat} : ∀ (es : zM) (i k : Nat), (zw g ad i es)[k]? = (es[k]?).map (fun e => (ad (i + k), zc g ad e)) := by
  intro es
  induction es with
  | nil => intro i k; rfl
  | cons e r ih =>
    intro i k
    cases k with
    | zero => rfl
    | succ k =>
      show (zw g ad (i + 1) r)[k]? = (r[k]?).map _
      rw [ih, show i + 1 + k = i + (k + 1) by omega]
theorem zw_len {g : Nat → ClassId} {ad : Nat → Nat} : ∀ (es : zM) (i : Nat), (zw g ad i es).length = es.length := by
  intro es
  induction es with
  | nil => intro i; rfl
  | cons e r ih => intro i; simp [zw, ih]
theorem zw_app {g : Nat → ClassId} {ad : Nat → Nat} (x : zE) : ∀ (es : zM) (i : Nat), zw g ad i (es ++ [x]) = zw g ad i es ++ [(ad (i + es.length), zc g ad x)] := by
  intro es
  induction es with
  | nil => intro i; rfl
  | cons e r ih =>
    intro i
    show (ad i, zc g ad e) :: zw g ad (i + 1) (r ++ [x]) = (ad i, zc g ad e) :: (zw g ad (i + 1) r ++ _)
    rw [ih, show i + 1 + r.length = i + (e :: r).length by simp; omega]
theorem zw_set {g : Nat → ClassId} {ad : Nat → Nat} (x : zE) : ∀ (es : zM) (i t : Nat), zw g ad i (es.set t x) = (zw g ad i es).set t (ad (i + t), zc g ad x) := by
  intro es
  induction es with
  | nil => intro i t; rfl
  | cons e r ih =>
    intro i t
    cases t with
    | zero => rfl
    | succ t =>
      show (ad i, zc g ad e) :: zw g ad (i + 1) (r.set t x) = (ad i, zc g ad e) :: ((zw g ad (i + 1) r).set t _)
      rw [ih, show i + 1 + t = i + (t + 1) by omega]
/-- addresses: one behind another from B on -/
def zA (ad : Nat → Nat) (B : Nat) : Prop := ∀ i : Nat, i < 1000 → ad i = B + i
def zW (D : va_G) (g : Nat → ClassId) (ad : Nat → Nat) (B : Nat) (H0 : Heap) (es : zM) (H : Heap) (locs : List Loc) : Prop :=
  va_P D mx_cl (zw g ad 0 es) H ∧ va_S (fun q => B ≤ q) H0 H locs ∧ H.size = B + es.length ∧ es.length < 1000
def zs : zM → Nat
  | [] => 0
  | .inl (_, n, _) :: r => n + zs r
  | .inr (_, fs) :: r => fs.length + zs r
theorem zs_app (x : zM) : ∀ es : zM, zs (es ++ x) = zs es + zs x := by
  intro es
  induction es with
  | nil => show zs x = 0 + zs x; omega
  | cons e r ih =>
    match e with
    | .inl (_, n, _) => show n + zs (r ++ x) = n + zs r + zs x; rw [ih]; omega
    | .inr (_, fs) => show fs.length + zs (r ++ x) = fs.length + zs r + zs x; rw [ih]; omega
def zcs (n0 s0 : Nat) (es : zM) : Nat × Nat := (es.length - n0, zs es - s0)
theorem zD {g : Nat → ClassId} {ad : Nat → Nat} {B : Nat} {es : zM} (hA : zA ad B) (hl : es.length < 1000) : va_D (fun q => B ≤ q) (zw g ad 0 es) := by
  have lt : ∀ (i : Nat) (p : Nat × va_E), (zw g ad 0 es)[i]? = some p → i < 1000 ∧ p.1 = B + i := by
    intro i p h
    have h1 : i < (zw g ad 0 es).length := (List.getElem?_eq_some_iff.mp h).1
    rw [zw_len] at h1
    rw [zw_at] at h
    cases he : es[i]? with
    | none => rw [he] at h; cases h
    | some e =>
      rw [he] at h
      cases h
      exact ⟨by omega, by show ad (0 + i) = B + i; rw [Nat.zero_add, hA i (by omega)]⟩
  refine ⟨fun i j p q hp hq hpq => ?_, fun k q h => ?_⟩
  · have h1 := (lt i p hp).2
    have h2 := (lt j q hq).2
    omega
  · have h1 := (lt k q h).2
    show B ≤ q.1
    omega
