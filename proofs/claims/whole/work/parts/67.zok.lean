/-! the cells that the constructors leave are the memory (c_0 v, m_0 v) -/
theorem mx_fs_tr {ad : Nat → Nat} {x : mx} {i : Nat} : ∀ (ds : List mx_d) (k : Nat), (mx_fs (fun n => n) x i k ds).map (rx_tr ad) = mx_fs ad x i k ds := by
  intro ds
  induction ds with
  | nil => intro k; rfl
  | cons d r ih =>
    intro k
    show rx_tr ad (mx_v (fun n => n) x i k d) :: (mx_fs (fun n => n) x i (k + 1) r).map (rx_tr ad) = mx_v ad x i k d :: mx_fs ad x i (k + 1) r
    rw [ih]
    congr 1
    obtain ⟨a, b, e⟩ := d
    unfold mx_v
    split <;> rfl
def zix (x : mx) (src k : Nat) : Nat := match src with
  | 2 => 4 + (x.1.2.1 k).val
  | 3 => 78 + (x.1.2.2.1 k).val
  | 4 => 47 + 3 * k
  | _ => mx_no k
def zok (x : mx) (zz : Nat → Bool) (i : Nat) (e : zE) : Bool := match e with
  | .inr (q, fs) => Nat.beq (mx_kl i) q && Nat.blt q 20 && decide (fs = mx_fs (fun n => n) x i 0 (mx_ds q))
  | .inl (t, n, none) => Nat.ble 20 (mx_kl i) && Nat.beq (mx_ar (mx_kl i)).1 t && Nat.beq (mx_ar (mx_kl i)).2.1 n && Nat.blt (mx_ar (mx_kl i)).2.2 2 && zz i
  | .inl (t, n, some l) => Nat.ble 20 (mx_kl i) && Nat.beq (mx_ar (mx_kl i)).1 t && Nat.beq (mx_ar (mx_kl i)).2.1 n && Nat.blt 1 (mx_ar (mx_kl i)).2.2 && (List.range n).all (fun k => decide ((l[k]?).join = some (zix x (mx_ar (mx_kl i)).2.2 k)))
def zokA (x : mx) (zz : Nat → Bool) : Nat → zM → Bool
  | _, [] => true
  | i, e :: r => zok x zz i e && zokA x zz (i + 1) r
def z_0 (i : Nat) : Bool := !(List.elem i [50, 53, 56, 62, 74, 66, 82])
theorem en_5ok : ∀ v ∈ [(1 : Int32), 2, 3, 4], zokA (c_0 v, m_0 v) z_0 0 (en_5 v) = true := by decide +kernel
theorem arrV_c {cI : ClassId} {n : Nat} {f h : Nat → Value} (e : ∀ k, k < n → f k = h k) : arrV cI n f = arrV cI n h := by
  unfold arrV
  congr 2
  funext j
  exact e j.val j.isLt
theorem zok_at {D : va_G} {cl : List vw_C} {g : Nat → ClassId} {ad : Nat → Nat} {x : mx} {zz : Nat → Bool} (hz : ∀ i, zz i = true → (∀ k, x.1.1 i k = 0) ∧ ∀ k, x.2.1 i k = 0) {i : Nat} {e : zE} {H : Heap} (h : zok x zz i e = true) (ha : va_at D cl (ad i, zc g ad e) H) : va_at D cl (ad i, mx_en g ad x i) H := by
  match e, h, ha with
  | .inr (q, fs), h, ha =>
    simp only [zok, Bool.and_eq_true, decide_eq_true_eq, Nat.beq_eq] at h
    obtain ⟨⟨h1, h2⟩, h3⟩ := h
    unfold mx_en
    rw [h1, h2, cond_true]
    rw [← mx_fs_tr, ← h3]
    exact ha
  | .inl (t, n, none), h, ha =>
    simp only [zok, Bool.and_eq_true, Nat.beq_eq] at h
    obtain ⟨⟨⟨⟨h1, h2⟩, h3⟩, h4⟩, h5⟩ := h
    obtain ⟨z1, z2⟩ := hz i h5
    have hb : Nat.blt (mx_kl i) 20 = false := mx_blt_f (by have := Nat.le_of_ble_eq_true h1; omega)
    have h4' : (mx_ar (mx_kl i)).2.2 < 2 := Nat.le_of_ble_eq_true h4
    unfold mx_en
    rw [hb, cond_false, h2, h3]
    have hs : mx_as ad x i (mx_ar (mx_kl i)).2.2 = .inl (fun _ => 0) := by
      generalize (mx_ar (mx_kl i)).2.2 = src at h4' ⊢
      match src, h4' with
      | 0, _ => exact congrArg Sum.inl (funext z1)
      | 1, _ => exact congrArg Sum.inl (funext z2)
    rw [hs]
    exact ha
  | .inl (t, n, some l), h, ha =>
    simp only [zok, Bool.and_eq_true, Nat.beq_eq, List.all_eq_true, List.mem_range, decide_eq_true_eq] at h
    obtain ⟨⟨⟨⟨h1, h2⟩, h3⟩, h4⟩, h5⟩ := h
    have hb : Nat.blt (mx_kl i) 20 = false := mx_blt_f (by have := Nat.le_of_ble_eq_true h1; omega)
    have h4' : 1 < (mx_ar (mx_kl i)).2.2 := Nat.le_of_ble_eq_true h4
    unfold mx_en
    rw [hb, cond_false, h2, h3]
    have hs : mx_as ad x i (mx_ar (mx_kl i)).2.2 = .inr (.inr (.inr (.inr (fun k => some (ad (zix x (mx_ar (mx_kl i)).2.2 k)))))) := by
      generalize (mx_ar (mx_kl i)).2.2 = src at h4' ⊢
      match src, h4' with
      | 2, _ => rfl
      | 3, _ => rfl
      | 4, _ => rfl
      | n + 5, _ => rfl
    rw [hs]
    show H[ad i]? = some (arrV (g t) n (fun j => va_rf (some (ad (zix x (mx_ar (mx_kl i)).2.2 j)))))
    have ha' : H[ad i]? = some (arrV (g t) n (fun j => va_rf (((l[j]?).join).map ad))) := ha
    rw [ha']
    congr 1
    exact arrV_c (fun k hk => by rw [h5 k hk]; rfl)
theorem zok_all {x : mx} {zz : Nat → Bool} : ∀ (es : zM) (i : Nat), zokA x zz i es = true → ∀ (k : Nat) (e : zE), es[k]? = some e → zok x zz (i + k) e = true := by
  intro es
  induction es with
  | nil => intro i h k e he; simp at he
  | cons a r ih =>
    intro i h k e he
    simp only [zokA, Bool.and_eq_true] at h
    cases k with
    | zero => cases he; exact h.1
    | succ k =>
      have := ih (i + 1) h.2 k e (by simpa using he)
      rw [show i + (k + 1) = i + 1 + k by omega]
      exact this
theorem z_w {D : va_G} {cl : List vw_C} {g : Nat → ClassId} {ad : Nat → Nat} {x : mx} {zz : Nat → Bool} (hz : ∀ i, zz i = true → (∀ k, x.1.1 i k = 0) ∧ ∀ k, x.2.1 i k = 0) {es : zM} {H : Heap} (hl : es.length = 116) (hok : zokA x zz 0 es = true) (hP : va_P D cl (zw g ad 0 es) H) : va_P D cl (mx_ws g ad x) H := by
  intro i q hq
  have hi : i < 116 := by
    have := (List.getElem?_eq_some_iff.mp hq).1
    simpa [mx_ws] using this
  rw [mx_ws_at hi] at hq
  cases hq
  obtain ⟨e, he⟩ : ∃ e, es[i]? = some e := ⟨_, List.getElem?_eq_getElem (by omega)⟩
  have h1 := zok_all es 0 hok i e he
  rw [Nat.zero_add] at h1
  refine zok_at hz h1 (hP i (ad i, zc g ad e) ?_)
  rw [zw_at, he, Nat.zero_add]
  rfl
theorem z_0z (v : Int32) : ∀ i, z_0 i = true → (∀ k, (c_0 v).1 i k = 0) ∧ ∀ k, (m_0 v).1 i k = 0 := by
  intro i h
  simp [z_0] at h
  refine ⟨fun k => ?_, fun k => ?_⟩
  · show (if i = 66 ∧ k = 3 then v else c_k i k) = 0
    rw [if_neg (fun z => by omega)]
    unfold c_k
    repeat (first | rw [if_neg (fun z => by omega)] | rfl)
  · exact m_0z v (fun z => by omega)
/-- after both constructors: the world of (c_0 v, m_0 v) -/
theorem z_end {D : va_G} {cl : List vw_C} {g : Nat → ClassId} {ad : Nat → Nat} {v : Int32} (hv : v ∈ [(1 : Int32), 2, 3, 4]) {H : Heap} (hP : va_P D cl (zw g ad 0 (en_5 v)) H) : va_P D cl (mx_ws g ad (c_0 v, m_0 v)) H :=
  z_w (z_0z v) (en_5s v hv).1 (en_5ok v hv) hP
