def mx_A (ad : Nat → Nat) (B : Nat) : Prop := (∀ i j : Nat, i < 116 → j < 116 → ad i = ad j → i = j) ∧ ∀ i : Nat, i < 116 → B ≤ ad i
def mx_ty (g : Nat → ClassId) : List (ClassId × FieldType) := [(g 0, .int), (g 1, .boolean), (g 2, .object "SubscriberLines$Packet"), (g 3, .object "SubscriberLines$Session"), (g 4, .object "SubscriberLines$Subscriber"), (g 5, .object "SubscriberLines$Node")]
def mx_W (D : va_G) (g : Nat → ClassId) (ad : Nat → Nat) (B : Nat) (H0 : Heap) (x : mx) (H : Heap) (locs : List Loc) : Prop := va_P D mx_cl (mx_ws g ad x) H ∧ va_S (fun q => B ≤ q) H0 H locs
def mx_cs (_x : mx) : Nat × Nat := (0, 0)
theorem mx_D {g : Nat → ClassId} {ad : Nat → Nat} {B : Nat} (h : mx_A ad B) (x : mx) : va_D (fun q => B ≤ q) (mx_ws g ad x) := by
  have key : ∀ (i : Nat) (q : Nat × va_E), (mx_ws g ad x)[i]? = some q → i < 116 ∧ q.1 = ad i := by
    intro i q hq
    have hi : i < 116 := by
      have := (List.getElem?_eq_some_iff.mp hq).1
      simpa [mx_ws] using this
    rw [mx_ws_at hi] at hq
    exact ⟨hi, by rw [← Option.some.inj hq]⟩
  refine ⟨fun i j q r hi hj he => ?_, fun i q hi => ?_⟩
  · obtain ⟨a1, a2⟩ := key i q hi
    obtain ⟨b1, b2⟩ := key j r hj
    exact h.1 i j a1 b1 (by rw [← a2, ← b2]; exact he)
  · obtain ⟨a1, a2⟩ := key i q hi
    show B ≤ q.1
    rw [a2]
    exact h.2 i a1
/-! the memory's own equations: a world with one cell put anew is the world of the memory put anew -/
theorem mx_kl_one {i : Nat} (h : mx_kl i = 1) : i = 1 := by
  have hi := mx_kl_lt h (by decide)
  have k : ∀ j : Fin 116, mx_kl j.val = 1 → j.val = 1 := by decide
  exact k ⟨i, hi⟩ h
theorem mx_kl_seven {i : Nat} (h : mx_kl i = 7) : i = 66 := by
  have hi := mx_kl_lt h (by decide)
  have k : ∀ j : Fin 116, mx_kl j.val = 7 → j.val = 66 := by decide
  exact k ⟨i, hi⟩ h
theorem mx_kl_nine {i : Nat} (h : mx_kl i = 9) : i = 82 := by
  have hi := mx_kl_lt h (by decide)
  have k : ∀ j : Fin 116, mx_kl j.val = 9 → j.val = 82 := by decide
  exact k ⟨i, hi⟩ h
/-- the kinds of slots -/
theorem mx_ds_kinds {q k : Nat} {d : mx_d} (h : (mx_ds q)[k]? = some d) : d.1 = 0 ∧ q < 9 ∨ d.1 = 1 ∨ (d.1 = 2 ∧ q = 1 ∧ k = 2) ∨ (d.1 = 3 ∧ q = 7 ∧ k = 5) ∨ (d.1 = 4 ∧ q = 9 ∧ k = 3) ∨ (d.1 = 5 ∧ q = 9 ∧ k = 18) ∨ (d.1 = 6 ∧ q = 9) := by
  have hq : q < 10 := by
    refine Classical.byContradiction fun hn => ?_
    have key : ∀ (l : List (List mx_d)) (q : Nat), ¬ q < l.length → mx_nthd l q = [] := by
      intro l
      induction l with
      | nil => intro q _; rfl
      | cons a r ih =>
        intro q hq
        cases q with
        | zero => simp at hq
        | succ q => exact ih q (by simpa using hq)
    have := key mx_dl q hn
    unfold mx_ds at h
    rw [this] at h
    simp at h
  have hk : k < 50 := by
    have h1 := (List.getElem?_eq_some_iff.mp h).1
    have h2 : ∀ q : Fin 10, (mx_ds q.val).length ≤ 50 := by decide
    exact Nat.lt_of_lt_of_le h1 (h2 ⟨q, hq⟩)
  have all : ∀ (q : Fin 10) (k : Fin 50), ((mx_ds q.val)[k.val]?).all (fun d => decide (d.1 = 0 ∧ q.val < 9 ∨ d.1 = 1 ∨ (d.1 = 2 ∧ q.val = 1 ∧ k.val = 2) ∨ (d.1 = 3 ∧ q.val = 7 ∧ k.val = 5) ∨ (d.1 = 4 ∧ q.val = 9 ∧ k.val = 3) ∨ (d.1 = 5 ∧ q.val = 9 ∧ k.val = 18) ∨ (d.1 = 6 ∧ q.val = 9))) = true := by decide +kernel
  have := all ⟨q, hq⟩ ⟨k, hk⟩
  rw [h, Option.all_some, decide_eq_true_eq] at this
  exact this
/-- which arrays are there -/
theorem mx_ar_src (i : Nat) (h : ¬ mx_kl i < 20) : (mx_ar (mx_kl i)).2.2 = 0 ∧ i < 82 ∨ (mx_ar (mx_kl i)).2.2 = 1 ∧ 82 < i ∨ (mx_ar (mx_kl i)).2.2 = 2 ∧ i = 2 ∨ (mx_ar (mx_kl i)).2.2 = 3 ∧ i = 67 ∨ (mx_ar (mx_kl i)).2.2 = 4 ∧ i = 45 ∨ (mx_ar (mx_kl i)).2.2 = 5 ∧ i = 46 ∨ 116 ≤ i := by
  by_cases hi : i < 116
  · have k : ∀ j : Fin 116, ¬ mx_kl j.val < 20 → (mx_ar (mx_kl j.val)).2.2 = 0 ∧ j.val < 82 ∨ (mx_ar (mx_kl j.val)).2.2 = 1 ∧ 82 < j.val ∨ (mx_ar (mx_kl j.val)).2.2 = 2 ∧ j.val = 2 ∨ (mx_ar (mx_kl j.val)).2.2 = 3 ∧ j.val = 67 ∨ (mx_ar (mx_kl j.val)).2.2 = 4 ∧ j.val = 45 ∨ (mx_ar (mx_kl j.val)).2.2 = 5 ∧ j.val = 46 ∨ 116 ≤ j.val := by decide +kernel
    exact k ⟨i, hi⟩ h
  · exact Or.inr (Or.inr (Or.inr (Or.inr (Or.inr (Or.inr (by omega))))))
theorem mx_v_cong {ad : Nat → Nat} {x y : mx} {i k : Nat} {d : mx_d} (h1 : y.1.1 i k = x.1.1 i k) (h2 : y.2.1 i k = x.2.1 i k) (h3 : d.1 = 2 → y.1.2.2.2.1 = x.1.2.2.2.1) (h4 : d.1 = 3 → y.1.2.2.2.2 = x.1.2.2.2.2) (h5 : d.1 = 4 → y.2.2.1 = x.2.2.1) (h6 : d.1 = 5 → y.2.2.2 = x.2.2.2) : mx_v ad y i k d = mx_v ad x i k d := by
  obtain ⟨a, b, c⟩ := d
  match a, h3, h4, h5, h6 with
  | 0, _, _, _, _ => exact congrArg Value.int h1
  | 1, _, _, _, _ => rfl
  | 2, h3, _, _, _ => show Value.int (Int32.ofNat y.1.2.2.2.1.val) = Value.int (Int32.ofNat x.1.2.2.2.1.val); rw [h3 rfl]
  | 3, _, h4, _, _ => show Value.int (Int32.ofNat y.1.2.2.2.2.val) = Value.int (Int32.ofNat x.1.2.2.2.2.val); rw [h4 rfl]
  | 4, _, _, h5, _ => show Value.int (Int32.ofNat y.2.2.1.val) = Value.int (Int32.ofNat x.2.2.1.val); rw [h5 rfl]
  | 5, _, _, _, h6 => show Value.int (Int32.ofNat y.2.2.2.val) = Value.int (Int32.ofNat x.2.2.2.val); rw [h6 rfl]
  | _ + 6, _, _, _, _ => exact congrArg Value.int h2
/-- a cell that a change of the memory leaves as it is -/
theorem mx_en_cong {g : Nat → ClassId} {ad : Nat → Nat} {x y : mx} {j : Nat} (h1 : y.1.1 j = x.1.1 j) (h2 : y.2.1 j = x.2.1 j) (h3 : ¬ j = 1 → True) (hf : j = 1 → y.1.2.2.2.1 = x.1.2.2.2.1) (hs : j = 66 → y.1.2.2.2.2 = x.1.2.2.2.2) (hm : j = 82 → y.2.2 = x.2.2) (hr : j = 2 → y.1.2.1 = x.1.2.1) (hq : j = 67 → y.1.2.2.1 = x.1.2.2.1) : mx_en g ad y j = mx_en g ad x j := by
  refine mx_en_eq (fun hk => ?_) (fun hk => ?_)
  · refine mx_fs_eq _ 0 (fun k d hd => ?_)
    have hkd := mx_ds_kinds hd
    refine mx_v_cong (by rw [h1]) (by rw [h2]) (fun e => hf ?_) (fun e => hs ?_) (fun e => ?_) (fun e => ?_)
    · exact mx_kl_one (by omega)
    · exact mx_kl_seven (by omega)
    · rw [hm (mx_kl_nine (by omega))]
    · rw [hm (mx_kl_nine (by omega))]
  · rcases mx_ar_src j hk with ⟨e, -⟩ | ⟨e, -⟩ | ⟨e, e2⟩ | ⟨e, e2⟩ | ⟨e, -⟩ | ⟨e, -⟩ | e
    · rw [e]; exact congrArg Sum.inl h1
    · rw [e]; exact congrArg Sum.inl h2
    · rw [e]; show Sum.inr _ = Sum.inr _; rw [hr e2]
    · rw [e]; show Sum.inr _ = Sum.inr _; rw [hq e2]
    · rw [e]; rfl
    · rw [e]; rfl
    · have hz : mx_kl j = 99 := by
        refine Classical.byContradiction fun hn => ?_
        have := mx_kl_lt (i := j) rfl hn
        omega
      rw [hz]
      rfl
theorem mx_en_ob {g : Nat → ClassId} {ad : Nat → Nat} {x : mx} {i q : Nat} (h : mx_kl i = q) (hq : q < 20) : mx_en g ad x i = .inr (q, mx_fs ad x i 0 (mx_ds q)) := by
  have h1 := mx_ws_ob (g := g) (ad := ad) (x := x) h hq
  rw [mx_ws_at (mx_kl_lt h (by omega))] at h1
  exact congrArg Prod.snd (Option.some.inj h1)
theorem mx_en_ar {g : Nat → ClassId} {ad : Nat → Nat} {x : mx} {i q : Nat} (h : mx_kl i = q) (hq : 20 ≤ q) (hq2 : ¬ q = 99) : mx_en g ad x i = .inl (g (mx_ar q).1, (mx_ar q).2.1, mx_as ad x i (mx_ar q).2.2) := by
  have h1 := mx_ws_ar (g := g) (ad := ad) (x := x) h hq hq2
  rw [mx_ws_at (mx_kl_lt h hq2)] at h1
  exact congrArg Prod.snd (Option.some.inj h1)
section SETS
variable {g : Nat → ClassId} {ad : Nat → Nat} {x : mx} {t q k : Nat} {v : Int32}
theorem mx_set_i (ht : mx_kl t = q) (hq : q < 9) (hd : (mx_ds q)[k]? = some (0, 0, 0)) : (mx_ws g ad x).set t (ad t, .inr (q, (mx_fs ad x t 0 (mx_ds q)).set k (.int v))) = mx_ws g ad (mx_pi x.1 t k v, x.2) := by
  refine mx_ws_set ?_ (fun j hj => ?_)
  · rw [mx_en_ob ht (by omega)]
    refine congrArg (fun z => Sum.inr (q, z)) ?_
    have := mx_fs_set (ad := ad) (x := x) (y := (mx_pi x.1 t k v, x.2)) (i := t) (k0 := k) (w := .int v) (mx_ds q) 0 (fun k' d' hd' hne => ?_) (fun k' d' hd' he => ?_) (Nat.zero_le _)
    · exact this
    · exact mx_v_cong (mx_up_ne _ _ (fun h => hne h.2)) rfl (fun _ => rfl) (fun _ => rfl) (fun _ => rfl) (fun _ => rfl)
    · have hk : k' = k := by omega
      subst hk
      rw [hd] at hd'
      cases hd'
      show Value.int (mx_up x.1.1 t k' v t (0 + k')) = _
      rw [Nat.zero_add, mx_up_eq]
  · exact mx_en_cong (mx_up_row _ _ _ _ hj) rfl (fun _ => trivial) (fun _ => rfl) (fun _ => rfl) (fun _ => rfl) (fun _ => rfl) (fun _ => rfl)
theorem my_set_i (ht : mx_kl t = 9) (hd : (mx_ds 9)[k]? = some (6, 0, 0)) : (mx_ws g ad x).set t (ad t, .inr (9, (mx_fs ad x t 0 (mx_ds 9)).set k (.int v))) = mx_ws g ad (x.1, my_pi x.2 t k v) := by
  refine mx_ws_set ?_ (fun j hj => ?_)
  · rw [mx_en_ob ht (by omega)]
    refine congrArg (fun z => Sum.inr (9, z)) ?_
    have := mx_fs_set (ad := ad) (x := x) (y := (x.1, my_pi x.2 t k v)) (i := t) (k0 := k) (w := .int v) (mx_ds 9) 0 (fun k' d' hd' hne => ?_) (fun k' d' hd' he => ?_) (Nat.zero_le _)
    · exact this
    · exact mx_v_cong rfl (mx_up_ne _ _ (fun h => hne h.2)) (fun _ => rfl) (fun _ => rfl) (fun _ => rfl) (fun _ => rfl)
    · have hk : k' = k := by omega
      subst hk
      rw [hd] at hd'
      cases hd'
      show Value.int (mx_up x.2.1 t k' v t (0 + k')) = _
      rw [Nat.zero_add, mx_up_eq]
  · exact mx_en_cong rfl (mx_up_row _ _ _ _ hj) (fun _ => trivial) (fun _ => rfl) (fun _ => rfl) (fun _ => rfl) (fun _ => rfl) (fun _ => rfl)
theorem mx_ofFin {n : Nat} (hn : 0 < n) (hv : vp_in v n) : Int32.ofNat (v.toNatClampNeg % n) = v := by
  have h0 : ¬ v < 0 := fun h => hv (Or.inl h)
  have h1 : v.toNatClampNeg < n := Nat.not_le.mp fun h => hv (Or.inr h)
  rw [Nat.mod_eq_of_lt h1]
  exact Int32.ofNat_toNatClampNeg v (Int32.not_lt.mp h0)
theorem mx_set_f (hv : vp_in v 41) : (mx_ws g ad x).set 1 (ad 1, .inr (1, (mx_fs ad x 1 0 (mx_ds 1)).set 2 (.int v))) = mx_ws g ad (mx_pf x.1 v, x.2) := by
  refine mx_ws_set ?_ (fun j hj => ?_)
  · rw [mx_en_ob (q := 1) rfl (by omega)]
    refine congrArg (fun z => Sum.inr (1, z)) ?_
    show [mx_v ad _ 1 0 (1, 0, 2), mx_v ad _ 1 1 (1, 0, 3), Value.int (Int32.ofNat (v.toNatClampNeg % 41))] = _
    rw [mx_ofFin (by decide) hv]
    rfl
  · exact mx_en_cong rfl rfl (fun _ => trivial) (fun h => absurd h hj) (fun _ => rfl) (fun _ => rfl) (fun _ => rfl) (fun _ => rfl)
theorem mx_set_s (hv : vp_in v 5) : (mx_ws g ad x).set 66 (ad 66, .inr (7, (mx_fs ad x 66 0 (mx_ds 7)).set 5 (.int v))) = mx_ws g ad (mx_pc x.1 v, x.2) := by
  refine mx_ws_set ?_ (fun j hj => ?_)
  · rw [mx_en_ob (q := 7) rfl (by omega)]
    refine congrArg (fun z => Sum.inr (7, z)) ?_
    have := mx_fs_set (ad := ad) (x := x) (y := (mx_pc x.1 v, x.2)) (i := 66) (k0 := 5) (w := .int v) (mx_ds 7) 0 (fun k' d' hd' hne => ?_) (fun k' d' hd' he => ?_) (by omega)
    · exact this
    · have := mx_ds_kinds hd'
      exact mx_v_cong rfl rfl (fun _ => rfl) (fun e => by omega) (fun _ => rfl) (fun _ => rfl)
    · have hk : k' = 5 := by omega
      subst hk
      have hd : (mx_ds 7)[5]? = some (3, 0, 0) := rfl
      rw [hd] at hd'
      cases hd'
      show Value.int (Int32.ofNat (v.toNatClampNeg % 5)) = _
      rw [mx_ofFin (by decide) hv]
  · exact mx_en_cong rfl rfl (fun _ => trivial) (fun _ => rfl) (fun h => absurd h hj) (fun _ => rfl) (fun _ => rfl) (fun _ => rfl)
theorem my_set_f (hv : vp_in v 41) : (mx_ws g ad x).set 82 (ad 82, .inr (9, (mx_fs ad x 82 0 (mx_ds 9)).set 3 (.int v))) = mx_ws g ad (x.1, my_pf x.2 v) := by
  refine mx_ws_set ?_ (fun j hj => ?_)
  · rw [mx_en_ob (q := 9) rfl (by omega)]
    refine congrArg (fun z => Sum.inr (9, z)) ?_
    have := mx_fs_set (ad := ad) (x := x) (y := (x.1, my_pf x.2 v)) (i := 82) (k0 := 3) (w := .int v) (mx_ds 9) 0 (fun k' d' hd' hne => ?_) (fun k' d' hd' he => ?_) (by omega)
    · exact this
    · have := mx_ds_kinds hd'
      exact mx_v_cong rfl rfl (fun _ => rfl) (fun _ => rfl) (fun e => by omega) (fun _ => rfl)
    · have hk : k' = 3 := by omega
      subst hk
      have hd : (mx_ds 9)[3]? = some (4, 0, 0) := rfl
      rw [hd] at hd'
      cases hd'
      show Value.int (Int32.ofNat (v.toNatClampNeg % 41)) = _
      rw [mx_ofFin (by decide) hv]
  · exact mx_en_cong rfl rfl (fun _ => trivial) (fun _ => rfl) (fun _ => rfl) (fun h => absurd h hj) (fun _ => rfl) (fun _ => rfl)
theorem my_set_s (hv : vp_in v 5) : (mx_ws g ad x).set 82 (ad 82, .inr (9, (mx_fs ad x 82 0 (mx_ds 9)).set 18 (.int v))) = mx_ws g ad (x.1, my_ps x.2 v) := by
  refine mx_ws_set ?_ (fun j hj => ?_)
  · rw [mx_en_ob (q := 9) rfl (by omega)]
    refine congrArg (fun z => Sum.inr (9, z)) ?_
    have := mx_fs_set (ad := ad) (x := x) (y := (x.1, my_ps x.2 v)) (i := 82) (k0 := 18) (w := .int v) (mx_ds 9) 0 (fun k' d' hd' hne => ?_) (fun k' d' hd' he => ?_) (by omega)
    · exact this
    · have := mx_ds_kinds hd'
      exact mx_v_cong rfl rfl (fun _ => rfl) (fun _ => rfl) (fun _ => rfl) (fun e => by omega)
    · have hk : k' = 18 := by omega
      subst hk
      have hd : (mx_ds 9)[18]? = some (5, 0, 0) := rfl
      rw [hd] at hd'
      cases hd'
      show Value.int (Int32.ofNat (v.toNatClampNeg % 5)) = _
      rw [mx_ofFin (by decide) hv]
  · exact mx_en_cong rfl rfl (fun _ => trivial) (fun _ => rfl) (fun _ => rfl) (fun h => absurd h hj) (fun _ => rfl) (fun _ => rfl)
/-- arrays of ints -/
theorem mx_set_a {n : Nat} (ht : mx_kl t = q) (hq : 20 ≤ q) (hq2 : ¬ q = 99) (hs : (mx_ar q).2.2 = 0) : (mx_ws g ad x).set t (ad t, .inl (g (mx_ar q).1, (mx_ar q).2.1, .inl (upd (x.1.1 t) n v))) = mx_ws g ad (mx_pi x.1 t n v, x.2) := by
  refine mx_ws_set ?_ (fun j hj => ?_)
  · rw [mx_en_ar ht hq hq2, hs]
    refine congrArg (fun z => Sum.inl (g (mx_ar q).1, (mx_ar q).2.1, Sum.inl z)) ?_
    funext b
    show mx_up x.1.1 t n v t b = upd (x.1.1 t) n v b
    unfold upd
    by_cases hb : b = n
    · subst hb; rw [mx_up_eq, if_pos rfl]
    · rw [mx_up_ne _ _ (fun h => hb h.2), if_neg hb]
  · exact mx_en_cong (mx_up_row _ _ _ _ hj) rfl (fun _ => trivial) (fun _ => rfl) (fun _ => rfl) (fun _ => rfl) (fun _ => rfl) (fun _ => rfl)
theorem my_set_a {n : Nat} (ht : mx_kl t = q) (hq : 20 ≤ q) (hq2 : ¬ q = 99) (hs : (mx_ar q).2.2 = 1) : (mx_ws g ad x).set t (ad t, .inl (g (mx_ar q).1, (mx_ar q).2.1, .inl (upd (x.2.1 t) n v))) = mx_ws g ad (x.1, my_pi x.2 t n v) := by
  refine mx_ws_set ?_ (fun j hj => ?_)
  · rw [mx_en_ar ht hq hq2, hs]
    refine congrArg (fun z => Sum.inl (g (mx_ar q).1, (mx_ar q).2.1, Sum.inl z)) ?_
    funext b
    show mx_up x.2.1 t n v t b = upd (x.2.1 t) n v b
    unfold upd
    by_cases hb : b = n
    · subst hb; rw [mx_up_eq, if_pos rfl]
    · rw [mx_up_ne _ _ (fun h => hb h.2), if_neg hb]
  · exact mx_en_cong rfl (mx_up_row _ _ _ _ hj) (fun _ => trivial) (fun _ => rfl) (fun _ => rfl) (fun _ => rfl) (fun _ => rfl) (fun _ => rfl)
theorem mx_set_r {n r : Nat} (h1 : 4 ≤ r) (h2 : r < 45) : (mx_ws g ad x).set 2 (ad 2, .inl (g 2, 41, .inr (.inr (.inr (.inr (va_up (fun k => some (ad (4 + (x.1.2.1 k).val))) n (some (ad r)))))))) = mx_ws g ad (mx_pr x.1 n (Fin.ofNat 41 (r - 4)), x.2) := by
  refine mx_ws_set ?_ (fun j hj => ?_)
  · rw [mx_en_ar (q := 24) rfl (by omega) (by omega)]
    refine congrArg (fun z => Sum.inl (g 2, 41, Sum.inr (Sum.inr (Sum.inr (Sum.inr z))))) ?_
    funext b
    show some (ad (4 + (cond (Nat.beq b n) (Fin.ofNat 41 (r - 4)) (x.1.2.1 b)).val)) = va_up _ n _ b
    unfold va_up
    by_cases hb : b = n
    · subst hb
      rw [if_pos rfl, Nat.beq_refl, cond_true]
      show some (ad (4 + (r - 4) % 41)) = _
      rw [Nat.mod_eq_of_lt (by omega), show 4 + (r - 4) = r by omega]
    · rw [if_neg hb]
      have : Nat.beq b n = false := by
        cases hz : Nat.beq b n with
        | false => rfl
        | true => exact absurd (Nat.eq_of_beq_eq_true hz) hb
      rw [this, cond_false]
  · exact mx_en_cong rfl rfl (fun _ => trivial) (fun _ => rfl) (fun _ => rfl) (fun _ => rfl) (fun h => absurd h hj) (fun _ => rfl)
theorem mx_set_q {n r : Nat} (h1 : 78 ≤ r) (h2 : r < 82) : (mx_ws g ad x).set 67 (ad 67, .inl (g 3, 4, .inr (.inr (.inr (.inr (va_up (fun k => some (ad (78 + (x.1.2.2.1 k).val))) n (some (ad r)))))))) = mx_ws g ad (mx_ps x.1 n (Fin.ofNat 4 (r - 78)), x.2) := by
  refine mx_ws_set ?_ (fun j hj => ?_)
  · rw [mx_en_ar (q := 25) rfl (by omega) (by omega)]
    refine congrArg (fun z => Sum.inl (g 3, 4, Sum.inr (Sum.inr (Sum.inr (Sum.inr z))))) ?_
    funext b
    show some (ad (78 + (cond (Nat.beq b n) (Fin.ofNat 4 (r - 78)) (x.1.2.2.1 b)).val)) = va_up _ n _ b
    unfold va_up
    by_cases hb : b = n
    · subst hb
      rw [if_pos rfl, Nat.beq_refl, cond_true]
      show some (ad (78 + (r - 78) % 4)) = _
      rw [Nat.mod_eq_of_lt (by omega), show 78 + (r - 78) = r by omega]
    · rw [if_neg hb]
      have : Nat.beq b n = false := by
        cases hz : Nat.beq b n with
        | false => rfl
        | true => exact absurd (Nat.eq_of_beq_eq_true hz) hb
      rw [this, cond_false]
  · exact mx_en_cong rfl rfl (fun _ => trivial) (fun _ => rfl) (fun _ => rfl) (fun _ => rfl) (fun _ => rfl) (fun h => absurd h hj)
end SETS
