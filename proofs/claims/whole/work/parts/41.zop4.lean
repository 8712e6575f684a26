section ZR
variable {p : Program} {l : Launch} {e : Env} {R : Room} {s : State} {m : MethodId} {args : Array Value} {below : List Frame} {meth : Method} {c : Code} {cc : ByteArray} {nL : Nat} {ad : Nat → Nat} {D : va_G} {g : Nat → ClassId} {B n0 s0 : Nat} {own : String}
theorem zo_anew {t idx : Nat} {C : String} (X : ox_C p s m args c cc nL own D g ad B) (hA : zA ad B) (hty : (mx_ty g)[t]? = some (g t, .object C)) (hlk : Cond.classLink own idx C ∈ al) (hAO : va_AO C s) : rx_OK p l e R s m args below meth c cc nL ad (zW D g ad B s.heap) (zcs n0 s0) (.anewarray idx) 3 1 (zx_k (kznewa R n0 s0 t true)) := by
  refine zx_OKi fun pc mem H locs lA av rest Q res ha hK hW hsz hrest hdec kk => ?_
  obtain ⟨hx, hb, hml, hown, hts, htb, had⟩ := X
  match av, ha with
  | [.int n], _ =>
    by_cases hc : (n0 ≤ mem.length ∧ s0 ≤ zs mem ∧ mem.length < 999 ∧ mem.length - n0 + 1 ≤ R.cells ∧ zs mem - s0 + n.toNatClampNeg ≤ R.slots ∧ ¬ n < 0 ∧ n.toNatClampNeg ≤ 100000)
    · have hK' : kznewa R n0 s0 t true [.int n] mem = some (mem ++ [.inl (t, n.toNatClampNeg, some (List.replicate n.toNatClampNeg none))], some (.ref mem.length)) := by simp only [kznewa, hc, decide_true, cond_true, and_self, not_false_eq_true]
      cases hK'.symm.trans hK
      obtain ⟨c1, c2, c3, c4, c5, c6, c7⟩ := hc
      obtain ⟨kA0, comp0, -, -, -, hf⟩ := (htb.1.2 t _ hty).2
      refine W.anew hx hb hown (hts _ hlk) (va_AO.use hAO) rfl hdec rfl c6 (Nat.le_trans (Nat.mul_le_mul_right 4 c7) (by decide)) c4 c5 fun cA kA comp f1 f2 f3 f4 => ?_
      cases hf.symm.trans f1
      have h2 := kk _ locs (zW_app (H1 := H.push { cls := g t, slots := Array.replicate n.toNatClampNeg .null, vm := .none }) hA hW c3 (by rw [Array.size_push]) (fun q hq => by rw [Array.getElem?_push, if_neg (Nat.ne_of_lt hq)]) (by
        show (H.push _)[H.size]? = some (vp_cell _ _)
        rw [Array.getElem?_push_size, vp_cell_q, arrV_new]
        congr 2
        funext k
        show Value.null = va_rf (((List.replicate n.toNatClampNeg none)[k]?).join.map ad)
        rw [List.getElem?_replicate]
        split <;> rfl))
      rw [zcs_app (N := n.toNatClampNeg) (by show n.toNatClampNeg + 0 = _; omega) c1 c2] at h2
      have h3 : rx_tr ad (.ref mem.length) = .ref H.size := by show Value.ref (ad mem.length) = _; rw [hA _ (by omega), hW.2.2.1]
      have h4 : ((some (Value.ref mem.length)).toList ++ rest).map (rx_tr ad) = Value.ref H.size :: rest.map (rx_tr ad) := by show rx_tr ad (.ref mem.length) :: rest.map (rx_tr ad) = _; rw [h3]
      rw [h4] at h2
      exact h2
    · exfalso
      simp only [kznewa, hc, decide_false, cond_false] at hK
      cases hK
  | [.ref _], _ => cases hK
  | [.null], _ => cases hK
  | [.long _], _ => cases hK
  | [.float _], _ => cases hK
  | [.double _], _ => cases hK
theorem zo_len {t0 : Nat} {ty : FieldType} (X : ox_C p s m args c cc nL own D g ad B) (ht : (mx_ty g)[t0]? = some (g t0, ty)) :
    rx_OK p l e R s m args below meth c cc nL ad (zW D g ad B s.heap) (zcs n0 s0) .arraylength 1 1 (zx_k (kzlen t0)) := by
  refine zx_OKi fun pc mem H locs lA av rest Q res ha hK hW hsz hrest hdec kk => ?_
  obtain ⟨hx, hb, hml, hown, hts, htb, had⟩ := X
  unfold kzlen at hK
  split at hK
  · next t =>
    split at hK
    · next t' n o he =>
      cases hb2 : Nat.beq t' t0 with
      | false => rw [hb2] at hK; cases hK
      | true =>
        rw [hb2] at hK
        have := Nat.eq_of_beq_eq_true hb2
        subst this
        cases hK
        cases o with
        | none => exact va_alen hx hb htb.1 hW.1 t t' (zw_in he) ht rfl hdec (kk H locs hW)
        | some w => exact va_alen hx hb htb.1 hW.1 t t' (zw_in he) ht rfl hdec (kk H locs hW)
    · cases hK
  · cases hK
def kzobj : zx_K zM := fun av es => match av with
  | [.ref _] => some (es, none)
  | _ => none
theorem zo_obj {idx : Nat} (X : ox_C p s m args c cc nL own D g ad B) (hl : Cond.methodLink own idx Lib.objectInit ∈ al) (hi : Cond.instanceMethod Lib.objectInit ∈ al) (hc : Cond.code Lib.objectInit ⟨#[0xb1]⟩ 1 none ∈ al) (hR : 1 ≤ R.frames ∧ 20 ≤ R.locals) :
    rx_OK p l e R s m args below meth c cc nL ad (zW D g ad B s.heap) (zcs n0 s0) (.invokespecial idx) 3 1 (zx_k kzobj) := by
  refine zx_OKi fun pc mem H locs lA av rest Q res ha hK hW hsz hrest hdec kk => ?_
  obtain ⟨hx, hb, hml, hown, hts, htb, had⟩ := X
  unfold kzobj at hK
  split at hK
  · next t =>
    cases hK
    refine W.objInit hx hb hown (hts _ hl) (hts _ hi) (hts _ hc) rfl (hsz.trans hml.symm) rfl hdec hR.1 ?_ (kk H locs hW)
    have h1 : ((rest.map (rx_tr ad)).map fun v => v.category).sum ≤ 8 := by rw [rx_cat_sum]; exact hrest
    show 2 * 0 + ((rest.map (rx_tr ad)).map fun v => v.category).sum + 12 ≤ R.locals
    omega
  · cases hK
def kzast (t0 q : Nat) : zx_K zM := fun av es => match av with
  | [.ref t, .int i, .ref v] => match es[t]?, es[v]? with
    | some (.inl (t', n, some r)), some (.inr (q', _)) => cond (Nat.beq t' t0 && Nat.beq q' q && decide (¬ i < 0) && Nat.blt i.toNatClampNeg n && Nat.blt i.toNatClampNeg r.length) (some (es.set t (.inl (t', n, some (r.set i.toNatClampNeg (some v)))), none)) none
    | _, _ => none
  | _ => none
theorem kzast_i {t0 q : Nat} {av : List Value} {es : zM} {r : rx_R zM} (h : kzast t0 q av es = some r) : ∃ (t : Nat) (i : Int32) (n v : Nat) (w : List (Option Nat)) (fs : List Value), av = [.ref t, .int i, .ref v] ∧ es[t]? = some (.inl (t0, n, some w)) ∧ es[v]? = some (.inr (q, fs)) ∧ ¬ i < 0 ∧ i.toNatClampNeg < n ∧ i.toNatClampNeg < w.length ∧ r = (es.set t (.inl (t0, n, some (w.set i.toNatClampNeg (some v)))), none) := by
  unfold kzast at h
  split at h
  · next t i v =>
    split at h
    · next t' n w q' fs he hv =>
      cases hb : (Nat.beq t' t0 && Nat.beq q' q && decide (¬ i < 0) && Nat.blt i.toNatClampNeg n && Nat.blt i.toNatClampNeg w.length) with
      | false => rw [hb] at h; cases h
      | true =>
        rw [hb] at h
        rw [Bool.and_eq_true, Bool.and_eq_true, Bool.and_eq_true, Bool.and_eq_true] at hb
        have h1 := Nat.eq_of_beq_eq_true hb.1.1.1.1
        have h2 := Nat.eq_of_beq_eq_true hb.1.1.1.2
        subst h1
        subst h2
        cases h
        exact ⟨t, i, n, v, w, fs, rfl, he, hv, of_decide_eq_true hb.1.1.2, Nat.le_of_ble_eq_true hb.1.2, Nat.le_of_ble_eq_true hb.2, rfl⟩
    · cases h
  · cases h
theorem zs_seta {t0 n : Nat} {w w' : Option (List (Option Nat))} : ∀ (es : zM) (t : Nat), es[t]? = some (.inl (t0, n, w)) → zs (es.set t (.inl (t0, n, w'))) = zs es := by
  intro es
  induction es with
  | nil => intro t h; rfl
  | cons x r ih =>
    intro t h
    cases t with
    | zero =>
      have h1 : x = .inl (t0, n, w) := by simpa using h
      subst h1
      rfl
    | succ t =>
      have h1 := ih t (by simpa using h)
      match x with
      | .inl (_, n, _) => show n + zs (r.set t _) = n + zs r; rw [h1]
      | .inr (_, f) => show f.length + zs (r.set t _) = f.length + zs r; rw [h1]
/-- where the component's class is E and the object's class C goes into it -/
theorem zo_ast {t0 q N : Nat} {C E : String} {T : u_T} (X : ox_C p s m args c cc nL own D g ad B) (hA : zA ad B) (ht : (mx_ty g)[t0]? = some (g t0, .object E)) (hcl : mx_cl[q]? = some (C, T, N)) (has : ∀ comp c0 : ClassId, s.vm.findClass E = some comp → s.vm.findClass C = some c0 → s.vm.assignable c0 comp = true) :
    rx_OK p l e R s m args below meth c cc nL ad (zW D g ad B s.heap) (zcs n0 s0) .aastore 1 3 (zx_k (kzast t0 q)) := by
  refine zx_OKi fun pc mem H locs lA av rest Q res ha hK hW hsz hrest hdec kk => ?_
  obtain ⟨t, i, n, v, w, fs, rfl, he, hv, h0, hlt, hlw, rfl⟩ := kzast_i hK
  obtain ⟨hx, hb, hml, hown, hts, htb, had⟩ := X
  have hP := hW.1
  have hD := zD (g := g) hA hW.2.2.2
  have hz := zw_in (g := g) (ad := ad) he
  obtain ⟨r', hr', cellV, g1, g2, g3, -⟩ := hP v _ (zw_in hv)
  have hcls := (htb.1.1 q _ hcl).2
  obtain ⟨kA, comp, k1, k2, k3, -⟩ := (htb.1.2 t0 _ ht).2
  obtain ⟨kE, hkE, -⟩ := Vm.findClass_spec k3
  obtain ⟨kC, hkC, -⟩ := hcls.2
  refine W.aast hx hb (hP t _ hz) (fun q h => by cases h) (fun h => by cases h) k1 k2 rfl hkE ⟨h0, by show _ < (arrV _ _ _).slots.size; rw [arrV_size]; exact hlt⟩ g1 (fun q h => by rw [g3] at h; cases h) (by rw [g2]; exact hkC) (by rw [g2]; exact has _ _ k3 hcls.1) rfl rfl hdec fun H1 e1 z oq => ?_
  have h7 : va_P D mx_cl ((zw g ad 0 mem).set t (ad t, zc g ad (.inl (t0, n, some (w.set i.toNatClampNeg (some v)))))) H1 := by
    refine hP.set hD hz ?_ oq
    show H1[ad t]? = some (vp_cell _ _)
    rw [e1]
    show some (Cell.setSlot (vp_cell _ _) _ _) = _
    rw [vp_cell_q, vp_cell_q, arrV_store]
    congr 2
    funext k
    by_cases hq : k = i.toNatClampNeg
    · subst hq
      simp [updV, va_rf, rx_tr, hlw]
    · have hq2 : ¬ i.toNatClampNeg = k := fun h => hq h.symm
      simp [updV, hq, hq2, List.getElem?_set]
  have h8 := kk H1 (locs ++ [{ base := ad t, slot := i.toNatClampNeg }]) (zW_set hW h7 z (hW.2.1.put (k := i.toNatClampNeg) z oq (hD.2 t _ hz)))
  have hc : zcs n0 s0 (mem.set t (.inl (t0, n, some (w.set i.toNatClampNeg (some v))))) = zcs n0 s0 mem := by
    unfold zcs
    rw [List.length_set, zs_seta mem t he]
  rw [hc] at h8
  exact h8
end ZR
