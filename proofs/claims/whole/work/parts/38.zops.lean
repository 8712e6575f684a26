/-! Operations that make cells -/
def kznew (R : Room) (n0 s0 q : Nat) (fs : List Value) : zx_K zM := fun av es => match av with
  | [] => cond (decide (n0 ≤ es.length ∧ s0 ≤ zs es ∧ es.length < 999 ∧ es.length - n0 + 1 ≤ R.cells ∧ zs es - s0 + fs.length ≤ R.slots)) (some (es ++ [.inr (q, fs)], some (.ref es.length))) none
  | _ => none
def kznewa (R : Room) (n0 s0 t : Nat) (r : Bool) : zx_K zM := fun av es => match av with
  | [.int n] => cond (decide (n0 ≤ es.length ∧ s0 ≤ zs es ∧ es.length < 999 ∧ es.length - n0 + 1 ≤ R.cells ∧ zs es - s0 + n.toNatClampNeg ≤ R.slots ∧ ¬ n < 0 ∧ n.toNatClampNeg ≤ 100000)) (some (es ++ [.inl (t, n.toNatClampNeg, cond r (some (List.replicate n.toNatClampNeg none)) none)], some (.ref es.length))) none
  | _ => none
section ZO
variable {p : Program} {l : Launch} {e : Env} {R : Room} {s : State} {m : MethodId} {args : Array Value} {below : List Frame} {meth : Method} {c : Code} {cc : ByteArray} {nL : Nat} {ad : Nat → Nat} {D : va_G} {g : Nat → ClassId} {B n0 s0 : Nat} {own : String}
theorem zcs_app {n0 s0 : Nat} {es : zM} {x : zE} {N : Nat} (hN : zs [x] = N) (h1 : n0 ≤ es.length) (h2 : s0 ≤ zs es) : zcs n0 s0 (es ++ [x]) = ((zcs n0 s0 es).1 + 1, (zcs n0 s0 es).2 + N) := by
  unfold zcs
  rw [zs_app, hN, List.length_append]
  simp only [List.length_cons, List.length_nil, Nat.zero_add]
  rw [show es.length + 1 - n0 = es.length - n0 + 1 by omega, show zs es + N - s0 = zs es - s0 + N by omega]
/-- the world with one cell more -/
theorem zW_app {H0 H H1 : Heap} {locs : List Loc} {es : zM} {x : zE} (hA : zA ad B) (hW : zW D g ad B H0 es H locs) (hl : es.length < 999) (hz : H1.size = H.size + 1) (ho : ∀ q : Nat, q < H.size → H1[q]? = H[q]?) (hx : va_at D mx_cl (H.size, zc g ad x) H1) : zW D g ad B H0 (es ++ [x]) H1 locs := by
  obtain ⟨hP, hS, hs, -⟩ := hW
  have ha : ad (0 + es.length) = H.size := by rw [Nat.zero_add, hA _ (by omega), hs]
  refine ⟨?_, ⟨by have := hS.1; omega, fun q h1 h2 => (ho q (Nat.lt_of_lt_of_le h1 hS.1)).trans (hS.2.1 q h1 h2), hS.2.2⟩, by rw [hz, hs, List.length_append]; rfl, by rw [List.length_append]; simp only [List.length_cons, List.length_nil]; omega⟩
  rw [zw_app, ha]
  refine (hP.kept fun k q hq => ho q.1 ((hP k q hq).lt)).app fun k q hq => ?_
  have hz : k < 1 := (List.getElem?_eq_some_iff.mp hq).1
  rw [show k = 0 by omega] at hq
  cases hq
  exact hx
theorem zo_new {q N idx : Nat} {C : String} {T : u_T} {fs : List Value} (X : ox_C p s m args c cc nL own D g ad B) (hA : zA ad B) (hcl : mx_cl[q]? = some (C, T, N)) (hin : ∀ w ∈ u_ws C T N, w ∈ al) (ty0 : Nat → FieldType) (hty : ∀ k, k < N → parseFieldDescriptor (T k).2.2.1 = some (ty0 k)) (hlen : fs.length = N) (hfs : ∀ j, j < N → defaultValue (ty0 j) = vp_V (fs.map (rx_tr ad)) j)
    (hlk : Cond.classLink own idx C ∈ al) (hinst : Cond.instantiable C N ∈ al) (hini : Cond.initialized C ∈ al) : rx_OK p l e R s m args below meth c cc nL ad (zW D g ad B s.heap) (zcs n0 s0) (.new idx) 3 0 (zx_k (kznew R n0 s0 q fs)) := by
  intro pc mem H locs lA av rest Q ha hp hW hsz hrest hdec kk
  have : av = [] := List.eq_nil_of_length_eq_zero ha
  subst this
  obtain ⟨hx, hb, hml, hown, hts, htb, had⟩ := X
  by_cases hc : (n0 ≤ mem.length ∧ s0 ≤ zs mem ∧ mem.length < 999 ∧ mem.length - n0 + 1 ≤ R.cells ∧ zs mem - s0 + fs.length ≤ R.slots)
  · have hK : zx_k (kznew R n0 s0 q fs) [] mem = (True, (mem ++ [.inr (q, fs)], some (.ref mem.length))) := by simp [zx_k, kznew, hc]
    rw [hK] at kk
    obtain ⟨c1, c2, c3, c4, c5⟩ := hc
    have hKn := htb.1.1 q _ hcl
    refine W.newcK hx hb hown (hts _ hlk) (hts _ hinst) (hts _ hini) rfl hdec c4 (by rw [← hlen]; exact c5) hKn.2.1 rfl fun H1 kC hkC e1 z1 o1 => ?_
    have h2 := kk H1 locs (zW_app hA hW c3 z1 o1 ⟨_, hcl, (u_born ty0 hts hin hKn hkC e1 hty).to hfs⟩)
    rw [zcs_app (N := N) (by show fs.length + 0 = N; omega) c1 c2] at h2
    have h3 : rx_tr ad (.ref mem.length) = .ref H.size := by show Value.ref (ad mem.length) = _; rw [hA _ (by omega), hW.2.2.1]
    have h4 : ((some (Value.ref mem.length)).toList ++ rest).map (rx_tr ad) = Value.ref H.size :: rest.map (rx_tr ad) := by show rx_tr ad (.ref mem.length) :: rest.map (rx_tr ad) = _; rw [h3]
    rw [h4] at h2
    exact h2
  · exfalso
    simp [zx_k, kznew, hc] at hp
theorem zo_newa {t : Nat} {ty : FieldType} {at0 : ArrayType} (X : ox_C p s m args c cc nL own D g ad B) (hA : zA ad B) (hat : newarray.typeOf at0 = ty) (hty : (mx_ty g)[t]? = some (g t, ty)) (hno : ∀ C, ty ≠ .object C) (hdv : defaultValue ty = .int 0) (hcb : componentBytes ty ≤ 4) (hnm : ∀ f : Nat → Int32, ∀ cA N, vp_cell cA (N, .inl f) = arrV cA N (fun k => .int (f k))) (hlk : Cond.arrayClass ty ∈ al) : rx_OK p l e R s m args below meth c cc nL ad (zW D g ad B s.heap) (zcs n0 s0) (.newarray at0) 2 1 (zx_k (kznewa R n0 s0 t false)) := by
  intro pc mem H locs lA av rest Q ha hp hW hsz hrest hdec kk
  obtain ⟨hx, hb, hml, hown, hts, htb, had⟩ := X
  match av, ha with
  | [.int n], _ =>
    by_cases hc : (n0 ≤ mem.length ∧ s0 ≤ zs mem ∧ mem.length < 999 ∧ mem.length - n0 + 1 ≤ R.cells ∧ zs mem - s0 + n.toNatClampNeg ≤ R.slots ∧ ¬ n < 0 ∧ n.toNatClampNeg ≤ 100000)
    · have hK : zx_k (kznewa R n0 s0 t false) [.int n] mem = (True, (mem ++ [.inl (t, n.toNatClampNeg, none)], some (.ref mem.length))) := by simp only [zx_k, kznewa, hc, decide_true, cond_true, cond_false, and_self, not_false_eq_true]
      rw [hK] at kk
      obtain ⟨c1, c2, c3, c4, c5, c6, c7⟩ := hc
      have hKn := htb.1.2 t _ hty
      subst hat
      refine va_newaK hx hb (hts _ hlk) rfl hdec rfl c6 rfl (Nat.le_trans (Nat.mul_le_mul c7 hcb) (by decide)) c4 c5 rfl fun H1 cA e1 z1 o1 hAr hf => ?_
      have hg : cA = g t := by
        have h2 := hKn.2
        unfold va_RA at h2
        split at h2
        · next C hC => exact absurd hC (hno C)
        · exact Option.some.inj (hf.symm.trans h2)
      subst hg
      have h2 := kk H1 locs (zW_app hA hW c3 z1 o1 (by show H1[H.size]? = some (vp_cell _ _); rw [hnm, e1, hdv]))
      rw [zcs_app (N := n.toNatClampNeg) (by show n.toNatClampNeg + 0 = _; omega) c1 c2] at h2
      have h3 : rx_tr ad (.ref mem.length) = .ref H.size := by show Value.ref (ad mem.length) = _; rw [hA _ (by omega), hW.2.2.1]
      have h4 : ((some (Value.ref mem.length)).toList ++ rest).map (rx_tr ad) = Value.ref H.size :: rest.map (rx_tr ad) := by show rx_tr ad (.ref mem.length) :: rest.map (rx_tr ad) = _; rw [h3]
      rw [h4] at h2
      exact h2
    · exfalso
      simp only [zx_k, kznewa, hc, decide_false, cond_false] at hp
  | [.ref _], _ => cases hp
  | [.null], _ => cases hp
  | [.long _], _ => cases hp
  | [.float _], _ => cases hp
  | [.double _], _ => cases hp
end ZO
