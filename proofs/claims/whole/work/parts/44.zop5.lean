section ZU
variable {p : Program} {l : Launch} {e : Env} {R : Room} {s : State} {m : MethodId} {args : Array Value} {below : List Frame} {meth : Method} {c : Code} {cc : ByteArray} {nL : Nat} {ad : Nat → Nat} {D : va_G} {g : Nat → ClassId} {B n0 s0 : Nat} {own : String}
theorem zo_putn {q N k idx : Nat} {C ref : String} {T : u_T} {ty : FieldType} (X : ox_C p s m args c cc nL own D g ad B) (hA : zA ad B) (hcl : mx_cl[q]? = some (C, T, N)) (hk : k < N) (hin : ∀ w ∈ u_ws C T N, w ∈ al) (ty0 : Nat → FieldType) (hty : ∀ k, k < N → parseFieldDescriptor (T k).2.2.1 = some (ty0 k)) (hnm : ∀ a, a < N → ∀ b, b < N → a ≠ b → (T a).2.1 ≠ (T b).2.1) (hl : Cond.fieldLink own idx ref (T k).2.1 (T k).2.2.1 ∈ al) (hsame : (T k).1 = ref) (hfin : (T k).2.2.2 = false) (hd : ty0 k = ty) :
    rx_OK p l e R s m args below meth c cc nL ad (zW D g ad B s.heap) (zcs n0 s0) (.putfield idx) 3 2 (zx_k (kzput q k ty)) := by
  refine zx_OKi fun pc mem H locs lA av rest Q res ha hK hW hsz hrest hdec kk => ?_
  obtain ⟨t, fs, v, rfl, he, hkl, hfit, rfl⟩ := kzput_i hK
  obtain ⟨hx, hb, hml, hown, hts, htb, had⟩ := X
  have hP := hW.1
  have hD := zD (g := g) hA hW.2.2.2
  have hap := va_apart (own := own) hts hin ty0 hty hnm htb.1 hcl
  have hz := zw_in (g := g) (ad := ad) he
  obtain ⟨r, h1, cell, q1, q2, q3, q4⟩ := hP t _ hz
  cases Option.some.inj (h1.symm.trans hcl)
  obtain ⟨hS, hfc, kC, hkC, hkind⟩ := htb.1.1 q _ hcl
  obtain ⟨cf, kf, fi, f, hi, hsl⟩ := hS k hk
  have hlay := hts _ (hin _ (u_in_lay hk))
  unfold u_lay at hlay
  rw [if_neg (by rw [hfin]; decide)] at hlay
  have hst := (u_facts hfc hkC (u_lays hts hin hk) hi).1
  have h6 := u_store hfc hkC hkind hlay hi (by rw [hty k hk, hd]) (zfit_n (ad := ad) hfit).1 (zfit_n (ad := ad) hfit).2
  have hs2 : s.fieldFound? ref (T k).2.1 (T k).2.2.1 = some (cf, kf, fi, f) := by rw [← hsame]; exact hi
  have hlen : k < (fs.map (rx_tr ad)).length := by rw [List.length_map]; exact hkl
  refine W.putK hx hb (f := f) ⟨hown, hts _ hl, ⟨_, _, _, hs2⟩, hst⟩ (by rw [q2]; exact h6) q1 q3 (by rw [hsl]; exact k2_hasslot (q4 k hk)) rfl rfl hdec fun H' e1 e2 e3 => ?_
  rw [hsl] at e1
  have h9 : zc g ad (.inr (q, fs.set k v)) = .inr (q, (fs.map (rx_tr ad)).set k (rx_tr ad v)) := by
    show (Sum.inr (q, (fs.set k v).map (rx_tr ad)) : va_E) = _
    rw [List.map_set]
  have h7 : va_P D mx_cl ((zw g ad 0 mem).set t (ad t, zc g ad (.inr (q, fs.set k v)))) H' := by
    rw [h9]
    exact hP.set hD hz ⟨_, hcl, t_OB.to (V := updV (vp_V (fs.map (rx_tr ad))) k (rx_tr ad v)) ⟨_, e1, q2, q3, t_set q4 hap hk (rx_tr ad v)⟩ (fun j _ => vp_updV_set hlen (rx_tr ad v) j)⟩ e3
  have h8 := kk H' (locs ++ [{ base := ad t, slot := f.slot }]) (zW_set hW h7 e2 (hW.2.1.put (k := f.slot) e2 e3 (hD.2 t _ hz)))
  have hc : zcs n0 s0 (mem.set t (.inr (q, fs.set k v))) = zcs n0 s0 mem := by
    unfold zcs
    rw [List.length_set, zs_set (fs := fs) (by rw [List.length_set]) mem t he]
  rw [hc] at h8
  exact h8
def kzmin (R : Room) (n0 s0 : Nat) : zx_K zM := fun av es => match av with
  | [.int a, .int b] => cond (decide (es.length - n0 ≤ R.cells ∧ zs es - s0 ≤ R.slots)) (some (es, some (.int (jx_min a b)))) none
  | _ => none
def kzmax (R : Room) (n0 s0 : Nat) : zx_K zM := fun av es => match av with
  | [.int a, .int b] => cond (decide (es.length - n0 ≤ R.cells ∧ zs es - s0 ≤ R.slots)) (some (es, some (.int (jx_max a b)))) none
  | _ => none
theorem zo_min {idx : Nat} (X : ox_C p s m args c cc nL own D g ad B) (hl : Cond.methodLink own idx Lib.Math.min.name ∈ al) (hfr : 1 ≤ R.frames) (hlo : 21 ≤ R.locals) : rx_OK p l e R s m args below meth c cc nL ad (zW D g ad B s.heap) (zcs n0 s0) (.invokestatic idx) 3 2 (zx_k (kzmin R n0 s0)) := by
  refine zx_OKi fun pc mem H locs lA av rest Q res ha hK hW hsz hrest hdec kk => ?_
  obtain ⟨hx, hb, hml, hown, hts, htb, had⟩ := X
  unfold kzmin at hK
  split at hK
  · next a b =>
    by_cases hc : (mem.length - n0 ≤ R.cells ∧ zs mem - s0 ≤ R.slots)
    · simp only [hc, and_self, decide_true, cond_true] at hK
      cases hK
      exact va_mmin (rest := rest.map (rx_tr ad)) hx hb (hml.trans hsz.symm) hown (hts _ hl) (hts _ mt_min_st) (hts _ mt_ini) (hts _ mt_min_code) hfr (by rw [rx_cat_sum]; omega) hc.1 hc.2 hdec (kk H locs hW)
    · simp only [hc, decide_false, cond_false] at hK
      cases hK
  · cases hK
theorem zo_max {idx : Nat} (X : ox_C p s m args c cc nL own D g ad B) (hl : Cond.methodLink own idx Lib.Math.max.name ∈ al) (hfr : 1 ≤ R.frames) (hlo : 21 ≤ R.locals) : rx_OK p l e R s m args below meth c cc nL ad (zW D g ad B s.heap) (zcs n0 s0) (.invokestatic idx) 3 2 (zx_k (kzmax R n0 s0)) := by
  refine zx_OKi fun pc mem H locs lA av rest Q res ha hK hW hsz hrest hdec kk => ?_
  obtain ⟨hx, hb, hml, hown, hts, htb, had⟩ := X
  unfold kzmax at hK
  split at hK
  · next a b =>
    by_cases hc : (mem.length - n0 ≤ R.cells ∧ zs mem - s0 ≤ R.slots)
    · simp only [hc, and_self, decide_true, cond_true] at hK
      cases hK
      exact va_mmax (rest := rest.map (rx_tr ad)) hx hb (hml.trans hsz.symm) hown (hts _ hl) (hts _ mt_max_st) (hts _ mt_ini) (hts _ mt_max_code) hfr (by rw [rx_cat_sum]; omega) hc.1 hc.2 hdec (kk H locs hW)
    · simp only [hc, decide_false, cond_false] at hK
      cases hK
  · cases hK
theorem zas_same {q N : Nat} {C : String} {T : u_T} (X : ox_C p s m args c cc nL own D g ad B) (hcl : mx_cl[q]? = some (C, T, N)) : ∀ comp c0 : ClassId, s.vm.findClass C = some comp → s.vm.findClass C = some c0 → s.vm.assignable c0 comp = true := by
  intro comp c0 h1 h2
  have h := (X.2.2.2.2.2.1.1.1 q _ hcl).2
  cases h1.symm.trans h2
  cases h.1.symm.trans h1
  exact va_assign h
end ZU
