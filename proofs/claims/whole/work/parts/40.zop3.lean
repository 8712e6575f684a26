section ZQ
variable {p : Program} {l : Launch} {e : Env} {R : Room} {s : State} {m : MethodId} {args : Array Value} {below : List Frame} {meth : Method} {c : Code} {cc : ByteArray} {nL : Nat} {ad : Nat → Nat} {D : va_G} {g : Nat → ClassId} {B n0 s0 : Nat} {own : String}
theorem zo_put {q N k idx : Nat} {C ref : String} {T : u_T} {ty : FieldType} (X : ox_C p s m args c cc nL own D g ad B) (hA : zA ad B) (hcl : mx_cl[q]? = some (C, T, N)) (hk : k < N) (hin : ∀ w ∈ u_ws C T N, w ∈ al) (ty0 : Nat → FieldType) (hty : ∀ k, k < N → parseFieldDescriptor (T k).2.2.1 = some (ty0 k)) (hnm : ∀ a, a < N → ∀ b, b < N → a ≠ b → (T a).2.1 ≠ (T b).2.1) (hl : Cond.fieldLink own idx ref (T k).2.1 (T k).2.2.1 ∈ al) (hsame : (T k).1 = ref) (hfin : (T k).2.2.2 = true) (hin2 : meth.name = "<init>") (hdecl : (T k).1 = own) (hd : ty0 k = ty) :
    rx_OK p l e R s m args below meth c cc nL ad (zW D g ad B s.heap) (zcs n0 s0) (.putfield idx) 3 2 (zx_k (kzput q k ty)) := by
  refine zx_OKi fun pc mem H locs lA av rest Q res ha hK hW hsz hrest hdec kk => ?_
  obtain ⟨t, fs, v, rfl, he, hkl, hfit, rfl⟩ := kzput_i hK
  obtain ⟨hx, hb, hml, hown, hts, htb, had⟩ := X
  have hP := hW.1
  have hD := zD (g := g) hA hW.2.2.2
  have hap := va_apart (own := own) hts hin ty0 hty hnm htb.1 hcl
  have hz := zw_in (g := g) (ad := ad) he
  obtain ⟨r, h1, cell, q1, q2, q3, q4⟩ := hP t _ hz
  cases Option.some.inj (h1.symm.trans hcl)
  obtain ⟨hS, hfc, kC, hkC, hkind⟩ := htb.1.1 q _ hcl
  obtain ⟨cf, kf, fi, f, hi, hsl⟩ := hS k hk
  have hlay := hts _ (hin _ (u_in_lay hk))
  unfold u_lay at hlay
  rw [if_pos hfin] at hlay
  have hst := (u_facts hfc hkC (u_lays hts hin hk) hi).1
  have hcf : m.cls = cf := by
    obtain ⟨_, _, c', _, _, _, -, -, hf', -, -, -, hown2, -⟩ := Cond.laysFinal_spec hlay
    have e1 : c' = cf := by have := hi.symm.trans hf'; simp at this; exact this.1.symm
    rw [hdecl] at hown2
    rw [← e1]
    exact Option.some.inj (hown.symm.trans hown2)
  have h6 := u_fits hfc hkC hkind (Or.inr hlay) hi (by rw [hty k hk, hd]) (zfit_n (ad := ad) hfit).1 (zfit_n (ad := ad) hfit).2
  have hs2 : s.fieldFound? ref (T k).2.1 (T k).2.2.1 = some (cf, kf, fi, f) := by rw [← hsame]; exact hi
  have hlen : k < (fs.map (rx_tr ad)).length := by rw [List.length_map]; exact hkl
  refine W.putFinK hx hb hown (hts _ hl) hs2 hst hcf hin2 (by rw [q2]; exact h6) q1 q3 (by rw [hsl]; exact k2_hasslot (q4 k hk)) rfl rfl hdec fun H' e1 e2 e3 => ?_
  rw [hsl] at e1
  have h9 : zc g ad (.inr (q, fs.set k v)) = .inr (q, (fs.map (rx_tr ad)).set k (rx_tr ad v)) := by
    show (Sum.inr (q, (fs.set k v).map (rx_tr ad)) : va_E) = _
    rw [List.map_set]
  have h7 : va_P D mx_cl ((zw g ad 0 mem).set t (ad t, zc g ad (.inr (q, fs.set k v)))) H' := by
    rw [h9]
    exact hP.set hD hz ⟨_, hcl, t_OB.to (V := updV (vp_V (fs.map (rx_tr ad))) k (rx_tr ad v)) ⟨_, e1, q2, q3, t_set q4 hap hk (rx_tr ad v)⟩ (fun j _ => vp_updV_set hlen (rx_tr ad v) j)⟩ e3
  have h8 := kk H' (locs ++ [{ base := ad t, slot := f.slot }]) (zW_set hW h7 e2 (hW.2.1.put (k := f.slot) e2 e3 (hD.2 t _ hz)))
  have hc : zcs n0 s0 (mem.set t (.inr (q, fs.set k v))) = zcs n0 s0 mem := by
    unfold zcs
    rw [List.length_set, zs_set (fs := fs) (by rw [List.length_set]) mem t he]
  rw [hc] at h8
  exact h8
def kzald (t0 : Nat) : zx_K zM := fun av es => match av with
  | [.ref t, .int i] => match es[t]? with
    | some (.inl (t', n, some r)) => match r[i.toNatClampNeg]? with
      | some (some v) => cond (Nat.beq t' t0 && decide (¬ i < 0) && Nat.blt i.toNatClampNeg n) (some (es, some (.ref v))) none
      | _ => none
    | _ => none
  | _ => none
theorem kzald_i {t0 : Nat} {av : List Value} {es : zM} {r : rx_R zM} (h : kzald t0 av es = some r) : ∃ (t : Nat) (i : Int32) (n : Nat) (w : List (Option Nat)) (v : Nat), av = [.ref t, .int i] ∧ es[t]? = some (.inl (t0, n, some w)) ∧ w[i.toNatClampNeg]? = some (some v) ∧ ¬ i < 0 ∧ i.toNatClampNeg < n ∧ r = (es, some (.ref v)) := by
  unfold kzald at h
  split at h
  · next t i =>
    split at h
    · next t' n w he =>
      split at h
      · next v hv =>
        cases hb : (Nat.beq t' t0 && decide (¬ i < 0) && Nat.blt i.toNatClampNeg n) with
        | false => rw [hb] at h; cases h
        | true =>
          rw [hb] at h
          rw [Bool.and_eq_true, Bool.and_eq_true] at hb
          have := Nat.eq_of_beq_eq_true hb.1.1
          subst this
          cases h
          exact ⟨t, i, n, w, v, rfl, he, hv, of_decide_eq_true hb.1.2, Nat.le_of_ble_eq_true hb.2, rfl⟩
      · cases h
    · cases h
  · cases h
theorem zo_ald {t0 : Nat} {C : String} (X : ox_C p s m args c cc nL own D g ad B) (ht : (mx_ty g)[t0]? = some (g t0, .object C)) :
    rx_OK p l e R s m args below meth c cc nL ad (zW D g ad B s.heap) (zcs n0 s0) .aaload 1 2 (zx_k (kzald t0)) := by
  refine zx_OKi fun pc mem H locs lA av rest Q res ha hK hW hsz hrest hdec kk => ?_
  obtain ⟨t, i, n, w, v, rfl, he, hv, h0, hlt, rfl⟩ := kzald_i hK
  obtain ⟨hx, hb, hml, hown, hts, htb, had⟩ := X
  refine va_aldq hx hb htb.1 hW.1 t t0 (zw_in he) ht (i := i) (fun q => by rcases q with q | q; exact h0 q; omega) hdec ?_
  have h1 : ((w[i.toNatClampNeg]?).join).map ad = some (ad v) := by rw [hv]; rfl
  rw [h1]
  exact kk H locs hW
def kzlen (t0 : Nat) : zx_K zM := fun av es => match av with
  | [.ref t] => match es[t]? with
    | some (.inl (t', n, _)) => cond (Nat.beq t' t0) (some (es, some (.int (Int32.ofNat n)))) none
    | _ => none
  | _ => none
end ZQ
