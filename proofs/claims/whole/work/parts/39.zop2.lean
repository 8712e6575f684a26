section ZP
variable {p : Program} {l : Launch} {e : Env} {R : Room} {s : State} {m : MethodId} {args : Array Value} {below : List Frame} {meth : Method} {c : Code} {cc : ByteArray} {nL : Nat} {ad : Nat → Nat} {D : va_G} {g : Nat → ClassId} {B n0 s0 : Nat} {own : String}
theorem zx_OKi {M : Type} {WM : M → Heap → List Loc → Prop} {cs : M → Nat × Nat} {i : rx_I} {len a : Nat} {K : zx_K M} (h : ∀ (pc : Nat) (mem : M) (H : Heap) (locs : List Loc) (lA : Array Slot) (av rest : List Value) (Q : State → Prop) (res : rx_R M), av.length = a → K av mem = some res → WM mem H locs → lA.size = nL → rest.length ≤ 8 → decode cc pc = .ok (i, len) →
    (∀ (H' : Heap) (locs' : List Loc), WM res.1 H' locs' → W p l e R s m args below meth c H' locs' (cs res.1).1 (cs res.1).2 Q (F0 m (pc + len) lA ((res.2.toList ++ rest).map (rx_tr ad)))) →
    W p l e R s m args below meth c H locs (cs mem).1 (cs mem).2 Q (F0 m pc lA ((av.reverse ++ rest).map (rx_tr ad)))) : rx_OK p l e R s m args below meth c cc nL ad WM cs i len a (zx_k K) := by
  intro pc mem H locs lA av rest Q ha hp hW hsz hrest hdec kk
  cases hk : K av mem with
  | none => exfalso; simp only [zx_k, hk] at hp
  | some r =>
    have h1 : zx_k K av mem = (True, r) := by simp only [zx_k, hk]
    rw [h1] at kk
    exact h pc mem H locs lA av rest Q r ha hk hW hsz hrest hdec kk
theorem zw_in {es : zM} {t : Nat} {x : zE} (h : es[t]? = some x) : (zw g ad 0 es)[t]? = some (ad t, zc g ad x) := by
  rw [zw_at, h, Nat.zero_add]
  rfl
/-- the world with one cell changed -/
theorem zW_set {H0 H H1 : Heap} {locs locs1 : List Loc} {es : zM} {x : zE} {t : Nat} (hW : zW D g ad B H0 es H locs) (hP : va_P D mx_cl ((zw g ad 0 es).set t (ad t, zc g ad x)) H1) (hz : H1.size = H.size) (hS : va_S (fun q => B ≤ q) H0 H1 locs1) : zW D g ad B H0 (es.set t x) H1 locs1 := by
  refine ⟨by rw [zw_set, Nat.zero_add]; exact hP, hS, by rw [hz, hW.2.2.1, List.length_set], by rw [List.length_set]; exact hW.2.2.2⟩
def kzget (q k : Nat) : zx_K zM := fun av es => match av with
  | [.ref t] => match es[t]? with
    | some (.inr (q', fs)) => match fs[k]? with
      | some v => cond (Nat.beq q' q) (some (es, some v)) none
      | none => none
    | _ => none
  | _ => none
theorem kzget_i {q k : Nat} {av : List Value} {es : zM} {r : rx_R zM} (h : kzget q k av es = some r) : ∃ (t : Nat) (fs : List Value) (v : Value), av = [.ref t] ∧ es[t]? = some (.inr (q, fs)) ∧ fs[k]? = some v ∧ r = (es, some v) := by
  unfold kzget at h
  split at h
  · next t =>
    split at h
    · next q' fs he =>
      split at h
      · next v hv =>
        cases hb : Nat.beq q' q with
        | false => rw [hb] at h; cases h
        | true =>
          rw [hb] at h
          have := Nat.eq_of_beq_eq_true hb
          subst this
          cases h
          exact ⟨t, fs, v, rfl, he, hv, rfl⟩
      · cases h
    · cases h
  · cases h
theorem zo_get {q N k idx : Nat} {C ref : String} {T : u_T} (X : ox_C p s m args c cc nL own D g ad B) (hcl : mx_cl[q]? = some (C, T, N)) (hk : k < N) (hin : ∀ w ∈ u_ws C T N, w ∈ al) (hl : Cond.fieldLink own idx ref (T k).2.1 (T k).2.2.1 ∈ al) (hsame : (T k).1 = ref) :
    rx_OK p l e R s m args below meth c cc nL ad (zW D g ad B s.heap) (zcs n0 s0) (.getfield idx) 3 1 (zx_k (kzget q k)) := by
  refine zx_OKi fun pc mem H locs lA av rest Q res ha hK hW hsz hrest hdec kk => ?_
  obtain ⟨t, fs, v, rfl, he, hv, rfl⟩ := kzget_i hK
  obtain ⟨hx, hb, hml, hown, hts, htb, had⟩ := X
  exact va_get hx hb hts hin hown htb.1 hW.1 t (zw_in he) hcl k hk (hts _ hl) (fun z h => by rw [← hsame]; exact h) (v := rx_tr ad v) (by show (fs.map (rx_tr ad))[k]? = _; rw [List.getElem?_map, hv]; rfl) hdec (kk H locs hW)
def zfit (ty : FieldType) (v : Value) : Bool := match v with
  | .int x => decide (ty = .int)
  | .ref _ => match ty with
    | .object _ => true
    | .array _ => true
    | _ => false
  | _ => false
def kzput (q k : Nat) (ty : FieldType) : zx_K zM := fun av es => match av with
  | [.ref t, v] => match es[t]? with
    | some (.inr (q', fs)) => cond (Nat.beq q' q && Nat.blt k fs.length && zfit ty v) (some (es.set t (.inr (q', fs.set k v)), none)) none
    | _ => none
  | _ => none
theorem kzput_i {q k : Nat} {ty : FieldType} {av : List Value} {es : zM} {r : rx_R zM} (h : kzput q k ty av es = some r) : ∃ (t : Nat) (fs : List Value) (v : Value), av = [.ref t, v] ∧ es[t]? = some (.inr (q, fs)) ∧ k < fs.length ∧ zfit ty v = true ∧ r = (es.set t (.inr (q, fs.set k v)), none) := by
  unfold kzput at h
  split at h
  · next t v =>
    split at h
    · next q' fs he =>
      cases hb : (Nat.beq q' q && Nat.blt k fs.length && zfit ty v) with
      | false => rw [hb] at h; cases h
      | true =>
        rw [hb] at h
        rw [Bool.and_eq_true, Bool.and_eq_true] at hb
        have := Nat.eq_of_beq_eq_true hb.1.1
        subst this
        cases h
        exact ⟨t, fs, v, rfl, he, Nat.le_of_ble_eq_true hb.1.2, hb.2, rfl⟩
    · cases h
  · cases h
theorem zfit_n {ty : FieldType} {v : Value} (h : zfit ty v = true) : narrow ty (rx_tr ad v) = rx_tr ad v ∧ fits ty (rx_tr ad v) = true := by
  cases v with
  | int x =>
    have h1 : ty = .int := by simpa [zfit] using h
    subst h1
    exact ⟨rfl, rfl⟩
  | ref i => cases ty <;> first | exact ⟨rfl, rfl⟩ | cases h
  | _ => cases h
theorem zs_set {q : Nat} {fs fs' : List Value} (hl : fs.length = fs'.length) : ∀ (es : zM) (t : Nat), es[t]? = some (.inr (q, fs)) → zs (es.set t (.inr (q, fs'))) = zs es := by
  intro es
  induction es with
  | nil => intro t h; rfl
  | cons x r ih =>
    intro t h
    cases t with
    | zero =>
      have h1 : x = .inr (q, fs) := by simpa using h
      subst h1
      show fs'.length + zs r = fs.length + zs r
      rw [hl]
    | succ t =>
      have h1 := ih t (by simpa using h)
      match x with
      | .inl (_, n, _) => show n + zs (r.set t _) = n + zs r; rw [h1]
      | .inr (_, f) => show f.length + zs (r.set t _) = f.length + zs r; rw [h1]
end ZP
