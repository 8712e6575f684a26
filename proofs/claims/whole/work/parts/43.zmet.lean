/-! A constructor's contract is its run -/
def zk_run (L : Nat → Nat → List (zx_E zM)) (nL fuel mc ms : Nat) : zx_K zM := fun av es => match av with
  | .ref t :: r => cond (Nat.ble (r.length + 1) nL) (match zx_run (L es.length (zs es)) fuel (L es.length (zs es)) es ((Value.ref t :: r).map some ++ List.replicate (nL - (r.length + 1)) none) [] with
    | some (es', none) => cond (decide (es'.length = es.length + mc ∧ zs es' = zs es + ms)) (some (es', none)) none
    | _ => none) none
  | _ => none
theorem zk_run_i {L : Nat → Nat → List (zx_E zM)} {nL fuel mc ms : Nat} {av : List Value} {es : zM} {res : rx_R zM} (h : zk_run L nL fuel mc ms av es = some res) : (∃ (t : Nat) (r : List Value), av = .ref t :: r) ∧ av.length ≤ nL ∧ zx_run (L es.length (zs es)) fuel (L es.length (zs es)) es (av.map some ++ List.replicate (nL - av.length) none) [] = some res ∧ res.2 = none ∧ res.1.length = es.length + mc ∧ zs res.1 = zs es + ms := by
  unfold zk_run at h
  split at h
  · next t r =>
    cases hb : Nat.ble (r.length + 1) nL with
    | false => rw [hb] at h; cases h
    | true =>
      rw [hb] at h
      simp only [cond_true] at h
      split at h
      · next es' hr =>
        by_cases hc : (es'.length = es.length + mc ∧ zs es' = zs es + ms)
        · simp only [hc, and_self, decide_true, cond_true] at h
          cases h
          exact ⟨⟨t, r, rfl⟩, Nat.le_of_ble_eq_true hb, hr, rfl, hc⟩
        · simp only [hc, decide_false, cond_false] at h
          cases h
      · cases h
  · cases h
theorem lg_sl_len {ad : Nat → Nat} : ∀ av : List Value, (lg_sl (av.map (rx_tr ad))).length = av.length := by
  intro av
  induction av with
  | nil => rfl
  | cons v r ih =>
    have h1 : (lg_sl (rx_tr ad v :: r.map (rx_tr ad))).length = 1 + (lg_sl (r.map (rx_tr ad))).length := by
      simp [lg_sl, rx_tr_cat]
      omega
    show (lg_sl (rx_tr ad v :: r.map (rx_tr ad))).length = r.length + 1
    rw [h1, ih]
    omega
def zx_st (x : zx_E zM) : Nat × rx_I × Nat × Nat × Nat × Int32 × List (Int32 × Nat) := match x with
  | (pc, ins, len, kd, a, v, sw, _) => (pc, ins, len, kd, a, v, sw)
theorem zx_okF_st {cc : ByteArray} {nL : Nat} {ret : Option FieldType} {A A' : List (zx_E zM)} (hA : A.map zx_st = A'.map zx_st) : ∀ (r r' : List (zx_E zM)) (i : Nat), r.map zx_st = r'.map zx_st → rx_okF cc nL ret (A.map zx_c) i (r.map zx_c) = rx_okF cc nL ret (A'.map zx_c) i (r'.map zx_c) := by
  have hp : ∀ i, rx_pcAt (A.map zx_c) i = rx_pcAt (A'.map zx_c) i := by
    intro i
    have key : ∀ Y : List (zx_E zM), rx_pcAt (Y.map zx_c) i = ((Y.map zx_st)[i]?).map (fun x => x.1) := by
      intro Y
      unfold rx_pcAt
      rw [List.getElem?_map, List.getElem?_map, Option.map_map, Option.map_map]
      rfl
    rw [key, key, hA]
  intro r
  induction r with
  | nil =>
    intro r' i h
    cases r' with
    | nil => rfl
    | cons x r' => cases h
  | cons x r ih =>
    intro r' i h
    cases r' with
    | nil => cases h
    | cons x' r' =>
      rw [List.map_cons, List.map_cons, List.cons.injEq] at h
      rw [List.map_cons, List.map_cons, rx_okF, rx_okF, ih r' (i + 1) h.2]
      have hx : rx_okA cc nL ret (A.map zx_c) i (zx_c x) = rx_okA cc nL ret (A'.map zx_c) i (zx_c x') := by
        obtain ⟨pc, ins, len, kd, a, v, sw, K⟩ := x
        obtain ⟨pc', ins', len', kd', a', v', sw', K'⟩ := x'
        have h1 := h.1
        simp only [zx_st, Prod.mk.injEq] at h1
        obtain ⟨rfl, rfl, rfl, rfl, rfl, rfl, rfl⟩ := h1
        show (_ && rx_okK nL ret (A.map zx_c) i pc ins len a v sw kd) = (_ && rx_okK nL ret (A'.map zx_c) i pc ins len a v sw kd)
        rw [rx_okK_st hp]
      rw [hx]
section ZM
variable {l : Launch} {D : va_G} {g : Nat → ClassId} {ad : Nat → Nat} {B : Nat} {y : MethodName} {cc : ByteArray} {nL fr lo mc ms fuel : Nat}
theorem zx_met {L : Nat → Nat → List (zx_E zM)} (had : mx_A ad B) (hy : plainName y.cls = true) (hin : y.name = "<init>") (hst : ∀ n0 s0, (L n0 s0).map zx_st = (L 0 0).map zx_st) (hok : rx_okF cc nL none ((L 0 0).map zx_c) 0 ((L 0 0).map zx_c) = true) (h0 : ((L 0 0).map zx_st)[0]?.map (fun x => x.1) = some 0)
    (hops : ∀ (p : Program) (e : Env) (s : State) (m : MethodId) (args : Array Value) (below : List Frame) (meth : Method) (c : Code) (n0 s0 : Nat), ox_C p s m args c cc nL y.cls D g ad B → tz s → meth.name = "<init>" → rx_ops p l e { frames := fr, cells := mc, slots := ms, locals := lo } s m args below meth c cc nL ad (zW D g ad B s.heap) (zcs n0 s0) ((L n0 s0).map zx_c)) :
    zx_V l D g ad B y cc nL fr lo mc ms (zk_run L nL fuel mc ms) := by
  intro av es res hK
  obtain ⟨hav, hle, hrun, hr2, hrl, hrs⟩ := zk_run_i hK
  refine ⟨hav, hr2, hrl, hrs, ?_⟩
  refine Met.ofW (cc := cc) (maxL := nL) (ret := none) hy rfl ?_
  intro p e s m args below meth c s₁ Bd hml hv
  obtain ⟨rfl, htb, hz, hP, hsz, hlen⟩ := hv
  have hts := atoms_spec (ws := Cond.code y cc nL none :: al) Bd.pre
  have hown : s.vm.findClass y.cls = some m.cls := findClass_of_methodNamed Bd.named
  have hnm : meth.name = "<init>" := (name_of_methodNamed Bd.named Bd.method).1.trans hin
  have hl := lv_entry (av.map (rx_tr ad)) (n := nL) (by rw [lg_sl_len]; exact hle)
  rw [lg_entry_eq]
  generalize (lg_sl (av.map (rx_tr ad)) ++ List.replicate (nL - (lg_sl (av.map (rx_tr ad))).length) Slot.unset).toArray = ls at hl ⊢
  have X : ox_C p s m (av.map (rx_tr ad)).toArray c cc nL y.cls D g ad B := ⟨Bd.exec, Bd.bytes, hml, hown, fun w hw => hts w (List.mem_cons_of_mem _ hw), htb, had⟩
  have hs := zx_sound (L es.length (zs es)) fuel _ _ _ _ _ hrun
  have hok' : rx_okF cc nL none ((L es.length (zs es)).map zx_c) 0 ((L es.length (zs es)).map zx_c) = true := by
    rw [zx_okF_st (hst es.length (zs es)) _ _ 0 (hst es.length (zs es))]
    exact hok
  cases hL : L es.length (zs es) with
  | nil =>
    have := hst es.length (zs es)
    rw [hL] at this
    rw [← this] at h0
    cases h0
  | cons e0 r0 =>
    have hpc : (zx_c e0).1 = 0 := by
      have h1 := hst es.length (zs es)
      rw [hL] at h1
      rw [← h1] at h0
      exact Option.some.inj h0
    have := rx_sound (p := p) (l := l) (e := e) (R := { frames := fr, cells := mc, slots := ms, locals := lo }) (s := s) (m := m) (args := (av.map (rx_tr ad)).toArray) (below := below) (meth := meth) (c := c) (WM := zW D g ad B s.heap) (cs := zcs es.length (zs es)) (ad := ad) (nL := nL) (Qc := zx_Qc D g ad B res.1) (free := fun q => B ≤ q) (mc := mc) (ms := ms) (code := (L es.length (zs es)).map zx_c) (cut := []) (res := res) X.1 X.2.1 Bd.returns Bd.notSynchronized hok' (hops p e s m _ below meth c _ _ X hz hnm)
      (fun mem r h H locs hW => by
        subst h
        refine ⟨fun t ht _ => ⟨?_, by rw [ht]; exact hW.1, by rw [ht]; exact hW.2.2.1, hW.2.2.2, hW.2.1.F ht⟩, hW.2.1.2.2, ?_, ?_⟩
        · have h2 : r = none := hr2
          rw [h2]
          rfl
        · have h2 : mem.length = es.length + mc := hrl
          show mem.length - es.length ≤ mc
          omega
        · have h2 : zs mem = zs es + ms := hrs
          show zs mem - zs es ≤ ms
          omega) (fun pc g hg => by cases hg) fuel 0 (zx_c e0) es (av.map some ++ List.replicate (nL - av.length) none) [] (by rw [hL]; rfl) hs.1 hs.2
    rw [hpc] at this
    have h5 := this s.heap [] ls ⟨hP, va_S.rf, hsz, hlen⟩ (by rw [rx_lv_args]; exact hl)
    have h6 : zcs es.length (zs es) es = (0, 0) := by
      unfold zcs
      rw [Nat.sub_self, Nat.sub_self]
    rw [h6] at h5
    exact h5
end ZM
