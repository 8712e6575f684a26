section LP
variable {p : Program} {l : Launch} {e : Env} {R : Room} {s : State} {m : MethodId} {args : Array Value} {below : List Frame} {meth : Method} {c : Code} {cc : ByteArray} {nL : Nat} {ad : Nat → Nat} {D : va_G} {g : Nat → ClassId} {B : Nat} {ret : Option FieldType} {res : rx_R mx} {own : String} {code : List (rx_E mx)}
abbrev rx_G : Type := mx → rx_L → List Value → Prop × rx_R mx
/-- the walk from a place of the code, given what is known at the cuts -/
theorem rx_walk {cut : rx_C mx} (X : ox_C p s m args c cc nL own D g ad B) (hr : meth.sig.returnType = ret) (hlk : meth.locks = false) (hok : rx_okF cc nL ret code 0 code = true) (hops : rx_ops p l e R s m args below meth c cc nL ad (mx_W D g ad B s.heap) mx_cs code)
    (hcut : ∀ (pc : Nat) (f : rx_G), rx_cut cut pc = some f → ∀ (mem : mx) (ls : rx_L) (st : List Value), (f mem ls st).1 → (f mem ls st).2 = res → rx_X p l e R s m args below meth c (MQ below (rx_Qc D g ad B res) args s 0 0 (fun q => B ≤ q)) nL ad (mx_W D g ad B s.heap) mx_cs pc mem ls st)
    (fuel i : Nat) {e0 : rx_E mx} (h0 : code[i]? = some e0) {mem : mx} {ls : rx_L} {st : List Value} (hsf : rx_sf code cut fuel (code.drop i) mem ls st) (hev : rx_ev code cut fuel (code.drop i) mem ls st = res) :
    rx_X p l e R s m args below meth c (MQ below (rx_Qc D g ad B res) args s 0 0 (fun q => B ≤ q)) nL ad (mx_W D g ad B s.heap) mx_cs e0.1 mem ls st :=
  rx_sound (WM := mx_W D g ad B s.heap) (cs := mx_cs) (Qc := rx_Qc D g ad B res) (free := fun q => B ≤ q) (mc := 0) (ms := 0) X.1 X.2.1 hr hlk hok hops (fun mem r h H locs hW => rx_hret mem r h H locs hW) hcut fuel i e0 mem ls st h0 hsf hev
/-- a loop: G n says what is known at its head with n rounds of fuel; cs0 are the cuts behind it -/
theorem rx_loop {cs0 : rx_C mx} {G : Nat → rx_G} (X : ox_C p s m args c cc nL own D g ad B) (hr : meth.sig.returnType = ret) (hlk : meth.locks = false) (hok : rx_okF cc nL ret code 0 code = true) (hops : rx_ops p l e R s m args below meth c cc nL ad (mx_W D g ad B s.heap) mx_cs code)
    (hcut : ∀ (pc : Nat) (f : rx_G), rx_cut cs0 pc = some f → ∀ (mem : mx) (ls : rx_L) (st : List Value), (f mem ls st).1 → (f mem ls st).2 = res → rx_X p l e R s m args below meth c (MQ below (rx_Qc D g ad B res) args s 0 0 (fun q => B ≤ q)) nL ad (mx_W D g ad B s.heap) mx_cs pc mem ls st)
    (fuel i : Nat) {e0 : rx_E mx} (h0 : code[i]? = some e0) (hG0 : ∀ mem ls st, ¬ (G 0 mem ls st).1)
    (hstep : ∀ (n : Nat) (mem : mx) (ls : rx_L) (st : List Value), (G (n + 1) mem ls st).1 → rx_sf code ((e0.1, G n) :: cs0) fuel (code.drop i) mem ls st ∧ rx_ev code ((e0.1, G n) :: cs0) fuel (code.drop i) mem ls st = (G (n + 1) mem ls st).2) :
    ∀ (n : Nat) (mem : mx) (ls : rx_L) (st : List Value), (G n mem ls st).1 → (G n mem ls st).2 = res → rx_X p l e R s m args below meth c (MQ below (rx_Qc D g ad B res) args s 0 0 (fun q => B ≤ q)) nL ad (mx_W D g ad B s.heap) mx_cs e0.1 mem ls st := by
  intro n
  induction n with
  | zero => intro mem ls st h; exact absurd h (hG0 mem ls st)
  | succ n ih =>
    intro mem ls st h hres
    obtain ⟨hsf, hev⟩ := hstep n mem ls st h
    refine rx_walk X hr hlk hok hops (fun pc f hf => ?_) fuel i h0 hsf (hev.trans hres)
    rw [rx_cut] at hf
    cases hb : Nat.beq e0.1 pc with
    | false => rw [hb, cond_false] at hf; exact hcut pc f hf
    | true =>
      rw [hb, cond_true] at hf
      cases hf
      rw [← Nat.eq_of_beq_eq_true hb]
      exact ih
end LP
