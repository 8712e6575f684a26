/-! the law's method cell(script, k), at k = 0 -/
def kzl (L : Nat) : rx_K zM := fun av es => match av with
  | [.ref t] => (t = 1000, es, some (.int (Int32.ofNat L)))
  | _ => (False, es, none)
def kzr (xs : Nat → Int32) (L : Nat) : rx_K zM := fun av es => match av with
  | [.ref t, .int j] => (t = 1000 ∧ vp_in j L, es, some (.int (xs j.toNatClampNeg)))
  | _ => (False, es, none)
def kzo : rx_K zM := fun _ es => (False, es, none)
def L_cell (xs : Nat → Int32) (L : Nat) : List (rx_E zM) := [
  (0, .iload_n 1, 1, 0, 1, 0, [], kzo),
  (1, .aload_n 0, 1, 0, 0, 0, [], kzo),
  (2, .arraylength, 1, 7, 1, 0, [], kzl L),
  (3, .if_icmp .ge 9, 3, 2, 8, 0, [], kzo),
  (6, .aload_n 0, 1, 0, 0, 0, [], kzo),
  (7, .iload_n 1, 1, 0, 1, 0, [], kzo),
  (8, .iaload, 1, 7, 2, 0, [], kzr xs L),
  (9, .goto 4, 3, 1, 9, 0, [], kzo),
  (12, .iconst 0, 1, 0, 0, 0, [], kzo),
  (13, .ireturn, 1, 5, 0, 0, [], kzo)]
theorem ok_cell0 : rx_okF method_2_code 2 (some .int) (L_cell (fun _ => 0) 0) 0 (L_cell (fun _ => 0) 0) = true := by decide +kernel
def rx_sta {M : Type} (x : rx_E M) : Nat × rx_I × Nat × Nat × Nat × Int32 × List (Int32 × Nat) := match x with
  | (pc, ins, len, kd, a, v, sw, _) => (pc, ins, len, kd, a, v, sw)
theorem rx_okF_sta {M N : Type} {cc : ByteArray} {nL : Nat} {ret : Option FieldType} {A : List (rx_E M)} {A' : List (rx_E N)} (hA : A.map rx_sta = A'.map rx_sta) : ∀ (r : List (rx_E M)) (r' : List (rx_E N)) (i : Nat), r.map rx_sta = r'.map rx_sta → rx_okF cc nL ret A i r = rx_okF cc nL ret A' i r' := by
  have hp : ∀ i, rx_pcAt A i = rx_pcAt A' i := by
    intro i
    have key : ∀ {M : Type} (Y : List (rx_E M)), rx_pcAt Y i = ((Y.map rx_sta)[i]?).map (fun x => x.1) := by
      intro M Y
      unfold rx_pcAt
      rw [List.getElem?_map, Option.map_map]
      rfl
    rw [key, key, hA]
  intro r
  induction r with
  | nil =>
    intro r' i h
    cases r' with
    | nil => rfl
    | cons x r' => cases h
  | cons x r ih =>
    intro r' i h
    cases r' with
    | nil => cases h
    | cons x' r' =>
      rw [List.map_cons, List.map_cons, List.cons.injEq] at h
      rw [rx_okF, rx_okF, ih r' (i + 1) h.2]
      have hx : rx_okA cc nL ret A i x = rx_okA cc nL ret A' i x' := by
        obtain ⟨pc, ins, len, kd, a, v, sw, K⟩ := x
        obtain ⟨pc', ins', len', kd', a', v', sw', K'⟩ := x'
        have h1 := h.1
        simp only [rx_sta, Prod.mk.injEq] at h1
        obtain ⟨rfl, rfl, rfl, rfl, rfl, rfl, rfl⟩ := h1
        show (_ && rx_okK nL ret A i pc ins len a v sw kd) = (_ && rx_okK nL ret A' i pc ins len a v sw kd)
        rw [rx_okK_st hp]
      rw [hx]
theorem ok_cell (xs : Nat → Int32) (L : Nat) : rx_okF method_2_code 2 (some .int) (L_cell xs L) 0 (L_cell xs L) = true := by
  have h : (L_cell xs L).map rx_sta = (L_cell (fun _ => 0) 0).map rx_sta := by simp only [L_cell, List.map_cons, List.map_nil, rx_sta]
  rw [rx_okF_sta h _ _ 0 h]
  exact ok_cell0
def cel (xs : Nat → Int32) (L : Nat) : Int32 := if (0 : Int32) < Int32.ofNat L then xs 0 else 0
theorem L_pos {L : Nat} (hL : L ≤ 2049) (h : (0 : Int32) < Int32.ofNat L) : 0 < L := by
  cases L with
  | zero => exact absurd h (by decide)
  | succ n => omega
theorem E_cell (xs : Nat → Int32) (L : Nat) (es : zM) : rx_ev (L_cell xs L) [] 20 (L_cell xs L) es [some (.ref 1000), some (.int 0)] [] = (es, some (.int (cel xs L))) := by
  unfold cel
  by_cases h : (0 : Int32) < Int32.ofNat L
  · simp [L_cell, rx_ev, rx_go, rx_cF, rx_cut, rx_st, rx_at, rx_cmp, kzl, kzr, h]
  · simp [L_cell, rx_ev, rx_go, rx_cF, rx_cut, rx_st, rx_at, rx_cmp, kzl, kzr, h]
theorem S_cell (xs : Nat → Int32) (L : Nat) (hL : L ≤ 2049) (es : zM) : rx_sf (L_cell xs L) [] 20 (L_cell xs L) es [some (.ref 1000), some (.int 0)] [] := by
  have hv : (0 : Int32) < Int32.ofNat L → vp_in 0 L := fun h => by
    have := L_pos hL h
    unfold vp_in
    intro z
    rcases z with z | z
    · exact absurd z (by decide)
    · have : (0 : Int32).toNatClampNeg = 0 := rfl
      omega
  by_cases h : (0 : Int32) < Int32.ofNat L
  · have := hv h
    simp [L_cell, rx_sf, rx_go, rx_cP, rx_cut, rx_st, rx_at, rx_cmp, kzl, kzr, h, this]
  · simp [L_cell, rx_sf, rx_go, rx_cP, rx_cut, rx_st, rx_at, rx_cmp, kzl, kzr, h]
def zc_Pc (D : va_G) (g : Nat → ClassId) (ad : Nat → Nat) (B b L : Nat) (xs : Nat → Int32) (es : zM) : Array Value → State → Prop := fun a U => a = #[Value.ref b, Value.int 0] ∧ va_X b L xs U U.heap ∧ b < B ∧ va_P D mx_cl (zw g ad 0 es) U.heap ∧ U.heap.size = B + es.length ∧ es.length < 1000
def zc_Qc (D : va_G) (g : Nat → ClassId) (ad : Nat → Nat) (B : Nat) (r : rx_R zM) : Array Value → State → Outcome → State → Prop := fun _ st oc t => oc = .returned (r.2.map (rx_tr ad)) ∧ va_P D mx_cl (zw g ad 0 r.1) t.heap ∧ t.heap.size = B + r.1.length ∧ r.1.length < 1000 ∧ va_F (fun q => B ≤ q) st t
section CL
variable {p : Program} {l : Launch} {e : Env} {R : Room} {s : State} {m : MethodId} {args : Array Value} {below : List Frame} {meth : Method} {c : Code} {cc : ByteArray} {nL : Nat} {ad : Nat → Nat} {D : va_G} {g : Nat → ClassId} {B n0 s0 : Nat} {own : String}
theorem zo_scl {b L : Nat} {xs : Nat → Int32} {cs : zM → Nat × Nat} (hx : p.tables.exec = Jvm.exec) (hb : c.code = cc) (hX : va_X b L xs s s.heap) (hb0 : b < s.heap.size) (hbB : b < B) (hab : ad 1000 = b) (hcs : ∀ x, cs x = (0, 0)) : rx_OK p l e R s m args below meth c cc nL ad (zW D g ad B s.heap) cs .arraylength 1 1 (kzl L) := by
  intro pc mem H locs lA av rest Q ha hp hW hsz hrest hdec kk
  match av, ha, hp with
  | [.ref t], _, hp =>
    have ht : t = 1000 := hp
    subst ht
    have h1 := kk H locs hW
    show W p l e R s m args below meth c H locs (cs mem).1 (cs mem).2 Q (F0 m pc lA (.ref (ad 1000) :: rest.map (rx_tr ad)))
    rw [hab]
    exact va_slen hx hb hX hb0 (show ¬ B ≤ b by omega) hW.2.1 hdec h1
theorem zo_scr {b L : Nat} {xs : Nat → Int32} {cs : zM → Nat × Nat} (hx : p.tables.exec = Jvm.exec) (hb : c.code = cc) (hX : va_X b L xs s s.heap) (hb0 : b < s.heap.size) (hbB : b < B) (hab : ad 1000 = b) (hcs : ∀ x, cs x = (0, 0)) : rx_OK p l e R s m args below meth c cc nL ad (zW D g ad B s.heap) cs .iaload 1 2 (kzr xs L) := by
  intro pc mem H locs lA av rest Q ha hp hW hsz hrest hdec kk
  match av, ha, hp with
  | [.ref t, .int j], _, hp =>
    obtain ⟨ht, hin⟩ : t = 1000 ∧ vp_in j L := hp
    subst ht
    have h1 := kk H locs hW
    show W p l e R s m args below meth c H locs (cs mem).1 (cs mem).2 Q (F0 m pc lA (.int j :: .ref (ad 1000) :: rest.map (rx_tr ad)))
    rw [hab]
    exact va_sld hx hb hX hb0 (show ¬ B ≤ b by omega) hW.2.1 hin hdec h1
end CL
theorem V_cell {l : Launch} {D : va_G} {g : Nat → ClassId} {ad : Nat → Nat} {B b L : Nat} {xs : Nat → Int32} (hL : L ≤ 2049) (hab : ad 1000 = b) (es : zM) : Met l ⟨"SubscriberLinesLaw", "cell", "([II)I"⟩ (Cond.code ⟨"SubscriberLinesLaw", "cell", "([II)I"⟩ method_2_code 2 (some .int) :: al) ({ frames := 1, cells := 0, slots := 0, locals := 20 } : Room) (zc_Pc D g ad B b L xs es) (zc_Qc D g ad B (es, some (.int (cel xs L)))) 0 0 (fun q => B ≤ q) := by
  refine Met.ofW (cc := method_2_code) (maxL := 2) (ret := some .int) (by decide) rfl ?_
  intro p e s m args below meth c s₁ Bd hml hv
  obtain ⟨rfl, hX, hbB, hP, hsz, hlen⟩ := hv
  have hl := lv_entry (([.ref 1000, .int 0] : List Value).map (rx_tr ad)) (n := 2) (by rw [lg_sl_len]; decide)
  have hargs : (#[Value.ref b, Value.int 0] : Array Value) = (([.ref 1000, .int 0] : List Value).map (rx_tr ad)).toArray := by
    simp [rx_tr, hab]
  rw [hargs, lg_entry_eq]
  generalize (lg_sl (([.ref 1000, .int 0] : List Value).map (rx_tr ad)) ++ List.replicate (2 - (lg_sl (([.ref 1000, .int 0] : List Value).map (rx_tr ad))).length) Slot.unset).toArray = ls at hl ⊢
  have hb0 : b < s.heap.size := by omega
  have := rx_sound (p := p) (l := l) (e := e) (R := { frames := 1, cells := 0, slots := 0, locals := 20 }) (s := s) (m := m) (args := (([.ref 1000, .int 0] : List Value).map (rx_tr ad)).toArray) (below := below) (meth := meth) (c := c) (WM := zW D g ad B s.heap) (cs := fun _ => (0, 0)) (ad := ad) (nL := 2) (Qc := zc_Qc D g ad B (es, some (.int (cel xs L)))) (free := fun q => B ≤ q) (mc := 0) (ms := 0) (code := L_cell xs L) (cut := []) (res := (es, some (.int (cel xs L)))) Bd.exec Bd.bytes Bd.returns Bd.notSynchronized (ok_cell xs L)
    (And.intro (zo_scl Bd.exec Bd.bytes hX hb0 hbB hab (fun _ => rfl)) (And.intro (zo_scr Bd.exec Bd.bytes hX hb0 hbB hab (fun _ => rfl)) trivial))
    (fun mem r h H locs hW => by
      cases h
      exact ⟨fun t ht _ => ⟨rfl, by rw [ht]; exact hW.1, by rw [ht]; exact hW.2.2.1, hW.2.2.2, hW.2.1.F ht⟩, hW.2.1.2.2, Nat.le_refl _, Nat.le_refl _⟩) (fun pc g hg => by cases hg) 20 0 _ es [some (.ref 1000), some (.int 0)] [] rfl (S_cell xs L hL es) (E_cell xs L es)
  exact this s.heap [] ls ⟨hP, va_S.rf, hsz, hlen⟩ (by
    have := rx_lv_args (ad := ad) [.ref 1000, .int 0] 0 0
    exact this ▸ hl)
