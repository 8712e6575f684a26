def kzcell (xs : Nat → Int32) (L : Nat) (R : Room) (n0 s0 : Nat) : zx_K zM := fun av es => match av with
  | [.ref t, .int k] => cond (decide (t = 1000 ∧ k = 0 ∧ es.length - n0 ≤ R.cells ∧ zs es - s0 ≤ R.slots)) (some (es, some (.int (cel xs L)))) none
  | _ => none
section CM
variable {p : Program} {l : Launch} {e : Env} {R : Room} {s : State} {m : MethodId} {args : Array Value} {below : List Frame} {meth : Method} {c : Code} {cc : ByteArray} {nL : Nat} {ad : Nat → Nat} {D : va_G} {g : Nat → ClassId} {B n0 s0 : Nat}
theorem zo_runR {mem : zM} {r : rx_R zM} {H : Heap} {locs : List Loc} {lA : Array Slot} {pc cells slots : Nat} {st0 rest : List Value} {a : Array Value} {Q : State → Prop}
    (hr : va_Run p l e R s m args below meth c H locs cells slots 0 0 (F0 m pc lA st0) (rest.map (rx_tr ad)) (zc_Qc D g ad B r a) (fun q => B ≤ q)) (hW : zW D g ad B s.heap mem H locs)
    (kk : ∀ (H' : Heap) (locs' : List Loc), zW D g ad B s.heap r.1 H' locs' → W p l e R s m args below meth c H' locs' cells slots Q (F0 m (pc + 3) lA ((r.2.toList ++ rest).map (rx_tr ad)))) : W p l e R s m args below meth c H locs cells slots Q (F0 m pc lA st0) := by
  intro T hT X
  obtain ⟨v, st₀, t, T', L, h0, X', hL, e1, e2, ⟨hv, hP, hsz, hlen, hz, hk⟩, st⟩ := hr T hT X
  have hv : v = r.2.map (rx_tr ad) := Outcome.returned.inj hv
  subst hv
  rw [h0] at hz hk
  obtain ⟨hP0, hS, -, -⟩ := hW
  obtain ⟨t2, a1, b1⟩ := kk T'.heap (locs ++ L) ⟨by rw [e1]; exact hP, ⟨Nat.le_trans hS.1 (by rw [e1]; exact hz), fun q h1 h2 => by rw [e1, hk q (Nat.lt_of_lt_of_le h1 hS.1) h2]; exact hS.2.1 q h1 h2, fun q hq => by
      rcases List.mem_append.mp hq with h | h
      · exact hS.2.2 q h
      · exact hL q h⟩, by rw [e1]; exact hsz, hlen⟩ T' rfl X'
  refine ⟨t2, st t2 ?_, b1⟩
  have hs : (r.2.map (rx_tr ad)).toList ++ rest.map (rx_tr ad) = (r.2.toList ++ rest).map (rx_tr ad) := by cases r.2 <;> rfl
  rw [hs]
  exact a1
theorem zo_cell {b L : Nat} {xs : Nat → Int32} (hL : L ≤ 2049) (X : ox_C p s m args c cc nL "SubscriberLinesLaw" D g ad B) (hX : va_X b L xs s s.heap) (hb0 : b < s.heap.size) (hbB : b < B) (hab : ad 1000 = b) (hR : 2 ≤ R.frames ∧ 41 ≤ R.locals) : rx_OK p l e R s m args below meth c cc nL ad (zW D g ad B s.heap) (zcs n0 s0) (.invokestatic 9) 3 2 (zx_k (kzcell xs L R n0 s0)) := by
  refine zx_OKi fun pc mem H locs lA av rest Q res ha hK hW hsz hrest hdec kk => ?_
  match av, ha, hK with
  | [.ref t, .int k], _, hK =>
    by_cases hc : (t = 1000 ∧ k = 0 ∧ mem.length - n0 ≤ R.cells ∧ zs mem - s0 ≤ R.slots)
    · simp only [kzcell, hc, and_self, decide_true, cond_true] at hK
      cases hK
      obtain ⟨rfl, rfl, c3, c4⟩ := hc
      obtain ⟨hx, hb, hml, hown, hts, htb, had⟩ := X
      have h1 : Cond.methodLink "SubscriberLinesLaw" 9 ⟨"SubscriberLinesLaw", "cell", "([II)I"⟩ ∈ al := al_at 702 (by decide +kernel) rfl
      have h2 : Cond.static ⟨"SubscriberLinesLaw", "cell", "([II)I"⟩ ∈ al := al_at 703 (by decide +kernel) rfl
      have h3 : Cond.initialized "SubscriberLinesLaw" ∈ al := al_at 0 (by decide +kernel) rfl
      have h4 : Cond.code ⟨"SubscriberLinesLaw", "cell", "([II)I"⟩ method_2_code 2 (some .int) ∈ al := al_at 704 (by decide +kernel) rfl
      have hG : GoodIn al (wsS "SubscriberLinesLaw" 9 ⟨"SubscriberLinesLaw", "cell", "([II)I"⟩ (Cond.code ⟨"SubscriberLinesLaw", "cell", "([II)I"⟩ method_2_code 2 (some .int) :: al)) := al_good (by
        intro w hw
        simp only [wsS, List.cons_append, List.nil_append, List.mem_cons] at hw
        rcases hw with rfl | rfl | rfl | rfl | hw
        · exact h1
        · exact h2
        · exact h3
        · exact h4
        · exact hw)
      have cw := cwS (R := R) (rm := { frames := 1, cells := 0, slots := 0, locals := 20 }) (mc := 0) (ms := 0) 2 hts hG rfl rfl rfl ⟨rfl, by decide, by decide, by decide +kernel⟩ ⟨hR.1, hR.2⟩
      refine zo_runR (rest := rest) (va_runS (As := [Value.ref b, Value.int 0]) ⟨hx, hb, hml, hown, hts⟩ (V_cell (D := D) (g := g) (B := B) (xs := xs) hL hab mem) cw ⟨fun _ _ _ _ h => h, fun U hU hw => ⟨rfl, ?_, hbB, by rw [hU]; exact hW.1, by rw [hU]; exact hW.2.2.1, hW.2.2.2⟩⟩ rfl rfl hsz ?_ ?_ hdec ⟨c3, c4⟩) hW kk
      · rw [hU]
        exact (hX.kept (hW.2.1.2.1 b hb0 (show ¬ B ≤ b by omega))).moved hw.alike
      · show ([Value.int 0, Value.ref 1000] ++ rest).map (rx_tr ad) = [Value.int 0, Value.ref b] ++ rest.map (rx_tr ad)
        simp [rx_tr, hab]
      · exact lv_room (by rw [rx_cat_sum]; exact hrest)
    · simp only [kzcell, hc, decide_false, cond_false] at hK
      cases hK
theorem zo_no {M : Type} {WM : M → Heap → List Loc → Prop} {cs : M → Nat × Nat} {a len : Nat} {i : rx_I} : rx_OK p l e R s m args below meth c cc nL ad WM cs i len a (zx_k (fun _ _ => none)) := fun _ _ _ _ _ _ _ _ _ hp => False.elim hp
end CM
/-- a step that was tried, taken by the machine -/
theorem zx_stp_X {M : Type} {p : Program} {l : Launch} {e : Env} {R : Room} {s : State} {m : MethodId} {args : Array Value} {below : List Frame} {meth : Method} {c : Code} {Q : State → Prop} {cc : ByteArray} {nL : Nat} {ad : Nat → Nat} {WM : M → Heap → List Loc → Prop} {cs : M → Nat × Nat} {L : List (zx_E M)}
    (hx : p.tables.exec = Jvm.exec) (hb : c.code = cc) (hok : rx_okF cc nL (some .boolean) (L.map zx_c) 0 (L.map zx_c) = true) (hops : rx_ops p l e R s m args below meth c cc nL ad WM cs (L.map zx_c))
    {j j' : Nat} {mem mem' : M} {ls ls' : rx_L} {st st' : List Value} (h : zx_stp L j mem ls st = some (j', mem', ls', st')) {en en' : zx_E M} (he : L[j]? = some en) (he' : L[j']? = some en')
    (k : rx_X p l e R s m args below meth c Q nL ad WM cs en'.1 mem' ls' st') : rx_X p l e R s m args below meth c Q nL ad WM cs en.1 mem ls st := by
  have hdrop : ∀ (i : Nat) (en : zx_E M), L[i]? = some en → L.drop i = en :: L.drop (i + 1) := by
    intro i en he
    obtain ⟨hlt, hv⟩ := List.getElem?_eq_some_iff.mp he
    rw [List.drop_eq_getElem_cons hlt, hv]
  let G : M → rx_L → List Value → Prop × rx_R M := fun a b d => (a = mem' ∧ b = ls' ∧ d = st', (mem', none))
  have key : ∀ (i : Nat) (d : rx_R M), i = j' → (rx_go False (rx_cP [(en'.1, G)]) (rx_sf (L.map zx_c) [(en'.1, G)] 0) ((L.map zx_c).drop i) mem' ls' st' ∧ rx_go d (rx_cF [(en'.1, G)]) (rx_ev (L.map zx_c) [(en'.1, G)] 0) ((L.map zx_c).drop i) mem' ls' st' = (mem', none)) := by
    intro i d hi
    subst hi
    rw [← List.map_drop, hdrop _ en' he', List.map_cons]
    have h1 : rx_cut [(en'.1, G)] (zx_c en').1 = some G := by
      show cond (Nat.beq en'.1 en'.1) (some G) none = some G
      rw [Nat.beq_refl]; rfl
    simp only [rx_go, rx_cP, rx_cF, h1]
    exact ⟨⟨rfl, rfl, rfl⟩, rfl⟩
  have all : rx_sf (L.map zx_c) [(en'.1, G)] 1 ((L.map zx_c).drop j) mem ls st ∧ rx_ev (L.map zx_c) [(en'.1, G)] 1 ((L.map zx_c).drop j) mem ls st = (mem', none) := by
    have hdm : (L.map zx_c).drop j = zx_c en :: (L.map zx_c).drop (j + 1) := by
      rw [← List.map_drop, hdrop _ en he, List.map_cons, List.map_drop]
    unfold zx_stp at h
    rw [hdrop _ en he] at h
    rw [hdm]
    obtain ⟨pc, i, len, kd, a, v, sw, K⟩ := en
    match kd, h with
    | 0, h =>
      simp only [zx_c, rx_sf, rx_ev] at h ⊢
      split at h
      · next x y hs => cases h; simp only [hs]; exact key _ _ rfl
      · cases h
    | 1, h => cases h; simp only [zx_c, rx_sf, rx_ev]; exact key _ _ rfl
    | 2, h =>
      simp only [zx_c, rx_sf, rx_ev] at h ⊢
      split at h
      · next o x y st2 hs =>
        simp only [hs]
        cases o <;> simp only at h ⊢ <;> split at h <;> rename_i hc <;> cases h <;> simp only [hc, if_true, if_false, not_true_eq_false, false_implies, true_implies, not_false_eq_true, true_and, and_true] <;> exact key _ _ rfl
      · cases h
    | 3, h => cases h
    | 4, h => cases h
    | 5, h => cases h
    | 6, h => cases h
    | kd + 7, h =>
      simp only [zx_c, rx_sf, rx_ev] at h ⊢
      cases hb : (Nat.ble a st.length && Nat.ble st.length (a + 8)) with
      | false => rw [hb] at h; cases h
      | true =>
        rw [hb] at h
        simp only [cond_true] at h ⊢
        unfold zx_k
        split at h
        · next m2 w hs => cases h; simp only [hs]; exact ⟨⟨trivial, (key _ (mem', none) rfl).1⟩, (key _ _ rfl).2⟩
        · cases h
  have hen : (L.map zx_c)[j]? = some (zx_c en) := by rw [List.getElem?_map, he]; rfl
  exact rx_soundZ (res := (mem', none)) (cut := [(en'.1, G)]) hx hb hok hops (fun mem v hv => by cases hv) (fun pc g hg => by
    have : pc = en'.1 ∧ g = G := by
      change cond (Nat.beq en'.1 pc) (some G) none = some g at hg
      cases hq : Nat.beq en'.1 pc with
      | false => rw [hq] at hg; cases hg
      | true => rw [hq] at hg; cases hg; exact ⟨(Nat.eq_of_beq_eq_true hq).symm, rfl⟩
    obtain ⟨rfl, rfl⟩ := this
    intro a b d h1 _
    obtain ⟨rfl, rfl, rfl⟩ := h1
    exact k) 1 j (zx_c en) mem ls st hen all.1 all.2
