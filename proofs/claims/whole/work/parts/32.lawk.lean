section RXz
variable {p : Program} {l : Launch} {e : Env} {R : Room} {s : State} {m : MethodId} {args : Array Value} {below : List Frame} {meth : Method} {c : Code} {Q : State → Prop} {cc : ByteArray} {nL : Nat} {ad : Nat → Nat} {M : Type} {WM : M → Heap → List Loc → Prop} {cs : M → Nat × Nat}
theorem rx_soundZ {code : List (rx_E M)} {cut : rx_C M} {res : rx_R M}
    (hx : p.tables.exec = Jvm.exec) (hb : c.code = cc) (hok : rx_okF cc nL (some .boolean) code 0 code = true) (hops : rx_ops p l e R s m args below meth c cc nL ad WM cs code)
    (hfin : ∀ (mem : M) (v : Int32), (mem, some (.int v)) = res → ∀ (pc : Nat) (H : Heap) (locs : List Loc) (lA : Array Slot), decode cc pc = .ok (.ireturn, 1) → WM mem H locs → W p l e R s m args below meth c H locs (cs mem).1 (cs mem).2 Q (F0 m pc lA [.int v]))
    (hcut : ∀ (pc : Nat) (g : M → rx_L → List Value → Prop × rx_R M), rx_cut cut pc = some g → ∀ (mem : M) (ls : rx_L) (st : List Value), (g mem ls st).1 → (g mem ls st).2 = res → rx_X p l e R s m args below meth c Q nL ad WM cs pc mem ls st) :
    ∀ (n i : Nat) (en : rx_E M) (mem : M) (ls : rx_L) (st : List Value), code[i]? = some en → rx_sf code cut n (code.drop i) mem ls st → rx_ev code cut n (code.drop i) mem ls st = res → rx_X p l e R s m args below meth c Q nL ad WM cs en.1 mem ls st := by
  have hdrop : ∀ (i : Nat) (en : rx_E M), code[i]? = some en → code.drop i = en :: code.drop (i + 1) := by
    intro i en he
    obtain ⟨hlt, hv⟩ := List.getElem?_eq_some_iff.mp he
    rw [List.drop_eq_getElem_cons hlt, hv]
  intro n
  induction n with
  | zero => intro i en mem ls st he hs; exact False.elim hs
  | succ n ih =>
    intro i en mem ls st he hs hr'
    rw [hdrop i en he] at hs hr'
    have hk := rx_okF_at code 0 hok i en he
    rw [Nat.zero_add] at hk
    have hmem : en ∈ code := List.mem_of_getElem? he
    have go : ∀ (j pc' : Nat) (mem' : M) (ls' : rx_L) (st' : List Value) (d : rx_R M), rx_pcAt code j = some pc' → rx_go False (rx_cP cut) (rx_sf code cut n) (code.drop j) mem' ls' st' → rx_go d (rx_cF cut) (rx_ev code cut n) (code.drop j) mem' ls' st' = res → rx_X p l e R s m args below meth c Q nL ad WM cs pc' mem' ls' st' := by
      intro j pc' mem' ls' st' d hp h1 h2
      obtain ⟨e', he', hpe⟩ : ∃ e' : rx_E M, code[j]? = some e' ∧ e'.1 = pc' := by
        unfold rx_pcAt at hp
        cases hz : code[j]? with
        | none => rw [hz] at hp; simp at hp
        | some e' => rw [hz] at hp; exact ⟨e', rfl, by simpa using hp⟩
      rw [hdrop j e' he'] at h1 h2
      subst hpe
      simp only [rx_go, rx_cP, rx_cF] at h1 h2
      cases hc : rx_cut cut e'.1 with
      | none =>
        rw [hc] at h1 h2
        exact ih j e' mem' ls' st' he' (by rw [hdrop j e' he']; exact h1) (by rw [hdrop j e' he']; exact h2)
      | some g =>
        rw [hc] at h1 h2
        exact hcut _ g hc mem' ls' st' h1 h2
    obtain ⟨pc, ins, len, kd, a, v, sw, K⟩ := en
    replace hk : (decide (decode cc pc = .ok (ins, len)) && rx_okK nL (some .boolean) code i pc ins len a v sw kd) = true := hk
    rw [Bool.and_eq_true, decide_eq_true_eq] at hk
    obtain ⟨hdec, hk⟩ := hk
    clear he
    revert hk hs hr' hmem
    match kd with
    | 0 =>
      intro hs hr' hmem hk
      clear hmem
      replace hk : (rx_okI ins len a v nL && decide (rx_pcAt code (i + 1) = some (pc + len))) = true := hk
      rw [Bool.and_eq_true, decide_eq_true_eq] at hk
      simp only [rx_sf] at hs
      simp only [rx_ev] at hr'
      cases hq : rx_st ins a v ls st with
      | none => rw [hq] at hs; exact False.elim hs
      | some q =>
        obtain ⟨ls', st'⟩ := q
        rw [hq] at hs hr'
        exact rx_st_ok hx hb ins hk.1 hq hdec (go (i + 1) (pc + len) mem ls' st' _ hk.2 hs hr')
    | 1 =>
      intro hs hr' hmem hk
      clear hmem
      simp only [rx_sf] at hs
      simp only [rx_ev] at hr'
      cases ins with
      | goto off =>
        replace hk : (decide (len = 3) && rx_okT pc off (rx_pcAt code a)) = true := hk
        rw [Bool.and_eq_true, decide_eq_true_eq] at hk
        obtain ⟨rfl, ht⟩ := hk
        obtain ⟨q, hq, ht⟩ := rx_okT_spec ht
        intro H locs lA hW hl
        exact lv_goto hx hb hdec ht (go a q mem ls st _ hq hs hr' H locs lA hW hl)
      | _ => simp [rx_okK] at hk
    | 2 =>
      intro hs hr' hmem hk
      clear hmem
      replace hk : (decide (len = 3) && rx_okB pc (rx_pcAt code a) ins && decide (rx_pcAt code (i + 1) = some (pc + 3))) = true := hk
      rw [Bool.and_eq_true, Bool.and_eq_true, decide_eq_true_eq, decide_eq_true_eq] at hk
      obtain ⟨⟨rfl, hk⟩, hnext⟩ := hk
      simp only [rx_sf] at hs
      simp only [rx_ev] at hr'
      obtain ⟨tgt, htgt⟩ : ∃ tgt : Nat, rx_pcAt code a = some tgt := by
        cases ht : rx_pcAt code a with
        | none =>
          rw [ht] at hk
          cases ins with
          | ifCond o off => simp [rx_okB, rx_okT] at hk
          | if_icmp o off => simp [rx_okB, rx_okT] at hk
          | _ => simp [rx_okB] at hk
        | some q => exact ⟨q, rfl⟩
      rw [htgt] at hk
      cases hq : rx_cmp ins st with
      | none => rw [hq] at hs; exact False.elim hs
      | some z =>
        obtain ⟨o, x, y, st'⟩ := z
        rw [hq] at hs hr'
        cases o with
        | eq => exact rx_br_ok hx hb ins hq hdec hk (fun h => go a tgt mem ls st' _ htgt (hs.1 h) ((if_pos h).symm.trans hr')) (fun h => go (i + 1) (pc + 3) mem ls st' _ hnext (hs.2 h) ((if_neg h).symm.trans hr'))
        | ne => exact rx_br_ok hx hb ins hq hdec hk (fun h => go a tgt mem ls st' _ htgt (hs.2 h) ((if_neg h).symm.trans hr')) (fun h => go (i + 1) (pc + 3) mem ls st' _ hnext (hs.1 (Classical.not_not.mp h)) ((if_pos (Classical.not_not.mp h)).symm.trans hr'))
        | lt => exact rx_br_ok hx hb ins hq hdec hk (fun h => go a tgt mem ls st' _ htgt (hs.1 h) ((if_pos h).symm.trans hr')) (fun h => go (i + 1) (pc + 3) mem ls st' _ hnext (hs.2 h) ((if_neg h).symm.trans hr'))
        | ge => exact rx_br_ok hx hb ins hq hdec hk (fun h => go a tgt mem ls st' _ htgt (hs.2 h) ((if_neg h).symm.trans hr')) (fun h => go (i + 1) (pc + 3) mem ls st' _ hnext (hs.1 (Classical.not_not.mp h)) ((if_pos (Classical.not_not.mp h)).symm.trans hr'))
        | gt => exact rx_br_ok hx hb ins hq hdec hk (fun h => go a tgt mem ls st' _ htgt (hs.1 h) ((if_pos h).symm.trans hr')) (fun h => go (i + 1) (pc + 3) mem ls st' _ hnext (hs.2 h) ((if_neg h).symm.trans hr'))
        | le => exact rx_br_ok hx hb ins hq hdec hk (fun h => go a tgt mem ls st' _ htgt (hs.2 h) ((if_neg h).symm.trans hr')) (fun h => go (i + 1) (pc + 3) mem ls st' _ hnext (hs.1 (Classical.not_not.mp h)) ((if_pos (Classical.not_not.mp h)).symm.trans hr'))
    | 3 =>
      intro hs hr' hmem hk
      clear hmem
      replace hk : (decide (len = 3) && rx_okN pc (rx_pcAt code a) ins && decide (rx_pcAt code (i + 1) = some (pc + 3))) = true := hk
      rw [Bool.and_eq_true, Bool.and_eq_true, decide_eq_true_eq, decide_eq_true_eq] at hk
      obtain ⟨⟨rfl, hk⟩, hnext⟩ := hk
      simp only [rx_sf] at hs
      simp only [rx_ev] at hr'
      cases ins with
      | ifnull off =>
        obtain ⟨tgt, htgt, ht⟩ := rx_okT_spec hk
        cases st with
        | nil => exact False.elim hs
        | cons z st =>
          cases z with
          | null =>
            intro H locs lA hW hl
            exact lv_ifnullN hx hb hdec ht (go a tgt mem ls st _ htgt hs hr' H locs lA hW hl)
          | ref x =>
            intro H locs lA hW hl
            exact lv_ifnull hx hb hdec (go (i + 1) (pc + 3) mem ls st _ hnext hs hr' H locs lA hW hl)
          | _ => exact False.elim hs
      | _ => simp [rx_okN] at hk
    | 4 =>
      intro hs hr' hmem hk
      clear hmem
      simp only [rx_sf] at hs
      simp only [rx_ev] at hr'
      cases ins with
      | tableswitch d lo hi offs =>
        replace hk : (rx_okT pc d (rx_pcAt code a) && decide (lo + (offs.toList.length : Int) = hi + 1) && rx_okS code pc lo offs.toList sw) = true := hk
        rw [Bool.and_eq_true, Bool.and_eq_true, decide_eq_true_eq] at hk
        obtain ⟨⟨hk1, hk2⟩, hk3⟩ := hk
        cases st with
        | nil => exact False.elim hs
        | cons z st =>
          cases z with
          | int x =>
            rcases rx_sw_ok offs.toList sw lo hk3 hs hr' with ⟨t, j, off, a1, a2, a3, a4, a5⟩ | ⟨a1, a2, a3⟩
            · obtain ⟨q, hq, ht⟩ := rx_okT_spec a5
              have hj : j < offs.toList.length := (List.getElem?_eq_some_iff.mp a1).1
              intro H locs lA hW hl
              exact lv_tableIn hx hb hdec (by omega) (by omega) (by rw [a2, show (lo + (j : Int) - lo).toNat = j by omega, ← Array.getElem?_toList]; exact a1) ht (go t q mem ls st _ hq a3 a4 H locs lA hW hl)
            · obtain ⟨q, hq, ht⟩ := rx_okT_spec hk1
              intro H locs lA hW hl
              exact lv_tableOut hx hb hdec (by omega) ht (go a q mem ls st _ hq a2 a3 H locs lA hW hl)
          | _ => exact False.elim hs
      | _ => simp [rx_okK] at hk
    | 5 =>
      intro hs hr' hmem hk
      clear hmem
      replace hk : rx_okR ins len a (some .boolean) = true := hk
      simp only [rx_sf] at hs
      simp only [rx_ev] at hr'
      rcases st with _ | ⟨z, _ | ⟨w, st⟩⟩
      · exact False.elim hs
      · cases z with
        | int x =>
          match a, hs, hk with
          | 0, _, hk =>
            obtain ⟨-, -, h3⟩ := rx_okR0 ins hk
            cases h3
          | 1, hs, hk =>
            obtain ⟨rfl, rfl, -⟩ := rx_okR1 ins hk
            intro H locs lA hW hl
            exact hfin mem x hr' pc H locs lA hdec hW
          | _ + 2, hs, _ => exact False.elim hs
        | ref x =>
          match a, hs, hk with
          | 0, hs, _ => exact False.elim hs
          | 1, hs, _ => exact False.elim hs
          | 2, _, hk =>
            obtain ⟨-, -, n0, hn0⟩ := rx_okR2 ins hk
            cases hn0
          | _ + 3, hs, _ => exact False.elim hs
        | null =>
          match a, hs, hk with
          | 0, hs, _ => exact False.elim hs
          | 1, hs, _ => exact False.elim hs
          | 2, _, hk =>
            obtain ⟨-, -, n0, hn0⟩ := rx_okR2 ins hk
            cases hn0
          | _ + 3, hs, _ => exact False.elim hs
        | _ => exact False.elim hs
      · cases z <;> exact False.elim hs
    | 6 =>
      intro hs hr' hmem hk
      clear hmem
      simp only [rx_sf] at hs
      simp only [rx_ev] at hr'
      cases ins with
      | return_ => simp [rx_okK, rx_okO] at hk
      | _ => simp [rx_okK] at hk
    | kd + 7 =>
      intro hs hr' hmem hk
      replace hk : decide (rx_pcAt code (i + 1) = some (pc + len)) = true := hk
      rw [decide_eq_true_eq] at hk
      replace hs : cond (Nat.ble a st.length && Nat.ble st.length (a + 8)) ((K (st.take a).reverse mem).1 ∧ rx_go False (rx_cP cut) (rx_sf code cut n) (code.drop (i + 1)) (K (st.take a).reverse mem).2.1 ls ((K (st.take a).reverse mem).2.2.toList ++ st.drop a)) False := hs
      replace hr' : rx_go ((K (st.take a).reverse mem).2.1, none) (rx_cF cut) (rx_ev code cut n) (code.drop (i + 1)) (K (st.take a).reverse mem).2.1 ls ((K (st.take a).reverse mem).2.2.toList ++ st.drop a) = res := hr'
      cases hc : (Nat.ble a st.length && Nat.ble st.length (a + 8)) with
      | false => rw [hc] at hs; exact False.elim hs
      | true =>
        rw [hc] at hs
        obtain ⟨hp, hs⟩ := hs
        rw [Bool.and_eq_true] at hc
        have h1 := Nat.le_of_ble_eq_true hc.1
        have h2 := Nat.le_of_ble_eq_true hc.2
        have hOK := rx_ops_at code hops pc ins len kd a v sw K hmem
        intro H locs lA hW hl
        have key := hOK pc mem H locs lA (st.take a).reverse (st.drop a) Q (by rw [List.length_reverse, List.length_take]; omega) hp hW hl.1 (by rw [List.length_drop]; omega) hdec
          (fun H' locs' hW' => go (i + 1) (pc + len) (K (st.take a).reverse mem).2.1 ls ((K (st.take a).reverse mem).2.2.toList ++ st.drop a) _ hk hs hr' H' locs' lA hW' hl)
        rw [List.reverse_reverse, List.take_append_drop] at key
        exact key
end RXz
/-! calls from the law: other counters -/
def mx_ck (k n : Nat) : mx → Nat × Nat := fun _ => (k, n)
section OCz
variable {p : Program} {l : Launch} {e : Env} {R : Room} {s : State} {m : MethodId} {args : Array Value} {below : List Frame} {meth : Method} {c : Code} {cc : ByteArray} {nL : Nat} {ad : Nat → Nat} {D : va_G} {g : Nat → ClassId} {B : Nat} {own : String} {k0 n0 : Nat}
variable {y : MethodName} {bytes : ByteArray} {maxL : Nat} {ret : Option FieldType} {fr lo : Nat} {K : rx_K mx}
theorem ow_runZ {mem : mx} {r : rx_R mx} {H : Heap} {locs : List Loc} {lA : Array Slot} {pc : Nat} {st0 rest : List Value} {a : Array Value} {Q : State → Prop}
    (hr : va_Run p l e R s m args below meth c H locs k0 n0 0 0 (F0 m pc lA st0) (rest.map (rx_tr ad)) (rx_Qc D g ad B r a) (fun q => B ≤ q)) (hW : mx_W D g ad B s.heap mem H locs)
    (kk : ∀ (H' : Heap) (locs' : List Loc), mx_W D g ad B s.heap r.1 H' locs' → W p l e R s m args below meth c H' locs' k0 n0 Q (F0 m (pc + 3) lA ((r.2.toList ++ rest).map (rx_tr ad)))) : W p l e R s m args below meth c H locs k0 n0 Q (F0 m pc lA st0) := by
  intro T hT X
  obtain ⟨v, st₀, t, T', L, h0, X', hL, e1, e2, ⟨hv, hP, hz, hk⟩, st⟩ := hr T hT X
  have hv : v = r.2.map (rx_tr ad) := Outcome.returned.inj hv
  subst hv
  rw [h0] at hz hk
  obtain ⟨hP0, hS⟩ := hW
  obtain ⟨t2, a1, b1⟩ := kk T'.heap (locs ++ L) ⟨by rw [e1]; exact hP, Nat.le_trans hS.1 (by rw [e1]; exact hz), fun q h1 h2 => by rw [e1, hk q (Nat.lt_of_lt_of_le h1 hS.1) h2]; exact hS.2.1 q h1 h2, fun q hq => by
      rcases List.mem_append.mp hq with h | h
      · exact hS.2.2 q h
      · exact hL q h⟩ T' rfl X'
  refine ⟨t2, st t2 ?_, b1⟩
  have hs : (r.2.map (rx_tr ad)).toList ++ rest.map (rx_tr ad) = (r.2.toList ++ rest).map (rx_tr ad) := by cases r.2 <;> rfl
  rw [hs]
  exact a1
theorem ox_callVZ {idx n q N : Nat} {T : u_T} (X : ox_C p s m args c cc nL own D g ad B) (hkn : k0 ≤ R.cells ∧ n0 ≤ R.slots) (hV : rx_V l D g ad B y bytes maxL ret fr lo K) (hself : ∀ (av : List Value) (x : mx), (K av x).1 → ∃ (t : Nat) (r : List Value), av = .ref t :: r ∧ mx_kl t = q) (hq : q < 20) (hcl : mx_cl[q]? = some (y.cls, T, N))
    (hlink : Cond.methodLink own idx y ∈ al) (hinst : Cond.instanceMethod y ∈ al) (hsel : Cond.selects y.cls y y ∈ al) (hini : Cond.initialized y.cls ∈ al) (hcode : Cond.code y bytes maxL ret ∈ al)
    (hd : y.cls ≠ "java/lang/invoke/MethodHandle" ∧ y.cls ≠ "java/lang/invoke/VarHandle" ∧ (parseMethodDescriptor y.desc).map (fun d => d.parameters.length) = some n) (hR : fr + 1 ≤ R.frames ∧ 8 + (maxL + 11) + lo ≤ R.locals) :
    rx_OK p l e R s m args below meth c cc nL ad (mx_W D g ad B s.heap) (mx_ck k0 n0) (.invokevirtual idx) 3 (n + 1) K := by
  intro pc mem H locs lA av rest Q ha hp hW hsz hrest hdec kk
  obtain ⟨t, r, rfl, ht⟩ := hself av mem hp
  obtain ⟨hx, hb, hml, hown, hts, htb, had⟩ := X
  have hG : GoodIn al (wsV own idx y.cls y (Cond.code y bytes maxL ret :: al)) := al_good (by
    intro w hw
    simp only [wsV, List.cons_append, List.nil_append, List.mem_cons] at hw
    rcases hw with rfl | rfl | rfl | rfl | rfl | hw
    · exact hlink
    · exact hinst
    · exact hsel
    · exact hini
    · exact hcode
    · exact hw)
  have cw := cwV (R := R) (rm := { frames := fr, cells := 0, slots := 0, locals := lo }) (mc := 0) (ms := 0) n hts hG rfl rfl rfl ⟨rfl, hd⟩ hR
  refine ow_runZ (va_runV (As := r.map (rx_tr ad)) ⟨hx, hb, hml, hown, hts⟩ (hV (.ref t :: r) mem hp) cw ⟨rx_blind _ _, va_recv htb.1 hW.1 hcl (mx_ws_ob ht hq), fun U hU hw => ⟨rfl, tb_moved hw htb, by rw [hU]; exact hW.1⟩⟩ rfl ?_ hsz ?_ ?_ hdec ⟨hkn.1, hkn.2⟩) hW kk
  · simp only [List.length_cons] at ha
    rw [List.length_map]
    omega
  · show ((Value.ref t :: r).reverse ++ rest).map (rx_tr ad) = (r.map (rx_tr ad)).reverse ++ Value.ref (ad t) :: rest.map (rx_tr ad)
    simp [rx_tr]
  · exact lv_room (by rw [rx_cat_sum]; exact hrest)
/-! the script -/
def kscl (L : Nat) : rx_K mx := k_R (fun t c m => (t = 1000, (c, m), some (.int (Int32.ofNat L))))
def kscr (xs : Nat → Int32) (L : Nat) : rx_K mx := k_RI (fun t j c m => (t = 1000 ∧ vp_in j L, (c, m), some (.int (xs j.toNatClampNeg))))
theorem ox_scl {b L : Nat} {xs : Nat → Int32} (X : ox_C p s m args c cc nL own D g ad B) (hX : va_X b L xs s s.heap) (hb0 : b < s.heap.size) (hbB : b < B) (hab : ad 1000 = b) : rx_OK p l e R s m args below meth c cc nL ad (mx_W D g ad B s.heap) (mx_ck k0 n0) .arraylength 1 1 (kscl L) := by
  intro pc mem H locs lA av rest Q ha hp hW hsz hrest hdec kk
  obtain ⟨t, rfl⟩ := k_R_inv hp
  have ht : t = 1000 := hp
  subst ht
  obtain ⟨hx, hb, -⟩ := X
  show W p l e R s m args below meth c H locs k0 n0 Q (F0 m pc lA (.ref (ad 1000) :: rest.map (rx_tr ad)))
  rw [hab]
  exact va_slen hx hb hX hb0 (show ¬ B ≤ b by omega) hW.2 hdec (kk H locs hW)
theorem ox_scr {b L : Nat} {xs : Nat → Int32} (X : ox_C p s m args c cc nL own D g ad B) (hX : va_X b L xs s s.heap) (hb0 : b < s.heap.size) (hbB : b < B) (hab : ad 1000 = b) : rx_OK p l e R s m args below meth c cc nL ad (mx_W D g ad B s.heap) (mx_ck k0 n0) .iaload 1 2 (kscr xs L) := by
  intro pc mem H locs lA av rest Q ha hp hW hsz hrest hdec kk
  obtain ⟨t, j, rfl⟩ := k_RI_inv hp
  obtain ⟨ht, hin⟩ : t = 1000 ∧ vp_in j L := hp
  subst ht
  obtain ⟨hx, hb, -⟩ := X
  show W p l e R s m args below meth c H locs k0 n0 Q (F0 m pc lA (.int j :: .ref (ad 1000) :: rest.map (rx_tr ad)))
  rw [hab]
  exact va_sld hx hb hX hb0 (show ¬ B ≤ b by omega) hW.2 hin hdec (kk H locs hW)
end OCz
