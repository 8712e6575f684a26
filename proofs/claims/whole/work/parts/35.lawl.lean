theorem ox_kno {p : Program} {l : Launch} {e : Env} {R : Room} {s : State} {m : MethodId} {args : Array Value} {below : List Frame} {meth : Method} {c : Code} {cc : ByteArray} {nL : Nat} {ad : Nat → Nat} {D : va_G} {g : Nat → ClassId} {B : Nat} {k0 n0 a len : Nat} {i : rx_I} : rx_OK p l e R s m args below meth c cc nL ad (mx_W D g ad B s.heap) (mx_ck k0 n0) i len a kno := fun _ _ _ _ _ _ _ _ _ hp => False.elim hp
theorem ok_law0 : rx_okF code 4 (some .boolean) (L_law (fun _ => 0) 0) 0 (L_law (fun _ => 0) 0) = true := by decide +kernel
theorem rx_okS_st {M N : Type} {A : List (rx_E M)} {B : List (rx_E N)} (h : ∀ i, rx_pcAt A i = rx_pcAt B i) (pc : Nat) : ∀ (offs : List Int) (lo : Int) (sw : List (Int32 × Nat)), rx_okS A pc lo offs sw = rx_okS B pc lo offs sw := by
  intro offs
  induction offs with
  | nil => intro lo sw; cases sw <;> rfl
  | cons o r ih =>
    intro lo sw
    cases sw with
    | nil => rfl
    | cons x y => simp only [rx_okS, ih, h]
theorem rx_okK_st {M N : Type} {A : List (rx_E M)} {B : List (rx_E N)} (h : ∀ i, rx_pcAt A i = rx_pcAt B i) (nL : Nat) (ret : Option FieldType) (i pc : Nat) (ins : rx_I) (len a : Nat) (v : Int32) (sw : List (Int32 × Nat)) (kd : Nat) : rx_okK nL ret A i pc ins len a v sw kd = rx_okK nL ret B i pc ins len a v sw kd := by
  unfold rx_okK
  simp only [h, rx_okS_st h]
def lw_st (x : rx_E mx) : rx_E mx := match x with
  | (pc, ins, len, kd, a, v, sw, _) => (pc, ins, len, kd, a, v, sw, kno)
theorem lw_pc (A : List (rx_E mx)) (i : Nat) : rx_pcAt (A.map lw_st) i = rx_pcAt A i := by
  unfold rx_pcAt
  rw [List.getElem?_map, Option.map_map]
  rfl
theorem rx_okF_st {cc : ByteArray} {nL : Nat} {ret : Option FieldType} (A : List (rx_E mx)) : ∀ (r : List (rx_E mx)) (i : Nat), rx_okF cc nL ret (A.map lw_st) i (r.map lw_st) = rx_okF cc nL ret A i r := by
  intro r
  induction r with
  | nil => intro i; rfl
  | cons x r ih =>
    intro i
    rw [List.map_cons, rx_okF, rx_okF, ih]
    have h : rx_okA cc nL ret (A.map lw_st) i (lw_st x) = rx_okA cc nL ret A i x := by
      obtain ⟨pc, ins, len, kd, a, v, sw, K⟩ := x
      show (_ && rx_okK nL ret (A.map lw_st) i pc ins len a v sw kd) = (_ && rx_okK nL ret A i pc ins len a v sw kd)
      rw [rx_okK_st (lw_pc A)]
    rw [h]
set_option maxRecDepth 100000 in
theorem lw_map (xs : Nat → Int32) (L : Nat) : (L_law xs L).map lw_st = (L_law (fun _ => 0) 0).map lw_st := by
  simp only [L_law, List.map_cons, List.map_nil, lw_st]
theorem ok_law (xs : Nat → Int32) (L : Nat) : rx_okF code 4 (some .boolean) (L_law xs L) 0 (L_law xs L) = true := by
  rw [← rx_okF_st, lw_map, rx_okF_st]
  exact ok_law0
set_option maxRecDepth 100000 in
set_option maxHeartbeats 4000000 in
theorem O_law {p : Program} {l : Launch} {e : Env} {s : State} {m : MethodId} {args : Array Value} {below : List Frame} {meth : Method} {c : Code} {ad : Nat → Nat} {D : va_G} {g : Nat → ClassId} {B k0 n0 b L : Nat} {xs : Nat → Int32} (X : ox_C p s m args c code 4 "SubscriberLinesLaw" D g ad B) (hkn : k0 ≤ room_1.cells ∧ n0 ≤ room_1.slots) (hX : va_X b L xs s s.heap) (hb0 : b < s.heap.size) (hbB : b < B) (hab : ad 1000 = b) : rx_ops p l e room_1 s m args below meth c code 4 ad (mx_W D g ad B s.heap) (mx_ck k0 n0) (L_law xs L) :=
  And.intro (ox_kno) (And.intro (ox_kno) (And.intro (ox_kno) (And.intro (ox_kno) (And.intro (ox_kno) (And.intro (ox_kno) (And.intro (ox_scl X hX hb0 hbB hab) (And.intro (ox_scr X hX hb0 hbB hab) (And.intro (ox_scr X hX hb0 hbB hab) (And.intro (ox_scr X hX hb0 hbB hab) (And.intro (cvZ_sl_allow X hkn (V_sl_allow X.2.2.2.2.2.2) (al_at 346 (by decide +kernel) rfl) ⟨by decide, by decide⟩) (And.intro (ox_scr X hX hb0 hbB hab) (And.intro (ox_scr X hX hb0 hbB hab) (And.intro (cvZ_mo_allow X hkn (V_mo_allow X.2.2.2.2.2.2) (al_at 969 (by decide +kernel) rfl) ⟨by decide, by decide⟩) (And.intro (ox_scr X hX hb0 hbB hab) (And.intro (ox_scr X hX hb0 hbB hab) (And.intro (ox_scr X hX hb0 hbB hab) (And.intro (cvZ_sl_dial X hkn (V_sl_dial X.2.2.2.2.2.2) (al_at 354 (by decide +kernel) rfl) ⟨by decide, by decide⟩) (And.intro (ox_scr X hX hb0 hbB hab) (And.intro (ox_scr X hX hb0 hbB hab) (And.intro (ox_scr X hX hb0 hbB hab) (And.intro (cvZ_mo_dial X hkn (V_mo_dial X.2.2.2.2.2.2) (al_at 973 (by decide +kernel) rfl) ⟨by decide, by decide⟩) (And.intro (ox_scr X hX hb0 hbB hab) (And.intro (cvZ_sl_hangup X hkn (V_sl_hangup X.2.2.2.2.2.2) (al_at 377 (by decide +kernel) rfl) ⟨by decide, by decide⟩) (And.intro (ox_scr X hX hb0 hbB hab) (And.intro (cvZ_mo_hangup X hkn (V_mo_hangup X.2.2.2.2.2.2) (al_at 977 (by decide +kernel) rfl) ⟨by decide, by decide⟩) (And.intro (ox_scr X hX hb0 hbB hab) (And.intro (ox_scr X hX hb0 hbB hab) (And.intro (ox_scr X hX hb0 hbB hab) (And.intro (cvZ_sl_send X hkn (V_sl_send X.2.2.2.2.2.2) (al_at 397 (by decide +kernel) rfl) ⟨by decide, by decide⟩) (And.intro (ox_scr X hX hb0 hbB hab) (And.intro (ox_scr X hX hb0 hbB hab) (And.intro (ox_scr X hX hb0 hbB hab) (And.intro (cvZ_mo_send X hkn (V_mo_send X.2.2.2.2.2.2) (al_at 981 (by decide +kernel) rfl) ⟨by decide, by decide⟩) (And.intro (ox_scr X hX hb0 hbB hab) (And.intro (ox_scr X hX hb0 hbB hab) (And.intro (cvZ_sl_core X hkn (V_sl_core X.2.2.2.2.2.2) (al_at 405 (by decide +kernel) rfl) ⟨by decide, by decide⟩) (And.intro (ox_scr X hX hb0 hbB hab) (And.intro (ox_scr X hX hb0 hbB hab) (And.intro (cvZ_mo_core X hkn (V_mo_core X.2.2.2.2.2.2) (al_at 985 (by decide +kernel) rfl) ⟨by decide, by decide⟩) (And.intro (ox_scr X hX hb0 hbB hab) (And.intro (cvZ_sl_restart X hkn (V_sl_restart X.2.2.2.2.2.2) (al_at 415 (by decide +kernel) rfl) ⟨by decide, by decide⟩) (And.intro (ox_scr X hX hb0 hbB hab) (And.intro (cvZ_mo_restart X hkn (V_mo_restart X.2.2.2.2.2.2) (al_at 989 (by decide +kernel) rfl) ⟨by decide, by decide⟩) (And.intro (cvZ_sl_tick X hkn (V_sl_tick X.2.2.2.2.2.2) (al_at 436 (by decide +kernel) rfl) ⟨by decide, by decide⟩) (And.intro (cvZ_mo_tick X hkn (V_mo_tick X.2.2.2.2.2.2) (al_at 838 (by decide +kernel) rfl) ⟨by decide, by decide⟩) (And.intro (ox_scr X hX hb0 hbB hab) (And.intro (cvZ_sl_drop X hkn (V_sl_drop X.2.2.2.2.2.2) (al_at 629 (by decide +kernel) rfl) ⟨by decide, by decide⟩) (And.intro (ox_scr X hX hb0 hbB hab) (And.intro (cvZ_mo_drop X hkn (V_mo_drop X.2.2.2.2.2.2) (al_at 993 (by decide +kernel) rfl) ⟨by decide, by decide⟩) (And.intro (ox_scr X hX hb0 hbB hab) (And.intro (cvZ_sl_swap X hkn (V_sl_swap X.2.2.2.2.2.2) (al_at 633 (by decide +kernel) rfl) ⟨by decide, by decide⟩) (And.intro (ox_scr X hX hb0 hbB hab) (And.intro (cvZ_mo_swap X hkn (V_mo_swap X.2.2.2.2.2.2) (al_at 997 (by decide +kernel) rfl) ⟨by decide, by decide⟩) (And.intro (cvZ_sl_flight X hkn (V_sl_flight X.2.2.2.2.2.2) (al_at 641 (by decide +kernel) rfl) ⟨by decide, by decide⟩) (And.intro (cvZ_mo_flight X hkn (V_mo_flight X.2.2.2.2.2.2) (al_at 1001 (by decide +kernel) rfl) ⟨by decide, by decide⟩) (And.intro (ox_scr X hX hb0 hbB hab) (And.intro (ox_scr X hX hb0 hbB hab) (And.intro (cvZ_sl_packet X hkn (V_sl_packet X.2.2.2.2.2.2) (al_at 645 (by decide +kernel) rfl) ⟨by decide, by decide⟩) (And.intro (ox_scr X hX hb0 hbB hab) (And.intro (ox_scr X hX hb0 hbB hab) (And.intro (cvZ_mo_packet X hkn (V_mo_packet X.2.2.2.2.2.2) (al_at 1005 (by decide +kernel) rfl) ⟨by decide, by decide⟩) (And.intro (ox_scr X hX hb0 hbB hab) (And.intro (cvZ_sl_state X hkn (V_sl_state X.2.2.2.2.2.2) (al_at 654 (by decide +kernel) rfl) ⟨by decide, by decide⟩) (And.intro (ox_scr X hX hb0 hbB hab) (And.intro (cvZ_mo_state X hkn (V_mo_state X.2.2.2.2.2.2) (al_at 1009 (by decide +kernel) rfl) ⟨by decide, by decide⟩) (And.intro (ox_scr X hX hb0 hbB hab) (And.intro (cvZ_sl_address X hkn (V_sl_address X.2.2.2.2.2.2) (al_at 658 (by decide +kernel) rfl) ⟨by decide, by decide⟩) (And.intro (ox_scr X hX hb0 hbB hab) (And.intro (cvZ_mo_address X hkn (V_mo_address X.2.2.2.2.2.2) (al_at 1013 (by decide +kernel) rfl) ⟨by decide, by decide⟩) (And.intro (ox_scr X hX hb0 hbB hab) (And.intro (ox_scr X hX hb0 hbB hab) (And.intro (cvZ_sl_heard X hkn (V_sl_heard X.2.2.2.2.2.2) (al_at 662 (by decide +kernel) rfl) ⟨by decide, by decide⟩) (And.intro (ox_scr X hX hb0 hbB hab) (And.intro (ox_scr X hX hb0 hbB hab) (And.intro (cvZ_mo_heard X hkn (V_mo_heard X.2.2.2.2.2.2) (al_at 1017 (by decide +kernel) rfl) ⟨by decide, by decide⟩) (And.intro (ox_scr X hX hb0 hbB hab) (And.intro (cvZ_sl_cored X hkn (V_sl_cored X.2.2.2.2.2.2) (al_at 670 (by decide +kernel) rfl) ⟨by decide, by decide⟩) (And.intro (ox_scr X hX hb0 hbB hab) (And.intro (cvZ_mo_cored X hkn (V_mo_cored X.2.2.2.2.2.2) (al_at 1021 (by decide +kernel) rfl) ⟨by decide, by decide⟩) (And.intro (ox_scr X hX hb0 hbB hab) (And.intro (cvZ_sl_source X hkn (V_sl_source X.2.2.2.2.2.2) (al_at 674 (by decide +kernel) rfl) ⟨by decide, by decide⟩) (And.intro (ox_scr X hX hb0 hbB hab) (And.intro (cvZ_mo_source X hkn (V_mo_source X.2.2.2.2.2.2) (al_at 1025 (by decide +kernel) rfl) ⟨by decide, by decide⟩) (And.intro (ox_scr X hX hb0 hbB hab) (And.intro (ox_scr X hX hb0 hbB hab) (And.intro (cvZ_sl_circuit X hkn (V_sl_circuit X.2.2.2.2.2.2) (al_at 678 (by decide +kernel) rfl) ⟨by decide, by decide⟩) (And.intro (ox_scr X hX hb0 hbB hab) (And.intro (ox_scr X hX hb0 hbB hab) (And.intro (cvZ_mo_circuit X hkn (V_mo_circuit X.2.2.2.2.2.2) (al_at 1029 (by decide +kernel) rfl) ⟨by decide, by decide⟩) (And.intro (ox_scr X hX hb0 hbB hab) (And.intro (ox_scr X hX hb0 hbB hab) (And.intro (cvZ_sl_session X hkn (V_sl_session X.2.2.2.2.2.2) (al_at 686 (by decide +kernel) rfl) ⟨by decide, by decide⟩) (And.intro (ox_scr X hX hb0 hbB hab) (And.intro (ox_scr X hX hb0 hbB hab) (And.intro (cvZ_mo_session X hkn (V_mo_session X.2.2.2.2.2.2) (al_at 1033 (by decide +kernel) rfl) ⟨by decide, by decide⟩) (And.intro (ox_scr X hX hb0 hbB hab) (And.intro (ox_scr X hX hb0 hbB hab) (And.intro (cvZ_sl_channel X hkn (V_sl_channel X.2.2.2.2.2.2) (al_at 694 (by decide +kernel) rfl) ⟨by decide, by decide⟩) (And.intro (ox_scr X hX hb0 hbB hab) (And.intro (ox_scr X hX hb0 hbB hab) (And.intro (cvZ_mo_channel X hkn (V_mo_channel X.2.2.2.2.2.2) (al_at 1037 (by decide +kernel) rfl) ⟨by decide, by decide⟩) (trivial))))))))))))))))))))))))))))))))))))))))))))))))))))))))))))))))))))))))))))))))))))))))))))))))))))))
theorem law_loop {p : Program} {l : Launch} {e : Env} {s : State} {m : MethodId} {below : List Frame} {meth : Method} {c : Code} {ad : Nat → Nat} {D : va_G} {g : Nat → ClassId} {k0 n0 b L : Nat} {xs : Nat → Int32} (X : ox_C p s m #[Value.ref b] c code 4 "SubscriberLinesLaw" D g ad s.heap.size) (hr : meth.sig.returnType = ret) (hlocks : meth.locks = false) (hkn : k0 ≤ 600000 ∧ n0 ≤ 7302250) (hX : va_X b L xs s s.heap) (hb0 : b < s.heap.size) (hab : ad 1000 = b) {res : rx_R mx} (hres : res.2 = some (.int 1)) :
    ∀ (n : Nat) (x : mx) (ls : rx_L) (st : List Value), (G_law xs L n x ls st).1 → (G_law xs L n x ls st).2 = res → rx_X p l e room_1 s m #[Value.ref b] below meth c (lw_Z below #[Value.ref b] s) 4 ad (mx_W D g ad s.heap.size s.heap) (mx_ck k0 n0) 28 x ls st := by
  intro n
  induction n with
  | zero =>
    intro x ls st h
    obtain ⟨r0, r1, r2, v3, -, -, -, h3⟩ := GI_law h
    exact False.elim h3
  | succ n ih =>
    intro x ls st h hG
    obtain ⟨r0, r1, r2, v3, rfl, rfl, ⟨rfl, rfl, rfl⟩, hQ⟩ := GI_law h
    refine rx_soundZ (WM := mx_W D g ad s.heap.size s.heap) (cs := mx_ck k0 n0) (cut := [(28, G_law xs L n)]) X.1 X.2.1 (ok_law xs L) (O_law X hkn hX hb0 hb0 hab) (fun mem v hv pc H locs lA hdec hW => ?_) (rx_cc ih rx_c0) 60 16 _ x _ _ rfl (SH_law xs L n x.1 x.2 v3 hQ) ((EH_law xs L n x.1 x.2 v3).trans hG)
    have h1 : v = 1 := by
      rw [← hv] at hres
      have h2 : some (Value.int v) = some (Value.int 1) := hres
      cases h2
      rfl
    subst h1
    exact va_forget (fun q hq => hW.2.2.2 q hq) (W.widen hkn.1 hkn.2 (lw_ret X.1 X.2.1 hr hlocks hdec))
