/-! the law's head: both objects made -/
def lwz_no (x : rx_E mx) : zx_E zM := match x with
  | (pc, ins, len, kd, a, v, sw, _) => (pc, ins, len, kd, a, v, sw, fun _ _ => none)
def L_hd (xs : Nat → Int32) (L : Nat) : List (zx_E zM) := [
  (0, .new 7, 3, 7, 0, 0, [], kznew room_1 0 0 0 nfs_0),
  (3, .dup, 1, 0, 0, 0, [], fun _ _ => none),
  (4, .aload_n 0, 1, 0, 0, 0, [], fun _ _ => none),
  (5, .iconst 0, 1, 0, 0, 0, [], fun _ _ => none),
  (6, .invokestatic 9, 3, 7, 2, 0, [], kzcell xs L room_1 0 0),
  (9, .invokespecial 15, 3, 7, 2, 0, [], kzcall room_1 0 0 81 12896 Kc_sl),
  (12, .astore_n 1, 1, 0, 1, 0, [], fun _ _ => none),
  (13, .new 18, 3, 7, 0, 0, [], kznew room_1 0 0 9 nfs_9),
  (16, .dup, 1, 0, 0, 0, [], fun _ _ => none),
  (17, .aload_n 0, 1, 0, 0, 0, [], fun _ _ => none),
  (18, .iconst 0, 1, 0, 0, 0, [], fun _ _ => none),
  (19, .invokestatic 9, 3, 7, 2, 0, [], kzcell xs L room_1 0 0),
  (22, .invokespecial 20, 3, 7, 2, 0, [], kzcall room_1 0 0 33 8880 Kc_mo),
  (25, .astore_n 2, 1, 0, 2, 0, [], fun _ _ => none),
  (26, .iconst 1, 1, 0, 0, 1, [], fun _ _ => none),
  (27, .istore_n 3, 1, 0, 3, 0, [], fun _ _ => none)]
def L_tl : List (zx_E zM) := ((L_law (fun _ => 0) 0).drop 16).map lwz_no
def L_lwz (xs : Nat → Int32) (L : Nat) : List (zx_E zM) := L_hd xs L ++ L_tl
theorem ok_lwz (xs : Nat → Int32) (L : Nat) : rx_okF code 4 (some .boolean) ((L_lwz xs L).map zx_c) 0 ((L_lwz xs L).map zx_c) = true := by
  have h : ((L_lwz xs L).map zx_c).map rx_sta = (L_law (fun _ => 0) 0).map rx_sta := by
    have e : (L_law (fun _ => 0) 0).map rx_sta = ((L_law (fun _ => 0) 0).take 16).map rx_sta ++ ((L_law (fun _ => 0) 0).drop 16).map rx_sta := by
      rw [← List.map_append, List.take_append_drop]
    have t : (L_tl.map zx_c).map rx_sta = ((L_law (fun _ => 0) 0).drop 16).map rx_sta := by
      unfold L_tl
      rw [List.map_map, List.map_map]
      rfl
    have hh : ((L_hd xs L).map zx_c).map rx_sta = ((L_law (fun _ => 0) 0).take 16).map rx_sta := rfl
    rw [e, ← t, ← hh]
    unfold L_lwz
    rw [List.map_append, List.map_append]
  rw [rx_okF_sta h _ _ 0 h]
  exact ok_law0
section HD
variable {p : Program} {l : Launch} {e : Env} {s : State} {m : MethodId} {args : Array Value} {below : List Frame} {meth : Method} {c : Code} {ad : Nat → Nat} {D : va_G} {g : Nat → ClassId} {B : Nat}
theorem rx_ops_no {R : Room} {cc : ByteArray} {nL : Nat} {WM : zM → Heap → List Loc → Prop} {cs : zM → Nat × Nat} : ∀ r : List (rx_E mx), rx_ops p l e R s m args below meth c cc nL ad WM cs ((r.map lwz_no).map zx_c) := by
  intro r
  induction r with
  | nil => trivial
  | cons x r ih =>
    obtain ⟨pc, i, len, kd, a, v, sw, K⟩ := x
    show rx_ops p l e R s m args below meth c cc nL ad WM cs ((pc, i, len, kd, a, v, sw, zx_k (fun _ _ => none)) :: (r.map lwz_no).map zx_c)
    match kd with
    | 0 => exact ih
    | 1 => exact ih
    | 2 => exact ih
    | 3 => exact ih
    | 4 => exact ih
    | 5 => exact ih
    | 6 => exact ih
    | kd + 7 => exact ⟨zo_no, ih⟩
theorem O_lwz {b L : Nat} {xs : Nat → Int32} (hL : L ≤ 2049) (X : ox_C p s m args c code 4 "SubscriberLinesLaw" D g ad B) (hA : zA ad B) (hz : tz s) (hX : va_X b L xs s s.heap) (hb0 : b < s.heap.size) (hbB : b < B) (hab : ad 1000 = b) : rx_ops p l e room_1 s m args below meth c code 4 ad (zW D g ad B s.heap) (zcs 0 0) ((L_lwz xs L).map zx_c) := by
  have had : mx_A ad B := X.2.2.2.2.2.2
  have h := rx_ops_no (p := p) (l := l) (e := e) (s := s) (m := m) (args := args) (below := below) (meth := meth) (c := c) (ad := ad) (R := room_1) (cc := code) (nL := 4) (WM := zW D g ad B s.heap) (cs := zcs 0 0) ((L_law (fun _ => 0) 0).drop 16)
  unfold L_lwz
  rw [List.map_append]
  change rx_ops p l e room_1 s m args below meth c code 4 ad (zW D g ad B s.heap) (zcs 0 0) (L_tl.map zx_c) at h
  generalize L_tl.map zx_c = r at h ⊢
  have o1 := zo_new (l := l) (e := e) (below := below) (meth := meth) (R := room_1) (n0 := 0) (s0 := 0) (q := 0) (idx := 7) (T := T_0) X hA rfl in_0 ty_0 ty_0_ok rfl (nfs_0_tr ad) (al_at 13 (by decide +kernel) rfl) (al_at 14 (by decide +kernel) rfl) (al_at 1 (by decide +kernel) rfl)
  have o2 := zo_cell (l := l) (e := e) (below := below) (meth := meth) (R := room_1) (n0 := 0) (s0 := 0) hL X hX hb0 hbB hab ⟨by decide, by decide⟩
  have o3 := zo_call (l := l) (e := e) (below := below) (meth := meth) (R := room_1) (n0 := 0) (s0 := 0) (n := 1) (idx := 15) X hz (Vc_sl had hA) (al_at 15 (by decide +kernel) rfl) (al_at 16 (by decide +kernel) rfl) (al_at 1 (by decide +kernel) rfl) (al_at 17 (by decide +kernel) rfl) rfl ⟨by decide, by decide, by decide +kernel⟩ ⟨by decide, by decide⟩
  have o4 := zo_new (l := l) (e := e) (below := below) (meth := meth) (R := room_1) (n0 := 0) (s0 := 0) (q := 9) (idx := 18) (T := T_9) X hA rfl in_9 ty_9 ty_9_ok rfl (nfs_9_tr ad) (al_at 705 (by decide +kernel) rfl) (al_at 706 (by decide +kernel) rfl) (al_at 12 (by decide +kernel) rfl)
  have o6 := zo_call (l := l) (e := e) (below := below) (meth := meth) (R := room_1) (n0 := 0) (s0 := 0) (n := 1) (idx := 20) X hz (Vc_mo had hA) (al_at 707 (by decide +kernel) rfl) (al_at 708 (by decide +kernel) rfl) (al_at 12 (by decide +kernel) rfl) (al_at 709 (by decide +kernel) rfl) rfl ⟨by decide, by decide, by decide +kernel⟩ ⟨by decide, by decide⟩
  exact ⟨o1, o2, o3, o4, o2, o6, h⟩
end HD
