def cv (xs : Nat → Int32) (L : Nat) : Int32 := jx_max 1 (jx_min 4 (cel xs L))
theorem cv_in (xs : Nat → Int32) (L : Nat) : cv xs L ∈ [(1 : Int32), 2, 3, 4] := v_in _
theorem kznew_e (R : Room) (q : Nat) (fs : List Value) (es : zM) (h : es.length < 999 ∧ es.length + 1 ≤ R.cells ∧ zs es + fs.length ≤ R.slots) : kznew R 0 0 q fs [] es = some (es ++ [.inr (q, fs)], some (.ref es.length)) := by
  show cond (decide (0 ≤ es.length ∧ 0 ≤ zs es ∧ es.length < 999 ∧ es.length - 0 + 1 ≤ R.cells ∧ zs es - 0 + fs.length ≤ R.slots)) _ _ = _
  rw [decide_eq_true ⟨Nat.zero_le _, Nat.zero_le _, h.1, h.2.1, h.2.2⟩]
  rfl
theorem kzcall_e (R : Room) (mc ms : Nat) (K : zx_K zM) (av : List Value) (es : zM) (h : es.length + mc ≤ R.cells ∧ zs es + ms ≤ R.slots) : kzcall R 0 0 mc ms K av es = K av es := by
  show cond (decide (0 ≤ es.length ∧ 0 ≤ zs es ∧ es.length - 0 + mc ≤ R.cells ∧ zs es - 0 + ms ≤ R.slots)) _ _ = _
  rw [decide_eq_true ⟨Nat.zero_le _, Nat.zero_le _, h.1, h.2⟩]
  rfl
theorem kzcell_e (xs : Nat → Int32) (L : Nat) (R : Room) (es : zM) (h : es.length ≤ R.cells ∧ zs es ≤ R.slots) : kzcell xs L R 0 0 [.ref 1000, .int 0] es = some (es, some (.int (cel xs L))) := by
  show cond (decide ((1000 : Nat) = 1000 ∧ (0 : Int32) = 0 ∧ es.length - 0 ≤ R.cells ∧ zs es - 0 ≤ R.slots)) _ _ = _
  rw [decide_eq_true ⟨rfl, rfl, h.1, h.2⟩]
  rfl
theorem zx_stpK {M : Type} {code : List (zx_E M)} {j : Nat} {pc len kd a : Nat} {i : rx_I} {v : Int32} {sw : List (Int32 × Nat)} {K : zx_K M} {r : List (zx_E M)} (hd : code.drop j = (pc, i, len, kd + 7, a, v, sw, K) :: r) {mem mem' : M} {ls : rx_L} {st : List Value} {w : Option Value} (hb : (Nat.ble a st.length && Nat.ble st.length (a + 8)) = true) (hK : K (st.take a).reverse mem = some (mem', w)) {st' : List Value} (hs : w.toList ++ st.drop a = st') : zx_stp code j mem ls st = some (j + 1, mem', ls, st') := by
  subst hs
  unfold zx_stp
  rw [hd]
  simp only [hb, cond_true, hK]
theorem zx_stp2 {M : Type} {code : List (zx_E M)} {j : Nat} {pc len : Nat} {i : rx_I} {v : Int32} {sw : List (Int32 × Nat)} {K : zx_K M} {r : List (zx_E M)} (hd : code.drop j = (pc, i, len, 7, 2, v, sw, K) :: r) {mem mem' : M} {ls : rx_L} {x y : Value} {st : List Value} {w : Option Value} (hb : (Nat.ble 2 (y :: x :: st).length && Nat.ble (y :: x :: st).length (2 + 8)) = true) (hK : K [x, y] mem = some (mem', w)) : zx_stp code j mem ls (y :: x :: st) = some (j + 1, mem', ls, w.toList ++ st) :=
  zx_stpK (kd := 0) hd hb hK rfl
theorem zx_stpN {M : Type} {code : List (zx_E M)} {j : Nat} {pc len : Nat} {i : rx_I} {v : Int32} {sw : List (Int32 × Nat)} {K : zx_K M} {r : List (zx_E M)} (hd : code.drop j = (pc, i, len, 7, 0, v, sw, K) :: r) {mem mem' : M} {ls : rx_L} {w : Option Value} (hK : K [] mem = some (mem', w)) : zx_stp code j mem ls [] = some (j + 1, mem', ls, w.toList ++ []) :=
  zx_stpK (kd := 0) hd rfl hK rfl
theorem zx_stp0 {M : Type} {code : List (zx_E M)} {j : Nat} {pc len a : Nat} {i : rx_I} {v : Int32} {sw : List (Int32 × Nat)} {K : zx_K M} {r : List (zx_E M)} (hd : code.drop j = (pc, i, len, 0, a, v, sw, K) :: r) {mem : M} {ls ls' : rx_L} {st st' : List Value} (h : rx_st i a v ls st = some (ls', st')) : zx_stp code j mem ls st = some (j + 1, mem, ls', st') := by
  unfold zx_stp
  rw [hd]
  simp only [h]
section HE
variable {p : Program} {l : Launch} {e : Env} {s : State} {m : MethodId} {below : List Frame} {meth : Method} {c : Code} {ad : Nat → Nat} {D : va_G} {g : Nat → ClassId} {Q : State → Prop}
theorem law_head {b L : Nat} {xs : Nat → Int32} {args : Array Value} {B : Nat} (hL : L ≤ 2049) (X : ox_C p s m args c code 4 "SubscriberLinesLaw" D g ad B) (hA : zA ad B) (hz : tz s) (hX : va_X b L xs s s.heap) (hb0 : b < s.heap.size) (hbB : b < B) (hab : ad 1000 = b)
    (k : rx_X p l e room_1 s m args below meth c Q 4 ad (zW D g ad B s.heap) (zcs 0 0) 28 (en_5 (cv xs L)) [some (.ref 1000), some (.ref 0), some (.ref 82), some (.int 1)] []) :
    rx_X p l e room_1 s m args below meth c Q 4 ad (zW D g ad B s.heap) (zcs 0 0) 0 [] [some (.ref 1000), none, none, none] [] := by
  have hO := O_lwz (l := l) (e := e) (below := below) (meth := meth) hL X hA hz hX hb0 hbB hab
  have hok := ok_lwz xs L
  have hcv := cv_in xs L
  have l2 := en_2s (cv xs L) hcv
  have l3 : (en_3 (cv xs L)).length = 83 ∧ zs (en_3 (cv xs L)) = 12943 := by
    unfold en_3
    rw [zs_app, List.length_append, l2.1, l2.2]
    exact ⟨rfl, rfl⟩
  have K1 := K_sl (cel xs L)
  have K2 := K_mo (cel xs L)
  change Kc_sl [.ref 0, .int (cel xs L)] en_0 = some (en_2 (cv xs L), none) at K1
  change Kc_mo [.ref 82, .int (cel xs L)] (en_3 (cv xs L)) = some (en_5 (cv xs L), none) at K2
  generalize cv xs L = v at *
  have z0 : en_0.length + 81 ≤ room_1.cells ∧ zs en_0 + 12896 ≤ room_1.slots := ⟨show 1 + 81 ≤ 600000 by decide, show 5 + 12896 ≤ 7302250 by decide⟩
  have k5 : kzcall room_1 0 0 81 12896 Kc_sl [.ref 0, .int (cel xs L)] en_0 = some (en_2 v, none) := by
    rw [kzcall_e room_1 81 12896 Kc_sl [.ref 0, .int (cel xs L)] en_0 z0]
    exact K1
  have k12 : kzcall room_1 0 0 33 8880 Kc_mo [.ref 82, .int (cel xs L)] (en_3 v) = some (en_5 v, none) := by
    rw [kzcall_e room_1 33 8880 Kc_mo [.ref 82, .int (cel xs L)] (en_3 v) ⟨by rw [l3.1]; decide, by rw [l3.2]; decide⟩]
    exact K2
  have d5 : (L_lwz xs L).drop 5 = (9, .invokespecial 15, 3, 7, 2, 0, [], kzcall room_1 0 0 81 12896 Kc_sl) :: (L_lwz xs L).drop 6 := rfl
  have d7 : (L_lwz xs L).drop 7 = (13, .new 18, 3, 7, 0, 0, [], kznew room_1 0 0 9 nfs_9) :: (L_lwz xs L).drop 8 := rfl
  have d4 : (L_lwz xs L).drop 4 = (6, .invokestatic 9, 3, 7, 2, 0, [], kzcell xs L room_1 0 0) :: (L_lwz xs L).drop 5 := rfl
  have d11 : (L_lwz xs L).drop 11 = (19, .invokestatic 9, 3, 7, 2, 0, [], kzcell xs L room_1 0 0) :: (L_lwz xs L).drop 12 := rfl
  have d12 : (L_lwz xs L).drop 12 = (22, .invokespecial 20, 3, 7, 2, 0, [], kzcall room_1 0 0 33 8880 Kc_mo) :: (L_lwz xs L).drop 13 := rfl
  have e0 : zx_stp (L_lwz xs L) 0 [] [some (.ref 1000), none, none, none] [] = some (1, en_0, [some (.ref 1000), none, none, none], [.ref 0]) :=
    zx_stpK (kd := 0) rfl rfl (kznew_e room_1 0 nfs_0 [] ⟨by decide, by decide, by decide⟩) rfl
  have e1 : zx_stp (L_lwz xs L) 1 en_0 [some (.ref 1000), none, none, none] [.ref 0] = some (2, en_0, [some (.ref 1000), none, none, none], [.ref 0, .ref 0]) := zx_stp0 rfl rfl
  have e2 : zx_stp (L_lwz xs L) 2 en_0 [some (.ref 1000), none, none, none] [.ref 0, .ref 0] = some (3, en_0, [some (.ref 1000), none, none, none], [.ref 1000, .ref 0, .ref 0]) := zx_stp0 rfl rfl
  have e3 : zx_stp (L_lwz xs L) 3 en_0 [some (.ref 1000), none, none, none] [.ref 1000, .ref 0, .ref 0] = some (4, en_0, [some (.ref 1000), none, none, none], [.int 0, .ref 1000, .ref 0, .ref 0]) := zx_stp0 rfl rfl
  have e4 : zx_stp (L_lwz xs L) 4 en_0 [some (.ref 1000), none, none, none] [.int 0, .ref 1000, .ref 0, .ref 0] = some (5, en_0, [some (.ref 1000), none, none, none], [.int (cel xs L), .ref 0, .ref 0]) :=
    zx_stpK (kd := 0) rfl rfl (kzcell_e xs L room_1 en_0 ⟨by decide, by decide⟩) rfl
  have e5 : zx_stp (L_lwz xs L) 5 en_0 [some (.ref 1000), none, none, none] [.int (cel xs L), .ref 0, .ref 0] = some (6, en_2 v, [some (.ref 1000), none, none, none], [.ref 0]) :=
    zx_stp2 (w := none) d5 rfl k5
  have e6 : zx_stp (L_lwz xs L) 6 (en_2 v) [some (.ref 1000), none, none, none] [.ref 0] = some (7, en_2 v, [some (.ref 1000), some (.ref 0), none, none], []) := zx_stp0 rfl rfl
  have k7 : kznew room_1 0 0 9 nfs_9 [] (en_2 v) = some (en_3 v, some (.ref 82)) := by
    rw [kznew_e room_1 9 nfs_9 (en_2 v) ⟨by omega, by rw [l2.1]; decide, by rw [l2.2]; decide⟩, l2.1]
    rfl
  have e7 : zx_stp (L_lwz xs L) 7 (en_2 v) [some (.ref 1000), some (.ref 0), none, none] [] = some (8, en_3 v, [some (.ref 1000), some (.ref 0), none, none], [.ref 82]) :=
    zx_stpN (w := some (.ref 82)) d7 k7
  have e8 : zx_stp (L_lwz xs L) 8 (en_3 v) [some (.ref 1000), some (.ref 0), none, none] [.ref 82] = some (9, en_3 v, [some (.ref 1000), some (.ref 0), none, none], [.ref 82, .ref 82]) := zx_stp0 rfl rfl
  have e9 : zx_stp (L_lwz xs L) 9 (en_3 v) [some (.ref 1000), some (.ref 0), none, none] [.ref 82, .ref 82] = some (10, en_3 v, [some (.ref 1000), some (.ref 0), none, none], [.ref 1000, .ref 82, .ref 82]) := zx_stp0 rfl rfl
  have e10 : zx_stp (L_lwz xs L) 10 (en_3 v) [some (.ref 1000), some (.ref 0), none, none] [.ref 1000, .ref 82, .ref 82] = some (11, en_3 v, [some (.ref 1000), some (.ref 0), none, none], [.int 0, .ref 1000, .ref 82, .ref 82]) := zx_stp0 rfl rfl
  have e11 : zx_stp (L_lwz xs L) 11 (en_3 v) [some (.ref 1000), some (.ref 0), none, none] [.int 0, .ref 1000, .ref 82, .ref 82] = some (12, en_3 v, [some (.ref 1000), some (.ref 0), none, none], [.int (cel xs L), .ref 82, .ref 82]) :=
    zx_stp2 (w := some (.int (cel xs L))) d11 rfl (kzcell_e xs L room_1 (en_3 v) ⟨by rw [l3.1]; decide, by rw [l3.2]; decide⟩)
  have e12 : zx_stp (L_lwz xs L) 12 (en_3 v) [some (.ref 1000), some (.ref 0), none, none] [.int (cel xs L), .ref 82, .ref 82] = some (13, en_5 v, [some (.ref 1000), some (.ref 0), none, none], [.ref 82]) :=
    zx_stp2 (w := none) d12 rfl k12
  have e13 : zx_stp (L_lwz xs L) 13 (en_5 v) [some (.ref 1000), some (.ref 0), none, none] [.ref 82] = some (14, en_5 v, [some (.ref 1000), some (.ref 0), some (.ref 82), none], []) := zx_stp0 rfl rfl
  have e14 : zx_stp (L_lwz xs L) 14 (en_5 v) [some (.ref 1000), some (.ref 0), some (.ref 82), none] [] = some (15, en_5 v, [some (.ref 1000), some (.ref 0), some (.ref 82), none], [.int 1]) := zx_stp0 rfl rfl
  have e15 : zx_stp (L_lwz xs L) 15 (en_5 v) [some (.ref 1000), some (.ref 0), some (.ref 82), none] [.int 1] = some (16, en_5 v, [some (.ref 1000), some (.ref 0), some (.ref 82), some (.int 1)], []) := zx_stp0 rfl rfl
  refine zx_stp_X X.1 X.2.1 hok hO e0 rfl rfl ?_
  refine zx_stp_X X.1 X.2.1 hok hO e1 rfl rfl ?_
  refine zx_stp_X X.1 X.2.1 hok hO e2 rfl rfl ?_
  refine zx_stp_X X.1 X.2.1 hok hO e3 rfl rfl ?_
  refine zx_stp_X X.1 X.2.1 hok hO e4 rfl rfl ?_
  refine zx_stp_X X.1 X.2.1 hok hO e5 rfl rfl ?_
  refine zx_stp_X X.1 X.2.1 hok hO e6 rfl rfl ?_
  refine zx_stp_X X.1 X.2.1 hok hO e7 rfl rfl ?_
  refine zx_stp_X X.1 X.2.1 hok hO e8 rfl rfl ?_
  refine zx_stp_X X.1 X.2.1 hok hO e9 rfl rfl ?_
  refine zx_stp_X X.1 X.2.1 hok hO e10 rfl rfl ?_
  refine zx_stp_X X.1 X.2.1 hok hO e11 rfl rfl ?_
  refine zx_stp_X X.1 X.2.1 hok hO e12 rfl rfl ?_
  refine zx_stp_X X.1 X.2.1 hok hO e13 rfl rfl ?_
  refine zx_stp_X X.1 X.2.1 hok hO e14 rfl rfl ?_
  refine zx_stp_X X.1 X.2.1 hok hO e15 rfl rfl ?_
  exact k
end HE
