theorem arr_cl {args : Array Value} {s : State} {ty : FieldType} (hn : ∀ C, ¬ ty = .object C) (h : (Cond.arrayClass ty).before args s = true) : ∃ cA : ClassId, ArrOfT s cA ty ∧ va_RA s cA ty := by
  obtain ⟨c, k, comp, h1, h2, h3⟩ := Cond.arrayClass_spec h
  refine ⟨c, fun n z => ⟨fun k => by unfold arrV; simp, k, h2, comp, h3⟩, ?_⟩
  unfold va_RA
  split
  · next C => exact absurd rfl (hn C)
  · exact h1
theorem arr_ov {args : Array Value} {s : State} {C : String} (h : (Cond.arrayOver (.object C)).before args s = true) : ∃ cA : ClassId, ArrOfT s cA (.object C) ∧ va_RA s cA (.object C) := by
  obtain ⟨comp, c, k, h1, h2, h3, h4, h5⟩ := Cond.arrayOver_spec h
  exact ⟨c, fun n z => ⟨fun k => by unfold arrV; simp, k, h3, comp, h4⟩, k, comp, h3, h4, h1, h5⟩
theorem lw_at {w : Cond} (i : Nat) (h : tables_1[i]? = some w) : w ∈ lw_tbl := List.mem_append_right _ (List.mem_of_getElem? h)
theorem tb_start {s : State} {args : Array Value} (hts : ∀ w ∈ lw_tbl, w.before args s = true) : ∃ (D : va_G) (g : Nat → ClassId), tb D g s ∧ tz s := by
  have hal : ∀ w ∈ al, w.before args s = true := fun w hw => hts w (List.mem_filter.mp hw).1
  obtain ⟨c0, i0, k0⟩ := u_known (n := 5) hal in_0 (hts _ (lw_at 14 (by decide +kernel)))
  obtain ⟨c1, i1, k1⟩ := u_known (n := 3) hal in_1 (hts _ (lw_at 22 (by decide +kernel)))
  obtain ⟨c2, i2, k2⟩ := u_known (n := 9) hal in_2 (hts _ (lw_at 29 (by decide +kernel)))
  obtain ⟨c3, i3, k3⟩ := u_known (n := 2) hal in_3 (hts _ (lw_at 115 (by decide +kernel)))
  obtain ⟨c4, i4, k4⟩ := u_known (n := 12) hal in_4 (hts _ (lw_at 106 (by decide +kernel)))
  obtain ⟨c5, i5, k5⟩ := u_known (n := 8) hal in_5 (hts _ (lw_at 170 (by decide +kernel)))
  obtain ⟨c6, i6, k6⟩ := u_known (n := 5) hal in_6 (hts _ (lw_at 262 (by decide +kernel)))
  obtain ⟨c7, i7, k7⟩ := u_known (n := 12) hal in_7 (hts _ (lw_at 245 (by decide +kernel)))
  obtain ⟨c8, i8, k8⟩ := u_known (n := 12) hal in_8 (hts _ (lw_at 176 (by decide +kernel)))
  obtain ⟨c9, i9, k9⟩ := u_known (n := 42) hal in_9 (hts _ (lw_at 706 (by decide +kernel)))
  obtain ⟨g0, a0⟩ := arr_cl (ty := .int) (fun C h => by cases h) (hts _ (lw_at 128 (by decide +kernel)))
  obtain ⟨g1, a1⟩ := arr_cl (ty := .boolean) (fun C h => by cases h) (hts _ (lw_at 288 (by decide +kernel)))
  have o2 := hts (Cond.arrayOver (.object "SubscriberLines$Packet")) (lw_at 28 (by decide +kernel))
  have o3 := hts (Cond.arrayOver (.object "SubscriberLines$Session")) (lw_at 257 (by decide +kernel))
  have o4 := hts (Cond.arrayOver (.object "SubscriberLines$Subscriber")) (lw_at 103 (by decide +kernel))
  have o5 := hts (Cond.arrayOver (.object "SubscriberLines$Node")) (lw_at 105 (by decide +kernel))
  obtain ⟨g2, a2⟩ := arr_ov o2
  obtain ⟨g3, a3⟩ := arr_ov o3
  obtain ⟨g4, a4⟩ := arr_ov o4
  obtain ⟨g5, a5⟩ := arr_ov o5
  refine ⟨(fun i => match i with | 0 => c0 | 1 => c1 | 2 => c2 | 3 => c3 | 4 => c4 | 5 => c5 | 6 => c6 | 7 => c7 | 8 => c8 | _ => c9, fun i => match i with | 0 => i0 | 1 => i1 | 2 => i2 | 3 => i3 | 4 => i4 | 5 => i5 | 6 => i6 | 7 => i7 | 8 => i8 | _ => i9), fun i => match i with | 0 => g0 | 1 => g1 | 2 => g2 | 3 => g3 | 4 => g4 | _ => g5, ⟨⟨?_, ?_⟩, ?_, ?_⟩, ⟨⟨va_AO.of o2, va_AO.of o4, va_AO.of o5, va_AO.of o3⟩, ⟨?_, ?_, ?_, ?_, ?_⟩, ?_, ?_, ?_⟩⟩
  · intro c q hq
    match c, hq with
    | 0, hq => cases hq; exact k0
    | 1, hq => cases hq; exact k1
    | 2, hq => cases hq; exact k2
    | 3, hq => cases hq; exact k3
    | 4, hq => cases hq; exact k4
    | 5, hq => cases hq; exact k5
    | 6, hq => cases hq; exact k6
    | 7, hq => cases hq; exact k7
    | 8, hq => cases hq; exact k8
    | 9, hq => cases hq; exact k9
    | n + 10, hq => simp [mx_cl] at hq
  · intro c q hq
    match c, hq with
    | 0, hq => cases hq; exact a0
    | 1, hq => cases hq; exact a1
    | 2, hq => cases hq; exact a2
    | 3, hq => cases hq; exact a3
    | 4, hq => cases hq; exact a4
    | 5, hq => cases hq; exact a5
    | n + 6, hq => simp [mx_ty] at hq
  · exact va_Nw.of rfl (hts _ (lw_at 449 (by decide +kernel)))
  · exact va_Nw.of rfl (hts _ (lw_at 603 (by decide +kernel)))
  · exact va_Nw.of rfl (hts _ (lw_at 30 (by decide +kernel)))
  · exact va_Nw.of rfl (hts _ (lw_at 110 (by decide +kernel)))
  · exact va_Nw.of rfl (hts _ (lw_at 174 (by decide +kernel)))
  · exact va_Nw.of rfl (hts _ (lw_at 255 (by decide +kernel)))
  · exact va_Nw.of rfl (hts _ (lw_at 263 (by decide +kernel)))
  · exact va_Nw.of rfl (hts _ (lw_at 1041 (by decide +kernel)))
  · exact va_Nw.of rfl (hts _ (lw_at 1042 (by decide +kernel)))
  · exact va_Nw.of rfl (hts _ (lw_at 1043 (by decide +kernel)))
def lw_ad (b N : Nat) (i : Nat) : Nat := if i = 1000 then b else N + i
theorem lw_ad_A (b N : Nat) : mx_A (lw_ad b N) N := by
  unfold lw_ad
  refine ⟨fun i j hi hj h => ?_, fun i hi => ?_⟩
  · change (if i = 1000 then b else N + i) = (if j = 1000 then b else N + j) at h
    rw [if_neg (by omega), if_neg (by omega)] at h
    omega
  · change N ≤ (if i = 1000 then b else N + i)
    rw [if_neg (by omega)]
    omega
theorem lw_ad_z (b N : Nat) : zA (lw_ad b N) N := fun i hi => if_neg (by omega)
theorem cv_le (xs : Nat → Int32) (L : Nat) : (cv xs L).toInt ≤ 4 := by
  have h := cv_in xs L
  generalize cv xs L = v at h
  simp at h
  rcases h with h | h | h | h <;> subst h <;> decide
/-- YOUR PART: from the entry, for every script of at most 2049 ints, the law comes to its end with true -/
theorem whole_start {p : Program} {e : Env} {s : State} {m : MethodId} {below : List Frame} {meth : Method} {c : Code} (l : Launch) {b L : Nat} {xs : Nat → Int32} (hL : L ≤ 2049) (C0 : lw_At p s m meth c b L xs) : W p l e room_1 s m #[Value.ref b] below meth c s.heap [] 0 0 (lw_Z below #[Value.ref b] s) (entryFrame m ([Value.ref b] : List Value).toArray 4) := by
  obtain ⟨hx, hb, hr, hml, hown, hts, hX, hb0, hlocks, -⟩ := C0
  obtain ⟨D, g, htb, hz⟩ := tb_start hts
  have had := lw_ad_A b s.heap.size
  have hA := lw_ad_z b s.heap.size
  have hab : lw_ad b s.heap.size 1000 = b := if_pos rfl
  generalize lw_ad b s.heap.size = ad at had hA hab
  have X : ox_C p s m #[Value.ref b] c code 4 "SubscriberLinesLaw" D g ad s.heap.size := ⟨hx, hb, hml, hown, fun w hw => hts w (List.mem_filter.mp hw).1, htb, had⟩
  have hcv := cv_in xs L
  obtain ⟨r1, r2⟩ := run_0 xs L hL (cv xs L) (cv_le xs L) 513 (by decide)
  have s5 := en_5s (cv xs L) hcv
  have hloop : rx_X p l e room_1 s m #[Value.ref b] below meth c (lw_Z below #[Value.ref b] s) 4 ad (zW D g ad s.heap.size s.heap) (zcs 0 0) 28 (en_5 (cv xs L)) [some (.ref 1000), some (.ref 0), some (.ref 82), some (.int 1)] [] := by
    intro H locs lA hW hl
    have h := law_loop (l := l) (e := e) (below := below) (k0 := 116) (n0 := 21823) X hr hlocks ⟨by decide, by decide⟩ hX hb0 hab (res := rz (la_28 xs L 513 (c_0 (cv xs L)) (m_0 (cv xs L)) 1)) (by unfold rz; rw [r2]) 513 (c_0 (cv xs L), m_0 (cv xs L)) [some (.ref 1000), some (.ref 0), some (.ref 82), some (.int 1)] [] ⟨⟨rfl, rfl, rfl⟩, r1⟩ rfl H locs lA ⟨z_end hcv hW.1, hW.2.1⟩ hl
    have hc : zcs 0 0 (en_5 (cv xs L)) = (116, 21823) := by
      unfold zcs
      rw [s5.1, s5.2]
    rw [hc]
    exact h
  have h0 := law_head (l := l) (e := e) (below := below) (meth := meth) hL X hA hz hX hb0 hb0 hab hloop
  have hl := lv_entry (([.ref 1000] : List Value).map (rx_tr ad)) (n := 4) (by rw [lg_sl_len]; decide)
  have hargs : ([Value.ref b] : List Value) = ([.ref 1000] : List Value).map (rx_tr ad) := by simp [rx_tr, hab]
  have hen : entryFrame m ([Value.ref b] : List Value).toArray 4 = F0 m 0 (lg_sl (([.ref 1000] : List Value).map (rx_tr ad)) ++ List.replicate (4 - (lg_sl (([.ref 1000] : List Value).map (rx_tr ad))).length) Slot.unset).toArray [] := by
    rw [hargs, lg_entry_eq]
  rw [hen]
  generalize (lg_sl (([.ref 1000] : List Value).map (rx_tr ad)) ++ List.replicate (4 - (lg_sl (([.ref 1000] : List Value).map (rx_tr ad))).length) Slot.unset).toArray = ls at hl ⊢
  have hz0 : zW D g ad s.heap.size s.heap [] s.heap [] := And.intro (fun k q hk => absurd hk (by simp [zw])) (And.intro va_S.rf (And.intro rfl (by decide)))
  have h1 := h0 s.heap [] ls hz0 (by
    have := rx_lv_args (ad := ad) [.ref 1000] 0 3
    exact this ▸ hl)
  exact h1
