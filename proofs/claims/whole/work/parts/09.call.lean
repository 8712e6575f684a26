section OCa
variable {p : Program} {l : Launch} {e : Env} {R : Room} {s : State} {m : MethodId} {args : Array Value} {below : List Frame} {meth : Method} {c : Code} {cc : ByteArray} {nL : Nat} {ad : Nat → Nat} {D : va_G} {g : Nat → ClassId} {B : Nat} {own : String}
variable {y : MethodName} {bytes : ByteArray} {maxL : Nat} {ret : Option FieldType} {fr lo : Nat} {K : rx_K mx}
theorem rx_blind (av : List Value) (x : mx) : FrameBlind (rx_Pc D g ad av x) := fun _ _ _ _ h => h
theorem ow_run {mem : mx} {r : rx_R mx} {H : Heap} {locs : List Loc} {lA : Array Slot} {pc : Nat} {st0 rest : List Value} {a : Array Value} {Q : State → Prop}
    (hr : va_Run p l e R s m args below meth c H locs 0 0 0 0 (F0 m pc lA st0) (rest.map (rx_tr ad)) (rx_Qc D g ad B r a) (fun q => B ≤ q)) (hW : mx_W D g ad B s.heap mem H locs)
    (kk : ∀ (H' : Heap) (locs' : List Loc), mx_W D g ad B s.heap r.1 H' locs' → W p l e R s m args below meth c H' locs' 0 0 Q (F0 m (pc + 3) lA ((r.2.toList ++ rest).map (rx_tr ad)))) : W p l e R s m args below meth c H locs 0 0 Q (F0 m pc lA st0) := by
  intro T hT X
  obtain ⟨v, st₀, t, T', L, h0, X', hL, e1, e2, ⟨hv, hP, hz, hk⟩, st⟩ := hr T hT X
  have hv : v = r.2.map (rx_tr ad) := Outcome.returned.inj hv
  subst hv
  rw [h0] at hz hk
  obtain ⟨hP0, hS⟩ := hW
  obtain ⟨t2, a1, b1⟩ := kk T'.heap (locs ++ L) ⟨by rw [e1]; exact hP, Nat.le_trans hS.1 (by rw [e1]; exact hz), fun q h1 h2 => by rw [e1, hk q (Nat.lt_of_lt_of_le h1 hS.1) h2]; exact hS.2.1 q h1 h2, fun q hq => by
      rcases List.mem_append.mp hq with h | h
      · exact hS.2.2 q h
      · exact hL q h⟩ T' rfl X'
  refine ⟨t2, st t2 ?_, b1⟩
  have hs : (r.2.map (rx_tr ad)).toList ++ rest.map (rx_tr ad) = (r.2.toList ++ rest).map (rx_tr ad) := by cases r.2 <;> rfl
  rw [hs]
  exact a1
theorem ox_callV {idx n q N : Nat} {T : u_T} (X : ox_C p s m args c cc nL own D g ad B) (hV : rx_V l D g ad B y bytes maxL ret fr lo K) (hself : ∀ (av : List Value) (x : mx), (K av x).1 → ∃ (t : Nat) (r : List Value), av = .ref t :: r ∧ mx_kl t = q) (hq : q < 20) (hcl : mx_cl[q]? = some (y.cls, T, N))
    (hlink : Cond.methodLink own idx y ∈ al) (hinst : Cond.instanceMethod y ∈ al) (hsel : Cond.selects y.cls y y ∈ al) (hini : Cond.initialized y.cls ∈ al) (hcode : Cond.code y bytes maxL ret ∈ al)
    (hd : y.cls ≠ "java/lang/invoke/MethodHandle" ∧ y.cls ≠ "java/lang/invoke/VarHandle" ∧ (parseMethodDescriptor y.desc).map (fun d => d.parameters.length) = some n) (hR : fr + 1 ≤ R.frames ∧ 8 + (maxL + 11) + lo ≤ R.locals) :
    rx_OK p l e R s m args below meth c cc nL ad (mx_W D g ad B s.heap) mx_cs (.invokevirtual idx) 3 (n + 1) K := by
  intro pc mem H locs lA av rest Q ha hp hW hsz hrest hdec kk
  obtain ⟨t, r, rfl, ht⟩ := hself av mem hp
  obtain ⟨hx, hb, hml, hown, hts, htb, had⟩ := X
  have hG : GoodIn al (wsV own idx y.cls y (Cond.code y bytes maxL ret :: al)) := al_good (by
    intro w hw
    simp only [wsV, List.cons_append, List.nil_append, List.mem_cons] at hw
    rcases hw with rfl | rfl | rfl | rfl | rfl | hw
    · exact hlink
    · exact hinst
    · exact hsel
    · exact hini
    · exact hcode
    · exact hw)
  have cw := cwV (R := R) (rm := { frames := fr, cells := 0, slots := 0, locals := lo }) (mc := 0) (ms := 0) n hts hG rfl rfl rfl ⟨rfl, hd⟩ hR
  refine ow_run (va_runV (As := r.map (rx_tr ad)) ⟨hx, hb, hml, hown, hts⟩ (hV (.ref t :: r) mem hp) cw ⟨rx_blind _ _, va_recv htb.1 hW.1 hcl (mx_ws_ob ht hq), fun U hU hw => ⟨rfl, tb_moved hw htb, by rw [hU]; exact hW.1⟩⟩ rfl ?_ hsz ?_ ?_ hdec ⟨Nat.zero_le _, Nat.zero_le _⟩) hW kk
  · simp only [List.length_cons] at ha
    rw [List.length_map]
    omega
  · show ((Value.ref t :: r).reverse ++ rest).map (rx_tr ad) = (r.map (rx_tr ad)).reverse ++ Value.ref (ad t) :: rest.map (rx_tr ad)
    simp [rx_tr]
  · exact lv_room (by rw [rx_cat_sum]; exact hrest)
theorem ox_callS {idx n : Nat} (X : ox_C p s m args c cc nL own D g ad B) (hV : rx_V l D g ad B y bytes maxL ret fr lo K) (hlink : Cond.methodLink own idx y ∈ al) (hstat : Cond.static y ∈ al) (hini : Cond.initialized own ∈ al) (hcode : Cond.code y bytes maxL ret ∈ al)
    (hd : y.cls = own ∧ y.cls ≠ "java/lang/invoke/MethodHandle" ∧ y.cls ≠ "java/lang/invoke/VarHandle" ∧ (parseMethodDescriptor y.desc).map (fun d => d.parameters.length) = some n) (hR : fr + 1 ≤ R.frames ∧ 8 + (maxL + 11) + lo ≤ R.locals) :
    rx_OK p l e R s m args below meth c cc nL ad (mx_W D g ad B s.heap) mx_cs (.invokestatic idx) 3 n K := by
  intro pc mem H locs lA av rest Q ha hp hW hsz hrest hdec kk
  obtain ⟨hx, hb, hml, hown, hts, htb, had⟩ := X
  have hG : GoodIn al (wsS own idx y (Cond.code y bytes maxL ret :: al)) := al_good (by
    intro w hw
    simp only [wsS, List.cons_append, List.nil_append, List.mem_cons] at hw
    rcases hw with rfl | rfl | rfl | rfl | hw
    · exact hlink
    · exact hstat
    · exact hini
    · exact hcode
    · exact hw)
  have cw := cwS (R := R) (rm := { frames := fr, cells := 0, slots := 0, locals := lo }) (mc := 0) (ms := 0) n hts hG rfl rfl rfl hd hR
  refine ow_run (va_runS (As := av.map (rx_tr ad)) ⟨hx, hb, hml, hown, hts⟩ (hV av mem hp) cw ⟨rx_blind _ _, fun U hU hw => ⟨rfl, tb_moved hw htb, by rw [hU]; exact hW.1⟩⟩ rfl ?_ hsz ?_ ?_ hdec ⟨Nat.zero_le _, Nat.zero_le _⟩) hW kk
  · rw [List.length_map]
    exact ha
  · show (av.reverse ++ rest).map (rx_tr ad) = (av.map (rx_tr ad)).reverse ++ rest.map (rx_tr ad)
    rw [List.map_append, List.map_reverse]
  · exact lv_room (by rw [rx_cat_sum]; exact hrest)
/-- a call of one of Node's abstract methods, on an object whose class is known -/
theorem ow_callA {idx n q N t pc : Nat} {T : u_T} {xm : MethodName} {mem : mx} {H : Heap} {locs : List Loc} {lA : Array Slot} {r rest : List Value} {Q : State → Prop} (X : ox_C p s m args c cc nL own D g ad B) (hV : rx_V l D g ad B y bytes maxL ret fr lo K) (hp : (K (.ref t :: r) mem).1) (ht : mx_kl t = q) (hq : q < 20) (hcl : mx_cl[q]? = some (y.cls, T, N))
    (hlink : Cond.methodLink own idx xm ∈ al) (hsame : Cond.sameMethod xm.cls "SubscriberLines$Node" xm.name xm.desc ∈ al) (hsel : Cond.selects y.cls xm y ∈ al) (hinst : Cond.instanceMethod y ∈ al) (hini : Cond.initialized y.cls ∈ al) (hcode : Cond.code y bytes maxL ret ∈ al) (hz : va_Nw (.declares ⟨"SubscriberLines$Node", xm.name, xm.desc⟩) s)
    (hd : (parseMethodDescriptor xm.desc).map (fun d => d.parameters.length) = some n) (hR : fr + 1 ≤ R.frames ∧ 8 + (maxL + 11) + lo ≤ R.locals) (hW : mx_W D g ad B s.heap mem H locs) (hsz : lA.size = nL) (hlen : r.length = n) (hrest : rest.length ≤ 8) (hdec : decode cc pc = .ok (.invokevirtual idx, 3))
    (kk : ∀ (H' : Heap) (locs' : List Loc), mx_W D g ad B s.heap (K (.ref t :: r) mem).2.1 H' locs' → W p l e R s m args below meth c H' locs' 0 0 Q (F0 m (pc + 3) lA (((K (.ref t :: r) mem).2.2.toList ++ rest).map (rx_tr ad)))) :
    W p l e R s m args below meth c H locs 0 0 Q (F0 m pc lA (((Value.ref t :: r).reverse ++ rest).map (rx_tr ad))) := by
  obtain ⟨hx, hb, hml, hown, hts, htb, had⟩ := X
  have hG : GoodIn al (va_wsU own idx y.cls "SubscriberLines$Node" xm y (Cond.code y bytes maxL ret :: al)) := al_good (by
    intro w hw
    simp only [va_wsU, List.cons_append, List.nil_append, List.mem_cons] at hw
    rcases hw with rfl | rfl | rfl | rfl | rfl | rfl | hw
    · exact hlink
    · exact hsame
    · exact hsel
    · exact hinst
    · exact hini
    · exact hcode
    · exact hw)
  have cw := va_cwA (R := R) (rm := { frames := fr, cells := 0, slots := 0, locals := lo }) (mc := 0) (ms := 0) n hts hG rfl rfl rfl hz ⟨by decide, by decide, hd⟩ hR
  refine ow_run (va_runU (As := r.map (rx_tr ad)) ⟨hx, hb, hml, hown, hts⟩ (hV (.ref t :: r) mem hp) cw ⟨rx_blind _ _, va_recv htb.1 hW.1 hcl (mx_ws_ob ht hq), fun U hU hw => ⟨rfl, tb_moved hw htb, by rw [hU]; exact hW.1⟩⟩ rfl ?_ hsz ?_ ?_ hdec ⟨Nat.zero_le _, Nat.zero_le _⟩) hW kk
  · rw [List.length_map]
    exact hlen
  · show ((Value.ref t :: r).reverse ++ rest).map (rx_tr ad) = (r.map (rx_tr ad)).reverse ++ Value.ref (ad t) :: rest.map (rx_tr ad)
    simp [rx_tr]
  · exact lv_room (by rw [rx_cat_sum]; exact hrest)
end OCa
