/-! Constructors: their contracts, calls of them -/
def tz (U : State) : Prop := (va_AO "SubscriberLines$Packet" U ∧ va_AO "SubscriberLines$Subscriber" U ∧ va_AO "SubscriberLines$Node" U ∧ va_AO "SubscriberLines$Session" U) ∧
  (va_Nw (.methodLinkNest "SubscriberLines$Flight" 17 ⟨"SubscriberLines$Packet", "<init>", "()V"⟩ "SubscriberLines") U ∧ va_Nw (.methodLinkNest "SubscriberLines$Subscriber" 3 ⟨"SubscriberLines$Node", "<init>", "()V"⟩ "SubscriberLines") U ∧ va_Nw (.methodLinkNest "SubscriberLines$Access" 3 ⟨"SubscriberLines$Node", "<init>", "()V"⟩ "SubscriberLines") U ∧ va_Nw (.methodLinkNest "SubscriberLines$Server" 3 ⟨"SubscriberLines$Node", "<init>", "()V"⟩ "SubscriberLines") U ∧ va_Nw (.methodLinkNest "SubscriberLines$Server" 54 ⟨"SubscriberLines$Session", "<init>", "()V"⟩ "SubscriberLines") U) ∧
  (va_Nw (.castable "SubscriberLines$Access" "SubscriberLines$Node") U ∧ va_Nw (.castable "SubscriberLines$Server" "SubscriberLines$Node") U ∧ va_Nw (.castable "SubscriberLines$Subscriber" "SubscriberLines$Node") U)
theorem tz_moved {s U : State} (hW : s.WarmedH U.vm) (h : tz s) : tz U := by
  obtain ⟨⟨a1, a2, a3, a4⟩, ⟨b1, b2, b3, b4, b5⟩, c1, c2, c3⟩ := h
  exact ⟨⟨a1.moved hW.alike, a2.moved hW.alike, a3.moved hW.alike, a4.moved hW.alike⟩, ⟨va_Nw.warmM hW b1, va_Nw.warmM hW b2, va_Nw.warmM hW b3, va_Nw.warmM hW b4, va_Nw.warmM hW b5⟩, va_Nw.warmC hW c1, va_Nw.warmC hW c2, va_Nw.warmC hW c3⟩
def zx_Pc (D : va_G) (g : Nat → ClassId) (ad : Nat → Nat) (B : Nat) (av : List Value) (es : zM) : Array Value → State → Prop := fun a U => a = (av.map (rx_tr ad)).toArray ∧ tb D g U ∧ tz U ∧ va_P D mx_cl (zw g ad 0 es) U.heap ∧ U.heap.size = B + es.length ∧ es.length < 1000
def zx_Qc (D : va_G) (g : Nat → ClassId) (ad : Nat → Nat) (B : Nat) (es : zM) : Array Value → State → Outcome → State → Prop := fun _ st oc t => oc = .returned none ∧ va_P D mx_cl (zw g ad 0 es) t.heap ∧ t.heap.size = B + es.length ∧ es.length < 1000 ∧ va_F (fun q => B ≤ q) st t
def zx_V (l : Launch) (D : va_G) (g : Nat → ClassId) (ad : Nat → Nat) (B : Nat) (y : MethodName) (bytes : ByteArray) (maxL : Nat) (fr lo mc ms : Nat) (K : zx_K zM) : Prop :=
  ∀ (av : List Value) (es : zM) (res : rx_R zM), K av es = some res → (∃ (t : Nat) (r : List Value), av = .ref t :: r) ∧ res.2 = none ∧ res.1.length = es.length + mc ∧ zs res.1 = zs es + ms ∧
    Met l y (Cond.code y bytes maxL none :: al) ({ frames := fr, cells := mc, slots := ms, locals := lo } : Room) (zx_Pc D g ad B av es) (zx_Qc D g ad B res.1) mc ms (fun q => B ≤ q)
def kzcall (R : Room) (n0 s0 mc ms : Nat) (K : zx_K zM) : zx_K zM := fun av es => cond (decide (n0 ≤ es.length ∧ s0 ≤ zs es ∧ es.length - n0 + mc ≤ R.cells ∧ zs es - s0 + ms ≤ R.slots)) (K av es) none
section ZT
variable {p : Program} {l : Launch} {e : Env} {R : Room} {s : State} {m : MethodId} {args : Array Value} {below : List Frame} {meth : Method} {c : Code} {cc : ByteArray} {nL : Nat} {ad : Nat → Nat} {D : va_G} {g : Nat → ClassId} {B n0 s0 : Nat} {own : String}
variable {y : MethodName} {bytes : ByteArray} {maxL : Nat} {fr lo mc ms : Nat} {K : zx_K zM}
theorem zx_blind (av : List Value) (es : zM) : FrameBlind (zx_Pc D g ad B av es) := fun _ _ _ _ h => h
theorem kzcall_i {av : List Value} {es : zM} {res : rx_R zM} (h : kzcall R n0 s0 mc ms K av es = some res) : K av es = some res ∧ n0 ≤ es.length ∧ s0 ≤ zs es ∧ es.length - n0 + mc ≤ R.cells ∧ zs es - s0 + ms ≤ R.slots := by
  unfold kzcall at h
  by_cases hc : (n0 ≤ es.length ∧ s0 ≤ zs es ∧ es.length - n0 + mc ≤ R.cells ∧ zs es - s0 + ms ≤ R.slots)
  · simp only [hc, and_self, decide_true, cond_true] at h
    exact ⟨h, hc⟩
  · simp only [hc, decide_false, cond_false] at h
    cases h
theorem zo_run {mem : zM} {r : zM} {H : Heap} {locs : List Loc} {lA : Array Slot} {pc cells slots : Nat} {st0 rest : List Value} {a : Array Value} {Q : State → Prop}
    (hr : va_Run p l e R s m args below meth c H locs cells slots mc ms (F0 m pc lA st0) (rest.map (rx_tr ad)) (zx_Qc D g ad B r a) (fun q => B ≤ q)) (hW : zW D g ad B s.heap mem H locs)
    (kk : ∀ (H' : Heap) (locs' : List Loc), zW D g ad B s.heap r H' locs' → W p l e R s m args below meth c H' locs' (cells + mc) (slots + ms) Q (F0 m (pc + 3) lA (rest.map (rx_tr ad)))) : W p l e R s m args below meth c H locs cells slots Q (F0 m pc lA st0) := by
  intro T hT X
  obtain ⟨v, st₀, t, T', L, h0, X', hL, e1, e2, ⟨hv, hP, hsz, hlen, hz, hk⟩, st⟩ := hr T hT X
  have hv : v = none := Outcome.returned.inj hv
  subst hv
  rw [h0] at hz hk
  obtain ⟨hP0, hS, -, -⟩ := hW
  obtain ⟨t2, a1, b1⟩ := kk T'.heap (locs ++ L) ⟨by rw [e1]; exact hP, ⟨Nat.le_trans hS.1 (by rw [e1]; exact hz), fun q h1 h2 => by rw [e1, hk q (Nat.lt_of_lt_of_le h1 hS.1) h2]; exact hS.2.1 q h1 h2, fun q hq => by
      rcases List.mem_append.mp hq with h | h
      · exact hS.2.2 q h
      · exact hL q h⟩, by rw [e1]; exact hsz, hlen⟩ T' rfl X'
  exact ⟨t2, st t2 a1, b1⟩
theorem zo_call {idx n : Nat} (X : ox_C p s m args c cc nL own D g ad B) (hz : tz s) (hV : zx_V l D g ad B y bytes maxL fr lo mc ms K) (hlink : Cond.methodLink own idx y ∈ al) (hinst : Cond.instanceMethod y ∈ al) (hini : Cond.initialized y.cls ∈ al) (hcode : Cond.code y bytes maxL none ∈ al) (hy1 : y.name = "<init>")
    (hd : y.cls ≠ "java/lang/invoke/MethodHandle" ∧ y.cls ≠ "java/lang/invoke/VarHandle" ∧ (parseMethodDescriptor y.desc).map (fun d => d.parameters.length) = some n) (hR : fr + 1 ≤ R.frames ∧ 8 + (maxL + 11) + lo ≤ R.locals) :
    rx_OK p l e R s m args below meth c cc nL ad (zW D g ad B s.heap) (zcs n0 s0) (.invokespecial idx) 3 (n + 1) (zx_k (kzcall R n0 s0 mc ms K)) := by
  refine zx_OKi fun pc mem H locs lA av rest Q res ha hK hW hsz hrest hdec kk => ?_
  obtain ⟨hK, c1, c2, c3, c4⟩ := kzcall_i hK
  obtain ⟨⟨t, r, rfl⟩, hr2, hrl, hrs, hM⟩ := hV _ _ _ hK
  obtain ⟨hx, hb, hml, hown, hts, htb, had⟩ := X
  have hG : GoodIn al (Cond.code y bytes maxL none :: al) := al_good (by
    intro w hw
    rcases List.mem_cons.mp hw with rfl | hw
    · exact hcode
    · exact hw)
  have cw := cwI (R := R) (rm := { frames := fr, cells := mc, slots := ms, locals := lo }) (mc := mc) (ms := ms) n hts hG rfl rfl rfl (hts _ hini) (hts _ hlink) (hts _ hinst) hy1 hd hR
  refine zo_run (rest := rest) (va_runI (As := r.map (rx_tr ad)) ⟨hx, hb, hml, hown, hts⟩ hM cw ⟨zx_blind _ _, fun U hU hw => ⟨rfl, tb_moved hw htb, tz_moved hw hz, by rw [hU]; exact hW.1, by rw [hU]; exact hW.2.2.1, hW.2.2.2⟩⟩ rfl ?_ hsz ?_ ?_ hdec ⟨c3, c4⟩) hW fun H' locs' hW' => ?_
  · simp only [List.length_cons] at ha
    rw [List.length_map]
    omega
  · show ((Value.ref t :: r).reverse ++ rest).map (rx_tr ad) = (r.map (rx_tr ad)).reverse ++ Value.ref (ad t) :: rest.map (rx_tr ad)
    simp [rx_tr]
  · exact lv_room (by rw [rx_cat_sum]; exact hrest)
  · have h1 := kk H' locs' hW'
    have h2 : zcs n0 s0 res.1 = ((zcs n0 s0 mem).1 + mc, (zcs n0 s0 mem).2 + ms) := by
      unfold zcs
      rw [hrl, hrs, show mem.length + mc - n0 = mem.length - n0 + mc by omega, show zs mem + ms - s0 = zs mem - s0 + ms by omega]
    rw [h2, hr2] at h1
    exact h1
theorem zo_callN {idx n : Nat} {host : String} (X : ox_C p s m args c cc nL own D g ad B) (hz : tz s) (hV : zx_V l D g ad B y bytes maxL fr lo mc ms K) (hlink : va_Nw (.methodLinkNest own idx y host) s) (hinst : Cond.instanceMethod y ∈ al) (hini : Cond.initialized y.cls ∈ al) (hcode : Cond.code y bytes maxL none ∈ al) (hy1 : y.name = "<init>")
    (hd : y.cls ≠ "java/lang/invoke/MethodHandle" ∧ y.cls ≠ "java/lang/invoke/VarHandle" ∧ (parseMethodDescriptor y.desc).map (fun d => d.parameters.length) = some n) (hR : fr + 1 ≤ R.frames ∧ 8 + (maxL + 11) + lo ≤ R.locals) :
    rx_OK p l e R s m args below meth c cc nL ad (zW D g ad B s.heap) (zcs n0 s0) (.invokespecial idx) 3 (n + 1) (zx_k (kzcall R n0 s0 mc ms K)) := by
  refine zx_OKi fun pc mem H locs lA av rest Q res ha hK hW hsz hrest hdec kk => ?_
  obtain ⟨hK, c1, c2, c3, c4⟩ := kzcall_i hK
  obtain ⟨⟨t, r, rfl⟩, hr2, hrl, hrs, hM⟩ := hV _ _ _ hK
  obtain ⟨hx, hb, hml, hown, hts, htb, had⟩ := X
  have hG : GoodIn al (Cond.code y bytes maxL none :: al) := al_good (by
    intro w hw
    rcases List.mem_cons.mp hw with rfl | hw
    · exact hcode
    · exact hw)
  have cw := va_cnB (R := R) (rm := { frames := fr, cells := mc, slots := ms, locals := lo }) (mc := mc) (ms := ms) (args := args) n hts hG rfl rfl rfl hlink (hts _ hini) hd hR
  refine zo_run (rest := rest) (va_runIN (As := r.map (rx_tr ad)) ⟨hx, hb, hml, hown, hts⟩ hM ⟨cw, hy1, hts _ hinst⟩ ⟨zx_blind _ _, fun U hU hw => ⟨rfl, tb_moved hw htb, tz_moved hw hz, by rw [hU]; exact hW.1, by rw [hU]; exact hW.2.2.1, hW.2.2.2⟩⟩ rfl ?_ hsz ?_ ?_ hdec ⟨c3, c4⟩) hW fun H' locs' hW' => ?_
  · simp only [List.length_cons] at ha
    rw [List.length_map]
    omega
  · show ((Value.ref t :: r).reverse ++ rest).map (rx_tr ad) = (r.map (rx_tr ad)).reverse ++ Value.ref (ad t) :: rest.map (rx_tr ad)
    simp [rx_tr]
  · exact lv_room (by rw [rx_cat_sum]; exact hrest)
  · have h1 := kk H' locs' hW'
    have h2 : zcs n0 s0 res.1 = ((zcs n0 s0 mem).1 + mc, (zcs n0 s0 mem).2 + ms) := by
      unfold zcs
      rw [hrl, hrs, show mem.length + mc - n0 = mem.length - n0 + mc by omega, show zs mem + ms - s0 = zs mem - s0 + ms by omega]
    rw [h2, hr2] at h1
    exact h1
end ZT
