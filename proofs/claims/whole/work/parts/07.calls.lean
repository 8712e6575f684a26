def tb (D : va_G) (g : Nat → ClassId) (U : State) : Prop := va_K D mx_cl (mx_ty g) U ∧ va_Nw (.declares ⟨"SubscriberLines$Node", "receive", "(LSubscriberLines$Packet;)V"⟩) U ∧ va_Nw (.declares ⟨"SubscriberLines$Node", "runTimer", "()V"⟩) U
theorem tb_moved {D : va_G} {g : Nat → ClassId} {s U : State} (hW : s.WarmedH U.vm) (h : tb D g s) : tb D g U := ⟨va_K.moved hW.alike h.1, va_Nw.warmD hW h.2.1, va_Nw.warmD hW h.2.2⟩
def ox_C (p : Program) (s : State) (m : MethodId) (args : Array Value) (c : Code) (cc : ByteArray) (nL : Nat) (own : String) (D : va_G) (g : Nat → ClassId) (ad : Nat → Nat) (B : Nat) : Prop :=
  p.tables.exec = Jvm.exec ∧ c.code = cc ∧ c.maxLocals = nL ∧ s.vm.findClass own = some m.cls ∧ (∀ w ∈ al, w.before args s = true) ∧ tb D g s ∧ mx_A ad B
theorem al_good {ws : List Cond} (h : ∀ w ∈ ws, w ∈ al) : GoodIn al ws := fun w hw => ⟨h w hw, good_of_word (List.mem_filter.mp (h w hw)).2⟩
def rx_Pc (D : va_G) (g : Nat → ClassId) (ad : Nat → Nat) (av : List Value) (x : mx) : Array Value → State → Prop := fun a U => a = (av.map (rx_tr ad)).toArray ∧ tb D g U ∧ va_P D mx_cl (mx_ws g ad x) U.heap
def rx_Qc (D : va_G) (g : Nat → ClassId) (ad : Nat → Nat) (B : Nat) (r : rx_R mx) : Array Value → State → Outcome → State → Prop := fun _ st oc t => oc = .returned (r.2.map (rx_tr ad)) ∧ va_P D mx_cl (mx_ws g ad r.1) t.heap ∧ va_F (fun q => B ≤ q) st t
/-- a method's contract -/
def rx_V (l : Launch) (D : va_G) (g : Nat → ClassId) (ad : Nat → Nat) (B : Nat) (y : MethodName) (bytes : ByteArray) (maxL : Nat) (ret : Option FieldType) (fr lo : Nat) (K : rx_K mx) : Prop :=
  ∀ (av : List Value) (x : mx), (K av x).1 → Met l y (Cond.code y bytes maxL ret :: al) ({ frames := fr, cells := 0, slots := 0, locals := lo } : Room) (rx_Pc D g ad av x) (rx_Qc D g ad B (K av x).2) 0 0 (fun q => B ≤ q)
theorem rx_lv_args {ad : Nat → Nat} : ∀ (av : List Value) (i k : Nat), rx_lv ad i (av.map some ++ List.replicate k none) = lv_args i (av.map (rx_tr ad)) := by
  intro av
  induction av with
  | nil =>
    intro i k
    induction k generalizing i with
    | zero => rfl
    | succ k ih => exact ih (i + 1)
  | cons v r ih =>
    intro i k
    show (i, rx_tr ad v) :: rx_lv ad (i + 1) (r.map some ++ List.replicate k none) = (i, rx_tr ad v) :: lv_args (if (rx_tr ad v).category = 2 then i + 2 else i + 1) (r.map (rx_tr ad))
    rw [rx_tr_cat, if_neg (by decide), ih]
section RM
variable {l : Launch} {D : va_G} {g : Nat → ClassId} {ad : Nat → Nat} {B : Nat} {y : MethodName} {cc : ByteArray} {nL : Nat} {ret : Option FieldType} {rm : Room} {av : List Value} {x : mx} {res : rx_R mx}
theorem rx_metX (had : mx_A ad B) (hy : plainName y.cls = true) (hlen : (lg_sl (av.map (rx_tr ad))).length ≤ nL) (k : Nat)
    (body : ∀ (p : Program) (e : Env) (s : State) (m : MethodId) (args : Array Value) (below : List Frame) (meth : Method) (c : Code), ox_C p s m args c cc nL y.cls D g ad B → meth.sig.returnType = ret → meth.locks = false →
      rx_X p l e rm s m args below meth c (MQ below (rx_Qc D g ad B res) args s 0 0 (fun q => B ≤ q)) nL ad (mx_W D g ad B s.heap) mx_cs 0 x (av.map some ++ List.replicate k none) []) :
    Met l y (Cond.code y cc nL ret :: al) rm (rx_Pc D g ad av x) (rx_Qc D g ad B res) 0 0 (fun q => B ≤ q) := by
  refine Met.ofW (cc := cc) (maxL := nL) (ret := ret) hy rfl ?_
  intro p e s m args below meth c s₁ Bd hml hv
  obtain ⟨rfl, htb, hP⟩ := hv
  have hts := atoms_spec (ws := Cond.code y cc nL ret :: al) Bd.pre
  have hown : s.vm.findClass y.cls = some m.cls := findClass_of_methodNamed Bd.named
  have hl := lv_entry (av.map (rx_tr ad)) (n := nL) hlen
  rw [lg_entry_eq]
  generalize (lg_sl (av.map (rx_tr ad)) ++ List.replicate (nL - (lg_sl (av.map (rx_tr ad))).length) Slot.unset).toArray = ls at hl ⊢
  exact body p e s m _ below meth c ⟨Bd.exec, Bd.bytes, hml, hown, fun w hw => hts w (List.mem_cons_of_mem _ hw), htb, had⟩ Bd.returns Bd.notSynchronized s.heap [] ls ⟨hP, va_S.rf⟩ (by rw [rx_lv_args]; exact hl)
theorem rx_hret {s : State} {args : Array Value} (mem : mx) (r : Option Value) (h : (mem, r) = res) (H : Heap) (locs : List Loc) (hW : mx_W D g ad B s.heap mem H locs) : (∀ t : State, t.heap = H → s.WarmedH t.vm → rx_Qc D g ad B res args s (.returned (r.map (rx_tr ad))) t) ∧ (∀ q ∈ locs, B ≤ q.base) ∧ (mx_cs mem).1 ≤ 0 ∧ (mx_cs mem).2 ≤ 0 := by
  subst h
  exact ⟨fun t ht _ => ⟨rfl, by rw [ht]; exact hW.1, hW.2.F ht⟩, hW.2.2.2, Nat.le_refl _, Nat.le_refl _⟩
theorem rx_met {code : List (rx_E mx)} (had : mx_A ad B) (hy : plainName y.cls = true) (hlen : (lg_sl (av.map (rx_tr ad))).length ≤ nL) (k : Nat) (hok : rx_okF cc nL ret code 0 code = true) {e0 : rx_E mx} (h0 : code[0]? = some e0) (hpc : e0.1 = 0) (fuel : Nat)
    (hops : ∀ (p : Program) (e : Env) (s : State) (m : MethodId) (args : Array Value) (below : List Frame) (meth : Method) (c : Code), ox_C p s m args c cc nL y.cls D g ad B → rx_ops p l e rm s m args below meth c cc nL ad (mx_W D g ad B s.heap) mx_cs code)
    (hsf : rx_sf code [] fuel code x (av.map some ++ List.replicate k none) []) (hev : rx_ev code [] fuel code x (av.map some ++ List.replicate k none) [] = res) :
    Met l y (Cond.code y cc nL ret :: al) rm (rx_Pc D g ad av x) (rx_Qc D g ad B res) 0 0 (fun q => B ≤ q) := by
  refine rx_metX had hy hlen k fun p e s m args below meth c X hr hlk => ?_
  have := rx_sound (p := p) (l := l) (e := e) (R := rm) (s := s) (m := m) (args := args) (below := below) (meth := meth) (c := c) (WM := mx_W D g ad B s.heap) (cs := mx_cs) (ad := ad) (nL := nL) (Qc := rx_Qc D g ad B res) (free := fun q => B ≤ q) (mc := 0) (ms := 0) (code := code) (cut := []) (res := res) X.1 X.2.1 hr hlk hok (hops p e s m args below meth c X)
    (fun mem r h H locs hW => rx_hret mem r h H locs hW) (fun pc g hg => by cases hg) fuel 0 e0 x (av.map some ++ List.replicate k none) [] h0 hsf hev
  rw [hpc] at this
  exact this
end RM
section OX
variable {p : Program} {l : Launch} {e : Env} {R : Room} {s : State} {m : MethodId} {args : Array Value} {below : List Frame} {meth : Method} {c : Code} {cc : ByteArray} {nL : Nat} {ad : Nat → Nat} {D : va_G} {g : Nat → ClassId} {B : Nat} {own : String}
variable {C : String} {T : u_T} {N q k idx : Nat}
theorem ow_get {t pc : Nat} {d : mx_d} {v : Value} {x : mx} {H : Heap} {locs : List Loc} {lA : Array Slot} {rest : List Value} {Q : State → Prop} {ref : String} (X : ox_C p s m args c cc nL own D g ad B) (hcl : mx_cl[q]? = some (C, T, N)) (hq : q < 20) (hk : k < N) (hin : ∀ w ∈ u_ws C T N, w ∈ al) (hd : (mx_ds q)[k]? = some d) (hl : Cond.fieldLink own idx ref (T k).2.1 (T k).2.2.1 ∈ al) (hsame : (T k).1 = ref) (ht : mx_kl t = q) (hv : mx_v ad x t k d = rx_tr ad v) (hW : mx_W D g ad B s.heap x H locs) (hdec : decode cc pc = .ok (.getfield idx, 3))
    (kk : W p l e R s m args below meth c H locs 0 0 Q (F0 m (pc + 3) lA (rx_tr ad v :: rest))) : W p l e R s m args below meth c H locs 0 0 Q (F0 m pc lA (.ref (ad t) :: rest)) := by
  obtain ⟨hx, hb, -, hown, hts, htb, had⟩ := X
  refine va_get hx hb hts hin hown htb.1 hW.1 t (mx_ws_ob ht hq) hcl k hk (hts _ hl) (fun z h => by rw [← hsame]; exact h) (v := rx_tr ad v) ?_ hdec kk
  rw [mx_fs_at _ 0 k d hd, Nat.zero_add, hv]
theorem ow_put {t pc : Nat} {v : Int32} {x y : mx} {H : Heap} {locs : List Loc} {lA : Array Slot} {rest : List Value} {Q : State → Prop} {ref : String} (X : ox_C p s m args c cc nL own D g ad B) (hcl : mx_cl[q]? = some (C, T, N)) (hq : q < 20) (hk : k < N) (hin : ∀ w ∈ u_ws C T N, w ∈ al) (ty0 : Nat → FieldType) (hty : ∀ k, k < N → parseFieldDescriptor (T k).2.2.1 = some (ty0 k)) (hnm : ∀ a, a < N → ∀ b, b < N → a ≠ b → (T a).2.1 ≠ (T b).2.1) (hfin : (T k).2.2.2 = false) (hint : ty0 k = .int) (hN : (mx_ds q).length = N) (hl : Cond.fieldLink own idx ref (T k).2.1 (T k).2.2.1 ∈ al) (hsame : (T k).1 = ref) (ht : mx_kl t = q)
    (hset : (mx_ws g ad x).set t (ad t, .inr (q, (mx_fs ad x t 0 (mx_ds q)).set k (.int v))) = mx_ws g ad y) (hW : mx_W D g ad B s.heap x H locs) (hdec : decode cc pc = .ok (.putfield idx, 3))
    (kk : ∀ (H' : Heap) (locs' : List Loc), mx_W D g ad B s.heap y H' locs' → W p l e R s m args below meth c H' locs' 0 0 Q (F0 m (pc + 3) lA rest)) : W p l e R s m args below meth c H locs 0 0 Q (F0 m pc lA (.int v :: .ref (ad t) :: rest)) := by
  obtain ⟨hx, hb, -, hown, hts, htb, had⟩ := X
  refine va_put (ty := .int) hx hb hts hin ty0 hty hnm hown htb.1 hW.1 (mx_D had x) hW.2 t (mx_ws_ob ht hq) hcl k hk (hts _ hl) (fun z h => by rw [← hsame]; exact h) hfin (by rw [hty k hk, hint]) rfl rfl (by rw [mx_fs_len, hN]; exact hk) hdec (fun H1 locs1 h1 h2 h3 => kk H1 locs1 ⟨?_, h3⟩)
  rw [← hset]
  exact h1
theorem ox_gi (X : ox_C p s m args c cc nL own D g ad B) (hcl : mx_cl[q]? = some (C, T, N)) (hq : q < 9) (hk : k < N) (hin : ∀ w ∈ u_ws C T N, w ∈ al) (hd : (mx_ds q)[k]? = some (0, 0, 0)) (hl : Cond.fieldLink own idx (T k).1 (T k).2.1 (T k).2.2.1 ∈ al) : rx_OK p l e R s m args below meth c cc nL ad (mx_W D g ad B s.heap) mx_cs (.getfield idx) 3 1 (kgi q k) := by
  intro pc mem H locs lA av rest Q ha hp hW hsz hrest hdec kk
  obtain ⟨t, rfl⟩ := k_R_inv hp
  exact ow_get X hcl (by omega) hk hin hd hl rfl hp (v := .int (mem.1.1 t k)) rfl hW hdec (kk H locs hW)
theorem ox_pi (X : ox_C p s m args c cc nL own D g ad B) (hcl : mx_cl[q]? = some (C, T, N)) (hq : q < 9) (hk : k < N) (hin : ∀ w ∈ u_ws C T N, w ∈ al) (hd : (mx_ds q)[k]? = some (0, 0, 0)) (ty0 : Nat → FieldType) (hty : ∀ k, k < N → parseFieldDescriptor (T k).2.2.1 = some (ty0 k)) (hnm : ∀ a, a < N → ∀ b, b < N → a ≠ b → (T a).2.1 ≠ (T b).2.1) (hfin : (T k).2.2.2 = false) (hint : ty0 k = .int) (hN : (mx_ds q).length = N) (hl : Cond.fieldLink own idx (T k).1 (T k).2.1 (T k).2.2.1 ∈ al) : rx_OK p l e R s m args below meth c cc nL ad (mx_W D g ad B s.heap) mx_cs (.putfield idx) 3 2 (kpi q k) := by
  intro pc mem H locs lA av rest Q ha hp hW hsz hrest hdec kk
  obtain ⟨t, v, rfl⟩ := k_RI_inv hp
  exact ow_put X hcl (by omega) hk hin ty0 hty hnm hfin hint hN hl rfl hp (mx_set_i hp hq hd) hW hdec kk
theorem ox_gr0 {off : Nat} (X : ox_C p s m args c cc nL own D g ad B) (hcl : mx_cl[q]? = some (C, T, N)) (hq : q < 9) (hk : k < N) (hin : ∀ w ∈ u_ws C T N, w ∈ al) (hd : (mx_ds q)[k]? = some (1, 0, off)) (hl : Cond.fieldLink own idx (T k).1 (T k).2.1 (T k).2.2.1 ∈ al) : rx_OK p l e R s m args below meth c cc nL ad (mx_W D g ad B s.heap) mx_cs (.getfield idx) 3 1 (kgr0 q k off) := by
  intro pc mem H locs lA av rest Q ha hp hW hsz hrest hdec kk
  obtain ⟨t, rfl⟩ := k_R_inv hp
  exact ow_get X hcl (by omega) hk hin hd hl rfl hp (v := .ref off) (by show Value.ref (ad (t * 0 + off)) = Value.ref (ad off); rw [Nat.mul_zero, Nat.zero_add]) hW hdec (kk H locs hW)
theorem ox_gr1 {off : Nat} (X : ox_C p s m args c cc nL own D g ad B) (hcl : mx_cl[q]? = some (C, T, N)) (hq : q < 9) (hk : k < N) (hin : ∀ w ∈ u_ws C T N, w ∈ al) (hd : (mx_ds q)[k]? = some (1, 1, off)) (hl : Cond.fieldLink own idx (T k).1 (T k).2.1 (T k).2.2.1 ∈ al) : rx_OK p l e R s m args below meth c cc nL ad (mx_W D g ad B s.heap) mx_cs (.getfield idx) 3 1 (kgr1 q k off) := by
  intro pc mem H locs lA av rest Q ha hp hW hsz hrest hdec kk
  obtain ⟨t, rfl⟩ := k_R_inv hp
  exact ow_get X hcl (by omega) hk hin hd hl rfl hp (v := .ref (t + off)) (by show Value.ref (ad (t * 1 + off)) = Value.ref (ad (t + off)); rw [Nat.mul_one]) hW hdec (kk H locs hW)
theorem ox_gf (X : ox_C p s m args c cc nL own D g ad B) (hl : Cond.fieldLink own idx "SubscriberLines$Flight" "count" "I" ∈ al) : rx_OK p l e R s m args below meth c cc nL ad (mx_W D g ad B s.heap) mx_cs (.getfield idx) 3 1 kgf := by
  intro pc mem H locs lA av rest Q ha hp hW hsz hrest hdec kk
  obtain ⟨t, rfl⟩ := k_R_inv hp
  exact ow_get (q := 1) (k := 2) (T := T_1) X rfl (by omega) (by decide) in_1 rfl hl rfl hp (v := .int (Int32.ofNat mem.1.2.2.2.1.val)) rfl hW hdec (kk H locs hW)
theorem ox_gs (X : ox_C p s m args c cc nL own D g ad B) (hl : Cond.fieldLink own idx "SubscriberLines$Server" "count" "I" ∈ al) : rx_OK p l e R s m args below meth c cc nL ad (mx_W D g ad B s.heap) mx_cs (.getfield idx) 3 1 kgs := by
  intro pc mem H locs lA av rest Q ha hp hW hsz hrest hdec kk
  obtain ⟨t, rfl⟩ := k_R_inv hp
  exact ow_get (q := 7) (k := 5) (T := T_7) X rfl (by omega) (by decide) in_7 rfl hl rfl hp (v := .int (Int32.ofNat mem.1.2.2.2.2.val)) rfl hW hdec (kk H locs hW)
theorem ox_pf (X : ox_C p s m args c cc nL own D g ad B) (hl : Cond.fieldLink own idx "SubscriberLines$Flight" "count" "I" ∈ al) : rx_OK p l e R s m args below meth c cc nL ad (mx_W D g ad B s.heap) mx_cs (.putfield idx) 3 2 kpf := by
  intro pc mem H locs lA av rest Q ha hp hW hsz hrest hdec kk
  obtain ⟨t, v, rfl⟩ := k_RI_inv hp
  have ht : t = 1 := mx_kl_one hp.1
  subst ht
  exact ow_put (q := 1) (k := 2) (T := T_1) X rfl (by omega) (by decide) in_1 ty_1 ty_1_ok nm_1 rfl rfl rfl hl rfl rfl (mx_set_f hp.2) hW hdec kk
theorem ox_ps (X : ox_C p s m args c cc nL own D g ad B) (hl : Cond.fieldLink own idx "SubscriberLines$Server" "count" "I" ∈ al) : rx_OK p l e R s m args below meth c cc nL ad (mx_W D g ad B s.heap) mx_cs (.putfield idx) 3 2 kps := by
  intro pc mem H locs lA av rest Q ha hp hW hsz hrest hdec kk
  obtain ⟨t, v, rfl⟩ := k_RI_inv hp
  have ht : t = 66 := mx_kl_seven hp.1
  subst ht
  exact ow_put (q := 7) (k := 5) (T := T_7) X rfl (by omega) (by decide) in_7 ty_7 ty_7_ok nm_7 rfl rfl rfl hl rfl rfl (mx_set_s hp.2) hW hdec kk
theorem ox_gn (X : ox_C p s m args c cc nL own D g ad B) (hl : Cond.fieldLink own idx "SubscriberLines$Node" "silence" "I" ∈ al) : rx_OK p l e R s m args below meth c cc nL ad (mx_W D g ad B s.heap) mx_cs (.getfield idx) 3 1 kgn := by
  intro pc mem H locs lA av rest Q ha hp hW hsz hrest hdec kk
  obtain ⟨t, rfl⟩ := k_R_inv hp
  rcases hp with hp | hp | hp
  · exact ow_get (q := 4) (k := 0) (T := T_4) X rfl (by omega) (by decide) in_4 rfl hl rfl hp (v := .int (mem.1.1 t 0)) rfl hW hdec (kk H locs hW)
  · exact ow_get (q := 5) (k := 0) (T := T_5) X rfl (by omega) (by decide) in_5 rfl hl rfl hp (v := .int (mem.1.1 t 0)) rfl hW hdec (kk H locs hW)
  · exact ow_get (q := 7) (k := 0) (T := T_7) X rfl (by omega) (by decide) in_7 rfl hl rfl hp (v := .int (mem.1.1 t 0)) rfl hW hdec (kk H locs hW)
theorem ox_pn (X : ox_C p s m args c cc nL own D g ad B) (hl : Cond.fieldLink own idx "SubscriberLines$Node" "silence" "I" ∈ al) : rx_OK p l e R s m args below meth c cc nL ad (mx_W D g ad B s.heap) mx_cs (.putfield idx) 3 2 kpn := by
  intro pc mem H locs lA av rest Q ha hp hW hsz hrest hdec kk
  obtain ⟨t, v, rfl⟩ := k_RI_inv hp
  rcases hp with hp | hp | hp
  · exact ow_put (q := 4) (k := 0) (T := T_4) X rfl (by omega) (by decide) in_4 ty_4 ty_4_ok nm_4 rfl rfl rfl hl rfl hp (mx_set_i hp (by omega) rfl) hW hdec kk
  · exact ow_put (q := 5) (k := 0) (T := T_5) X rfl (by omega) (by decide) in_5 ty_5 ty_5_ok nm_5 rfl rfl rfl hl rfl hp (mx_set_i hp (by omega) rfl) hW hdec kk
  · exact ow_put (q := 7) (k := 0) (T := T_7) X rfl (by omega) (by decide) in_7 ty_7 ty_7_ok nm_7 rfl rfl rfl hl rfl hp (mx_set_i hp (by omega) rfl) hW hdec kk
end OX
