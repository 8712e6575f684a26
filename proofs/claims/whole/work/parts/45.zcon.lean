def nfs_0 : List Value := [.null, .null, .null, .null, .null]
theorem nfs_0_ok : ∀ j, j < 5 → defaultValue (ty_0 j) = vp_V nfs_0 j := by decide +kernel
theorem nfs_0_tr (ad : Nat → Nat) : ∀ j, j < 5 → defaultValue (ty_0 j) = vp_V (nfs_0.map (rx_tr ad)) j := fun j hj => (nfs_0_ok j hj).trans (congrArg (fun z => vp_V z j) (show nfs_0 = nfs_0.map (rx_tr ad) from rfl))
def nfs_1 : List Value := [.null, .null, .int 0]
theorem nfs_1_ok : ∀ j, j < 3 → defaultValue (ty_1 j) = vp_V nfs_1 j := by decide +kernel
theorem nfs_1_tr (ad : Nat → Nat) : ∀ j, j < 3 → defaultValue (ty_1 j) = vp_V (nfs_1.map (rx_tr ad)) j := fun j hj => (nfs_1_ok j hj).trans (congrArg (fun z => vp_V z j) (show nfs_1 = nfs_1.map (rx_tr ad) from rfl))
def nfs_2 : List Value := [.int 0, .int 0, .int 0, .int 0, .int 0, .int 0, .int 0, .int 0, .int 0]
theorem nfs_2_ok : ∀ j, j < 9 → defaultValue (ty_2 j) = vp_V nfs_2 j := by decide +kernel
theorem nfs_2_tr (ad : Nat → Nat) : ∀ j, j < 9 → defaultValue (ty_2 j) = vp_V (nfs_2.map (rx_tr ad)) j := fun j hj => (nfs_2_ok j hj).trans (congrArg (fun z => vp_V z j) (show nfs_2 = nfs_2.map (rx_tr ad) from rfl))
def nfs_3 : List Value := [.null, .int 0]
theorem nfs_3_ok : ∀ j, j < 2 → defaultValue (ty_3 j) = vp_V nfs_3 j := by decide +kernel
theorem nfs_3_tr (ad : Nat → Nat) : ∀ j, j < 2 → defaultValue (ty_3 j) = vp_V (nfs_3.map (rx_tr ad)) j := fun j hj => (nfs_3_ok j hj).trans (congrArg (fun z => vp_V z j) (show nfs_3 = nfs_3.map (rx_tr ad) from rfl))
def nfs_4 : List Value := [.int 0, .int 0, .null, .null, .int 0, .int 0, .int 0, .int 0, .int 0, .int 0, .int 0, .int 0]
theorem nfs_4_ok : ∀ j, j < 12 → defaultValue (ty_4 j) = vp_V nfs_4 j := by decide +kernel
theorem nfs_4_tr (ad : Nat → Nat) : ∀ j, j < 12 → defaultValue (ty_4 j) = vp_V (nfs_4.map (rx_tr ad)) j := fun j hj => (nfs_4_ok j hj).trans (congrArg (fun z => vp_V z j) (show nfs_4 = nfs_4.map (rx_tr ad) from rfl))
def nfs_5 : List Value := [.int 0, .null, .null, .null, .null, .int 0, .int 0, .int 0]
theorem nfs_5_ok : ∀ j, j < 8 → defaultValue (ty_5 j) = vp_V nfs_5 j := by decide +kernel
theorem nfs_5_tr (ad : Nat → Nat) : ∀ j, j < 8 → defaultValue (ty_5 j) = vp_V (nfs_5.map (rx_tr ad)) j := fun j hj => (nfs_5_ok j hj).trans (congrArg (fun z => vp_V z j) (show nfs_5 = nfs_5.map (rx_tr ad) from rfl))
def nfs_6 : List Value := [.int 0, .int 0, .int 0, .int 0, .int 0]
theorem nfs_6_ok : ∀ j, j < 5 → defaultValue (ty_6 j) = vp_V nfs_6 j := by decide +kernel
theorem nfs_6_tr (ad : Nat → Nat) : ∀ j, j < 5 → defaultValue (ty_6 j) = vp_V (nfs_6.map (rx_tr ad)) j := fun j hj => (nfs_6_ok j hj).trans (congrArg (fun z => vp_V z j) (show nfs_6 = nfs_6.map (rx_tr ad) from rfl))
def nfs_7 : List Value := [.int 0, .null, .null, .int 0, .null, .int 0, .null, .null, .null, .null, .int 0, .int 0]
theorem nfs_7_ok : ∀ j, j < 12 → defaultValue (ty_7 j) = vp_V nfs_7 j := by decide +kernel
theorem nfs_7_tr (ad : Nat → Nat) : ∀ j, j < 12 → defaultValue (ty_7 j) = vp_V (nfs_7.map (rx_tr ad)) j := fun j hj => (nfs_7_ok j hj).trans (congrArg (fun z => vp_V z j) (show nfs_7 = nfs_7.map (rx_tr ad) from rfl))
def nfs_8 : List Value := [.int 0, .int 0, .null, .int 0, .int 0, .int 0, .int 0, .int 0, .int 0, .null, .null, .null]
theorem nfs_8_ok : ∀ j, j < 12 → defaultValue (ty_8 j) = vp_V nfs_8 j := by decide +kernel
theorem nfs_8_tr (ad : Nat → Nat) : ∀ j, j < 12 → defaultValue (ty_8 j) = vp_V (nfs_8.map (rx_tr ad)) j := fun j hj => (nfs_8_ok j hj).trans (congrArg (fun z => vp_V z j) (show nfs_8 = nfs_8.map (rx_tr ad) from rfl))
def nfs_9 : List Value := [.int 0, .null, .null, .int 0, .null, .null, .null, .null, .null, .null, .null, .null, .null, .null, .null, .null, .null, .int 0, .int 0, .null, .null, .null, .null, .null, .int 0, .int 0, .null, .null, .int 0, .int 0, .int 0, .null, .null, .null, .null, .null, .null, .null, .null, .null, .null, .null]
theorem nfs_9_ok : ∀ j, j < 42 → defaultValue (ty_9 j) = vp_V nfs_9 j := by decide +kernel
theorem nfs_9_tr (ad : Nat → Nat) : ∀ j, j < 42 → defaultValue (ty_9 j) = vp_V (nfs_9.map (rx_tr ad)) j := fun j hj => (nfs_9_ok j hj).trans (congrArg (fun z => vp_V z j) (show nfs_9 = nfs_9.map (rx_tr ad) from rfl))
abbrev R_pk : Room := { frames := 1, cells := 0, slots := 0, locals := 20 }
def Lc_pk (n0 s0 : Nat) : List (zx_E zM) := [
  (0, .aload_n 0, 1, 0, 0, 0, [], (fun _ _ => none)),
  (1, .invokespecial 1, 3, 7, 1, 0, [], kzobj),
  (4, .return_, 1, 6, 0, 0, [], (fun _ _ => none))]
def Kc_pk : zx_K zM := zk_run Lc_pk 1 6 0 0
set_option maxRecDepth 10000 in
theorem stc_pk : ∀ n0 s0, (Lc_pk n0 s0).map zx_st = (Lc_pk 0 0).map zx_st := by
  intro n0 s0
  simp only [Lc_pk, List.map_cons, List.map_nil, zx_st]
theorem okc_pk : rx_okF prog_7_method_1_code 1 none ((Lc_pk 0 0).map zx_c) 0 ((Lc_pk 0 0).map zx_c) = true := by decide +kernel
set_option maxRecDepth 10000 in
theorem Vc_pk {l : Launch} {D : va_G} {g : Nat → ClassId} {ad : Nat → Nat} {B : Nat} (had : mx_A ad B) (hA : zA ad B) : zx_V l D g ad B ⟨"SubscriberLines$Packet", "<init>", "()V"⟩ prog_7_method_1_code 1 1 20 0 0 Kc_pk :=
  zx_met had (by decide) rfl stc_pk okc_pk rfl (fun p e s m args below meth c n0 s0 X hz hin => And.intro (zo_obj X (al_at 33 (by decide +kernel) rfl) (al_at 19 (by decide +kernel) rfl) (al_at 20 (by decide +kernel) rfl) ⟨by decide, by decide⟩) (trivial))
abbrev R_no : Room := { frames := 1, cells := 0, slots := 0, locals := 20 }
def Lc_no (n0 s0 : Nat) : List (zx_E zM) := [
  (0, .aload_n 0, 1, 0, 0, 0, [], (fun _ _ => none)),
  (1, .invokespecial 1, 3, 7, 1, 0, [], kzobj),
  (4, .return_, 1, 6, 0, 0, [], (fun _ _ => none))]
def Kc_no : zx_K zM := zk_run Lc_no 1 6 0 0
set_option maxRecDepth 10000 in
theorem stc_no : ∀ n0 s0, (Lc_no n0 s0).map zx_st = (Lc_no 0 0).map zx_st := by
  intro n0 s0
  simp only [Lc_no, List.map_cons, List.map_nil, zx_st]
theorem okc_no : rx_okF prog_6_method_1_code 1 none ((Lc_no 0 0).map zx_c) 0 ((Lc_no 0 0).map zx_c) = true := by decide +kernel
set_option maxRecDepth 10000 in
theorem Vc_no {l : Launch} {D : va_G} {g : Nat → ClassId} {ad : Nat → Nat} {B : Nat} (had : mx_A ad B) (hA : zA ad B) : zx_V l D g ad B ⟨"SubscriberLines$Node", "<init>", "()V"⟩ prog_6_method_1_code 1 1 20 0 0 Kc_no :=
  zx_met had (by decide) rfl stc_no okc_no rfl (fun p e s m args below meth c n0 s0 X hz hin => And.intro (zo_obj X (al_at 113 (by decide +kernel) rfl) (al_at 19 (by decide +kernel) rfl) (al_at 20 (by decide +kernel) rfl) ⟨by decide, by decide⟩) (trivial))
abbrev R_se : Room := { frames := 1, cells := 0, slots := 0, locals := 20 }
def Lc_se (n0 s0 : Nat) : List (zx_E zM) := [
  (0, .aload_n 0, 1, 0, 0, 0, [], (fun _ _ => none)),
  (1, .invokespecial 1, 3, 7, 1, 0, [], kzobj),
  (4, .return_, 1, 6, 0, 0, [], (fun _ _ => none))]
def Kc_se : zx_K zM := zk_run Lc_se 1 6 0 0
set_option maxRecDepth 10000 in
theorem stc_se : ∀ n0 s0, (Lc_se n0 s0).map zx_st = (Lc_se 0 0).map zx_st := by
  intro n0 s0
  simp only [Lc_se, List.map_cons, List.map_nil, zx_st]
theorem okc_se : rx_okF prog_9_method_1_code 1 none ((Lc_se 0 0).map zx_c) 0 ((Lc_se 0 0).map zx_c) = true := by decide +kernel
set_option maxRecDepth 10000 in
theorem Vc_se {l : Launch} {D : va_G} {g : Nat → ClassId} {ad : Nat → Nat} {B : Nat} (had : mx_A ad B) (hA : zA ad B) : zx_V l D g ad B ⟨"SubscriberLines$Session", "<init>", "()V"⟩ prog_9_method_1_code 1 1 20 0 0 Kc_se :=
  zx_met had (by decide) rfl stc_se okc_se rfl (fun p e s m args below meth c n0 s0 X hz hin => And.intro (zo_obj X (al_at 266 (by decide +kernel) rfl) (al_at 19 (by decide +kernel) rfl) (al_at 20 (by decide +kernel) rfl) ⟨by decide, by decide⟩) (trivial))
abbrev R_hi : Room := { frames := 1, cells := 1, slots := 4, locals := 20 }
def Lc_hi (n0 s0 : Nat) : List (zx_E zM) := [
  (0, .aload_n 0, 1, 0, 0, 0, [], (fun _ _ => none)),
  (1, .invokespecial 1, 3, 7, 1, 0, [], kzobj),
  (4, .aload_n 0, 1, 0, 0, 0, [], (fun _ _ => none)),
  (5, .iload_n 1, 1, 0, 1, 0, [], (fun _ _ => none)),
  (6, .newarray .int, 2, 7, 1, 0, [], kznewa R_hi n0 s0 0 false),
  (8, .putfield 7, 3, 7, 2, 0, [], kzput 3 0 (ty_3 0)),
  (11, .return_, 1, 6, 0, 0, [], (fun _ _ => none))]
def Kc_hi : zx_K zM := zk_run Lc_hi 2 10 1 4
set_option maxRecDepth 10000 in
theorem stc_hi : ∀ n0 s0, (Lc_hi n0 s0).map zx_st = (Lc_hi 0 0).map zx_st := by
  intro n0 s0
  simp only [Lc_hi, List.map_cons, List.map_nil, zx_st]
theorem okc_hi : rx_okF prog_5_method_1_code 2 none ((Lc_hi 0 0).map zx_c) 0 ((Lc_hi 0 0).map zx_c) = true := by decide +kernel
set_option maxRecDepth 10000 in
theorem Vc_hi {l : Launch} {D : va_G} {g : Nat → ClassId} {ad : Nat → Nat} {B : Nat} (had : mx_A ad B) (hA : zA ad B) : zx_V l D g ad B ⟨"SubscriberLines$History", "<init>", "(I)V"⟩ prog_5_method_1_code 2 1 20 1 4 Kc_hi :=
  zx_met had (by decide) rfl stc_hi okc_hi rfl (fun p e s m args below meth c n0 s0 X hz hin => And.intro (zo_obj X (al_at 119 (by decide +kernel) rfl) (al_at 19 (by decide +kernel) rfl) (al_at 20 (by decide +kernel) rfl) ⟨by decide, by decide⟩) (And.intro (zo_newa X hA rfl rfl (fun _ h => by cases h) rfl (by decide) (fun _ _ _ => rfl) (al_at 128 (by decide +kernel) rfl)) (And.intro (zo_put (T := T_3) X hA rfl (by decide) in_3 ty_3 ty_3_ok nm_3 (al_at 120 (by decide +kernel) rfl) rfl rfl hin rfl rfl) (trivial))))
abbrev R_hi8 : Room := { frames := 1, cells := 1, slots := 8, locals := 20 }
def Lc_hi8 (n0 s0 : Nat) : List (zx_E zM) := [
  (0, .aload_n 0, 1, 0, 0, 0, [], (fun _ _ => none)),
  (1, .invokespecial 1, 3, 7, 1, 0, [], kzobj),
  (4, .aload_n 0, 1, 0, 0, 0, [], (fun _ _ => none)),
  (5, .iload_n 1, 1, 0, 1, 0, [], (fun _ _ => none)),
  (6, .newarray .int, 2, 7, 1, 0, [], kznewa R_hi8 n0 s0 0 false),
  (8, .putfield 7, 3, 7, 2, 0, [], kzput 3 0 (ty_3 0)),
  (11, .return_, 1, 6, 0, 0, [], (fun _ _ => none))]
def Kc_hi8 : zx_K zM := zk_run Lc_hi8 2 10 1 8
set_option maxRecDepth 10000 in
theorem stc_hi8 : ∀ n0 s0, (Lc_hi8 n0 s0).map zx_st = (Lc_hi8 0 0).map zx_st := by
  intro n0 s0
  simp only [Lc_hi8, List.map_cons, List.map_nil, zx_st]
theorem okc_hi8 : rx_okF prog_5_method_1_code 2 none ((Lc_hi8 0 0).map zx_c) 0 ((Lc_hi8 0 0).map zx_c) = true := by decide +kernel
set_option maxRecDepth 10000 in
theorem Vc_hi8 {l : Launch} {D : va_G} {g : Nat → ClassId} {ad : Nat → Nat} {B : Nat} (had : mx_A ad B) (hA : zA ad B) : zx_V l D g ad B ⟨"SubscriberLines$History", "<init>", "(I)V"⟩ prog_5_method_1_code 2 1 20 1 8 Kc_hi8 :=
  zx_met had (by decide) rfl stc_hi8 okc_hi8 rfl (fun p e s m args below meth c n0 s0 X hz hin => And.intro (zo_obj X (al_at 119 (by decide +kernel) rfl) (al_at 19 (by decide +kernel) rfl) (al_at 20 (by decide +kernel) rfl) ⟨by decide, by decide⟩) (And.intro (zo_newa X hA rfl rfl (fun _ h => by cases h) rfl (by decide) (fun _ _ _ => rfl) (al_at 128 (by decide +kernel) rfl)) (And.intro (zo_put (T := T_3) X hA rfl (by decide) in_3 ty_3 ty_3_ok nm_3 (al_at 120 (by decide +kernel) rfl) rfl rfl hin rfl rfl) (trivial))))
abbrev R_en : Room := { frames := 1, cells := 3, slots := 6144, locals := 20 }
def Lc_en (n0 s0 : Nat) : List (zx_E zM) := [
  (0, .aload_n 0, 1, 0, 0, 0, [], (fun _ _ => none)),
  (1, .invokespecial 3, 3, 7, 1, 0, [], kzobj),
  (4, .aload_n 0, 1, 0, 0, 0, [], (fun _ _ => none)),
  (5, .sipush 2048, 3, 0, 0, 2048, [], (fun _ _ => none)),
  (8, .newarray .int, 2, 7, 1, 0, [], kznewa R_en n0 s0 0 false),
  (10, .putfield 11, 3, 7, 2, 0, [], kzput 8 9 (ty_8 9)),
  (13, .aload_n 0, 1, 0, 0, 0, [], (fun _ _ => none)),
  (14, .sipush 2048, 3, 0, 0, 2048, [], (fun _ _ => none)),
  (17, .newarray .int, 2, 7, 1, 0, [], kznewa R_en n0 s0 0 false),
  (19, .putfield 15, 3, 7, 2, 0, [], kzput 8 10 (ty_8 10)),
  (22, .aload_n 0, 1, 0, 0, 0, [], (fun _ _ => none)),
  (23, .sipush 2048, 3, 0, 0, 2048, [], (fun _ _ => none)),
  (26, .newarray .int, 2, 7, 1, 0, [], kznewa R_en n0 s0 0 false),
  (28, .putfield 18, 3, 7, 2, 0, [], kzput 8 11 (ty_8 11)),
  (31, .aload_n 0, 1, 0, 0, 0, [], (fun _ _ => none)),
  (32, .iload_n 1, 1, 0, 1, 0, [], (fun _ _ => none)),
  (33, .putfield 21, 3, 7, 2, 0, [], kzput 8 0 (ty_8 0)),
  (36, .aload_n 0, 1, 0, 0, 0, [], (fun _ _ => none)),
  (37, .iload_n 2, 1, 0, 2, 0, [], (fun _ _ => none)),
  (38, .putfield 25, 3, 7, 2, 0, [], kzput 8 1 (ty_8 1)),
  (41, .aload_n 0, 1, 0, 0, 0, [], (fun _ _ => none)),
  (42, .aload_n 3, 1, 0, 3, 0, [], (fun _ _ => none)),
  (43, .putfield 28, 3, 7, 2, 0, [], kzput 8 2 (ty_8 2)),
  (46, .return_, 1, 6, 0, 0, [], (fun _ _ => none))]
def Kc_en : zx_K zM := zk_run Lc_en 4 27 3 6144
set_option maxRecDepth 10000 in
theorem stc_en : ∀ n0 s0, (Lc_en n0 s0).map zx_st = (Lc_en 0 0).map zx_st := by
  intro n0 s0
  simp only [Lc_en, List.map_cons, List.map_nil, zx_st]
theorem okc_en : rx_okF prog_3_method_1_code 4 none ((Lc_en 0 0).map zx_c) 0 ((Lc_en 0 0).map zx_c) = true := by decide +kernel
set_option maxRecDepth 10000 in
theorem Vc_en {l : Launch} {D : va_G} {g : Nat → ClassId} {ad : Nat → Nat} {B : Nat} (had : mx_A ad B) (hA : zA ad B) : zx_V l D g ad B ⟨"SubscriberLines$End", "<init>", "(IILSubscriberLines$Flight;)V"⟩ prog_3_method_1_code 4 1 20 3 6144 Kc_en :=
  zx_met had (by decide) rfl stc_en okc_en rfl (fun p e s m args below meth c n0 s0 X hz hin => And.intro (zo_obj X (al_at 180 (by decide +kernel) rfl) (al_at 19 (by decide +kernel) rfl) (al_at 20 (by decide +kernel) rfl) ⟨by decide, by decide⟩) (And.intro (zo_newa X hA rfl rfl (fun _ h => by cases h) rfl (by decide) (fun _ _ _ => rfl) (al_at 128 (by decide +kernel) rfl)) (And.intro (zo_put (T := T_8) X hA rfl (by decide) in_8 ty_8 ty_8_ok nm_8 (al_at 192 (by decide +kernel) rfl) rfl rfl hin rfl rfl) (And.intro (zo_newa X hA rfl rfl (fun _ h => by cases h) rfl (by decide) (fun _ _ _ => rfl) (al_at 128 (by decide +kernel) rfl)) (And.intro (zo_put (T := T_8) X hA rfl (by decide) in_8 ty_8 ty_8_ok nm_8 (al_at 193 (by decide +kernel) rfl) rfl rfl hin rfl rfl) (And.intro (zo_newa X hA rfl rfl (fun _ h => by cases h) rfl (by decide) (fun _ _ _ => rfl) (al_at 128 (by decide +kernel) rfl)) (And.intro (zo_put (T := T_8) X hA rfl (by decide) in_8 ty_8 ty_8_ok nm_8 (al_at 194 (by decide +kernel) rfl) rfl rfl hin rfl rfl) (And.intro (zo_put (T := T_8) X hA rfl (by decide) in_8 ty_8 ty_8_ok nm_8 (al_at 181 (by decide +kernel) rfl) rfl rfl hin rfl rfl) (And.intro (zo_put (T := T_8) X hA rfl (by decide) in_8 ty_8 ty_8_ok nm_8 (al_at 182 (by decide +kernel) rfl) rfl rfl hin rfl rfl) (And.intro (zo_put (T := T_8) X hA rfl (by decide) in_8 ty_8 ty_8_ok nm_8 (al_at 183 (by decide +kernel) rfl) rfl rfl hin rfl rfl) (trivial)))))))))))
abbrev R_su : Room := { frames := 2, cells := 2, slots := 6, locals := 41 }
def Lc_su (n0 s0 : Nat) : List (zx_E zM) := [
  (0, .aload_n 0, 1, 0, 0, 0, [], (fun _ _ => none)),
  (1, .invokespecial 3, 3, 7, 1, 0, [], kzcall R_su n0 s0 0 0 Kc_no),
  (4, .aload_n 0, 1, 0, 0, 0, [], (fun _ _ => none)),
  (5, .new 9, 3, 7, 0, 0, [], kznew R_su n0 s0 3 nfs_3),
  (8, .dup, 1, 0, 0, 0, [], (fun _ _ => none)),
  (9, .iconst 4, 1, 0, 0, 4, [], (fun _ _ => none)),
  (10, .invokespecial 13, 3, 7, 2, 0, [], kzcall R_su n0 s0 1 4 Kc_hi),
  (13, .putfield 16, 3, 7, 2, 0, [], kzput 4 3 (ty_4 3)),
  (16, .aload_n 0, 1, 0, 0, 0, [], (fun _ _ => none)),
  (17, .iload_n 1, 1, 0, 1, 0, [], (fun _ _ => none)),
  (18, .putfield 20, 3, 7, 2, 0, [], kzput 4 1 (ty_4 1)),
  (21, .aload_n 0, 1, 0, 0, 0, [], (fun _ _ => none)),
  (22, .aload_n 2, 1, 0, 2, 0, [], (fun _ _ => none)),
  (23, .putfield 24, 3, 7, 2, 0, [], kzput 4 2 (ty_4 2)),
  (26, .return_, 1, 6, 0, 0, [], (fun _ _ => none))]
def Kc_su : zx_K zM := zk_run Lc_su 3 18 2 6
set_option maxRecDepth 10000 in
theorem stc_su : ∀ n0 s0, (Lc_su n0 s0).map zx_st = (Lc_su 0 0).map zx_st := by
  intro n0 s0
  simp only [Lc_su, List.map_cons, List.map_nil, zx_st]
theorem okc_su : rx_okF prog_10_method_1_code 3 none ((Lc_su 0 0).map zx_c) 0 ((Lc_su 0 0).map zx_c) = true := by decide +kernel
set_option maxRecDepth 10000 in
theorem Vc_su {l : Launch} {D : va_G} {g : Nat → ClassId} {ad : Nat → Nat} {B : Nat} (had : mx_A ad B) (hA : zA ad B) : zx_V l D g ad B ⟨"SubscriberLines$Subscriber", "<init>", "(ILSubscriberLines$Flight;)V"⟩ prog_10_method_1_code 3 2 41 2 6 Kc_su :=
  zx_met had (by decide) rfl stc_su okc_su rfl (fun p e s m args below meth c n0 s0 X hz hin => And.intro (zo_callN (n := 0) X hz (Vc_no had hA) hz.2.1.2.1 (al_at 111 (by decide +kernel) rfl) (al_at 4 (by decide +kernel) rfl) (al_at 112 (by decide +kernel) rfl) rfl ⟨by decide, by decide, by decide +kernel⟩ ⟨by decide, by decide⟩) (And.intro (zo_new (T := T_3) X hA rfl in_3 ty_3 ty_3_ok rfl (nfs_3_tr ad) (al_at 114 (by decide +kernel) rfl) (al_at 115 (by decide +kernel) rfl) (al_at 6 (by decide +kernel) rfl)) (And.intro (zo_call (n := 1) X hz (Vc_hi had hA) (al_at 116 (by decide +kernel) rfl) (al_at 117 (by decide +kernel) rfl) (al_at 6 (by decide +kernel) rfl) (al_at 118 (by decide +kernel) rfl) rfl ⟨by decide, by decide, by decide +kernel⟩ ⟨by decide, by decide⟩) (And.intro (zo_put (T := T_4) X hA rfl (by decide) in_4 ty_4 ty_4_ok nm_4 (al_at 131 (by decide +kernel) rfl) rfl rfl hin rfl rfl) (And.intro (zo_put (T := T_4) X hA rfl (by decide) in_4 ty_4 ty_4_ok nm_4 (al_at 129 (by decide +kernel) rfl) rfl rfl hin rfl rfl) (And.intro (zo_put (T := T_4) X hA rfl (by decide) in_4 ty_4 ty_4_ok nm_4 (al_at 130 (by decide +kernel) rfl) rfl rfl hin rfl rfl) (trivial)))))))
abbrev R_fl : Room := { frames := 2, cells := 43, slots := 419, locals := 40 }
def Lc_fl (n0 s0 : Nat) : List (zx_E zM) := [
  (0, .aload_n 0, 1, 0, 0, 0, [], (fun _ _ => none)),
  (1, .invokespecial 3, 3, 7, 1, 0, [], kzobj),
  (4, .aload_n 0, 1, 0, 0, 0, [], (fun _ _ => none)),
  (5, .bipush 41, 2, 0, 0, 41, [], (fun _ _ => none)),
  (7, .anewarray 9, 3, 7, 1, 0, [], kznewa R_fl n0 s0 2 true),
  (10, .putfield 11, 3, 7, 2, 0, [], kzput 1 0 (ty_1 0)),
  (13, .aload_n 0, 1, 0, 0, 0, [], (fun _ _ => none)),
  (14, .new 9, 3, 7, 0, 0, [], kznew R_fl n0 s0 2 nfs_2),
  (17, .dup, 1, 0, 0, 0, [], (fun _ _ => none)),
  (18, .invokespecial 17, 3, 7, 1, 0, [], kzcall R_fl n0 s0 0 0 Kc_pk),
  (21, .putfield 18, 3, 7, 2, 0, [], kzput 1 1 (ty_1 1)),
  (24, .iconst 0, 1, 0, 0, 0, [], (fun _ _ => none)),
  (25, .istore_n 1, 1, 0, 1, 0, [], (fun _ _ => none)),
  (26, .iload_n 1, 1, 0, 1, 0, [], (fun _ _ => none)),
  (27, .aload_n 0, 1, 0, 0, 0, [], (fun _ _ => none)),
  (28, .getfield 11, 3, 7, 1, 0, [], kzget 1 0),
  (31, .arraylength, 1, 7, 1, 0, [], kzlen 2),
  (32, .if_icmp .ge 22, 3, 2, 27, 0, [], (fun _ _ => none)),
  (35, .aload_n 0, 1, 0, 0, 0, [], (fun _ _ => none)),
  (36, .getfield 11, 3, 7, 1, 0, [], kzget 1 0),
  (39, .iload_n 1, 1, 0, 1, 0, [], (fun _ _ => none)),
  (40, .new 9, 3, 7, 0, 0, [], kznew R_fl n0 s0 2 nfs_2),
  (43, .dup, 1, 0, 0, 0, [], (fun _ _ => none)),
  (44, .invokespecial 17, 3, 7, 1, 0, [], kzcall R_fl n0 s0 0 0 Kc_pk),
  (47, .aastore, 1, 7, 3, 0, [], kzast 2 2),
  (48, .iinc 1 1, 3, 0, 1, 1, [], (fun _ _ => none)),
  (51, .goto (-25), 3, 1, 13, 0, [], (fun _ _ => none)),
  (54, .return_, 1, 6, 0, 0, [], (fun _ _ => none))]
def Kc_fl : zx_K zM := zk_run Lc_fl 2 700 43 419
set_option maxRecDepth 10000 in
theorem stc_fl : ∀ n0 s0, (Lc_fl n0 s0).map zx_st = (Lc_fl 0 0).map zx_st := by
  intro n0 s0
  simp only [Lc_fl, List.map_cons, List.map_nil, zx_st]
theorem okc_fl : rx_okF prog_4_method_1_code 2 none ((Lc_fl 0 0).map zx_c) 0 ((Lc_fl 0 0).map zx_c) = true := by decide +kernel
set_option maxRecDepth 10000 in
theorem Vc_fl {l : Launch} {D : va_G} {g : Nat → ClassId} {ad : Nat → Nat} {B : Nat} (had : mx_A ad B) (hA : zA ad B) : zx_V l D g ad B ⟨"SubscriberLines$Flight", "<init>", "()V"⟩ prog_4_method_1_code 2 2 40 43 419 Kc_fl :=
  zx_met had (by decide) rfl stc_fl okc_fl rfl (fun p e s m args below meth c n0 s0 X hz hin => And.intro (zo_obj X (al_at 26 (by decide +kernel) rfl) (al_at 19 (by decide +kernel) rfl) (al_at 20 (by decide +kernel) rfl) ⟨by decide, by decide⟩) (And.intro (zo_anew X hA rfl (al_at 27 (by decide +kernel) rfl) hz.1.1) (And.intro (zo_put (T := T_1) X hA rfl (by decide) in_1 ty_1 ty_1_ok nm_1 (al_at 90 (by decide +kernel) rfl) rfl rfl hin rfl rfl) (And.intro (zo_new (T := T_2) X hA rfl in_2 ty_2 ty_2_ok rfl (nfs_2_tr ad) (al_at 27 (by decide +kernel) rfl) (al_at 29 (by decide +kernel) rfl) (al_at 3 (by decide +kernel) rfl)) (And.intro (zo_callN (n := 0) X hz (Vc_pk had hA) hz.2.1.1 (al_at 31 (by decide +kernel) rfl) (al_at 3 (by decide +kernel) rfl) (al_at 32 (by decide +kernel) rfl) rfl ⟨by decide, by decide, by decide +kernel⟩ ⟨by decide, by decide⟩) (And.intro (zo_put (T := T_1) X hA rfl (by decide) in_1 ty_1 ty_1_ok nm_1 (al_at 92 (by decide +kernel) rfl) rfl rfl hin rfl rfl) (And.intro (zo_get (T := T_1) X rfl (by decide) in_1 (al_at 90 (by decide +kernel) rfl) rfl) (And.intro (zo_len X rfl) (And.intro (zo_get (T := T_1) X rfl (by decide) in_1 (al_at 90 (by decide +kernel) rfl) rfl) (And.intro (zo_new (T := T_2) X hA rfl in_2 ty_2 ty_2_ok rfl (nfs_2_tr ad) (al_at 27 (by decide +kernel) rfl) (al_at 29 (by decide +kernel) rfl) (al_at 3 (by decide +kernel) rfl)) (And.intro (zo_callN (n := 0) X hz (Vc_pk had hA) hz.2.1.1 (al_at 31 (by decide +kernel) rfl) (al_at 3 (by decide +kernel) rfl) (al_at 32 (by decide +kernel) rfl) rfl ⟨by decide, by decide, by decide +kernel⟩ ⟨by decide, by decide⟩) (And.intro (zo_ast (T := T_2) X hA rfl rfl (zas_same (q := 2) (T := T_2) (N := 9) X rfl)) (trivial)))))))))))))
abbrev R_ac : Room := { frames := 2, cells := 6, slots := 6164, locals := 43 }
def Lc_ac (n0 s0 : Nat) : List (zx_E zM) := [
  (0, .aload_n 0, 1, 0, 0, 0, [], (fun _ _ => none)),
  (1, .invokespecial 3, 3, 7, 1, 0, [], kzcall R_ac n0 s0 0 0 Kc_no),
  (4, .aload_n 0, 1, 0, 0, 0, [], (fun _ _ => none)),
  (5, .iconst 4, 1, 0, 0, 4, [], (fun _ _ => none)),
  (6, .newarray .int, 2, 7, 1, 0, [], kznewa R_ac n0 s0 0 false),
  (8, .putfield 9, 3, 7, 2, 0, [], kzput 5 3 (ty_5 3)),
  (11, .aload_n 0, 1, 0, 0, 0, [], (fun _ _ => none)),
  (12, .iconst 4, 1, 0, 0, 4, [], (fun _ _ => none)),
  (13, .newarray .int, 2, 7, 1, 0, [], kznewa R_ac n0 s0 0 false),
  (15, .putfield 15, 3, 7, 2, 0, [], kzput 5 4 (ty_5 4)),
  (18, .aload_n 0, 1, 0, 0, 0, [], (fun _ _ => none)),
  (19, .aload_n 1, 1, 0, 1, 0, [], (fun _ _ => none)),
  (20, .putfield 18, 3, 7, 2, 0, [], kzput 5 1 (ty_5 1)),
  (23, .aload_n 0, 1, 0, 0, 0, [], (fun _ _ => none)),
  (24, .new 22, 3, 7, 0, 0, [], kznew R_ac n0 s0 8 nfs_8),
  (27, .dup, 1, 0, 0, 0, [], (fun _ _ => none)),
  (28, .iconst 4, 1, 0, 0, 4, [], (fun _ _ => none)),
  (29, .iconst 5, 1, 0, 0, 5, [], (fun _ _ => none)),
  (30, .aload_n 1, 1, 0, 1, 0, [], (fun _ _ => none)),
  (31, .invokespecial 24, 3, 7, 4, 0, [], kzcall R_ac n0 s0 3 6144 Kc_en),
  (34, .putfield 27, 3, 7, 2, 0, [], kzput 5 2 (ty_5 2)),
  (37, .return_, 1, 6, 0, 0, [], (fun _ _ => none))]
def Kc_ac : zx_K zM := zk_run Lc_ac 2 25 6 6164
set_option maxRecDepth 10000 in
theorem stc_ac : ∀ n0 s0, (Lc_ac n0 s0).map zx_st = (Lc_ac 0 0).map zx_st := by
  intro n0 s0
  simp only [Lc_ac, List.map_cons, List.map_nil, zx_st]
theorem okc_ac : rx_okF prog_2_method_1_code 2 none ((Lc_ac 0 0).map zx_c) 0 ((Lc_ac 0 0).map zx_c) = true := by decide +kernel
set_option maxRecDepth 10000 in
theorem Vc_ac {l : Launch} {D : va_G} {g : Nat → ClassId} {ad : Nat → Nat} {B : Nat} (had : mx_A ad B) (hA : zA ad B) : zx_V l D g ad B ⟨"SubscriberLines$Access", "<init>", "(LSubscriberLines$Flight;)V"⟩ prog_2_method_1_code 2 2 43 6 6164 Kc_ac :=
  zx_met had (by decide) rfl stc_ac okc_ac rfl (fun p e s m args below meth c n0 s0 X hz hin => And.intro (zo_callN (n := 0) X hz (Vc_no had hA) hz.2.1.2.2.1 (al_at 111 (by decide +kernel) rfl) (al_at 4 (by decide +kernel) rfl) (al_at 112 (by decide +kernel) rfl) rfl ⟨by decide, by decide, by decide +kernel⟩ ⟨by decide, by decide⟩) (And.intro (zo_newa X hA rfl rfl (fun _ h => by cases h) rfl (by decide) (fun _ _ _ => rfl) (al_at 128 (by decide +kernel) rfl)) (And.intro (zo_put (T := T_5) X hA rfl (by decide) in_5 ty_5 ty_5_ok nm_5 (al_at 223 (by decide +kernel) rfl) rfl rfl hin rfl rfl) (And.intro (zo_newa X hA rfl rfl (fun _ h => by cases h) rfl (by decide) (fun _ _ _ => rfl) (al_at 128 (by decide +kernel) rfl)) (And.intro (zo_put (T := T_5) X hA rfl (by decide) in_5 ty_5 ty_5_ok nm_5 (al_at 224 (by decide +kernel) rfl) rfl rfl hin rfl rfl) (And.intro (zo_put (T := T_5) X hA rfl (by decide) in_5 ty_5 ty_5_ok nm_5 (al_at 220 (by decide +kernel) rfl) rfl rfl hin rfl rfl) (And.intro (zo_new (T := T_8) X hA rfl in_8 ty_8 ty_8_ok rfl (nfs_8_tr ad) (al_at 175 (by decide +kernel) rfl) (al_at 176 (by decide +kernel) rfl) (al_at 8 (by decide +kernel) rfl)) (And.intro (zo_call (n := 3) X hz (Vc_en had hA) (al_at 177 (by decide +kernel) rfl) (al_at 178 (by decide +kernel) rfl) (al_at 8 (by decide +kernel) rfl) (al_at 179 (by decide +kernel) rfl) rfl ⟨by decide, by decide, by decide +kernel⟩ ⟨by decide, by decide⟩) (And.intro (zo_put (T := T_5) X hA rfl (by decide) in_5 ty_5 ty_5_ok nm_5 (al_at 221 (by decide +kernel) rfl) rfl rfl hin rfl rfl) (trivial))))))))))
abbrev R_sv : Room := { frames := 2, cells := 15, slots := 6208, locals := 43 }
def Lc_sv (n0 s0 : Nat) : List (zx_E zM) := [
  (0, .aload_n 0, 1, 0, 0, 0, [], (fun _ _ => none)),
  (1, .invokespecial 3, 3, 7, 1, 0, [], kzcall R_sv n0 s0 0 0 Kc_no),
  (4, .aload_n 0, 1, 0, 0, 0, [], (fun _ _ => none)),
  (5, .iconst 4, 1, 0, 0, 4, [], (fun _ _ => none)),
  (6, .anewarray 11, 3, 7, 1, 0, [], kznewa R_sv n0 s0 3 true),
  (9, .putfield 13, 3, 7, 2, 0, [], kzput 7 4 (ty_7 4)),
  (12, .aload_n 0, 1, 0, 0, 0, [], (fun _ _ => none)),
  (13, .iconst 4, 1, 0, 0, 4, [], (fun _ _ => none)),
  (14, .newarray .boolean, 2, 7, 1, 0, [], kznewa R_sv n0 s0 1 false),
  (16, .putfield 17, 3, 7, 2, 0, [], kzput 7 6 (ty_7 6)),
  (19, .aload_n 0, 1, 0, 0, 0, [], (fun _ _ => none)),
  (20, .iconst 4, 1, 0, 0, 4, [], (fun _ _ => none)),
  (21, .newarray .int, 2, 7, 1, 0, [], kznewa R_sv n0 s0 0 false),
  (23, .putfield 21, 3, 7, 2, 0, [], kzput 7 7 (ty_7 7)),
  (26, .aload_n 0, 1, 0, 0, 0, [], (fun _ _ => none)),
  (27, .new 25, 3, 7, 0, 0, [], kznew R_sv n0 s0 3 nfs_3),
  (30, .dup, 1, 0, 0, 0, [], (fun _ _ => none)),
  (31, .bipush 8, 2, 0, 0, 8, [], (fun _ _ => none)),
  (33, .invokespecial 27, 3, 7, 2, 0, [], kzcall R_sv n0 s0 1 8 Kc_hi8),
  (36, .putfield 30, 3, 7, 2, 0, [], kzput 7 8 (ty_7 8)),
  (39, .aload_n 0, 1, 0, 0, 0, [], (fun _ _ => none)),
  (40, .new 25, 3, 7, 0, 0, [], kznew R_sv n0 s0 3 nfs_3),
  (43, .dup, 1, 0, 0, 0, [], (fun _ _ => none)),
  (44, .bipush 8, 2, 0, 0, 8, [], (fun _ _ => none)),
  (46, .invokespecial 27, 3, 7, 2, 0, [], kzcall R_sv n0 s0 1 8 Kc_hi8),
  (49, .putfield 34, 3, 7, 2, 0, [], kzput 7 9 (ty_7 9)),
  (52, .aload_n 0, 1, 0, 0, 0, [], (fun _ _ => none)),
  (53, .aload_n 1, 1, 0, 1, 0, [], (fun _ _ => none)),
  (54, .putfield 37, 3, 7, 2, 0, [], kzput 7 1 (ty_7 1)),
  (57, .aload_n 0, 1, 0, 0, 0, [], (fun _ _ => none)),
  (58, .iload_n 2, 1, 0, 2, 0, [], (fun _ _ => none)),
  (59, .putfield 41, 3, 7, 2, 0, [], kzput 7 3 (ty_7 3)),
  (62, .aload_n 0, 1, 0, 0, 0, [], (fun _ _ => none)),
  (63, .new 45, 3, 7, 0, 0, [], kznew R_sv n0 s0 8 nfs_8),
  (66, .dup, 1, 0, 0, 0, [], (fun _ _ => none)),
  (67, .iconst 5, 1, 0, 0, 5, [], (fun _ _ => none)),
  (68, .iconst 4, 1, 0, 0, 4, [], (fun _ _ => none)),
  (69, .aload_n 1, 1, 0, 1, 0, [], (fun _ _ => none)),
  (70, .invokespecial 47, 3, 7, 4, 0, [], kzcall R_sv n0 s0 3 6144 Kc_en),
  (73, .putfield 50, 3, 7, 2, 0, [], kzput 7 2 (ty_7 2)),
  (76, .iconst 0, 1, 0, 0, 0, [], (fun _ _ => none)),
  (77, .istore_n 3, 1, 0, 3, 0, [], (fun _ _ => none)),
  (78, .iload_n 3, 1, 0, 3, 0, [], (fun _ _ => none)),
  (79, .iconst 4, 1, 0, 0, 4, [], (fun _ _ => none)),
  (80, .if_icmp .ge 22, 3, 2, 54, 0, [], (fun _ _ => none)),
  (83, .aload_n 0, 1, 0, 0, 0, [], (fun _ _ => none)),
  (84, .getfield 13, 3, 7, 1, 0, [], kzget 7 4),
  (87, .iload_n 3, 1, 0, 3, 0, [], (fun _ _ => none)),
  (88, .new 11, 3, 7, 0, 0, [], kznew R_sv n0 s0 6 nfs_6),
  (91, .dup, 1, 0, 0, 0, [], (fun _ _ => none)),
  (92, .invokespecial 54, 3, 7, 1, 0, [], kzcall R_sv n0 s0 0 0 Kc_se),
  (95, .aastore, 1, 7, 3, 0, [], kzast 3 6),
  (96, .iinc 3 1, 3, 0, 3, 1, [], (fun _ _ => none)),
  (99, .goto (-21), 3, 1, 42, 0, [], (fun _ _ => none)),
  (102, .return_, 1, 6, 0, 0, [], (fun _ _ => none))]
def Kc_sv : zx_K zM := zk_run Lc_sv 4 200 15 6208
set_option maxRecDepth 10000 in
theorem stc_sv : ∀ n0 s0, (Lc_sv n0 s0).map zx_st = (Lc_sv 0 0).map zx_st := by
  intro n0 s0
  simp only [Lc_sv, List.map_cons, List.map_nil, zx_st]
theorem okc_sv : rx_okF prog_8_method_1_code 4 none ((Lc_sv 0 0).map zx_c) 0 ((Lc_sv 0 0).map zx_c) = true := by decide +kernel
set_option maxRecDepth 10000 in
theorem Vc_sv {l : Launch} {D : va_G} {g : Nat → ClassId} {ad : Nat → Nat} {B : Nat} (had : mx_A ad B) (hA : zA ad B) : zx_V l D g ad B ⟨"SubscriberLines$Server", "<init>", "(LSubscriberLines$Flight;I)V"⟩ prog_8_method_1_code 4 2 43 15 6208 Kc_sv :=
  zx_met had (by decide) rfl stc_sv okc_sv rfl (fun p e s m args below meth c n0 s0 X hz hin => And.intro (zo_callN (n := 0) X hz (Vc_no had hA) hz.2.1.2.2.2.1 (al_at 111 (by decide +kernel) rfl) (al_at 4 (by decide +kernel) rfl) (al_at 112 (by decide +kernel) rfl) rfl ⟨by decide, by decide, by decide +kernel⟩ ⟨by decide, by decide⟩) (And.intro (zo_anew X hA rfl (al_at 256 (by decide +kernel) rfl) hz.1.2.2.2) (And.intro (zo_put (T := T_7) X hA rfl (by decide) in_7 ty_7 ty_7_ok nm_7 (al_at 293 (by decide +kernel) rfl) rfl rfl hin rfl rfl) (And.intro (zo_newa X hA rfl rfl (fun _ h => by cases h) rfl (by decide) (fun _ _ _ => rfl) (al_at 288 (by decide +kernel) rfl)) (And.intro (zo_put (T := T_7) X hA rfl (by decide) in_7 ty_7 ty_7_ok nm_7 (al_at 297 (by decide +kernel) rfl) rfl rfl hin rfl rfl) (And.intro (zo_newa X hA rfl rfl (fun _ h => by cases h) rfl (by decide) (fun _ _ _ => rfl) (al_at 128 (by decide +kernel) rfl)) (And.intro (zo_put (T := T_7) X hA rfl (by decide) in_7 ty_7 ty_7_ok nm_7 (al_at 298 (by decide +kernel) rfl) rfl rfl hin rfl rfl) (And.intro (zo_new (T := T_3) X hA rfl in_3 ty_3 ty_3_ok rfl (nfs_3_tr ad) (al_at 258 (by decide +kernel) rfl) (al_at 115 (by decide +kernel) rfl) (al_at 6 (by decide +kernel) rfl)) (And.intro (zo_call (n := 1) X hz (Vc_hi8 had hA) (al_at 259 (by decide +kernel) rfl) (al_at 117 (by decide +kernel) rfl) (al_at 6 (by decide +kernel) rfl) (al_at 118 (by decide +kernel) rfl) rfl ⟨by decide, by decide, by decide +kernel⟩ ⟨by decide, by decide⟩) (And.intro (zo_put (T := T_7) X hA rfl (by decide) in_7 ty_7 ty_7_ok nm_7 (al_at 299 (by decide +kernel) rfl) rfl rfl hin rfl rfl) (And.intro (zo_new (T := T_3) X hA rfl in_3 ty_3 ty_3_ok rfl (nfs_3_tr ad) (al_at 258 (by decide +kernel) rfl) (al_at 115 (by decide +kernel) rfl) (al_at 6 (by decide +kernel) rfl)) (And.intro (zo_call (n := 1) X hz (Vc_hi8 had hA) (al_at 259 (by decide +kernel) rfl) (al_at 117 (by decide +kernel) rfl) (al_at 6 (by decide +kernel) rfl) (al_at 118 (by decide +kernel) rfl) rfl ⟨by decide, by decide, by decide +kernel⟩ ⟨by decide, by decide⟩) (And.intro (zo_put (T := T_7) X hA rfl (by decide) in_7 ty_7 ty_7_ok nm_7 (al_at 301 (by decide +kernel) rfl) rfl rfl hin rfl rfl) (And.intro (zo_put (T := T_7) X hA rfl (by decide) in_7 ty_7 ty_7_ok nm_7 (al_at 289 (by decide +kernel) rfl) rfl rfl hin rfl rfl) (And.intro (zo_put (T := T_7) X hA rfl (by decide) in_7 ty_7 ty_7_ok nm_7 (al_at 292 (by decide +kernel) rfl) rfl rfl hin rfl rfl) (And.intro (zo_new (T := T_8) X hA rfl in_8 ty_8 ty_8_ok rfl (nfs_8_tr ad) (al_at 260 (by decide +kernel) rfl) (al_at 176 (by decide +kernel) rfl) (al_at 8 (by decide +kernel) rfl)) (And.intro (zo_call (n := 3) X hz (Vc_en had hA) (al_at 261 (by decide +kernel) rfl) (al_at 178 (by decide +kernel) rfl) (al_at 8 (by decide +kernel) rfl) (al_at 179 (by decide +kernel) rfl) rfl ⟨by decide, by decide, by decide +kernel⟩ ⟨by decide, by decide⟩) (And.intro (zo_put (T := T_7) X hA rfl (by decide) in_7 ty_7 ty_7_ok nm_7 (al_at 290 (by decide +kernel) rfl) rfl rfl hin rfl rfl) (And.intro (zo_get (T := T_7) X rfl (by decide) in_7 (al_at 293 (by decide +kernel) rfl) rfl) (And.intro (zo_new (T := T_6) X hA rfl in_6 ty_6 ty_6_ok rfl (nfs_6_tr ad) (al_at 256 (by decide +kernel) rfl) (al_at 262 (by decide +kernel) rfl) (al_at 11 (by decide +kernel) rfl)) (And.intro (zo_callN (n := 0) X hz (Vc_se had hA) hz.2.1.2.2.2.2 (al_at 264 (by decide +kernel) rfl) (al_at 11 (by decide +kernel) rfl) (al_at 265 (by decide +kernel) rfl) rfl ⟨by decide, by decide, by decide +kernel⟩ ⟨by decide, by decide⟩) (And.intro (zo_ast (T := T_6) X hA rfl rfl (zas_same (q := 6) (T := T_6) (N := 5) X rfl)) (trivial)))))))))))))))))))))))
abbrev R_sl : Room := { frames := 3, cells := 81, slots := 12896, locals := 66 }
def Lc_sl (n0 s0 : Nat) : List (zx_E zM) := [
  (0, .aload_n 0, 1, 0, 0, 0, [], (fun _ _ => none)),
  (1, .invokespecial 1, 3, 7, 1, 0, [], kzobj),
  (4, .aload_n 0, 1, 0, 0, 0, [], (fun _ _ => none)),
  (5, .new 7, 3, 7, 0, 0, [], kznew R_sl n0 s0 1 nfs_1),
  (8, .dup, 1, 0, 0, 0, [], (fun _ _ => none)),
  (9, .invokespecial 9, 3, 7, 1, 0, [], kzcall R_sl n0 s0 43 419 Kc_fl),
  (12, .putfield 10, 3, 7, 2, 0, [], kzput 0 0 (ty_0 0)),
  (15, .aload_n 0, 1, 0, 0, 0, [], (fun _ _ => none)),
  (16, .iconst 4, 1, 0, 0, 4, [], (fun _ _ => none)),
  (17, .anewarray 16, 3, 7, 1, 0, [], kznewa R_sl n0 s0 4 true),
  (20, .putfield 18, 3, 7, 2, 0, [], kzput 0 1 (ty_0 1)),
  (23, .aload_n 0, 1, 0, 0, 0, [], (fun _ _ => none)),
  (24, .bipush 6, 2, 0, 0, 6, [], (fun _ _ => none)),
  (26, .anewarray 22, 3, 7, 1, 0, [], kznewa R_sl n0 s0 5 true),
  (29, .putfield 24, 3, 7, 2, 0, [], kzput 0 4 (ty_0 4)),
  (32, .iconst 0, 1, 0, 0, 0, [], (fun _ _ => none)),
  (33, .istore_n 2, 1, 0, 2, 0, [], (fun _ _ => none)),
  (34, .iload_n 2, 1, 0, 2, 0, [], (fun _ _ => none)),
  (35, .iconst 4, 1, 0, 0, 4, [], (fun _ _ => none)),
  (36, .if_icmp .ge 39, 3, 2, 40, 0, [], (fun _ _ => none)),
  (39, .aload_n 0, 1, 0, 0, 0, [], (fun _ _ => none)),
  (40, .getfield 18, 3, 7, 1, 0, [], kzget 0 1),
  (43, .iload_n 2, 1, 0, 2, 0, [], (fun _ _ => none)),
  (44, .new 16, 3, 7, 0, 0, [], kznew R_sl n0 s0 4 nfs_4),
  (47, .dup, 1, 0, 0, 0, [], (fun _ _ => none)),
  (48, .iload_n 2, 1, 0, 2, 0, [], (fun _ _ => none)),
  (49, .aload_n 0, 1, 0, 0, 0, [], (fun _ _ => none)),
  (50, .getfield 10, 3, 7, 1, 0, [], kzget 0 0),
  (53, .invokespecial 28, 3, 7, 3, 0, [], kzcall R_sl n0 s0 2 6 Kc_su),
  (56, .aastore, 1, 7, 3, 0, [], kzast 4 4),
  (57, .aload_n 0, 1, 0, 0, 0, [], (fun _ _ => none)),
  (58, .getfield 24, 3, 7, 1, 0, [], kzget 0 4),
  (61, .iload_n 2, 1, 0, 2, 0, [], (fun _ _ => none)),
  (62, .aload_n 0, 1, 0, 0, 0, [], (fun _ _ => none)),
  (63, .getfield 18, 3, 7, 1, 0, [], kzget 0 1),
  (66, .iload_n 2, 1, 0, 2, 0, [], (fun _ _ => none)),
  (67, .aaload, 1, 7, 2, 0, [], kzald 4),
  (68, .aastore, 1, 7, 3, 0, [], kzast 5 4),
  (69, .iinc 2 1, 3, 0, 2, 1, [], (fun _ _ => none)),
  (72, .goto (-38), 3, 1, 17, 0, [], (fun _ _ => none)),
  (75, .aload_n 0, 1, 0, 0, 0, [], (fun _ _ => none)),
  (76, .new 31, 3, 7, 0, 0, [], kznew R_sl n0 s0 5 nfs_5),
  (79, .dup, 1, 0, 0, 0, [], (fun _ _ => none)),
  (80, .aload_n 0, 1, 0, 0, 0, [], (fun _ _ => none)),
  (81, .getfield 10, 3, 7, 1, 0, [], kzget 0 0),
  (84, .invokespecial 33, 3, 7, 2, 0, [], kzcall R_sl n0 s0 6 6164 Kc_ac),
  (87, .putfield 36, 3, 7, 2, 0, [], kzput 0 2 (ty_0 2)),
  (90, .aload_n 0, 1, 0, 0, 0, [], (fun _ _ => none)),
  (91, .getfield 24, 3, 7, 1, 0, [], kzget 0 4),
  (94, .iconst 4, 1, 0, 0, 4, [], (fun _ _ => none)),
  (95, .aload_n 0, 1, 0, 0, 0, [], (fun _ _ => none)),
  (96, .getfield 36, 3, 7, 1, 0, [], kzget 0 2),
  (99, .aastore, 1, 7, 3, 0, [], kzast 5 5),
  (100, .aload_n 0, 1, 0, 0, 0, [], (fun _ _ => none)),
  (101, .new 40, 3, 7, 0, 0, [], kznew R_sl n0 s0 7 nfs_7),
  (104, .dup, 1, 0, 0, 0, [], (fun _ _ => none)),
  (105, .aload_n 0, 1, 0, 0, 0, [], (fun _ _ => none)),
  (106, .getfield 10, 3, 7, 1, 0, [], kzget 0 0),
  (109, .iconst 1, 1, 0, 0, 1, [], (fun _ _ => none)),
  (110, .iconst 4, 1, 0, 0, 4, [], (fun _ _ => none)),
  (111, .iload_n 1, 1, 0, 1, 0, [], (fun _ _ => none)),
  (112, .invokestatic 42, 3, 7, 2, 0, [], kzmin R_sl n0 s0),
  (115, .invokestatic 48, 3, 7, 2, 0, [], kzmax R_sl n0 s0),
  (118, .invokespecial 51, 3, 7, 3, 0, [], kzcall R_sl n0 s0 15 6208 Kc_sv),
  (121, .putfield 54, 3, 7, 2, 0, [], kzput 0 3 (ty_0 3)),
  (124, .aload_n 0, 1, 0, 0, 0, [], (fun _ _ => none)),
  (125, .getfield 24, 3, 7, 1, 0, [], kzget 0 4),
  (128, .iconst 5, 1, 0, 0, 5, [], (fun _ _ => none)),
  (129, .aload_n 0, 1, 0, 0, 0, [], (fun _ _ => none)),
  (130, .getfield 54, 3, 7, 1, 0, [], kzget 0 3),
  (133, .aastore, 1, 7, 3, 0, [], kzast 5 7),
  (134, .return_, 1, 6, 0, 0, [], (fun _ _ => none))]
def Kc_sl : zx_K zM := zk_run Lc_sl 3 300 81 12896
set_option maxRecDepth 10000 in
theorem stc_sl : ∀ n0 s0, (Lc_sl n0 s0).map zx_st = (Lc_sl 0 0).map zx_st := by
  intro n0 s0
  simp only [Lc_sl, List.map_cons, List.map_nil, zx_st]
theorem okc_sl : rx_okF prog_1_method_1_code 3 none ((Lc_sl 0 0).map zx_c) 0 ((Lc_sl 0 0).map zx_c) = true := by decide +kernel
set_option maxRecDepth 10000 in
theorem Vc_sl {l : Launch} {D : va_G} {g : Nat → ClassId} {ad : Nat → Nat} {B : Nat} (had : mx_A ad B) (hA : zA ad B) : zx_V l D g ad B ⟨"SubscriberLines", "<init>", "(I)V"⟩ prog_1_method_1_code 3 3 66 81 12896 Kc_sl :=
  zx_met had (by decide) rfl stc_sl okc_sl rfl (fun p e s m args below meth c n0 s0 X hz hin => And.intro (zo_obj X (al_at 18 (by decide +kernel) rfl) (al_at 19 (by decide +kernel) rfl) (al_at 20 (by decide +kernel) rfl) ⟨by decide, by decide⟩) (And.intro (zo_new (T := T_1) X hA rfl in_1 ty_1 ty_1_ok rfl (nfs_1_tr ad) (al_at 21 (by decide +kernel) rfl) (al_at 22 (by decide +kernel) rfl) (al_at 2 (by decide +kernel) rfl)) (And.intro (zo_call (n := 0) X hz (Vc_fl had hA) (al_at 23 (by decide +kernel) rfl) (al_at 24 (by decide +kernel) rfl) (al_at 2 (by decide +kernel) rfl) (al_at 25 (by decide +kernel) rfl) rfl ⟨by decide, by decide, by decide +kernel⟩ ⟨by decide, by decide⟩) (And.intro (zo_put (T := T_0) X hA rfl (by decide) in_0 ty_0 ty_0_ok nm_0 (al_at 330 (by decide +kernel) rfl) rfl rfl hin rfl rfl) (And.intro (zo_anew X hA rfl (al_at 102 (by decide +kernel) rfl) hz.1.2.1) (And.intro (zo_put (T := T_0) X hA rfl (by decide) in_0 ty_0 ty_0_ok nm_0 (al_at 331 (by decide +kernel) rfl) rfl rfl hin rfl rfl) (And.intro (zo_anew X hA rfl (al_at 104 (by decide +kernel) rfl) hz.1.2.2.1) (And.intro (zo_put (T := T_0) X hA rfl (by decide) in_0 ty_0 ty_0_ok nm_0 (al_at 334 (by decide +kernel) rfl) rfl rfl hin rfl rfl) (And.intro (zo_get (T := T_0) X rfl (by decide) in_0 (al_at 331 (by decide +kernel) rfl) rfl) (And.intro (zo_new (T := T_4) X hA rfl in_4 ty_4 ty_4_ok rfl (nfs_4_tr ad) (al_at 102 (by decide +kernel) rfl) (al_at 106 (by decide +kernel) rfl) (al_at 5 (by decide +kernel) rfl)) (And.intro (zo_get (T := T_0) X rfl (by decide) in_0 (al_at 330 (by decide +kernel) rfl) rfl) (And.intro (zo_call (n := 2) X hz (Vc_su had hA) (al_at 107 (by decide +kernel) rfl) (al_at 108 (by decide +kernel) rfl) (al_at 5 (by decide +kernel) rfl) (al_at 109 (by decide +kernel) rfl) rfl ⟨by decide, by decide, by decide +kernel⟩ ⟨by decide, by decide⟩) (And.intro (zo_ast (T := T_4) X hA rfl rfl (zas_same (q := 4) (T := T_4) (N := 12) X rfl)) (And.intro (zo_get (T := T_0) X rfl (by decide) in_0 (al_at 334 (by decide +kernel) rfl) rfl) (And.intro (zo_get (T := T_0) X rfl (by decide) in_0 (al_at 331 (by decide +kernel) rfl) rfl) (And.intro (zo_ald X rfl) (And.intro (zo_ast (T := T_4) X hA rfl rfl (vb_asgC hz.2.2.2.2)) (And.intro (zo_new (T := T_5) X hA rfl in_5 ty_5 ty_5_ok rfl (nfs_5_tr ad) (al_at 169 (by decide +kernel) rfl) (al_at 170 (by decide +kernel) rfl) (al_at 7 (by decide +kernel) rfl)) (And.intro (zo_get (T := T_0) X rfl (by decide) in_0 (al_at 330 (by decide +kernel) rfl) rfl) (And.intro (zo_call (n := 1) X hz (Vc_ac had hA) (al_at 171 (by decide +kernel) rfl) (al_at 172 (by decide +kernel) rfl) (al_at 7 (by decide +kernel) rfl) (al_at 173 (by decide +kernel) rfl) rfl ⟨by decide, by decide, by decide +kernel⟩ ⟨by decide, by decide⟩) (And.intro (zo_put (T := T_0) X hA rfl (by decide) in_0 ty_0 ty_0_ok nm_0 (al_at 332 (by decide +kernel) rfl) rfl rfl hin rfl rfl) (And.intro (zo_get (T := T_0) X rfl (by decide) in_0 (al_at 334 (by decide +kernel) rfl) rfl) (And.intro (zo_get (T := T_0) X rfl (by decide) in_0 (al_at 332 (by decide +kernel) rfl) rfl) (And.intro (zo_ast (T := T_5) X hA rfl rfl (vb_asgC hz.2.2.1)) (And.intro (zo_new (T := T_7) X hA rfl in_7 ty_7 ty_7_ok rfl (nfs_7_tr ad) (al_at 244 (by decide +kernel) rfl) (al_at 245 (by decide +kernel) rfl) (al_at 9 (by decide +kernel) rfl)) (And.intro (zo_get (T := T_0) X rfl (by decide) in_0 (al_at 330 (by decide +kernel) rfl) rfl) (And.intro (zo_min X (al_at 246 (by decide +kernel) rfl) (by decide) (by decide)) (And.intro (zo_max X (al_at 249 (by decide +kernel) rfl) (by decide) (by decide)) (And.intro (zo_call (n := 2) X hz (Vc_sv had hA) (al_at 252 (by decide +kernel) rfl) (al_at 253 (by decide +kernel) rfl) (al_at 9 (by decide +kernel) rfl) (al_at 254 (by decide +kernel) rfl) rfl ⟨by decide, by decide, by decide +kernel⟩ ⟨by decide, by decide⟩) (And.intro (zo_put (T := T_0) X hA rfl (by decide) in_0 ty_0 ty_0_ok nm_0 (al_at 333 (by decide +kernel) rfl) rfl rfl hin rfl rfl) (And.intro (zo_get (T := T_0) X rfl (by decide) in_0 (al_at 334 (by decide +kernel) rfl) rfl) (And.intro (zo_get (T := T_0) X rfl (by decide) in_0 (al_at 333 (by decide +kernel) rfl) rfl) (And.intro (zo_ast (T := T_7) X hA rfl rfl (vb_asgC hz.2.2.2.1)) (trivial))))))))))))))))))))))))))))))))))
abbrev R_mo : Room := { frames := 1, cells := 33, slots := 8880, locals := 20 }
def Lc_mo (n0 s0 : Nat) : List (zx_E zM) := [
  (0, .aload_n 0, 1, 0, 0, 0, [], (fun _ _ => none)),
  (1, .invokespecial 1, 3, 7, 1, 0, [], kzobj),
  (4, .aload_n 0, 1, 0, 0, 0, [], (fun _ _ => none)),
  (5, .iconst 4, 1, 0, 0, 4, [], (fun _ _ => none)),
  (6, .newarray .boolean, 2, 7, 1, 0, [], kznewa R_mo n0 s0 1 false),
  (8, .putfield 7, 3, 7, 2, 0, [], kzput 9 1 (ty_9 1)),
  (11, .aload_n 0, 1, 0, 0, 0, [], (fun _ _ => none)),
  (12, .iconst 4, 1, 0, 0, 4, [], (fun _ _ => none)),
  (13, .newarray .int, 2, 7, 1, 0, [], kznewa R_mo n0 s0 0 false),
  (15, .putfield 13, 3, 7, 2, 0, [], kzput 9 2 (ty_9 2)),
  (18, .aload_n 0, 1, 0, 0, 0, [], (fun _ _ => none)),
  (19, .sipush 360, 3, 0, 0, 360, [], (fun _ _ => none)),
  (22, .newarray .int, 2, 7, 1, 0, [], kznewa R_mo n0 s0 0 false),
  (24, .putfield 17, 3, 7, 2, 0, [], kzput 9 4 (ty_9 4)),
  (27, .aload_n 0, 1, 0, 0, 0, [], (fun _ _ => none)),
  (28, .iconst 4, 1, 0, 0, 4, [], (fun _ _ => none)),
  (29, .newarray .int, 2, 7, 1, 0, [], kznewa R_mo n0 s0 0 false),
  (31, .putfield 20, 3, 7, 2, 0, [], kzput 9 5 (ty_9 5)),
  (34, .aload_n 0, 1, 0, 0, 0, [], (fun _ _ => none)),
  (35, .iconst 4, 1, 0, 0, 4, [], (fun _ _ => none)),
  (36, .newarray .int, 2, 7, 1, 0, [], kznewa R_mo n0 s0 0 false),
  (38, .putfield 23, 3, 7, 2, 0, [], kzput 9 6 (ty_9 6)),
  (41, .aload_n 0, 1, 0, 0, 0, [], (fun _ _ => none)),
  (42, .iconst 4, 1, 0, 0, 4, [], (fun _ _ => none)),
  (43, .newarray .int, 2, 7, 1, 0, [], kznewa R_mo n0 s0 0 false),
  (45, .putfield 26, 3, 7, 2, 0, [], kzput 9 7 (ty_9 7)),
  (48, .aload_n 0, 1, 0, 0, 0, [], (fun _ _ => none)),
  (49, .iconst 4, 1, 0, 0, 4, [], (fun _ _ => none)),
  (50, .newarray .int, 2, 7, 1, 0, [], kznewa R_mo n0 s0 0 false),
  (52, .putfield 29, 3, 7, 2, 0, [], kzput 9 8 (ty_9 8)),
  (55, .aload_n 0, 1, 0, 0, 0, [], (fun _ _ => none)),
  (56, .iconst 4, 1, 0, 0, 4, [], (fun _ _ => none)),
  (57, .newarray .int, 2, 7, 1, 0, [], kznewa R_mo n0 s0 0 false),
  (59, .putfield 32, 3, 7, 2, 0, [], kzput 9 9 (ty_9 9)),
  (62, .aload_n 0, 1, 0, 0, 0, [], (fun _ _ => none)),
  (63, .iconst 4, 1, 0, 0, 4, [], (fun _ _ => none)),
  (64, .newarray .int, 2, 7, 1, 0, [], kznewa R_mo n0 s0 0 false),
  (66, .putfield 35, 3, 7, 2, 0, [], kzput 9 10 (ty_9 10)),
  (69, .aload_n 0, 1, 0, 0, 0, [], (fun _ _ => none)),
  (70, .iconst 4, 1, 0, 0, 4, [], (fun _ _ => none)),
  (71, .newarray .int, 2, 7, 1, 0, [], kznewa R_mo n0 s0 0 false),
  (73, .putfield 38, 3, 7, 2, 0, [], kzput 9 11 (ty_9 11)),
  (76, .aload_n 0, 1, 0, 0, 0, [], (fun _ _ => none)),
  (77, .iconst 4, 1, 0, 0, 4, [], (fun _ _ => none)),
  (78, .newarray .int, 2, 7, 1, 0, [], kznewa R_mo n0 s0 0 false),
  (80, .putfield 41, 3, 7, 2, 0, [], kzput 9 12 (ty_9 12)),
  (83, .aload_n 0, 1, 0, 0, 0, [], (fun _ _ => none)),
  (84, .iconst 4, 1, 0, 0, 4, [], (fun _ _ => none)),
  (85, .newarray .int, 2, 7, 1, 0, [], kznewa R_mo n0 s0 0 false),
  (87, .putfield 44, 3, 7, 2, 0, [], kzput 9 13 (ty_9 13)),
  (90, .aload_n 0, 1, 0, 0, 0, [], (fun _ _ => none)),
  (91, .bipush 16, 2, 0, 0, 16, [], (fun _ _ => none)),
  (93, .newarray .int, 2, 7, 1, 0, [], kznewa R_mo n0 s0 0 false),
  (95, .putfield 47, 3, 7, 2, 0, [], kzput 9 14 (ty_9 14)),
  (98, .aload_n 0, 1, 0, 0, 0, [], (fun _ _ => none)),
  (99, .iconst 4, 1, 0, 0, 4, [], (fun _ _ => none)),
  (100, .newarray .int, 2, 7, 1, 0, [], kznewa R_mo n0 s0 0 false),
  (102, .putfield 50, 3, 7, 2, 0, [], kzput 9 15 (ty_9 15)),
  (105, .aload_n 0, 1, 0, 0, 0, [], (fun _ _ => none)),
  (106, .iconst 4, 1, 0, 0, 4, [], (fun _ _ => none)),
  (107, .newarray .int, 2, 7, 1, 0, [], kznewa R_mo n0 s0 0 false),
  (109, .putfield 53, 3, 7, 2, 0, [], kzput 9 16 (ty_9 16)),
  (112, .aload_n 0, 1, 0, 0, 0, [], (fun _ _ => none)),
  (113, .iconst 4, 1, 0, 0, 4, [], (fun _ _ => none)),
  (114, .newarray .int, 2, 7, 1, 0, [], kznewa R_mo n0 s0 0 false),
  (116, .putfield 56, 3, 7, 2, 0, [], kzput 9 19 (ty_9 19)),
  (119, .aload_n 0, 1, 0, 0, 0, [], (fun _ _ => none)),
  (120, .iconst 4, 1, 0, 0, 4, [], (fun _ _ => none)),
  (121, .newarray .int, 2, 7, 1, 0, [], kznewa R_mo n0 s0 0 false),
  (123, .putfield 59, 3, 7, 2, 0, [], kzput 9 20 (ty_9 20)),
  (126, .aload_n 0, 1, 0, 0, 0, [], (fun _ _ => none)),
  (127, .iconst 4, 1, 0, 0, 4, [], (fun _ _ => none)),
  (128, .newarray .int, 2, 7, 1, 0, [], kznewa R_mo n0 s0 0 false),
  (130, .putfield 62, 3, 7, 2, 0, [], kzput 9 21 (ty_9 21)),
  (133, .aload_n 0, 1, 0, 0, 0, [], (fun _ _ => none)),
  (134, .iconst 4, 1, 0, 0, 4, [], (fun _ _ => none)),
  (135, .newarray .int, 2, 7, 1, 0, [], kznewa R_mo n0 s0 0 false),
  (137, .putfield 65, 3, 7, 2, 0, [], kzput 9 22 (ty_9 22)),
  (140, .aload_n 0, 1, 0, 0, 0, [], (fun _ _ => none)),
  (141, .iconst 4, 1, 0, 0, 4, [], (fun _ _ => none)),
  (142, .newarray .int, 2, 7, 1, 0, [], kznewa R_mo n0 s0 0 false),
  (144, .putfield 68, 3, 7, 2, 0, [], kzput 9 23 (ty_9 23)),
  (147, .aload_n 0, 1, 0, 0, 0, [], (fun _ _ => none)),
  (148, .bipush 8, 2, 0, 0, 8, [], (fun _ _ => none)),
  (150, .newarray .int, 2, 7, 1, 0, [], kznewa R_mo n0 s0 0 false),
  (152, .putfield 71, 3, 7, 2, 0, [], kzput 9 26 (ty_9 26)),
  (155, .aload_n 0, 1, 0, 0, 0, [], (fun _ _ => none)),
  (156, .bipush 8, 2, 0, 0, 8, [], (fun _ _ => none)),
  (158, .newarray .int, 2, 7, 1, 0, [], kznewa R_mo n0 s0 0 false),
  (160, .putfield 74, 3, 7, 2, 0, [], kzput 9 27 (ty_9 27)),
  (163, .aload_n 0, 1, 0, 0, 0, [], (fun _ _ => none)),
  (164, .iconst 2, 1, 0, 0, 2, [], (fun _ _ => none)),
  (165, .newarray .int, 2, 7, 1, 0, [], kznewa R_mo n0 s0 0 false),
  (167, .putfield 77, 3, 7, 2, 0, [], kzput 9 31 (ty_9 31)),
  (170, .aload_n 0, 1, 0, 0, 0, [], (fun _ _ => none)),
  (171, .iconst 2, 1, 0, 0, 2, [], (fun _ _ => none)),
  (172, .newarray .int, 2, 7, 1, 0, [], kznewa R_mo n0 s0 0 false),
  (174, .putfield 80, 3, 7, 2, 0, [], kzput 9 32 (ty_9 32)),
  (177, .aload_n 0, 1, 0, 0, 0, [], (fun _ _ => none)),
  (178, .iconst 2, 1, 0, 0, 2, [], (fun _ _ => none)),
  (179, .newarray .int, 2, 7, 1, 0, [], kznewa R_mo n0 s0 0 false),
  (181, .putfield 83, 3, 7, 2, 0, [], kzput 9 33 (ty_9 33)),
  (184, .aload_n 0, 1, 0, 0, 0, [], (fun _ _ => none)),
  (185, .iconst 2, 1, 0, 0, 2, [], (fun _ _ => none)),
  (186, .newarray .int, 2, 7, 1, 0, [], kznewa R_mo n0 s0 0 false),
  (188, .putfield 86, 3, 7, 2, 0, [], kzput 9 34 (ty_9 34)),
  (191, .aload_n 0, 1, 0, 0, 0, [], (fun _ _ => none)),
  (192, .iconst 2, 1, 0, 0, 2, [], (fun _ _ => none)),
  (193, .newarray .int, 2, 7, 1, 0, [], kznewa R_mo n0 s0 0 false),
  (195, .putfield 89, 3, 7, 2, 0, [], kzput 9 35 (ty_9 35)),
  (198, .aload_n 0, 1, 0, 0, 0, [], (fun _ _ => none)),
  (199, .iconst 2, 1, 0, 0, 2, [], (fun _ _ => none)),
  (200, .newarray .int, 2, 7, 1, 0, [], kznewa R_mo n0 s0 0 false),
  (202, .putfield 92, 3, 7, 2, 0, [], kzput 9 36 (ty_9 36)),
  (205, .aload_n 0, 1, 0, 0, 0, [], (fun _ _ => none)),
  (206, .iconst 2, 1, 0, 0, 2, [], (fun _ _ => none)),
  (207, .newarray .int, 2, 7, 1, 0, [], kznewa R_mo n0 s0 0 false),
  (209, .putfield 95, 3, 7, 2, 0, [], kzput 9 37 (ty_9 37)),
  (212, .aload_n 0, 1, 0, 0, 0, [], (fun _ _ => none)),
  (213, .iconst 2, 1, 0, 0, 2, [], (fun _ _ => none)),
  (214, .newarray .int, 2, 7, 1, 0, [], kznewa R_mo n0 s0 0 false),
  (216, .putfield 98, 3, 7, 2, 0, [], kzput 9 38 (ty_9 38)),
  (219, .aload_n 0, 1, 0, 0, 0, [], (fun _ _ => none)),
  (220, .sipush 2800, 3, 0, 0, 2800, [], (fun _ _ => none)),
  (223, .newarray .int, 2, 7, 1, 0, [], kznewa R_mo n0 s0 0 false),
  (225, .putfield 101, 3, 7, 2, 0, [], kzput 9 39 (ty_9 39)),
  (228, .aload_n 0, 1, 0, 0, 0, [], (fun _ _ => none)),
  (229, .sipush 2800, 3, 0, 0, 2800, [], (fun _ _ => none)),
  (232, .newarray .int, 2, 7, 1, 0, [], kznewa R_mo n0 s0 0 false),
  (234, .putfield 104, 3, 7, 2, 0, [], kzput 9 40 (ty_9 40)),
  (237, .aload_n 0, 1, 0, 0, 0, [], (fun _ _ => none)),
  (238, .sipush 2800, 3, 0, 0, 2800, [], (fun _ _ => none)),
  (241, .newarray .int, 2, 7, 1, 0, [], kznewa R_mo n0 s0 0 false),
  (243, .putfield 107, 3, 7, 2, 0, [], kzput 9 41 (ty_9 41)),
  (246, .aload_n 0, 1, 0, 0, 0, [], (fun _ _ => none)),
  (247, .iload_n 1, 1, 0, 1, 0, [], (fun _ _ => none)),
  (248, .iconst 1, 1, 0, 0, 1, [], (fun _ _ => none)),
  (249, .if_icmp .ge 7, 3, 2, 140, 0, [], (fun _ _ => none)),
  (252, .iconst 1, 1, 0, 0, 1, [], (fun _ _ => none)),
  (253, .goto 13, 3, 1, 146, 0, [], (fun _ _ => none)),
  (256, .iload_n 1, 1, 0, 1, 0, [], (fun _ _ => none)),
  (257, .iconst 4, 1, 0, 0, 4, [], (fun _ _ => none)),
  (258, .if_icmp .le 7, 3, 2, 145, 0, [], (fun _ _ => none)),
  (261, .iconst 4, 1, 0, 0, 4, [], (fun _ _ => none)),
  (262, .goto 4, 3, 1, 146, 0, [], (fun _ _ => none)),
  (265, .iload_n 1, 1, 0, 1, 0, [], (fun _ _ => none)),
  (266, .putfield 110, 3, 7, 2, 0, [], kzput 9 0 (ty_9 0)),
  (269, .return_, 1, 6, 0, 0, [], (fun _ _ => none))]
def Kc_mo : zx_K zM := zk_run Lc_mo 2 400 33 8880
set_option maxRecDepth 10000 in
theorem stc_mo : ∀ n0 s0, (Lc_mo n0 s0).map zx_st = (Lc_mo 0 0).map zx_st := by
  intro n0 s0
  simp only [Lc_mo, List.map_cons, List.map_nil, zx_st]
theorem okc_mo : rx_okF prog_12_method_1_code 2 none ((Lc_mo 0 0).map zx_c) 0 ((Lc_mo 0 0).map zx_c) = true := by decide +kernel
set_option maxRecDepth 10000 in
theorem Vc_mo {l : Launch} {D : va_G} {g : Nat → ClassId} {ad : Nat → Nat} {B : Nat} (had : mx_A ad B) (hA : zA ad B) : zx_V l D g ad B ⟨"SubscriberLinesModel", "<init>", "(I)V"⟩ prog_12_method_1_code 2 1 20 33 8880 Kc_mo :=
  zx_met had (by decide) rfl stc_mo okc_mo rfl (fun p e s m args below meth c n0 s0 X hz hin => And.intro (zo_obj X (al_at 710 (by decide +kernel) rfl) (al_at 19 (by decide +kernel) rfl) (al_at 20 (by decide +kernel) rfl) ⟨by decide, by decide⟩) (And.intro (zo_newa X hA rfl rfl (fun _ h => by cases h) rfl (by decide) (fun _ _ _ => rfl) (al_at 288 (by decide +kernel) rfl)) (And.intro (zo_put (T := T_9) X hA rfl (by decide) in_9 ty_9 ty_9_ok nm_9 (al_at 712 (by decide +kernel) rfl) rfl rfl hin rfl rfl) (And.intro (zo_newa X hA rfl rfl (fun _ h => by cases h) rfl (by decide) (fun _ _ _ => rfl) (al_at 128 (by decide +kernel) rfl)) (And.intro (zo_put (T := T_9) X hA rfl (by decide) in_9 ty_9 ty_9_ok nm_9 (al_at 713 (by decide +kernel) rfl) rfl rfl hin rfl rfl) (And.intro (zo_newa X hA rfl rfl (fun _ h => by cases h) rfl (by decide) (fun _ _ _ => rfl) (al_at 128 (by decide +kernel) rfl)) (And.intro (zo_put (T := T_9) X hA rfl (by decide) in_9 ty_9 ty_9_ok nm_9 (al_at 715 (by decide +kernel) rfl) rfl rfl hin rfl rfl) (And.intro (zo_newa X hA rfl rfl (fun _ h => by cases h) rfl (by decide) (fun _ _ _ => rfl) (al_at 128 (by decide +kernel) rfl)) (And.intro (zo_put (T := T_9) X hA rfl (by decide) in_9 ty_9 ty_9_ok nm_9 (al_at 716 (by decide +kernel) rfl) rfl rfl hin rfl rfl) (And.intro (zo_newa X hA rfl rfl (fun _ h => by cases h) rfl (by decide) (fun _ _ _ => rfl) (al_at 128 (by decide +kernel) rfl)) (And.intro (zo_put (T := T_9) X hA rfl (by decide) in_9 ty_9 ty_9_ok nm_9 (al_at 717 (by decide +kernel) rfl) rfl rfl hin rfl rfl) (And.intro (zo_newa X hA rfl rfl (fun _ h => by cases h) rfl (by decide) (fun _ _ _ => rfl) (al_at 128 (by decide +kernel) rfl)) (And.intro (zo_put (T := T_9) X hA rfl (by decide) in_9 ty_9 ty_9_ok nm_9 (al_at 718 (by decide +kernel) rfl) rfl rfl hin rfl rfl) (And.intro (zo_newa X hA rfl rfl (fun _ h => by cases h) rfl (by decide) (fun _ _ _ => rfl) (al_at 128 (by decide +kernel) rfl)) (And.intro (zo_put (T := T_9) X hA rfl (by decide) in_9 ty_9 ty_9_ok nm_9 (al_at 719 (by decide +kernel) rfl) rfl rfl hin rfl rfl) (And.intro (zo_newa X hA rfl rfl (fun _ h => by cases h) rfl (by decide) (fun _ _ _ => rfl) (al_at 128 (by decide +kernel) rfl)) (And.intro (zo_put (T := T_9) X hA rfl (by decide) in_9 ty_9 ty_9_ok nm_9 (al_at 720 (by decide +kernel) rfl) rfl rfl hin rfl rfl) (And.intro (zo_newa X hA rfl rfl (fun _ h => by cases h) rfl (by decide) (fun _ _ _ => rfl) (al_at 128 (by decide +kernel) rfl)) (And.intro (zo_put (T := T_9) X hA rfl (by decide) in_9 ty_9 ty_9_ok nm_9 (al_at 721 (by decide +kernel) rfl) rfl rfl hin rfl rfl) (And.intro (zo_newa X hA rfl rfl (fun _ h => by cases h) rfl (by decide) (fun _ _ _ => rfl) (al_at 128 (by decide +kernel) rfl)) (And.intro (zo_put (T := T_9) X hA rfl (by decide) in_9 ty_9 ty_9_ok nm_9 (al_at 722 (by decide +kernel) rfl) rfl rfl hin rfl rfl) (And.intro (zo_newa X hA rfl rfl (fun _ h => by cases h) rfl (by decide) (fun _ _ _ => rfl) (al_at 128 (by decide +kernel) rfl)) (And.intro (zo_put (T := T_9) X hA rfl (by decide) in_9 ty_9 ty_9_ok nm_9 (al_at 723 (by decide +kernel) rfl) rfl rfl hin rfl rfl) (And.intro (zo_newa X hA rfl rfl (fun _ h => by cases h) rfl (by decide) (fun _ _ _ => rfl) (al_at 128 (by decide +kernel) rfl)) (And.intro (zo_put (T := T_9) X hA rfl (by decide) in_9 ty_9 ty_9_ok nm_9 (al_at 724 (by decide +kernel) rfl) rfl rfl hin rfl rfl) (And.intro (zo_newa X hA rfl rfl (fun _ h => by cases h) rfl (by decide) (fun _ _ _ => rfl) (al_at 128 (by decide +kernel) rfl)) (And.intro (zo_put (T := T_9) X hA rfl (by decide) in_9 ty_9 ty_9_ok nm_9 (al_at 725 (by decide +kernel) rfl) rfl rfl hin rfl rfl) (And.intro (zo_newa X hA rfl rfl (fun _ h => by cases h) rfl (by decide) (fun _ _ _ => rfl) (al_at 128 (by decide +kernel) rfl)) (And.intro (zo_put (T := T_9) X hA rfl (by decide) in_9 ty_9 ty_9_ok nm_9 (al_at 726 (by decide +kernel) rfl) rfl rfl hin rfl rfl) (And.intro (zo_newa X hA rfl rfl (fun _ h => by cases h) rfl (by decide) (fun _ _ _ => rfl) (al_at 128 (by decide +kernel) rfl)) (And.intro (zo_put (T := T_9) X hA rfl (by decide) in_9 ty_9 ty_9_ok nm_9 (al_at 727 (by decide +kernel) rfl) rfl rfl hin rfl rfl) (And.intro (zo_newa X hA rfl rfl (fun _ h => by cases h) rfl (by decide) (fun _ _ _ => rfl) (al_at 128 (by decide +kernel) rfl)) (And.intro (zo_put (T := T_9) X hA rfl (by decide) in_9 ty_9 ty_9_ok nm_9 (al_at 730 (by decide +kernel) rfl) rfl rfl hin rfl rfl) (And.intro (zo_newa X hA rfl rfl (fun _ h => by cases h) rfl (by decide) (fun _ _ _ => rfl) (al_at 128 (by decide +kernel) rfl)) (And.intro (zo_put (T := T_9) X hA rfl (by decide) in_9 ty_9 ty_9_ok nm_9 (al_at 731 (by decide +kernel) rfl) rfl rfl hin rfl rfl) (And.intro (zo_newa X hA rfl rfl (fun _ h => by cases h) rfl (by decide) (fun _ _ _ => rfl) (al_at 128 (by decide +kernel) rfl)) (And.intro (zo_put (T := T_9) X hA rfl (by decide) in_9 ty_9 ty_9_ok nm_9 (al_at 732 (by decide +kernel) rfl) rfl rfl hin rfl rfl) (And.intro (zo_newa X hA rfl rfl (fun _ h => by cases h) rfl (by decide) (fun _ _ _ => rfl) (al_at 128 (by decide +kernel) rfl)) (And.intro (zo_put (T := T_9) X hA rfl (by decide) in_9 ty_9 ty_9_ok nm_9 (al_at 733 (by decide +kernel) rfl) rfl rfl hin rfl rfl) (And.intro (zo_newa X hA rfl rfl (fun _ h => by cases h) rfl (by decide) (fun _ _ _ => rfl) (al_at 128 (by decide +kernel) rfl)) (And.intro (zo_put (T := T_9) X hA rfl (by decide) in_9 ty_9 ty_9_ok nm_9 (al_at 734 (by decide +kernel) rfl) rfl rfl hin rfl rfl) (And.intro (zo_newa X hA rfl rfl (fun _ h => by cases h) rfl (by decide) (fun _ _ _ => rfl) (al_at 128 (by decide +kernel) rfl)) (And.intro (zo_put (T := T_9) X hA rfl (by decide) in_9 ty_9 ty_9_ok nm_9 (al_at 737 (by decide +kernel) rfl) rfl rfl hin rfl rfl) (And.intro (zo_newa X hA rfl rfl (fun _ h => by cases h) rfl (by decide) (fun _ _ _ => rfl) (al_at 128 (by decide +kernel) rfl)) (And.intro (zo_put (T := T_9) X hA rfl (by decide) in_9 ty_9 ty_9_ok nm_9 (al_at 738 (by decide +kernel) rfl) rfl rfl hin rfl rfl) (And.intro (zo_newa X hA rfl rfl (fun _ h => by cases h) rfl (by decide) (fun _ _ _ => rfl) (al_at 128 (by decide +kernel) rfl)) (And.intro (zo_put (T := T_9) X hA rfl (by decide) in_9 ty_9 ty_9_ok nm_9 (al_at 742 (by decide +kernel) rfl) rfl rfl hin rfl rfl) (And.intro (zo_newa X hA rfl rfl (fun _ h => by cases h) rfl (by decide) (fun _ _ _ => rfl) (al_at 128 (by decide +kernel) rfl)) (And.intro (zo_put (T := T_9) X hA rfl (by decide) in_9 ty_9 ty_9_ok nm_9 (al_at 743 (by decide +kernel) rfl) rfl rfl hin rfl rfl) (And.intro (zo_newa X hA rfl rfl (fun _ h => by cases h) rfl (by decide) (fun _ _ _ => rfl) (al_at 128 (by decide +kernel) rfl)) (And.intro (zo_put (T := T_9) X hA rfl (by decide) in_9 ty_9 ty_9_ok nm_9 (al_at 744 (by decide +kernel) rfl) rfl rfl hin rfl rfl) (And.intro (zo_newa X hA rfl rfl (fun _ h => by cases h) rfl (by decide) (fun _ _ _ => rfl) (al_at 128 (by decide +kernel) rfl)) (And.intro (zo_put (T := T_9) X hA rfl (by decide) in_9 ty_9 ty_9_ok nm_9 (al_at 745 (by decide +kernel) rfl) rfl rfl hin rfl rfl) (And.intro (zo_newa X hA rfl rfl (fun _ h => by cases h) rfl (by decide) (fun _ _ _ => rfl) (al_at 128 (by decide +kernel) rfl)) (And.intro (zo_put (T := T_9) X hA rfl (by decide) in_9 ty_9 ty_9_ok nm_9 (al_at 746 (by decide +kernel) rfl) rfl rfl hin rfl rfl) (And.intro (zo_newa X hA rfl rfl (fun _ h => by cases h) rfl (by decide) (fun _ _ _ => rfl) (al_at 128 (by decide +kernel) rfl)) (And.intro (zo_put (T := T_9) X hA rfl (by decide) in_9 ty_9 ty_9_ok nm_9 (al_at 747 (by decide +kernel) rfl) rfl rfl hin rfl rfl) (And.intro (zo_newa X hA rfl rfl (fun _ h => by cases h) rfl (by decide) (fun _ _ _ => rfl) (al_at 128 (by decide +kernel) rfl)) (And.intro (zo_put (T := T_9) X hA rfl (by decide) in_9 ty_9 ty_9_ok nm_9 (al_at 748 (by decide +kernel) rfl) rfl rfl hin rfl rfl) (And.intro (zo_newa X hA rfl rfl (fun _ h => by cases h) rfl (by decide) (fun _ _ _ => rfl) (al_at 128 (by decide +kernel) rfl)) (And.intro (zo_put (T := T_9) X hA rfl (by decide) in_9 ty_9 ty_9_ok nm_9 (al_at 749 (by decide +kernel) rfl) rfl rfl hin rfl rfl) (And.intro (zo_newa X hA rfl rfl (fun _ h => by cases h) rfl (by decide) (fun _ _ _ => rfl) (al_at 128 (by decide +kernel) rfl)) (And.intro (zo_put (T := T_9) X hA rfl (by decide) in_9 ty_9 ty_9_ok nm_9 (al_at 750 (by decide +kernel) rfl) rfl rfl hin rfl rfl) (And.intro (zo_newa X hA rfl rfl (fun _ h => by cases h) rfl (by decide) (fun _ _ _ => rfl) (al_at 128 (by decide +kernel) rfl)) (And.intro (zo_put (T := T_9) X hA rfl (by decide) in_9 ty_9 ty_9_ok nm_9 (al_at 751 (by decide +kernel) rfl) rfl rfl hin rfl rfl) (And.intro (zo_newa X hA rfl rfl (fun _ h => by cases h) rfl (by decide) (fun _ _ _ => rfl) (al_at 128 (by decide +kernel) rfl)) (And.intro (zo_put (T := T_9) X hA rfl (by decide) in_9 ty_9 ty_9_ok nm_9 (al_at 752 (by decide +kernel) rfl) rfl rfl hin rfl rfl) (And.intro (zo_putn (T := T_9) X hA rfl (by decide) in_9 ty_9 ty_9_ok nm_9 (al_at 711 (by decide +kernel) rfl) rfl rfl rfl) (trivial)))))))))))))))))))))))))))))))))))))))))))))))))))))))))))))))))))))
