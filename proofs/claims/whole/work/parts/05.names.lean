/-! Field tables, classes, the words that every method may use -/
def T_0 : u_T := fun k => match k with
  | 0 => ("SubscriberLines", "flight", "LSubscriberLines$Flight;", true)
  | 1 => ("SubscriberLines", "subscribers", "[LSubscriberLines$Subscriber;", true)
  | 2 => ("SubscriberLines", "access", "LSubscriberLines$Access;", true)
  | 3 => ("SubscriberLines", "server", "LSubscriberLines$Server;", true)
  | _ => ("SubscriberLines", "nodes", "[LSubscriberLines$Node;", true)
def ty_0 : Nat → FieldType := fun k => match k with
  | 0 => .object "SubscriberLines$Flight"
  | 1 => .array (.object "SubscriberLines$Subscriber")
  | 2 => .object "SubscriberLines$Access"
  | 3 => .object "SubscriberLines$Server"
  | _ => .array (.object "SubscriberLines$Node")
theorem ty_0_ok : ∀ k, k < 5 → parseFieldDescriptor (T_0 k).2.2.1 = some (ty_0 k) := by decide +kernel
theorem nm_0 : ∀ a, a < 5 → ∀ b, b < 5 → a ≠ b → (T_0 a).2.1 ≠ (T_0 b).2.1 := by decide +kernel
def T_1 : u_T := fun k => match k with
  | 0 => ("SubscriberLines$Flight", "row", "[LSubscriberLines$Packet;", true)
  | 1 => ("SubscriberLines$Flight", "lost", "LSubscriberLines$Packet;", true)
  | _ => ("SubscriberLines$Flight", "count", "I", false)
def ty_1 : Nat → FieldType := fun k => match k with
  | 0 => .array (.object "SubscriberLines$Packet")
  | 1 => .object "SubscriberLines$Packet"
  | _ => .int
theorem ty_1_ok : ∀ k, k < 3 → parseFieldDescriptor (T_1 k).2.2.1 = some (ty_1 k) := by decide +kernel
theorem nm_1 : ∀ a, a < 3 → ∀ b, b < 3 → a ≠ b → (T_1 a).2.1 ≠ (T_1 b).2.1 := by decide +kernel
def T_2 : u_T := fun k => match k with
  | 0 => ("SubscriberLines$Packet", "kind", "I", false)
  | 1 => ("SubscriberLines$Packet", "from", "I", false)
  | 2 => ("SubscriberLines$Packet", "to", "I", false)
  | 3 => ("SubscriberLines$Packet", "first", "I", false)
  | 4 => ("SubscriberLines$Packet", "second", "I", false)
  | 5 => ("SubscriberLines$Packet", "third", "I", false)
  | 6 => ("SubscriberLines$Packet", "channelNumber", "I", false)
  | 7 => ("SubscriberLines$Packet", "messageNumber", "I", false)
  | _ => ("SubscriberLines$Packet", "expected", "I", false)
def ty_2 : Nat → FieldType := fun k => match k with
  | 0 => .int
  | 1 => .int
  | 2 => .int
  | 3 => .int
  | 4 => .int
  | 5 => .int
  | 6 => .int
  | 7 => .int
  | _ => .int
theorem ty_2_ok : ∀ k, k < 9 → parseFieldDescriptor (T_2 k).2.2.1 = some (ty_2 k) := by decide +kernel
theorem nm_2 : ∀ a, a < 9 → ∀ b, b < 9 → a ≠ b → (T_2 a).2.1 ≠ (T_2 b).2.1 := by decide +kernel
def T_3 : u_T := fun k => match k with
  | 0 => ("SubscriberLines$History", "row", "[I", true)
  | _ => ("SubscriberLines$History", "count", "I", false)
def ty_3 : Nat → FieldType := fun k => match k with
  | 0 => .array .int
  | _ => .int
theorem ty_3_ok : ∀ k, k < 2 → parseFieldDescriptor (T_3 k).2.2.1 = some (ty_3 k) := by decide +kernel
theorem nm_3 : ∀ a, a < 2 → ∀ b, b < 2 → a ≠ b → (T_3 a).2.1 ≠ (T_3 b).2.1 := by decide +kernel
def T_4 : u_T := fun k => match k with
  | 0 => ("SubscriberLines$Node", "silence", "I", false)
  | 1 => ("SubscriberLines$Subscriber", "me", "I", true)
  | 2 => ("SubscriberLines$Subscriber", "flight", "LSubscriberLines$Flight;", true)
  | 3 => ("SubscriberLines$Subscriber", "words", "LSubscriberLines$History;", true)
  | 4 => ("SubscriberLines$Subscriber", "state", "I", false)
  | 5 => ("SubscriberLines$Subscriber", "address", "I", false)
  | 6 => ("SubscriberLines$Subscriber", "link", "I", false)
  | 7 => ("SubscriberLines$Subscriber", "user", "I", false)
  | 8 => ("SubscriberLines$Subscriber", "secret", "I", false)
  | 9 => ("SubscriberLines$Subscriber", "requests", "I", false)
  | 10 => ("SubscriberLines$Subscriber", "waited", "I", false)
  | _ => ("SubscriberLines$Subscriber", "quiet", "I", false)
def ty_4 : Nat → FieldType := fun k => match k with
  | 0 => .int
  | 1 => .int
  | 2 => .object "SubscriberLines$Flight"
  | 3 => .object "SubscriberLines$History"
  | 4 => .int
  | 5 => .int
  | 6 => .int
  | 7 => .int
  | 8 => .int
  | 9 => .int
  | 10 => .int
  | _ => .int
theorem ty_4_ok : ∀ k, k < 12 → parseFieldDescriptor (T_4 k).2.2.1 = some (ty_4 k) := by decide +kernel
theorem nm_4 : ∀ a, a < 12 → ∀ b, b < 12 → a ≠ b → (T_4 a).2.1 ≠ (T_4 b).2.1 := by decide +kernel
def T_5 : u_T := fun k => match k with
  | 0 => ("SubscriberLines$Node", "silence", "I", false)
  | 1 => ("SubscriberLines$Access", "flight", "LSubscriberLines$Flight;", true)
  | 2 => ("SubscriberLines$Access", "end", "LSubscriberLines$End;", true)
  | 3 => ("SubscriberLines$Access", "links", "[I", true)
  | 4 => ("SubscriberLines$Access", "sessions", "[I", true)
  | 5 => ("SubscriberLines$Access", "idle", "I", false)
  | 6 => ("SubscriberLines$Access", "lastLink", "I", false)
  | _ => ("SubscriberLines$Access", "lastChannel", "I", false)
def ty_5 : Nat → FieldType := fun k => match k with
  | 0 => .int
  | 1 => .object "SubscriberLines$Flight"
  | 2 => .object "SubscriberLines$End"
  | 3 => .array .int
  | 4 => .array .int
  | 5 => .int
  | 6 => .int
  | _ => .int
theorem ty_5_ok : ∀ k, k < 8 → parseFieldDescriptor (T_5 k).2.2.1 = some (ty_5 k) := by decide +kernel
theorem nm_5 : ∀ a, a < 8 → ∀ b, b < 8 → a ≠ b → (T_5 a).2.1 ≠ (T_5 b).2.1 := by decide +kernel
def T_6 : u_T := fun k => match k with
  | 0 => ("SubscriberLines$Session", "number", "I", false)
  | 1 => ("SubscriberLines$Session", "link", "I", false)
  | 2 => ("SubscriberLines$Session", "state", "I", false)
  | 3 => ("SubscriberLines$Session", "address", "I", false)
  | _ => ("SubscriberLines$Session", "quiet", "I", false)
def ty_6 : Nat → FieldType := fun k => match k with
  | 0 => .int
  | 1 => .int
  | 2 => .int
  | 3 => .int
  | _ => .int
theorem ty_6_ok : ∀ k, k < 5 → parseFieldDescriptor (T_6 k).2.2.1 = some (ty_6 k) := by decide +kernel
theorem nm_6 : ∀ a, a < 5 → ∀ b, b < 5 → a ≠ b → (T_6 a).2.1 ≠ (T_6 b).2.1 := by decide +kernel
def T_7 : u_T := fun k => match k with
  | 0 => ("SubscriberLines$Node", "silence", "I", false)
  | 1 => ("SubscriberLines$Server", "flight", "LSubscriberLines$Flight;", true)
  | 2 => ("SubscriberLines$Server", "end", "LSubscriberLines$End;", true)
  | 3 => ("SubscriberLines$Server", "pool", "I", true)
  | 4 => ("SubscriberLines$Server", "sessions", "[LSubscriberLines$Session;", true)
  | 5 => ("SubscriberLines$Server", "count", "I", false)
  | 6 => ("SubscriberLines$Server", "allowed", "[Z", true)
  | 7 => ("SubscriberLines$Server", "secrets", "[I", true)
  | 8 => ("SubscriberLines$Server", "words", "LSubscriberLines$History;", true)
  | 9 => ("SubscriberLines$Server", "sources", "LSubscriberLines$History;", true)
  | 10 => ("SubscriberLines$Server", "rejected", "I", false)
  | _ => ("SubscriberLines$Server", "lastSession", "I", false)
def ty_7 : Nat → FieldType := fun k => match k with
  | 0 => .int
  | 1 => .object "SubscriberLines$Flight"
  | 2 => .object "SubscriberLines$End"
  | 3 => .int
  | 4 => .array (.object "SubscriberLines$Session")
  | 5 => .int
  | 6 => .array .boolean
  | 7 => .array .int
  | 8 => .object "SubscriberLines$History"
  | 9 => .object "SubscriberLines$History"
  | 10 => .int
  | _ => .int
theorem ty_7_ok : ∀ k, k < 12 → parseFieldDescriptor (T_7 k).2.2.1 = some (ty_7 k) := by decide +kernel
theorem nm_7 : ∀ a, a < 12 → ∀ b, b < 12 → a ≠ b → (T_7 a).2.1 ≠ (T_7 b).2.1 := by decide +kernel
def T_8 : u_T := fun k => match k with
  | 0 => ("SubscriberLines$End", "me", "I", true)
  | 1 => ("SubscriberLines$End", "peer", "I", true)
  | 2 => ("SubscriberLines$End", "flight", "LSubscriberLines$Flight;", true)
  | 3 => ("SubscriberLines$End", "number", "I", false)
  | 4 => ("SubscriberLines$End", "expected", "I", false)
  | 5 => ("SubscriberLines$End", "tries", "I", false)
  | 6 => ("SubscriberLines$End", "wait", "I", false)
  | 7 => ("SubscriberLines$End", "oldest", "I", false)
  | 8 => ("SubscriberLines$End", "next", "I", false)
  | 9 => ("SubscriberLines$End", "kinds", "[I", true)
  | 10 => ("SubscriberLines$End", "firsts", "[I", true)
  | _ => ("SubscriberLines$End", "seconds", "[I", true)
def ty_8 : Nat → FieldType := fun k => match k with
  | 0 => .int
  | 1 => .int
  | 2 => .object "SubscriberLines$Flight"
  | 3 => .int
  | 4 => .int
  | 5 => .int
  | 6 => .int
  | 7 => .int
  | 8 => .int
  | 9 => .array .int
  | 10 => .array .int
  | _ => .array .int
theorem ty_8_ok : ∀ k, k < 12 → parseFieldDescriptor (T_8 k).2.2.1 = some (ty_8 k) := by decide +kernel
theorem nm_8 : ∀ a, a < 12 → ∀ b, b < 12 → a ≠ b → (T_8 a).2.1 ≠ (T_8 b).2.1 := by decide +kernel
def T_9 : u_T := fun k => match k with
  | 0 => ("SubscriberLinesModel", "pool", "I", false)
  | 1 => ("SubscriberLinesModel", "allowed", "[Z", true)
  | 2 => ("SubscriberLinesModel", "secretOf", "[I", true)
  | 3 => ("SubscriberLinesModel", "flying", "I", false)
  | 4 => ("SubscriberLinesModel", "fly", "[I", true)
  | 5 => ("SubscriberLinesModel", "state", "[I", true)
  | 6 => ("SubscriberLinesModel", "link", "[I", true)
  | 7 => ("SubscriberLinesModel", "user", "[I", true)
  | 8 => ("SubscriberLinesModel", "secret", "[I", true)
  | 9 => ("SubscriberLinesModel", "address", "[I", true)
  | 10 => ("SubscriberLinesModel", "runs", "[I", true)
  | 11 => ("SubscriberLinesModel", "times", "[I", true)
  | 12 => ("SubscriberLinesModel", "quiet", "[I", true)
  | 13 => ("SubscriberLinesModel", "words", "[I", true)
  | 14 => ("SubscriberLinesModel", "wordAt", "[I", true)
  | 15 => ("SubscriberLinesModel", "circuit", "[I", true)
  | 16 => ("SubscriberLinesModel", "circuitSession", "[I", true)
  | 17 => ("SubscriberLinesModel", "idle", "I", false)
  | 18 => ("SubscriberLinesModel", "sessions", "I", false)
  | 19 => ("SubscriberLinesModel", "number", "[I", true)
  | 20 => ("SubscriberLinesModel", "sessionLink", "[I", true)
  | 21 => ("SubscriberLinesModel", "stage", "[I", true)
  | 22 => ("SubscriberLinesModel", "lease", "[I", true)
  | 23 => ("SubscriberLinesModel", "calm", "[I", true)
  | 24 => ("SubscriberLinesModel", "cores", "I", false)
  | 25 => ("SubscriberLinesModel", "rejected", "I", false)
  | 26 => ("SubscriberLinesModel", "coreWord", "[I", true)
  | 27 => ("SubscriberLinesModel", "coreSource", "[I", true)
  | 28 => ("SubscriberLinesModel", "links", "I", false)
  | 29 => ("SubscriberLinesModel", "sessionNumbers", "I", false)
  | 30 => ("SubscriberLinesModel", "channels", "I", false)
  | 31 => ("SubscriberLinesModel", "silent", "[I", true)
  | 32 => ("SubscriberLinesModel", "channel", "[I", true)
  | 33 => ("SubscriberLinesModel", "acked", "[I", true)
  | 34 => ("SubscriberLinesModel", "sent", "[I", true)
  | 35 => ("SubscriberLinesModel", "put", "[I", true)
  | 36 => ("SubscriberLinesModel", "expects", "[I", true)
  | 37 => ("SubscriberLinesModel", "tries", "[I", true)
  | 38 => ("SubscriberLinesModel", "wait", "[I", true)
  | 39 => ("SubscriberLinesModel", "messageKind", "[I", true)
  | 40 => ("SubscriberLinesModel", "messageA", "[I", true)
  | _ => ("SubscriberLinesModel", "messageB", "[I", true)
def ty_9 : Nat → FieldType := fun k => match k with
  | 0 => .int
  | 1 => .array .boolean
  | 2 => .array .int
  | 3 => .int
  | 4 => .array .int
  | 5 => .array .int
  | 6 => .array .int
  | 7 => .array .int
  | 8 => .array .int
  | 9 => .array .int
  | 10 => .array .int
  | 11 => .array .int
  | 12 => .array .int
  | 13 => .array .int
  | 14 => .array .int
  | 15 => .array .int
  | 16 => .array .int
  | 17 => .int
  | 18 => .int
  | 19 => .array .int
  | 20 => .array .int
  | 21 => .array .int
  | 22 => .array .int
  | 23 => .array .int
  | 24 => .int
  | 25 => .int
  | 26 => .array .int
  | 27 => .array .int
  | 28 => .int
  | 29 => .int
  | 30 => .int
  | 31 => .array .int
  | 32 => .array .int
  | 33 => .array .int
  | 34 => .array .int
  | 35 => .array .int
  | 36 => .array .int
  | 37 => .array .int
  | 38 => .array .int
  | 39 => .array .int
  | 40 => .array .int
  | _ => .array .int
theorem ty_9_ok : ∀ k, k < 42 → parseFieldDescriptor (T_9 k).2.2.1 = some (ty_9 k) := by decide +kernel
theorem nm_9 : ∀ a, a < 42 → ∀ b, b < 42 → a ≠ b → (T_9 a).2.1 ≠ (T_9 b).2.1 := by decide +kernel
def mx_cl : List vw_C := [("SubscriberLines", T_0, 5), ("SubscriberLines$Flight", T_1, 3), ("SubscriberLines$Packet", T_2, 9), ("SubscriberLines$History", T_3, 2), ("SubscriberLines$Subscriber", T_4, 12), ("SubscriberLines$Access", T_5, 8), ("SubscriberLines$Session", T_6, 5), ("SubscriberLines$Server", T_7, 12), ("SubscriberLines$End", T_8, 12), ("SubscriberLinesModel", T_9, 42)]
def al : List Cond := lw_tbl.filter goodWord
theorem al_in {w : Cond} (h : w ∈ tables_1) (hg : goodWord w = true) : w ∈ al := List.mem_filter.mpr ⟨List.mem_append_right _ h, hg⟩
theorem al_at {w : Cond} (i : Nat) (h : tables_1[i]? = some w) (hg : goodWord w = true) : w ∈ al := al_in (List.mem_of_getElem? h) hg
theorem al_pr {y : MethodName × Nat} (i : Nat) (h : lw_privs[i]? = some y) : Cond.selects y.1.cls y.1 y.1 ∈ al := List.mem_filter.mpr ⟨List.mem_append_left _ (List.mem_map.mpr ⟨y, List.mem_of_getElem? h, rfl⟩), rfl⟩
theorem in_0 : ∀ w ∈ u_ws "SubscriberLines" T_0 5, w ∈ al := by
  have h : (u_ws "SubscriberLines" T_0 5) = [335, 337, 339, 341, 343].filterMap (fun i => tables_1[i]?) := by decide +kernel
  have hg : (u_ws "SubscriberLines" T_0 5).all goodWord = true := by decide +kernel
  intro w hw
  refine al_in ?_ (List.all_eq_true.mp hg w hw)
  rw [h] at hw
  obtain ⟨i, -, hi⟩ := List.mem_filterMap.mp hw
  exact List.mem_of_getElem? hi
theorem in_1 : ∀ w ∈ u_ws "SubscriberLines$Flight" T_1 3, w ∈ al := by
  have h : (u_ws "SubscriberLines$Flight" T_1 3) = [95, 97, 99].filterMap (fun i => tables_1[i]?) := by decide +kernel
  have hg : (u_ws "SubscriberLines$Flight" T_1 3).all goodWord = true := by decide +kernel
  intro w hw
  refine al_in ?_ (List.all_eq_true.mp hg w hw)
  rw [h] at hw
  obtain ⟨i, -, hi⟩ := List.mem_filterMap.mp hw
  exact List.mem_of_getElem? hi
theorem in_2 : ∀ w ∈ u_ws "SubscriberLines$Packet" T_2 9, w ∈ al := by
  have h : (u_ws "SubscriberLines$Packet" T_2 9) = [71, 73, 75, 77, 79, 81, 83, 85, 87].filterMap (fun i => tables_1[i]?) := by decide +kernel
  have hg : (u_ws "SubscriberLines$Packet" T_2 9).all goodWord = true := by decide +kernel
  intro w hw
  refine al_in ?_ (List.all_eq_true.mp hg w hw)
  rw [h] at hw
  obtain ⟨i, -, hi⟩ := List.mem_filterMap.mp hw
  exact List.mem_of_getElem? hi
theorem in_3 : ∀ w ∈ u_ws "SubscriberLines$History" T_3 2, w ∈ al := by
  have h : (u_ws "SubscriberLines$History" T_3 2) = [123, 125].filterMap (fun i => tables_1[i]?) := by decide +kernel
  have hg : (u_ws "SubscriberLines$History" T_3 2).all goodWord = true := by decide +kernel
  intro w hw
  refine al_in ?_ (List.all_eq_true.mp hg w hw)
  rw [h] at hw
  obtain ⟨i, -, hi⟩ := List.mem_filterMap.mp hw
  exact List.mem_of_getElem? hi
theorem in_4 : ∀ w ∈ u_ws "SubscriberLines$Subscriber" T_4 12, w ∈ al := by
  have h : (u_ws "SubscriberLines$Subscriber" T_4 12) = [166, 144, 146, 148, 150, 152, 154, 156, 158, 160, 162, 164].filterMap (fun i => tables_1[i]?) := by decide +kernel
  have hg : (u_ws "SubscriberLines$Subscriber" T_4 12).all goodWord = true := by decide +kernel
  intro w hw
  refine al_in ?_ (List.all_eq_true.mp hg w hw)
  rw [h] at hw
  obtain ⟨i, -, hi⟩ := List.mem_filterMap.mp hw
  exact List.mem_of_getElem? hi
theorem in_5 : ∀ w ∈ u_ws "SubscriberLines$Access" T_5 8, w ∈ al := by
  have h : (u_ws "SubscriberLines$Access" T_5 8) = [242, 228, 230, 232, 234, 236, 238, 240].filterMap (fun i => tables_1[i]?) := by decide +kernel
  have hg : (u_ws "SubscriberLines$Access" T_5 8).all goodWord = true := by decide +kernel
  intro w hw
  refine al_in ?_ (List.all_eq_true.mp hg w hw)
  rw [h] at hw
  obtain ⟨i, -, hi⟩ := List.mem_filterMap.mp hw
  exact List.mem_of_getElem? hi
theorem in_6 : ∀ w ∈ u_ws "SubscriberLines$Session" T_6 5, w ∈ al := by
  have h : (u_ws "SubscriberLines$Session" T_6 5) = [277, 279, 281, 283, 285].filterMap (fun i => tables_1[i]?) := by decide +kernel
  have hg : (u_ws "SubscriberLines$Session" T_6 5).all goodWord = true := by decide +kernel
  intro w hw
  refine al_in ?_ (List.all_eq_true.mp hg w hw)
  rw [h] at hw
  obtain ⟨i, -, hi⟩ := List.mem_filterMap.mp hw
  exact List.mem_of_getElem? hi
theorem in_7 : ∀ w ∈ u_ws "SubscriberLines$Server" T_7 12, w ∈ al := by
  have h : (u_ws "SubscriberLines$Server" T_7 12) = [328, 306, 308, 310, 312, 314, 316, 318, 320, 322, 324, 326].filterMap (fun i => tables_1[i]?) := by decide +kernel
  have hg : (u_ws "SubscriberLines$Server" T_7 12).all goodWord = true := by decide +kernel
  intro w hw
  refine al_in ?_ (List.all_eq_true.mp hg w hw)
  rw [h] at hw
  obtain ⟨i, -, hi⟩ := List.mem_filterMap.mp hw
  exact List.mem_of_getElem? hi
theorem in_8 : ∀ w ∈ u_ws "SubscriberLines$End" T_8 12, w ∈ al := by
  have h : (u_ws "SubscriberLines$End" T_8 12) = [195, 197, 199, 201, 203, 205, 207, 209, 211, 213, 215, 217].filterMap (fun i => tables_1[i]?) := by decide +kernel
  have hg : (u_ws "SubscriberLines$End" T_8 12).all goodWord = true := by decide +kernel
  intro w hw
  refine al_in ?_ (List.all_eq_true.mp hg w hw)
  rw [h] at hw
  obtain ⟨i, -, hi⟩ := List.mem_filterMap.mp hw
  exact List.mem_of_getElem? hi
theorem in_9 : ∀ w ∈ u_ws "SubscriberLinesModel" T_9 42, w ∈ al := by
  have h : (u_ws "SubscriberLinesModel" T_9 42) = [753, 755, 757, 759, 761, 763, 765, 767, 769, 771, 773, 775, 777, 779, 781, 783, 785, 787, 789, 791, 793, 795, 797, 799, 801, 803, 805, 807, 809, 811, 813, 815, 817, 819, 821, 823, 825, 827, 829, 831, 833, 835].filterMap (fun i => tables_1[i]?) := by decide +kernel
  have hg : (u_ws "SubscriberLinesModel" T_9 42).all goodWord = true := by decide +kernel
  intro w hw
  refine al_in ?_ (List.all_eq_true.mp hg w hw)
  rw [h] at hw
  obtain ⟨i, -, hi⟩ := List.mem_filterMap.mp hw
  exact List.mem_of_getElem? hi
