def zk_e {α : Type} (d : α) (x : Option (Nat × α × rx_L × List Value)) : α := match x with
  | some r => r.2.1
  | none => d
def zk_r {α : Type} (x : Option (Nat × α × rx_L × List Value)) : Option (Nat × rx_L × List Value) := match x with
  | some r => some (r.1, r.2.2)
  | none => none
theorem zk_er {α : Type} {d : α} {x : Option (Nat × α × rx_L × List Value)} {j : Nat} {ls : rx_L} {st : List Value} (h : zk_r x = some (j, ls, st)) : x = some (j, zk_e d x, ls, st) := by
  cases x with
  | none => cases h
  | some r => obtain ⟨a, b, c, e⟩ := r; cases h; rfl
def en_0 : zM := [.inr (0, nfs_0)]
def en_1 : zM := zk_e [] (zx_nst (Lc_sl 1 5) 132 0 en_0 [some (.ref 0), none, none] [])
def en_2 (v : Int32) : zM := zk_e [] (zx_nst (Lc_sl 1 5) 8 63 en_1 [some (.ref 0), none, some (.int 4)] [.int v, .ref 1, .ref 66, .ref 66, .ref 0])
def en_3 (v : Int32) : zM := en_2 v ++ [.inr (9, nfs_9)]
def en_4 (v : Int32) : zM := zk_e [] (zx_nst (Lc_mo 83 12943) 135 0 (en_3 v) [some (.ref 82), none] [])
def en_5 (v : Int32) : zM := zk_e [] (zx_nst (Lc_mo 83 12943) 1 146 (en_4 v) [some (.ref 82), none] [.int v, .ref 82])
theorem sl_1r : zk_r (zx_nst (Lc_sl 1 5) 132 0 en_0 [some (.ref 0), none, none] []) = some (60, [some (.ref 0), none, some (.int 4)], [.int 4, .int 1, .ref 1, .ref 66, .ref 66, .ref 0]) := by decide +kernel
theorem sl_1 : zx_nst (Lc_sl 1 5) 132 0 en_0 [some (.ref 0), none, none] [] = some (60, en_1, [some (.ref 0), none, some (.int 4)], [.int 4, .int 1, .ref 1, .ref 66, .ref 66, .ref 0]) := zk_er sl_1r
theorem sl_3r : ∀ v ∈ [(1 : Int32), 2, 3, 4], zk_r (zx_nst (Lc_sl 1 5) 8 63 en_1 [some (.ref 0), none, some (.int 4)] [.int v, .ref 1, .ref 66, .ref 66, .ref 0]) = some (71, [some (.ref 0), none, some (.int 4)], []) := by decide +kernel
theorem sl_3 : ∀ v ∈ [(1 : Int32), 2, 3, 4], zx_nst (Lc_sl 1 5) 8 63 en_1 [some (.ref 0), none, some (.int 4)] [.int v, .ref 1, .ref 66, .ref 66, .ref 0] = some (71, en_2 v, [some (.ref 0), none, some (.int 4)], []) := fun v hv => zk_er (sl_3r v hv)
theorem mo_1r : ∀ v ∈ [(1 : Int32), 2, 3, 4], zk_r (zx_nst (Lc_mo 83 12943) 135 0 (en_3 v) [some (.ref 82), none] []) = some (135, [some (.ref 82), none], [.ref 82]) := by decide +kernel
theorem mo_1 : ∀ v ∈ [(1 : Int32), 2, 3, 4], zx_nst (Lc_mo 83 12943) 135 0 (en_3 v) [some (.ref 82), none] [] = some (135, en_4 v, [some (.ref 82), none], [.ref 82]) := fun v hv => zk_er (mo_1r v hv)
theorem mo_3r : ∀ v ∈ [(1 : Int32), 2, 3, 4], zk_r (zx_nst (Lc_mo 83 12943) 1 146 (en_4 v) [some (.ref 82), none] [.int v, .ref 82]) = some (147, [some (.ref 82), none], []) := by decide +kernel
theorem mo_3 : ∀ v ∈ [(1 : Int32), 2, 3, 4], zx_nst (Lc_mo 83 12943) 1 146 (en_4 v) [some (.ref 82), none] [.int v, .ref 82] = some (147, en_5 v, [some (.ref 82), none], []) := fun v hv => zk_er (mo_3r v hv)
theorem en_2s : ∀ v ∈ [(1 : Int32), 2, 3, 4], (en_2 v).length = 82 ∧ zs (en_2 v) = 12901 := by decide +kernel
theorem en_5s : ∀ v ∈ [(1 : Int32), 2, 3, 4], (en_5 v).length = 116 ∧ zs (en_5 v) = 21823 := by decide +kernel
theorem en_1s : decide (en_1.length - 1 ≤ R_sl.cells ∧ zs en_1 - 5 ≤ R_sl.slots) = true := by decide +kernel
