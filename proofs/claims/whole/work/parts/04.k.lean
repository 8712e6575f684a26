/-! What each operation on the memory asks and does -/
def kno : rx_K mx := fun _ x => (False, x, none)
def k_R (f : Nat → mx_C → mx_M → Prop × mx × Option Value) : rx_K mx := fun av x =>
  match x with
  | (c, m) => match av with
    | [.ref a0] => f a0 c m
    | _ => (False, (c, m), none)
theorem k_R_inv {f : Nat → mx_C → mx_M → Prop × mx × Option Value} {av : List Value} {x : mx} (h : (k_R f av x).1) : ∃ (a0 : Nat), av = [.ref a0] := by
  obtain ⟨c, m⟩ := x
  unfold k_R at h
  dsimp only at h
  split at h
  · exact ⟨_, rfl⟩
  · exact False.elim h
def k_RI (f : Nat → Int32 → mx_C → mx_M → Prop × mx × Option Value) : rx_K mx := fun av x =>
  match x with
  | (c, m) => match av with
    | [.ref a0, .int a1] => f a0 a1 c m
    | _ => (False, (c, m), none)
theorem k_RI_inv {f : Nat → Int32 → mx_C → mx_M → Prop × mx × Option Value} {av : List Value} {x : mx} (h : (k_RI f av x).1) : ∃ (a0 : Nat) (a1 : Int32), av = [.ref a0, .int a1] := by
  obtain ⟨c, m⟩ := x
  unfold k_RI at h
  dsimp only at h
  split at h
  · exact ⟨_, _, rfl⟩
  · exact False.elim h
def k_RII (f : Nat → Int32 → Int32 → mx_C → mx_M → Prop × mx × Option Value) : rx_K mx := fun av x =>
  match x with
  | (c, m) => match av with
    | [.ref a0, .int a1, .int a2] => f a0 a1 a2 c m
    | _ => (False, (c, m), none)
theorem k_RII_inv {f : Nat → Int32 → Int32 → mx_C → mx_M → Prop × mx × Option Value} {av : List Value} {x : mx} (h : (k_RII f av x).1) : ∃ (a0 : Nat) (a1 : Int32) (a2 : Int32), av = [.ref a0, .int a1, .int a2] := by
  obtain ⟨c, m⟩ := x
  unfold k_RII at h
  dsimp only at h
  split at h
  · exact ⟨_, _, _, rfl⟩
  · exact False.elim h
def k_RIII (f : Nat → Int32 → Int32 → Int32 → mx_C → mx_M → Prop × mx × Option Value) : rx_K mx := fun av x =>
  match x with
  | (c, m) => match av with
    | [.ref a0, .int a1, .int a2, .int a3] => f a0 a1 a2 a3 c m
    | _ => (False, (c, m), none)
theorem k_RIII_inv {f : Nat → Int32 → Int32 → Int32 → mx_C → mx_M → Prop × mx × Option Value} {av : List Value} {x : mx} (h : (k_RIII f av x).1) : ∃ (a0 : Nat) (a1 : Int32) (a2 : Int32) (a3 : Int32), av = [.ref a0, .int a1, .int a2, .int a3] := by
  obtain ⟨c, m⟩ := x
  unfold k_RIII at h
  dsimp only at h
  split at h
  · exact ⟨_, _, _, _, rfl⟩
  · exact False.elim h
def k_RIIII (f : Nat → Int32 → Int32 → Int32 → Int32 → mx_C → mx_M → Prop × mx × Option Value) : rx_K mx := fun av x =>
  match x with
  | (c, m) => match av with
    | [.ref a0, .int a1, .int a2, .int a3, .int a4] => f a0 a1 a2 a3 a4 c m
    | _ => (False, (c, m), none)
theorem k_RIIII_inv {f : Nat → Int32 → Int32 → Int32 → Int32 → mx_C → mx_M → Prop × mx × Option Value} {av : List Value} {x : mx} (h : (k_RIIII f av x).1) : ∃ (a0 : Nat) (a1 : Int32) (a2 : Int32) (a3 : Int32) (a4 : Int32), av = [.ref a0, .int a1, .int a2, .int a3, .int a4] := by
  obtain ⟨c, m⟩ := x
  unfold k_RIIII at h
  dsimp only at h
  split at h
  · exact ⟨_, _, _, _, _, rfl⟩
  · exact False.elim h
def k_RIIIII (f : Nat → Int32 → Int32 → Int32 → Int32 → Int32 → mx_C → mx_M → Prop × mx × Option Value) : rx_K mx := fun av x =>
  match x with
  | (c, m) => match av with
    | [.ref a0, .int a1, .int a2, .int a3, .int a4, .int a5] => f a0 a1 a2 a3 a4 a5 c m
    | _ => (False, (c, m), none)
theorem k_RIIIII_inv {f : Nat → Int32 → Int32 → Int32 → Int32 → Int32 → mx_C → mx_M → Prop × mx × Option Value} {av : List Value} {x : mx} (h : (k_RIIIII f av x).1) : ∃ (a0 : Nat) (a1 : Int32) (a2 : Int32) (a3 : Int32) (a4 : Int32) (a5 : Int32), av = [.ref a0, .int a1, .int a2, .int a3, .int a4, .int a5] := by
  obtain ⟨c, m⟩ := x
  unfold k_RIIIII at h
  dsimp only at h
  split at h
  · exact ⟨_, _, _, _, _, _, rfl⟩
  · exact False.elim h
def k_RIIIIII (f : Nat → Int32 → Int32 → Int32 → Int32 → Int32 → Int32 → mx_C → mx_M → Prop × mx × Option Value) : rx_K mx := fun av x =>
  match x with
  | (c, m) => match av with
    | [.ref a0, .int a1, .int a2, .int a3, .int a4, .int a5, .int a6] => f a0 a1 a2 a3 a4 a5 a6 c m
    | _ => (False, (c, m), none)
theorem k_RIIIIII_inv {f : Nat → Int32 → Int32 → Int32 → Int32 → Int32 → Int32 → mx_C → mx_M → Prop × mx × Option Value} {av : List Value} {x : mx} (h : (k_RIIIIII f av x).1) : ∃ (a0 : Nat) (a1 : Int32) (a2 : Int32) (a3 : Int32) (a4 : Int32) (a5 : Int32) (a6 : Int32), av = [.ref a0, .int a1, .int a2, .int a3, .int a4, .int a5, .int a6] := by
  obtain ⟨c, m⟩ := x
  unfold k_RIIIIII at h
  dsimp only at h
  split at h
  · exact ⟨_, _, _, _, _, _, _, rfl⟩
  · exact False.elim h
def k_RIIIIIII (f : Nat → Int32 → Int32 → Int32 → Int32 → Int32 → Int32 → Int32 → mx_C → mx_M → Prop × mx × Option Value) : rx_K mx := fun av x =>
  match x with
  | (c, m) => match av with
    | [.ref a0, .int a1, .int a2, .int a3, .int a4, .int a5, .int a6, .int a7] => f a0 a1 a2 a3 a4 a5 a6 a7 c m
    | _ => (False, (c, m), none)
theorem k_RIIIIIII_inv {f : Nat → Int32 → Int32 → Int32 → Int32 → Int32 → Int32 → Int32 → mx_C → mx_M → Prop × mx × Option Value} {av : List Value} {x : mx} (h : (k_RIIIIIII f av x).1) : ∃ (a0 : Nat) (a1 : Int32) (a2 : Int32) (a3 : Int32) (a4 : Int32) (a5 : Int32) (a6 : Int32) (a7 : Int32), av = [.ref a0, .int a1, .int a2, .int a3, .int a4, .int a5, .int a6, .int a7] := by
  obtain ⟨c, m⟩ := x
  unfold k_RIIIIIII at h
  dsimp only at h
  split at h
  · exact ⟨_, _, _, _, _, _, _, _, rfl⟩
  · exact False.elim h
def k_RR (f : Nat → Nat → mx_C → mx_M → Prop × mx × Option Value) : rx_K mx := fun av x =>
  match x with
  | (c, m) => match av with
    | [.ref a0, .ref a1] => f a0 a1 c m
    | _ => (False, (c, m), none)
theorem k_RR_inv {f : Nat → Nat → mx_C → mx_M → Prop × mx × Option Value} {av : List Value} {x : mx} (h : (k_RR f av x).1) : ∃ (a0 : Nat) (a1 : Nat), av = [.ref a0, .ref a1] := by
  obtain ⟨c, m⟩ := x
  unfold k_RR at h
  dsimp only at h
  split at h
  · exact ⟨_, _, rfl⟩
  · exact False.elim h
def k_RRI (f : Nat → Nat → Int32 → mx_C → mx_M → Prop × mx × Option Value) : rx_K mx := fun av x =>
  match x with
  | (c, m) => match av with
    | [.ref a0, .ref a1, .int a2] => f a0 a1 a2 c m
    | _ => (False, (c, m), none)
theorem k_RRI_inv {f : Nat → Nat → Int32 → mx_C → mx_M → Prop × mx × Option Value} {av : List Value} {x : mx} (h : (k_RRI f av x).1) : ∃ (a0 : Nat) (a1 : Nat) (a2 : Int32), av = [.ref a0, .ref a1, .int a2] := by
  obtain ⟨c, m⟩ := x
  unfold k_RRI at h
  dsimp only at h
  split at h
  · exact ⟨_, _, _, rfl⟩
  · exact False.elim h
def k_RRR (f : Nat → Nat → Nat → mx_C → mx_M → Prop × mx × Option Value) : rx_K mx := fun av x =>
  match x with
  | (c, m) => match av with
    | [.ref a0, .ref a1, .ref a2] => f a0 a1 a2 c m
    | _ => (False, (c, m), none)
theorem k_RRR_inv {f : Nat → Nat → Nat → mx_C → mx_M → Prop × mx × Option Value} {av : List Value} {x : mx} (h : (k_RRR f av x).1) : ∃ (a0 : Nat) (a1 : Nat) (a2 : Nat), av = [.ref a0, .ref a1, .ref a2] := by
  obtain ⟨c, m⟩ := x
  unfold k_RRR at h
  dsimp only at h
  split at h
  · exact ⟨_, _, _, rfl⟩
  · exact False.elim h
def k_RIR (f : Nat → Int32 → Nat → mx_C → mx_M → Prop × mx × Option Value) : rx_K mx := fun av x =>
  match x with
  | (c, m) => match av with
    | [.ref a0, .int a1, .ref a2] => f a0 a1 a2 c m
    | _ => (False, (c, m), none)
theorem k_RIR_inv {f : Nat → Int32 → Nat → mx_C → mx_M → Prop × mx × Option Value} {av : List Value} {x : mx} (h : (k_RIR f av x).1) : ∃ (a0 : Nat) (a1 : Int32) (a2 : Nat), av = [.ref a0, .int a1, .ref a2] := by
  obtain ⟨c, m⟩ := x
  unfold k_RIR at h
  dsimp only at h
  split at h
  · exact ⟨_, _, _, rfl⟩
  · exact False.elim h
def k_I (f : Int32 → mx_C → mx_M → Prop × mx × Option Value) : rx_K mx := fun av x =>
  match x with
  | (c, m) => match av with
    | [.int a0] => f a0 c m
    | _ => (False, (c, m), none)
theorem k_I_inv {f : Int32 → mx_C → mx_M → Prop × mx × Option Value} {av : List Value} {x : mx} (h : (k_I f av x).1) : ∃ (a0 : Int32), av = [.int a0] := by
  obtain ⟨c, m⟩ := x
  unfold k_I at h
  dsimp only at h
  split at h
  · exact ⟨_, rfl⟩
  · exact False.elim h
def k_II (f : Int32 → Int32 → mx_C → mx_M → Prop × mx × Option Value) : rx_K mx := fun av x =>
  match x with
  | (c, m) => match av with
    | [.int a0, .int a1] => f a0 a1 c m
    | _ => (False, (c, m), none)
theorem k_II_inv {f : Int32 → Int32 → mx_C → mx_M → Prop × mx × Option Value} {av : List Value} {x : mx} (h : (k_II f av x).1) : ∃ (a0 : Int32) (a1 : Int32), av = [.int a0, .int a1] := by
  obtain ⟨c, m⟩ := x
  unfold k_II at h
  dsimp only at h
  split at h
  · exact ⟨_, _, rfl⟩
  · exact False.elim h
def jx_min (x y : Int32) : Int32 := if y < x then y else x
def jx_max (x y : Int32) : Int32 := if x < y then y else x
def mx_lenG (t src i : Nat) : Nat := cond (Nat.blt (mx_kl i) 20) 0 (cond (Nat.beq (mx_ar (mx_kl i)).1 t && Nat.beq (mx_ar (mx_kl i)).2.2 src) (mx_ar (mx_kl i)).2.1 0)
def mx_len (i : Nat) : Nat := cond (Nat.blt (mx_kl i) 20) 0 (mx_ar (mx_kl i)).2.1
def mx_nd (t : Nat) : Prop := mx_kl t = 4 ∨ mx_kl t = 5 ∨ mx_kl t = 7
def kgi (q k : Nat) : rx_K mx := k_R (fun t c m => (mx_kl t = q, (c, m), some (.int (c.1 t k))))
def kpi (q k : Nat) : rx_K mx := k_RI (fun t v c m => (mx_kl t = q, (mx_pi c t k v, m), none))
def kgn : rx_K mx := k_R (fun t c m => (mx_nd t, (c, m), some (.int (c.1 t 0))))
def kpn : rx_K mx := k_RI (fun t v c m => (mx_nd t, (mx_pi c t 0 v, m), none))
def kgr0 (q _k off : Nat) : rx_K mx := k_R (fun t c m => (mx_kl t = q, (c, m), some (.ref off)))
def kgr1 (q _k off : Nat) : rx_K mx := k_R (fun t c m => (mx_kl t = q, (c, m), some (.ref (t + off))))
def kgf : rx_K mx := k_R (fun t c m => (mx_kl t = 1, (c, m), some (.int (Int32.ofNat c.2.2.2.1.val))))
def kgs : rx_K mx := k_R (fun t c m => (mx_kl t = 7, (c, m), some (.int (Int32.ofNat c.2.2.2.2.val))))
def kpf : rx_K mx := k_RI (fun t v c m => (mx_kl t = 1 ∧ vp_in v 41, (mx_pf c v, m), none))
def kps : rx_K mx := k_RI (fun t v c m => (mx_kl t = 7 ∧ vp_in v 5, (mx_pc c v, m), none))
def mgi (k : Nat) : rx_K mx := k_R (fun t c m => (mx_kl t = 9, (c, m), some (.int (m.1 t k))))
def mpi (k : Nat) : rx_K mx := k_RI (fun t v c m => (mx_kl t = 9, (c, my_pi m t k v), none))
def mgr (off : Nat) : rx_K mx := k_R (fun t c m => (mx_kl t = 9, (c, m), some (.ref off)))
def mgf : rx_K mx := k_R (fun t c m => (mx_kl t = 9, (c, m), some (.int (Int32.ofNat m.2.1.val))))
def mgs : rx_K mx := k_R (fun t c m => (mx_kl t = 9, (c, m), some (.int (Int32.ofNat m.2.2.val))))
def mpf : rx_K mx := k_RI (fun t v c m => (mx_kl t = 9 ∧ vp_in v 41, (c, my_pf m v), none))
def mps : rx_K mx := k_RI (fun t v c m => (mx_kl t = 9 ∧ vp_in v 5, (c, my_ps m v), none))
def kai : rx_K mx := k_RI (fun t j c m => (vp_in j (mx_lenG 0 0 t), (c, m), some (.int (c.1 t j.toNatClampNeg))))
def kab : rx_K mx := k_RI (fun t j c m => (vp_in j (mx_lenG 1 0 t), (c, m), some (.int (c.1 t j.toNatClampNeg))))
def mai : rx_K mx := k_RI (fun t j c m => (vp_in j (mx_lenG 0 1 t), (c, m), some (.int (m.1 t j.toNatClampNeg))))
def mab : rx_K mx := k_RI (fun t j c m => (vp_in j (mx_lenG 1 1 t), (c, m), some (.int (m.1 t j.toNatClampNeg))))
def kpa : rx_K mx := k_RII (fun t j v c m => (vp_in j (mx_lenG 0 0 t), (mx_pi c t j.toNatClampNeg v, m), none))
def kpb : rx_K mx := k_RII (fun t j v c m => (vp_in j (mx_lenG 1 0 t) ∧ v = 1, (mx_pi c t j.toNatClampNeg v, m), none))
def mpa : rx_K mx := k_RII (fun t j v c m => (vp_in j (mx_lenG 0 1 t), (c, my_pi m t j.toNatClampNeg v), none))
def mpb : rx_K mx := k_RII (fun t j v c m => (vp_in j (mx_lenG 1 1 t) ∧ v = 1, (c, my_pi m t j.toNatClampNeg v), none))
def kar : rx_K mx := k_RI (fun t j c m => (vp_in j (mx_lenG 2 2 t), (c, m), some (.ref (4 + (c.2.1 j.toNatClampNeg).val))))
def kas : rx_K mx := k_RI (fun t j c m => (vp_in j (mx_lenG 3 3 t), (c, m), some (.ref (78 + (c.2.2.1 j.toNatClampNeg).val))))
def kau : rx_K mx := k_RI (fun t j c m => (vp_in j (mx_lenG 4 4 t), (c, m), some (.ref (47 + 3 * j.toNatClampNeg))))
def kan : rx_K mx := k_RI (fun t j c m => (vp_in j (mx_lenG 5 5 t), (c, m), some (.ref (mx_no j.toNatClampNeg))))
def kpr : rx_K mx := k_RIR (fun t j r c m => (vp_in j (mx_lenG 2 2 t) ∧ 4 ≤ r ∧ r < 45, (mx_pr c j.toNatClampNeg (Fin.ofNat 41 (r - 4)), m), none))
def kpq : rx_K mx := k_RIR (fun t j r c m => (vp_in j (mx_lenG 3 3 t) ∧ 78 ≤ r ∧ r < 82, (mx_ps c j.toNatClampNeg (Fin.ofNat 4 (r - 78)), m), none))
def kal : rx_K mx := k_R (fun t c m => (0 < mx_len t, (c, m), some (.int (Int32.ofNat (mx_len t)))))
def kmin : rx_K mx := k_II (fun a b c m => (True, (c, m), some (.int (jx_min a b))))
def kmax : rx_K mx := k_II (fun a b c m => (True, (c, m), some (.int (jx_max a b))))
theorem mx_kl_row (q : Fin 41) : mx_kl (4 + q.val) = 2 := by
  have h : ∀ q : Fin 41, mx_kl (4 + q.val) = 2 := by decide
  exact h q
theorem mx_kl_ses (q : Fin 4) : mx_kl (78 + q.val) = 6 := by
  have h : ∀ q : Fin 4, mx_kl (78 + q.val) = 6 := by decide
  exact h q
theorem rx_ite2 {α β : Type} {c : Prop} [Decidable c] {a b : α} {f : α → β} {a' b' : β} (h1 : c → a' = f a) (h2 : ¬ c → b' = f b) : (if c then a' else b') = f (if c then a else b) := by
  by_cases h : c
  · rw [if_pos h, if_pos h]; exact h1 h
  · rw [if_neg h, if_neg h]; exact h2 h
def rw_v (m : mx_M) (c : mx_C) : rx_R mx := ((c, m), none)
def rw_i (m : mx_M) (q : mx_C × Int32) : rx_R mx := ((q.1, m), some (.int q.2))
def rw_r (m : mx_M) (q : mx_C × Nat) : rx_R mx := ((q.1, m), some (.ref q.2))
def rw_p (c : mx_C) (m : mx_M) (r : Int32) : rx_R mx := ((c, m), some (.int r))
def ry_v (c : mx_C) (m : mx_M) : rx_R mx := ((c, m), none)
def ry_i (c : mx_C) (q : mx_M × Int32) : rx_R mx := ((c, q.1), some (.int q.2))
