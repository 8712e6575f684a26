/-! packets in flight, old and new, and the one in hand -/
abbrev vH : Type := Option (Int32 × Int32 × Int32 × Int × Int × Int)
abbrev vQ : Type := Bool → Int32 → Int32 → Int32 → Int → Int → Int → Prop
def AllP (m : mx_M) (L : Nat) (H : vH) (Q : vQ) : Prop :=
  (∀ k, k < m.2.1.val → Q (decide (k < L)) (fp m k 0) (fp m k 1) (fp m k 2) (fp m k 6).toInt (fp m k 7).toInt (fp m k 8).toInt) ∧
  (∀ a b c d e f, H = some (a, b, c, d, e, f) → Q true a b c d e f)
def vw (m : mx_M) (k : Nat) : vH := some (fp m k 0, fp m k 1, fp m k 2, (fp m k 6).toInt, (fp m k 7).toInt, (fp m k 8).toInt)
theorem AllP_mono {m : mx_M} {L : Nat} {H : vH} {Q Q' : vQ} (h : AllP m L H Q) (hq : ∀ o a b c d e f, Q o a b c d e f → Q' o a b c d e f) : AllP m L H Q' :=
  ⟨fun k hk => hq _ _ _ _ _ _ _ (h.1 k hk), fun a b c d e f hH => hq _ _ _ _ _ _ _ (h.2 a b c d e f hH)⟩
theorem AllP_f {m m' : mx_M} {L : Nat} {H : vH} {Q : vQ} (h : AllP m L H Q) (h85 : m'.1 85 = m.1 85) (hf : m'.2.1 = m.2.1) : AllP m' L H Q := by
  unfold AllP fp at *
  rw [h85, hf]
  exact h
theorem send_cnt (m : mx_M) (q : Nat → Int32) : (my_send m q).2.1.val = if m.2.1.val < 40 then m.2.1.val + 1 else m.2.1.val := by
  unfold my_send
  split
  · show (Fin.ofNat 41 (m.2.1.val + 1)).val = _
    simp [Fin.ofNat]; omega
  · rfl
theorem send_fp (m : mx_M) (q : Nat → Int32) (k f : Nat) (hf : f < 9) : fp (my_send m q) k f = if k = m.2.1.val ∧ m.2.1.val < 40 then q f else fp m k f := by
  unfold my_send
  by_cases h : m.2.1.val < 40
  · rw [if_pos h]
    show my_wr m.1 m.2.1.val q 85 (9 * k + f) = _
    unfold my_wr fp
    by_cases hk : k = m.2.1.val
    · rw [if_pos ⟨rfl, by omega, by omega⟩, if_pos ⟨hk, h⟩, hk]
      congr 1
      omega
    · rw [if_neg (by omega), if_neg (fun z => hk z.1)]
  · rw [if_neg h, if_neg (fun z => h z.2)]
theorem AllP_send {m : mx_M} {L : Nat} {H : vH} {Q : vQ} (h : AllP m L H Q) (q : Nat → Int32) (hL : L ≤ m.2.1.val) (hq : Q false (q 0) (q 1) (q 2) (q 6).toInt (q 7).toInt (q 8).toInt) : AllP (my_send m q) L H Q := by
  refine ⟨fun k hk => ?_, h.2⟩
  rw [send_cnt] at hk
  simp only [send_fp m q k _ (show 0 < 9 by decide), send_fp m q k _ (show 1 < 9 by decide), send_fp m q k _ (show 2 < 9 by decide), send_fp m q k _ (show 6 < 9 by decide), send_fp m q k _ (show 7 < 9 by decide), send_fp m q k _ (show 8 < 9 by decide)]
  by_cases hc : k = m.2.1.val ∧ m.2.1.val < 40
  · simp only [if_pos hc]
    rw [show decide (k < L) = false by simp; omega]
    exact hq
  · simp only [if_neg hc]
    refine h.1 k ?_
    split at hk <;> omega
theorem AllP_tk {m : mx_M} {L : Nat} {Q : vQ} (h : AllP m (L + 1) none Q) (h1 : 1 ≤ m.2.1.val) : AllP (mo_tk m 0) L (vw m 0) Q := by
  refine ⟨fun k hk => ?_, fun a b c d e f hH => ?_⟩
  · rw [tk_cnt h1] at hk
    simp only [tk_fp h1 k _ hk (show 0 < 9 by decide), tk_fp h1 k _ hk (show 1 < 9 by decide), tk_fp h1 k _ hk (show 2 < 9 by decide), tk_fp h1 k _ hk (show 6 < 9 by decide), tk_fp h1 k _ hk (show 7 < 9 by decide), tk_fp h1 k _ hk (show 8 < 9 by decide), Nat.zero_le, if_true]
    have := h.1 (k + 1) (by omega)
    rw [show decide (k + 1 < L + 1) = decide (k < L) by simp] at this
    exact this
  · unfold vw at hH
    injection hH with hH
    have g := h.1 0 (by omega)
    rw [show decide (0 < L + 1) = true by simp] at g
    simp only [Prod.mk.injEq] at hH
    obtain ⟨rfl, rfl, rfl, rfl, rfl, rfl⟩ := hH
    exact g
theorem AllP_nh {m : mx_M} {L : Nat} {H : vH} {Q : vQ} (h : AllP m L H Q) : AllP m L none Q := ⟨h.1, fun _ _ _ _ _ _ z => by cases z⟩
theorem AllP_tkk {m : mx_M} {Q : vQ} (h : AllP m 0 none Q) {k : Nat} (hk : k < m.2.1.val) : AllP (mo_tk m k) 0 none Q := by
  refine ⟨fun j hj => ?_, fun _ _ _ _ _ _ z => by cases z⟩
  rw [tk_cnt hk] at hj
  simp only [tk_fp hk j _ hj (show 0 < 9 by decide), tk_fp hk j _ hj (show 1 < 9 by decide), tk_fp hk j _ hj (show 2 < 9 by decide), tk_fp hk j _ hj (show 6 < 9 by decide), tk_fp hk j _ hj (show 7 < 9 by decide), tk_fp hk j _ hj (show 8 < 9 by decide)]
  have := h.1 (if k ≤ j then j + 1 else j) (by split <;> omega)
  rw [show decide ((if k ≤ j then j + 1 else j) < 0) = decide (j < 0) by simp] at this
  exact this
theorem AllP_swp {m : mx_M} {Q : vQ} (h : AllP m 0 none Q) {k : Nat} (hk : k + 1 < m.2.1.val) : AllP (mo_swp m k) 0 none Q := by
  refine ⟨fun j hj => ?_, fun _ _ _ _ _ _ z => by cases z⟩
  have hj' : j < m.2.1.val := hj
  simp only [sw_fp j _ (show 0 < 9 by decide), sw_fp j _ (show 1 < 9 by decide), sw_fp j _ (show 2 < 9 by decide), sw_fp j _ (show 6 < 9 by decide), sw_fp j _ (show 7 < 9 by decide), sw_fp j _ (show 8 < 9 by decide)]
  have := h.1 (if j = k then k + 1 else if j = k + 1 then k else j) (by split <;> (try split) <;> omega)
  rw [show decide ((if j = k then k + 1 else if j = k + 1 then k else j) < 0) = decide (j < 0) by simp] at this
  exact this
/-- a tick begins: all that is there is old -/
theorem AllP_old {m : mx_M} {Q Q' : vQ} (h : AllP m 0 none Q) (hq : ∀ a b c d e f, Q false a b c d e f → Q' true a b c d e f) : AllP m m.2.1.val none Q' := by
  refine ⟨fun k hk => ?_, fun _ _ _ _ _ _ z => by cases z⟩
  rw [show decide (k < m.2.1.val) = true by simp; omega]
  have := h.1 k hk
  rw [show decide (k < 0) = false by simp] at this
  exact hq _ _ _ _ _ _ this
/-! the ends as numbers -/
abbrev vch (m : mx_M) (e : Nat) : Int := (m.1 106 e).toInt
abbrev vak (m : mx_M) (e : Nat) : Int := (m.1 107 e).toInt
abbrev vsn (m : mx_M) (e : Nat) : Int := (m.1 108 e).toInt
abbrev vpt (m : mx_M) (e : Nat) : Int := (m.1 109 e).toInt
abbrev vex (m : mx_M) (e : Nat) : Int := (m.1 110 e).toInt
abbrev vcs (m : mx_M) : Int := (m.1 82 30).toInt
def okd (k : Int32) : Prop := ¬ k < 13 ∧ ¬ k = 17
/-- what a packet of the channel keeps; ints: channels, ch0, sent0, acked0, ch1, sent1; dl: a tick's deliveries, lam: channels as it began; a s, a' s': rates before and in it -/
def cq (cs ch0 sn0 ak0 ch1 sn1 : Int) (dl : Bool) (lam a s a' s' : Int) : vQ := fun o kd fr to CH N KN =>
  ¬ kd < 12 →
  ((fr = 4 ∧ to = 5) ∨ (fr = 5 ∧ to = 4)) ∧ (1 ≤ CH ∧ CH ≤ cs ∧ 0 ≤ N ∧ 0 ≤ KN) ∧ (kd = 12 → fr = 4 ∧ N = 0) ∧ (fr = 5 → 1 ≤ KN) ∧
  (fr = 4 → CH = ch0 → (¬ kd = 17 → N < sn0) ∧ (1 ≤ KN → 1 ≤ ak0)) ∧ (fr = 5 → CH = ch0 → KN ≤ sn0) ∧
  (fr = 4 → CH = ch1 → KN ≤ max 3 sn1) ∧ (fr = 5 → CH = ch1 → ¬ kd = 17 → N < max 3 sn1) ∧
  (o = true → N < s + 3 ∧ KN ≤ a) ∧ (o = false → N < s' + 3 ∧ KN ≤ a') ∧
  (dl = true → (o = true → CH ≤ lam) ∧ (o = false → kd = 12 → lam < CH))
def yq (x : Int) : vQ := fun o kd fr to CH N KN => ¬ kd < 12 → CH = x → (fr = 4 → KN ≤ 3) ∧ (fr = 5 → ¬ kd = 17 → N < 3)
def oq (x ch1 : Int) : vQ := fun o kd fr to CH N KN => ¬ kd < 12 → CH = x → kd = 12 → o = true ∧ x ≤ ch1
def eC (m : mx_M) : Prop :=
  (0 ≤ vch m 0 ∧ vch m 0 ≤ vcs m ∧ 0 ≤ vch m 1 ∧ vch m 1 ≤ vcs m ∧ 0 ≤ vex m 0 ∧ 0 ≤ vex m 1) ∧
  (vch m 1 = vch m 0 → ¬ vch m 1 = 0 → vex m 1 ≤ vsn m 0 ∧ vex m 0 ≤ max 3 (vsn m 1)) ∧
  (¬ vch m 1 = 0 → 1 ≤ vex m 1) ∧ (¬ vch m 0 = 0 → 1 ≤ vpt m 0 ∧ m.1 113 0 = 12) ∧
  (∀ n : Nat, 1 ≤ n → (n : Int) < vpt m 0 → okd (m.1 113 n)) ∧ (∀ n : Nat, (n : Int) < vpt m 1 → okd (m.1 113 (1400 + n))) ∧
  (¬ vch m 0 = 0 → 1 ≤ vex m 0 → 1 ≤ vak m 0)
def YO (m : mx_M) (L : Nat) (H : vH) (x : Int) : Prop :=
  (AllP m L H (yq x) ∧ (vch m 0 = x → vex m 0 ≤ 3) ∧ (vch m 1 = x → vak m 1 = 0)) ∨
  (AllP m L H (oq x (vch m 1)) ∧ (vch m 0 = x → 1 ≤ vak m 0))
def cqm (m : mx_M) (dl : Bool) (lam a s a' s' : Int) : vQ := cq (vcs m) (vch m 0) (vsn m 0) (vak m 0) (vch m 1) (vsn m 1) dl lam a s a' s'
/-- the protocol's invariant -/
def PC (m : mx_M) (L : Nat) (H : vH) (dl : Bool) (lam a s a' s' : Int) : Prop :=
  eC m ∧ AllP m L H (cqm m dl lam a s a' s') ∧ (∀ x : Int, 1 ≤ x → YO m L H x) ∧ (vex m 0 ≤ a' ∧ vex m 1 ≤ a' ∧ vak m 0 ≤ s' ∧ vak m 1 ≤ s') ∧ (dl = true → vch m 1 ≤ lam ∧ lam ≤ vcs m) ∧ L ≤ m.2.1.val
theorem ev {m m' : mx_M} (h30 : m'.1 82 30 = m.1 82 30) (h6 : m'.1 106 = m.1 106) (h7 : m'.1 107 = m.1 107) (h8 : m'.1 108 = m.1 108) (h9 : m'.1 109 = m.1 109) (h10 : m'.1 110 = m.1 110) : vcs m' = vcs m ∧ vch m' = vch m ∧ vak m' = vak m ∧ vsn m' = vsn m ∧ vpt m' = vpt m ∧ vex m' = vex m := by
  refine ⟨?_, ?_, ?_, ?_, ?_, ?_⟩
  · show (m'.1 82 30).toInt = _
    rw [h30]
  · funext e; show (m'.1 106 e).toInt = _; rw [h6]
  · funext e; show (m'.1 107 e).toInt = _; rw [h7]
  · funext e; show (m'.1 108 e).toInt = _; rw [h8]
  · funext e; show (m'.1 109 e).toInt = _; rw [h9]
  · funext e; show (m'.1 110 e).toInt = _; rw [h10]
theorem PC_f {m m' : mx_M} {L : Nat} {H : vH} {dl : Bool} {lam a s a' s' : Int} (h : PC m L H dl lam a s a' s') (h85 : m'.1 85 = m.1 85) (hf : m'.2.1 = m.2.1) (h30 : m'.1 82 30 = m.1 82 30) (h6 : m'.1 106 = m.1 106) (h7 : m'.1 107 = m.1 107) (h8 : m'.1 108 = m.1 108) (h9 : m'.1 109 = m.1 109) (h10 : m'.1 110 = m.1 110) (h113 : m'.1 113 = m.1 113) : PC m' L H dl lam a s a' s' := by
  obtain ⟨p1, p2, p3, p4, p5, p6⟩ := h
  obtain ⟨v1, v2, v3, v4, v5, v6⟩ := ev h30 h6 h7 h8 h9 h10
  refine ⟨?_, ?_, ?_, ?_, ?_, ?_⟩
  · unfold eC
    rw [v1, v2, v3, v4, v5, v6, h113]; exact p1
  · unfold cqm
    rw [v1, v2, v3, v4]; exact AllP_f p2 h85 hf
  · intro x hx
    unfold YO
    rw [v2, v3, v6]
    rcases p3 x hx with z | z
    · exact Or.inl ⟨AllP_f z.1 h85 hf, z.2⟩
    · exact Or.inr ⟨AllP_f z.1 h85 hf, z.2⟩
  · rw [v3, v6]; exact p4
  · rw [v1, v2]; exact p5
  · rw [hf]; exact p6
theorem PC_nh {m : mx_M} {L : Nat} {H : vH} {dl : Bool} {lam a s a' s' : Int} (h : PC m L H dl lam a s a' s') : PC m L none dl lam a s a' s' := by
  obtain ⟨p1, p2, p3, p4, p5, p6⟩ := h
  refine ⟨p1, AllP_nh p2, fun x hx => ?_, p4, p5, p6⟩
  rcases p3 x hx with z | z
  · exact Or.inl ⟨AllP_nh z.1, z.2⟩
  · exact Or.inr ⟨AllP_nh z.1, z.2⟩
/-- any send -/
theorem PC_sendQ {m : mx_M} {L : Nat} {H : vH} {dl : Bool} {lam a s a' s' : Int} (h : PC m L H dl lam a s a' s') (q : Nat → Int32) (hc : cqm m dl lam a s a' s' false (q 0) (q 1) (q 2) (q 6).toInt (q 7).toInt (q 8).toInt)
    (hy : ∀ x : Int, 1 ≤ x → (vch m 0 = x → vex m 0 ≤ 3) → (vch m 1 = x → vak m 1 = 0) → yq x false (q 0) (q 1) (q 2) (q 6).toInt (q 7).toInt (q 8).toInt) (ho : ∀ x : Int, 1 ≤ x → (vch m 0 = x → 1 ≤ vak m 0) → oq x (vch m 1) false (q 0) (q 1) (q 2) (q 6).toInt (q 7).toInt (q 8).toInt) : PC (my_send m q) L H dl lam a s a' s' := by
  obtain ⟨p1, p2, p3, p4, p5, p6⟩ := h
  have ho' (i : Nat) (hi : ¬ i = 85) : (my_send m q).1 i = m.1 i := my_send_o m q hi
  obtain ⟨v1, v2, v3, v4, v5, v6⟩ := ev (m := m) (m' := my_send m q) (by rw [ho' 82 (by decide)]) (ho' 106 (by decide)) (ho' 107 (by decide)) (ho' 108 (by decide)) (ho' 109 (by decide)) (ho' 110 (by decide))
  refine ⟨?_, ?_, ?_, ?_, ?_, ?_⟩
  · unfold eC
    rw [v1, v2, v3, v4, v5, v6, ho' 113 (by decide)]; exact p1
  · have e : cqm (my_send m q) dl lam a s a' s' = cqm m dl lam a s a' s' := by
      unfold cqm
      rw [v1, v2, v3, v4]
    rw [e]
    exact AllP_send p2 q p6 hc
  · intro x hx
    unfold YO
    rw [v2, v3, v6]
    rcases p3 x hx with z | z
    · exact Or.inl ⟨AllP_send z.1 q p6 (hy x hx z.2.1 z.2.2), z.2⟩
    · exact Or.inr ⟨AllP_send z.1 q p6 (ho x hx z.2), z.2⟩
  · rw [v3, v6]; exact p4
  · rw [v1, v2]; exact p5
  · rw [send_cnt]; split <;> omega
/-- a packet that is not the channel's is sent -/
theorem PC_send0 {m : mx_M} {L : Nat} {H : vH} {dl : Bool} {lam a s a' s' : Int} (h : PC m L H dl lam a s a' s') (q : Nat → Int32) (hq : q 0 < 12) : PC (my_send m q) L H dl lam a s a' s' :=
  PC_sendQ h q (fun z => absurd hq z) (fun x _ _ _ z => absurd hq z) (fun x _ _ z => absurd hq z)
/-! the protocol's invariant, step by step -/
theorem n45 : ¬ (4 : Int32) = 5 := by decide
theorem n54 : ¬ (5 : Int32) = 4 := by decide
theorem n1712 : ¬ (17 : Int32) = 12 := by decide
theorem nft : ¬ (false = true) := by decide
theorem pk_neg (m : mx_M) (e : Nat) : mo_pk m e (-1) = pk9 17 (Int32.ofNat (4 + e)) (Int32.ofNat (5 - e)) 0 0 0 (m.1 106 e) 0 (m.1 110 e) := by
  unfold mo_pk
  rw [if_pos (by decide)]
theorem pk_pos (m : mx_M) (e : Nat) {n : Nat} (hn : n < 1400) : mo_pk m e (Int32.ofNat n) = pk9 (m.1 113 (1400 * e + n)) (Int32.ofNat (4 + e)) (Int32.ofNat (5 - e)) (m.1 114 (1400 * e + n)) (m.1 115 (1400 * e + n)) 0 (m.1 106 e) (Int32.ofNat n) (m.1 110 e) := by
  unfold mo_pk
  rw [if_neg (by rw [i_lt, i_of n (by omega), show (0 : Int32).toInt = 0 from rfl]; omega), of_cl n (by omega)]
theorem PC_ack {m : mx_M} {L : Nat} {H : vH} {dl : Bool} {lam a s a' s' : Int} (h : PC m L H dl lam a s a' s') {e : Nat} (he : e < 2) (hch : ¬ vch m e = 0) (hs : 0 ≤ s') : PC (mo_transmit m (Int32.ofNat e) (-1)) L H dl lam a s a' s' := by
  have h0 := h
  obtain ⟨⟨⟨e1, e2, e3, e4, e5, e6⟩, E2, E3, E4, E5, E6, E7⟩, p2, p3, p4, p5, p6⟩ := h0
  rw [mo_transmit_eq m e he _ (by decide), pk_neg]
  have z0 : (0 : Int32).toInt = 0 := rfl
  have h01 : e = 0 ∨ e = 1 := by omega
  rcases h01 with rfl | rfl
  · refine PC_sendQ h _ ?_ ?_ ?_
    · intro _
      refine ⟨Or.inl ⟨rfl, rfl⟩, ⟨?_, e2, by rw [show pk9 17 (Int32.ofNat (4 + 0)) (Int32.ofNat (5 - 0)) 0 0 0 (m.1 106 0) 0 (m.1 110 0) 7 = 0 from rfl, z0]; omega, e5⟩, fun z => absurd z n1712, fun z => absurd z n45, fun _ _ => ⟨fun z => absurd rfl z, fun z => E7 hch z⟩, fun z => absurd z n45, fun _ z => ?_, fun z => absurd z n45, fun z => absurd z nft, fun _ => ⟨?_, p4.1⟩, fun _ => ⟨fun z => absurd z nft, fun _ z => absurd z n1712⟩⟩
      · show 1 ≤ vch m 0
        omega
      · have z' : vch m 0 = vch m 1 := z
        exact (E2 z'.symm (by omega)).2
      · show (0 : Int32).toInt < s' + 3
        omega
    · intro x _ hx _ _ hc
      exact ⟨fun _ => hx hc, fun z => absurd z n45⟩
    · intro x _ hx _ hc z
      exact absurd z n1712
  · refine PC_sendQ h _ ?_ ?_ ?_
    · intro _
      refine ⟨Or.inr ⟨rfl, rfl⟩, ⟨?_, e4, by rw [show pk9 17 (Int32.ofNat (4 + 1)) (Int32.ofNat (5 - 1)) 0 0 0 (m.1 106 1) 0 (m.1 110 1) 7 = 0 from rfl, z0]; omega, e6⟩, fun z => absurd z n1712, fun _ => E3 hch, fun z => absurd z n54, fun _ z => ?_, fun z => absurd z n54, fun _ _ z => absurd rfl z, fun z => absurd z nft, fun _ => ⟨?_, p4.2.1⟩, fun _ => ⟨fun z => absurd z nft, fun _ z => absurd z n1712⟩⟩
      · show 1 ≤ vch m 1
        omega
      · exact (E2 z hch).1
      · show (0 : Int32).toInt < s' + 3
        omega
    · intro x _ _ _ _ hc
      exact ⟨fun z => absurd z n54, fun _ z => absurd rfl z⟩
    · intro x _ hx _ hc z
      exact absurd z n1712
/-- message n of an end goes out -/
theorem PC_out {m : mx_M} {L : Nat} {H : vH} {dl : Bool} {lam a s a' s' : Int} (h : PC m L H dl lam a s a' s') {e : Nat} (he : e < 2) (hch : ¬ vch m e = 0) {n : Nat} (h1 : vak m e ≤ n) (h2 : (n : Int) < vsn m e) (h3 : (n : Int) < vpt m e) (h4 : vpt m e ≤ 1400) (h5 : vsn m e ≤ vak m e + 3) (hl : dl = true → e = 0 → n = 0 → lam < vch m 0) : PC (mo_transmit m (Int32.ofNat e) (Int32.ofNat n)) L H dl lam a s a' s' := by
  have h0 := h
  obtain ⟨⟨⟨e1, e2, e3, e4, e5, e6⟩, E2, E3, E4, E5, E6, E7⟩, p2, p3, p4, p5, p6⟩ := h0
  have hn : n < 1400 := by omega
  have en : (Int32.ofNat n).toInt = n := i_of n (by omega)
  rw [mo_transmit_eq m e he _ (by rw [en]; omega), pk_pos m e hn]
  have h01 : e = 0 ∨ e = 1 := by omega
  rcases h01 with rfl | rfl
  · have hk : m.1 113 (1400 * 0 + n) = 12 → n = 0 := by
      intro z
      by_cases hz : n = 0
      · exact hz
      · have := (E5 n (by omega) h3).1
        rw [show 1400 * 0 + n = n by omega] at z
        rw [z] at this
        exact absurd (by decide) this
    refine PC_sendQ h _ ?_ ?_ ?_
    · intro _
      refine ⟨Or.inl ⟨rfl, rfl⟩, ⟨?_, e2, ?_, e5⟩, fun z => ⟨rfl, ?_⟩, fun z => absurd z n45, fun _ _ => ⟨fun _ => ?_, fun z => E7 hch z⟩, fun z => absurd z n45, fun _ z => ?_, fun z => absurd z n45, fun z => absurd z nft, fun _ => ⟨?_, p4.1⟩, fun hd => ⟨fun z => absurd z nft, fun _ z => hl hd rfl (hk z)⟩⟩
      · show 1 ≤ vch m 0
        omega
      · show 0 ≤ (Int32.ofNat n).toInt
        omega
      · show (Int32.ofNat n).toInt = 0
        rw [en, hk z]; rfl
      · show (Int32.ofNat n).toInt < vsn m 0
        omega
      · have z' : vch m 0 = vch m 1 := z
        exact (E2 z'.symm (by omega)).2
      · show (Int32.ofNat n).toInt < s' + 3
        omega
    · intro x _ hx _ _ hc
      exact ⟨fun _ => hx hc, fun z => absurd z n45⟩
    · intro x _ hx _ hc z
      have := hx hc
      have := hk z
      omega
  · have hk := E6 n h3
    have hk12 : ¬ m.1 113 (1400 * 1 + n) = 12 := by
      intro z
      have := hk.1
      rw [show 1400 + n = 1400 * 1 + n by omega, z] at this
      exact absurd (by decide) this
    refine PC_sendQ h _ ?_ ?_ ?_
    · intro _
      refine ⟨Or.inr ⟨rfl, rfl⟩, ⟨?_, e4, ?_, e6⟩, fun z => absurd z hk12, fun _ => E3 hch, fun z => absurd z n54, fun _ z => ?_, fun z => absurd z n54, fun _ _ _ => ?_, fun z => absurd z nft, fun _ => ⟨?_, p4.2.1⟩, fun _ => ⟨fun z => absurd z nft, fun _ z => absurd z hk12⟩⟩
      · show 1 ≤ vch m 1
        omega
      · show 0 ≤ (Int32.ofNat n).toInt
        omega
      · exact (E2 z hch).1
      · show (Int32.ofNat n).toInt < max 3 (vsn m 1)
        omega
      · show (Int32.ofNat n).toInt < s' + 3
        omega
    · intro x _ _ hx _ hc
      refine ⟨fun z => absurd z n54, fun _ _ => ?_⟩
      show (Int32.ofNat n).toInt < 3
      have := hx hc
      omega
    · intro x _ hx _ hc z
      exact absurd z hk12
/-- where only numbers of the ends change -/
theorem PC_v {m m' : mx_M} {L : Nat} {H : vH} {dl : Bool} {lam a s a' s' : Int} (h : PC m L H dl lam a s a' s') (h85 : m'.1 85 = m.1 85) (hf : m'.2.1 = m.2.1) (hE : eC m')
    (hc : ∀ o kd fr to CH N KN, cqm m dl lam a s a' s' o kd fr to CH N KN → cqm m' dl lam a s a' s' o kd fr to CH N KN) (hy : ∀ x : Int, 1 ≤ x → YO m L H x → YO m' L H x) (hr : vex m' 0 ≤ a' ∧ vex m' 1 ≤ a' ∧ vak m' 0 ≤ s' ∧ vak m' 1 ≤ s') (hl : dl = true → vch m' 1 ≤ lam ∧ lam ≤ vcs m') : PC m' L H dl lam a s a' s' := by
  obtain ⟨p1, p2, p3, p4, p5, p6⟩ := h
  exact ⟨hE, AllP_mono (AllP_f p2 h85 hf) hc, fun x hx => hy x hx (p3 x hx), hr, hl, by rw [hf]; exact p6⟩
theorem PC_sn {m : mx_M} {L : Nat} {H : vH} {dl : Bool} {lam a s a' s' : Int} (h : PC m L H dl lam a s a' s') {e : Nat} (he : e < 2) {v : Int32} (hv : vsn m e ≤ v.toInt) : PC (my_pi m 108 e v) L H dl lam a s a' s' := by
  have h0 := h
  obtain ⟨⟨b0, E2, E3, E4, E5, E6, E7⟩, p2, p3, p4, p5, p6⟩ := h0
  have r (i j : Nat) (hi : ¬ i = 108) : (my_pi m 108 e v).1 i j = m.1 i j := qi_ne (fun z => hi z.1)
  have v1 : vcs (my_pi m 108 e v) = vcs m := by show ((my_pi m 108 e v).1 82 30).toInt = _; rw [r _ _ (by decide)]
  have v2 (x : Nat) : vch (my_pi m 108 e v) x = vch m x := by show ((my_pi m 108 e v).1 106 x).toInt = _; rw [r _ _ (by decide)]
  have v3 (x : Nat) : vak (my_pi m 108 e v) x = vak m x := by show ((my_pi m 108 e v).1 107 x).toInt = _; rw [r _ _ (by decide)]
  have v5 (x : Nat) : vpt (my_pi m 108 e v) x = vpt m x := by show ((my_pi m 108 e v).1 109 x).toInt = _; rw [r _ _ (by decide)]
  have v6 (x : Nat) : vex (my_pi m 108 e v) x = vex m x := by show ((my_pi m 108 e v).1 110 x).toInt = _; rw [r _ _ (by decide)]
  have v4 (x : Nat) : vsn m x ≤ vsn (my_pi m 108 e v) x := by
    show _ ≤ ((my_pi m 108 e v).1 108 x).toInt
    by_cases hx : x = e
    · rw [hx, qi_eq]; exact hv
    · rw [qi_ne (fun z => hx z.2)]; exact Int.le_refl _
  have g0 := v4 0
  have g1 := v4 1
  refine PC_v h (qi_row (by decide)) rfl ?_ ?_ ?_ ?_ ?_
  · unfold eC
    rw [v1, v2, v2, v3, v5, v5, v6, v6]
    simp only [show (my_pi m 108 e v).1 113 = m.1 113 from qi_row (by decide)]
    exact ⟨b0, fun z1 z2 => ⟨by have := (E2 z1 z2).1; omega, by have := (E2 z1 z2).2; omega⟩, E3, E4, E5, E6, E7⟩
  · intro o kd fr to CH N KN hc
    unfold cqm at *
    rw [v1, v2, v2, v3]
    intro hk
    obtain ⟨c1, c2, c3, c4, c5, c6, c7, c8, c9⟩ := hc hk
    exact ⟨c1, c2, c3, c4, fun z1 z2 => ⟨fun z3 => by have := (c5 z1 z2).1 z3; omega, (c5 z1 z2).2⟩, fun z1 z2 => by have := c6 z1 z2; omega, fun z1 z2 => by have := c7 z1 z2; omega, fun z1 z2 z3 => by have := c8 z1 z2 z3; omega, c9⟩
  · intro x hx hyo
    unfold YO at *
    rw [v2, v2, v3, v3, v6]
    rcases hyo with z | z
    · exact Or.inl ⟨AllP_f z.1 (qi_row (by decide)) rfl, z.2⟩
    · exact Or.inr ⟨AllP_f z.1 (qi_row (by decide)) rfl, z.2⟩
  · rw [v6, v6, v3, v3]; exact p4
  · rw [v1, v2]; exact p5
theorem tr_pi108 (m : mx_M) {e : Nat} (he : e < 2) {n : Nat} (hn : n < 1400) (k : Nat) (v : Int32) : my_pi (mo_transmit m (Int32.ofNat e) (Int32.ofNat n)) 108 k v = mo_transmit (my_pi m 108 k v) (Int32.ofNat e) (Int32.ofNat n) := by
  have en : (Int32.ofNat n).toInt = n := i_of n (by omega)
  rw [mo_transmit_eq _ e he _ (by rw [en]; omega), mo_transmit_eq _ e he _ (by rw [en]; omega), my_send_pi _ _ (by decide)]
  congr 1
  rw [pk_pos _ e hn, pk_pos _ e hn, qi_row (by decide), qi_row (by decide), qi_row (by decide), qi_row (by decide), qi_row (by decide)]
/-- one step of a sending -/
theorem PC_step {m : mx_M} {L : Nat} {H : vH} {dl : Bool} {lam a s a' s' : Int} (h : PC m L H dl lam a s a' s') {e : Nat} (he : e < 2) (hch : ¬ vch m e = 0) {n : Nat} (hn : m.1 108 e = Int32.ofNat n) (h1 : vak m e ≤ n) (h3 : (n : Int) < vpt m e) (h4 : vpt m e ≤ 1400) (h5 : (n : Int) < vak m e + 3) (hl : dl = true → e = 0 → n = 0 → lam < vch m 0) : PC (my_pi (mo_transmit m (Int32.ofNat e) (m.1 108 e)) 108 e (m.1 108 e + 1)) L H dl lam a s a' s' := by
  have e1 : Int32.ofNat n + 1 = Int32.ofNat (n + 1) := of_add n 1
  rw [hn, e1, tr_pi108 m he (by omega)]
  have hs : vsn m e = n := by show (m.1 108 e).toInt = _; rw [hn, i_of n (by omega)]
  have q := PC_sn h he (v := Int32.ofNat (n + 1)) (by rw [hs, i_of _ (by omega)]; omega)
  have r (i j : Nat) (hi : ¬ i = 108) : (my_pi m 108 e (Int32.ofNat (n + 1))).1 i j = m.1 i j := qi_ne (fun z => hi z.1)
  have w2 (x : Nat) : vch (my_pi m 108 e (Int32.ofNat (n + 1))) x = vch m x := by show ((my_pi m 108 e _).1 106 x).toInt = _; rw [r _ _ (by decide)]
  have w3 : vak (my_pi m 108 e (Int32.ofNat (n + 1))) e = vak m e := by show ((my_pi m 108 e _).1 107 e).toInt = _; rw [r _ _ (by decide)]
  have w5 : vpt (my_pi m 108 e (Int32.ofNat (n + 1))) e = vpt m e := by show ((my_pi m 108 e _).1 109 e).toInt = _; rw [r _ _ (by decide)]
  have w4 : vsn (my_pi m 108 e (Int32.ofNat (n + 1))) e = n + 1 := by show ((my_pi m 108 e _).1 108 e).toInt = _; rw [qi_eq, i_of _ (by omega)]; rfl
  refine PC_out q he (by rw [w2]; exact hch) (by rw [w3]; exact h1) (by rw [w4]; omega) (by rw [w5]; exact h3) (by rw [w5]; exact h4) (by rw [w4, w3]; omega) ?_
  rw [w2]
  exact hl
/-- acked is raised -/
theorem PC_raise {m : mx_M} {L : Nat} {H : vH} {dl : Bool} {lam a s a' s' : Int} (h : PC m L H dl lam a s a' s') {e : Nat} (he : e < 2) {v : Int32} (hv : vak m e ≤ v.toInt) (hs : v.toInt ≤ s') (h1 : e = 1 → ¬ v.toInt = 0 → dl = true ∧ (vch m 0 = vch m 1 → 1 ≤ vak m 0)) (hz : 0 ≤ v.toInt) : PC (my_pi m 107 e v) L H dl lam a s a' s' := by
  have h0 := h
  obtain ⟨⟨b0, E2, E3, E4, E5, E6, E7⟩, p2, p3, p4, p5, p6⟩ := h0
  have r (i j : Nat) (hi : ¬ i = 107) : (my_pi m 107 e v).1 i j = m.1 i j := qi_ne (fun z => hi z.1)
  have v1 : vcs (my_pi m 107 e v) = vcs m := by show ((my_pi m 107 e v).1 82 30).toInt = _; rw [r _ _ (by decide)]
  have v2 (x : Nat) : vch (my_pi m 107 e v) x = vch m x := by show ((my_pi m 107 e v).1 106 x).toInt = _; rw [r _ _ (by decide)]
  have v4 (x : Nat) : vsn (my_pi m 107 e v) x = vsn m x := by show ((my_pi m 107 e v).1 108 x).toInt = _; rw [r _ _ (by decide)]
  have v5 (x : Nat) : vpt (my_pi m 107 e v) x = vpt m x := by show ((my_pi m 107 e v).1 109 x).toInt = _; rw [r _ _ (by decide)]
  have v6 (x : Nat) : vex (my_pi m 107 e v) x = vex m x := by show ((my_pi m 107 e v).1 110 x).toInt = _; rw [r _ _ (by decide)]
  have v3 (x : Nat) : vak m x ≤ vak (my_pi m 107 e v) x ∧ (¬ x = e → vak (my_pi m 107 e v) x = vak m x) ∧ (x = e → vak (my_pi m 107 e v) x = v.toInt) := by
    show _ ≤ ((my_pi m 107 e v).1 107 x).toInt ∧ (¬ x = e → ((my_pi m 107 e v).1 107 x).toInt = _) ∧ (x = e → ((my_pi m 107 e v).1 107 x).toInt = _)
    by_cases hx : x = e
    · rw [hx, qi_eq]; exact ⟨hv, fun z => absurd rfl z, fun _ => rfl⟩
    · rw [qi_ne (fun z => hx z.2)]; exact ⟨Int.le_refl _, fun _ => rfl, fun z => absurd z hx⟩
  have g0 := v3 0
  have g1 := v3 1
  have a85 : (my_pi m 107 e v).1 85 = m.1 85 := qi_row (by decide)
  refine PC_v h a85 rfl ?_ ?_ ?_ ?_ ?_
  · unfold eC
    rw [v1, v2, v2, v4, v4, v5, v5, v6, v6]
    simp only [show (my_pi m 107 e v).1 113 = m.1 113 from qi_row (by decide)]
    exact ⟨b0, E2, E3, E4, E5, E6, fun z1 z2 => by have := E7 z1 z2; omega⟩
  · intro o kd fr to CH N KN hc
    unfold cqm at *
    rw [v1, v2, v2, v4, v4]
    intro hk
    obtain ⟨c1, c2, c3, c4, c5, c6, c7, c8, c9⟩ := hc hk
    exact ⟨c1, c2, c3, c4, fun z1 z2 => ⟨(c5 z1 z2).1, fun z3 => by have := (c5 z1 z2).2 z3; omega⟩, c6, c7, c8, c9⟩
  · intro x hx hyo
    unfold YO at *
    rw [v2, v2, v6]
    have h01 : e = 0 ∨ e = 1 := by omega
    rcases hyo with z | z
    · rcases h01 with rfl | rfl
      · rw [g1.2.1 (by decide)]
        exact Or.inl ⟨AllP_f z.1 a85 rfl, z.2⟩
      · by_cases hv0 : v.toInt = 0
        · rw [g1.2.2 rfl, hv0]
          exact Or.inl ⟨AllP_f z.1 a85 rfl, z.2.1, fun _ => rfl⟩
        · obtain ⟨hd, hak⟩ := h1 rfl hv0
          by_cases hcx : vch m 1 = x
          · refine Or.inr ⟨?_, ?_⟩
            · refine AllP_mono (AllP_f p2 a85 rfl) ?_
              intro o kd fr to CH N KN hc hk hCH h12
              obtain ⟨c1, c2, c3, c4, c5, c6, c7, c8, c9, c10, c11⟩ := hc hk
              have hlam := (p5 hd).1
              cases o with
              | true => exact ⟨rfl, by omega⟩
              | false =>
                have := (c11 hd).2 rfl h12
                omega
            · intro hz0
              rw [g0.2.1 (by decide)]
              exact hak (by omega)
          · exact Or.inl ⟨AllP_f z.1 a85 rfl, z.2.1, fun q => absurd q hcx⟩
    · refine Or.inr ⟨AllP_f z.1 a85 rfl, fun q => ?_⟩
      have := z.2 q
      omega
  · rw [v6, v6]
    have h01 : e = 0 ∨ e = 1 := by omega
    rcases h01 with rfl | rfl
    · rw [g0.2.2 rfl, g1.2.1 (by decide)]; exact ⟨p4.1, p4.2.1, hs, p4.2.2.2⟩
    · rw [g1.2.2 rfl, g0.2.1 (by decide)]; exact ⟨p4.1, p4.2.1, p4.2.2.1, hs⟩
  · rw [v1, v2]; exact p5
theorem vv (m : mx_M) (e : Nat) : vch m e = (m.1 106 e).toInt ∧ vak m e = (m.1 107 e).toInt ∧ vsn m e = (m.1 108 e).toInt ∧ vpt m e = (m.1 109 e).toInt ∧ vex m e = (m.1 110 e).toInt := ⟨rfl, rfl, rfl, rfl, rfl⟩
theorem PC_sy6 {m : mx_M} {L : Nat} {H : vH} {dl : Bool} {lam a s a' s' : Int} (h : PC m L H dl lam a s a' s') {e : Nat} (he : e < 2) (hi : iE m 1399) (h1 : e = 0 → 1 ≤ vpt m 0) {k : Int32} (hk : okd k) (x y : Int32) : PC (sy6 m e k x y) L H dl lam a s a' s' := by
  have h0 := h
  obtain ⟨⟨b0, E2, E3, E4, E5, E6, E7⟩, p2, p3, p4, p5, p6⟩ := h0
  have r (i j : Nat) (hi : ¬ (i = 113 ∨ i = 114 ∨ i = 115 ∨ i = 109 ∨ i = 111 ∨ i = 112)) : (sy6 m e k x y).1 i j = m.1 i j := sy6_o m e k x y (by omega) (by omega)
  have rr (i : Nat) (hi : ¬ (i = 113 ∨ i = 114 ∨ i = 115 ∨ i = 109 ∨ i = 111 ∨ i = 112)) : (sy6 m e k x y).1 i = m.1 i := funext fun j => r i j hi
  have hf : (sy6 m e k x y).2 = m.2 := by unfold sy6; split <;> rfl
  have v1 : vcs (sy6 m e k x y) = vcs m := by show ((sy6 m e k x y).1 82 30).toInt = _; rw [r _ _ (by decide)]
  have v2 (z : Nat) : vch (sy6 m e k x y) z = vch m z := by show ((sy6 m e k x y).1 106 z).toInt = _; rw [r _ _ (by decide)]
  have v3 (z : Nat) : vak (sy6 m e k x y) z = vak m z := by show ((sy6 m e k x y).1 107 z).toInt = _; rw [r _ _ (by decide)]
  have v4 (z : Nat) : vsn (sy6 m e k x y) z = vsn m z := by show ((sy6 m e k x y).1 108 z).toInt = _; rw [r _ _ (by decide)]
  have v6 (z : Nat) : vex (sy6 m e k x y) z = vex m z := by show ((sy6 m e k x y).1 110 z).toInt = _; rw [r _ _ (by decide)]
  obtain ⟨i1, i2, i3, i4, i5⟩ := iE_get hi he
  have v5 : vpt (sy6 m e k x y) e = vpt m e + 1 := by
    show ((sy6 m e k x y).1 109 e).toInt = _
    rw [sy6_109, i_p1 (by omega)]
  have v5o (z : Nat) (hz : ¬ z = e) : vpt (sy6 m e k x y) z = vpt m z := by
    show ((sy6 m e k x y).1 109 z).toInt = _
    rw [sy6_o m e k x y (by omega) (by omega)]
  have q113 (j : Nat) : (sy6 m e k x y).1 113 j = if j = 1400 * e + (vpt m e).toNat then k else m.1 113 j := by
    have key : (sy4 m e k x y).1 113 j = if j = 1400 * e + (vpt m e).toNat then k else m.1 113 j := by
      unfold sy4
      rw [qi_ne (by omega), qi_ne (by omega), qi_ne (by omega), qi_if]
      simp
    unfold sy6
    split
    · rw [qi_ne (by omega), qi_ne (by omega)]; exact key
    · exact key
  have ie0 := (iE_get hi (show 0 < 2 by decide))
  have vv0 := vv m 0
  have vv1 := vv m 1
  have ie1 := (iE_get hi (show 1 < 2 by decide))
  refine PC_v h (rr 85 (by decide)) (by rw [hf]) ?_ ?_ ?_ ?_ ?_
  · unfold eC
    rw [v1, v2, v2, v3, v4, v4, v6, v6]
    have h01 : e = 0 ∨ e = 1 := by omega
    rcases h01 with rfl | rfl
    · have hp1 := h1 rfl
      refine ⟨b0, E2, E3, fun z => ⟨by rw [v5]; omega, ?_⟩, fun n hn1 hn2 => ?_, fun n hn => ?_, E7⟩
      · rw [q113, if_neg (by omega)]; exact (E4 z).2
      · rw [v5] at hn2
        rw [q113]
        by_cases hz : n = 1400 * 0 + (vpt m 0).toNat
        · rw [if_pos hz]; exact hk
        · rw [if_neg hz]; exact E5 n hn1 (by omega)
      · rw [v5o 1 (by decide)] at hn
        have := ie0.2.2.1
        rw [q113, if_neg (by omega)]; exact E6 n hn
    · refine ⟨b0, E2, E3, fun z => ?_, fun n hn1 hn2 => ?_, fun n hn => ?_, E7⟩
      · rw [v5o 0 (by decide), q113, if_neg (by omega)]; exact E4 z
      · rw [v5o 0 (by decide)] at hn2
        have := ie0.2.2.1
        rw [q113, if_neg (by omega)]; exact E5 n hn1 hn2
      · rw [v5] at hn
        rw [q113]
        by_cases hz : 1400 + n = 1400 * 1 + (vpt m 1).toNat
        · rw [if_pos hz]; exact hk
        · rw [if_neg hz]; exact E6 n (by omega)
  · intro o kd fr to CH N KN hc
    unfold cqm at *
    rw [v1, v2, v2, v3, v4, v4]; exact hc
  · intro z hz hyo
    unfold YO at *
    rw [v2, v2, v3, v3, v6]
    rcases hyo with w | w
    · exact Or.inl ⟨AllP_f w.1 (rr 85 (by decide)) (by rw [hf]), w.2⟩
    · exact Or.inr ⟨AllP_f w.1 (rr 85 (by decide)) (by rw [hf]), w.2⟩
  · rw [v3, v3, v6, v6]; exact p4
  · rw [v1, v2]; exact p5
theorem PC_say {m : mx_M} {L : Nat} {H : vH} {dl : Bool} {lam a s a' s' : Int} (h : PC m L H dl lam a s a' s') {e : Nat} (he : e < 2) (hi : iE m 1399) {k : Int32} (hk : okd k) (x y : Int32) : PC (mo_say m (Int32.ofNat e) k x y) L H dl lam a s a' s' := by
  rw [mo_say_eq m he (iE_get hi he)]
  by_cases hch : m.1 106 e = 0
  · rw [if_pos hch]; exact h
  · rw [if_neg hch]
    have hch' : ¬ vch m e = 0 := fun z => hch (i_eq.2 z)
    have h1 : e = 0 → 1 ≤ vpt m 0 := by
      intro z
      subst z
      exact (h.1.2.2.2.1 hch').1
    have g := PC_sy6 h he hi h1 hk x y
    obtain ⟨i1, i2, i3, i4, i5⟩ := iE_get hi he
    have vve := vv m e
    have vv0 := vv m 0
    split
    · rename_i hlt
      have e9 : m.1 109 e = Int32.ofNat (m.1 109 e).toInt.toNat := of_nn (by omega)
      have e8 : (sy6 m e k x y).1 108 e = m.1 109 e := by
        rw [sy6_o m e k x y (by omega) (by omega), i_eq]; omega
      have v2 (z : Nat) : vch (sy6 m e k x y) z = vch m z := by show ((sy6 m e k x y).1 106 z).toInt = _; rw [sy6_o m e k x y (by omega) (by omega)]
      have v3 : vak (sy6 m e k x y) e = vak m e := by show ((sy6 m e k x y).1 107 e).toInt = _; rw [sy6_o m e k x y (by omega) (by omega)]
      have v5 : vpt (sy6 m e k x y) e = vpt m e + 1 := by
        show ((sy6 m e k x y).1 109 e).toInt = _
        rw [sy6_109, i_p1 (by omega)]
      have := PC_step g he (by rw [v2]; exact hch') (n := (m.1 109 e).toInt.toNat) (by rw [e8]; exact e9) (by rw [v3]; omega) (by rw [v5]; omega) (by rw [v5]; omega) (by rw [v3]; omega) (by
        intro _ hz hn
        subst hz
        have := h1 rfl
        omega)
      rw [e8] at this
      exact this
    · exact g
/-- a channel is opened: the new number, the first message -/
theorem PC_open {m : mx_M} {L : Nat} {H : vH} {dl : Bool} {lam a s a' s' : Int} (h : PC m L H dl lam a s a' s') (hi : iE m 1399) (h0 : vch m 0 = 0) (hcs : vcs m < 2147483647) (hs : 0 ≤ s') (ha : 0 ≤ a') :
    PC (mo_say (my_pi (mo_clear (my_pi m 82 30 (m.1 82 30 + 1)) 0 (m.1 82 30 + 1)) 82 17 0) 0 12 0 0) L H dl lam a s a' s' := by
  have hh := h
  obtain ⟨⟨⟨b1, b2, b3, b4, b5, b6⟩, E2, E3, E4, E5, E6, E7⟩, p2, p3, p4, p5, p6⟩ := hh
  have vvc : vcs m = (m.1 82 30).toInt := rfl
  have eV : (m.1 82 30 + 1).toInt = vcs m + 1 := i_p1 (by omega)
  have z0 : (0 : Int32).toInt = 0 := rfl
  have hne : ¬ (m.1 82 30 + 1 = 0) := fun z => by rw [z] at eV; omega
  generalize hV : m.1 82 30 + 1 = V at *
  generalize hM : my_pi (mo_clear (my_pi m 82 30 V) 0 V) 82 17 0 = M
  have cv : mo_clear (my_pi m 82 30 V) 0 V = mo_clear (my_pi m 82 30 V) (Int32.ofNat 0) V := rfl
  have o (i j : Nat) (h1 : ¬ (106 ≤ i ∧ i < 113 ∧ j = 0)) (h2 : ¬ (i = 82 ∧ (j = 30 ∨ j = 17))) : M.1 i j = m.1 i j := by
    rw [← hM, qi_ne (by omega), cv, clear_o _ (by decide) _ h1, qi_ne (by omega)]
  have c := clear_v (my_pi m 82 30 V) (e := 0) (by decide) V
  have w (i : Nat) (hi : ¬ i = 82) : M.1 i 0 = (mo_clear (my_pi m 82 30 V) (Int32.ofNat 0) V).1 i 0 := by
    rw [← hM, qi_ne (by omega)]
    rfl
  have m6 : M.1 106 0 = V := (w 106 (by decide)).trans c.1
  have m7 : M.1 107 0 = 0 := (w 107 (by decide)).trans c.2.1
  have m8 : M.1 108 0 = 0 := (w 108 (by decide)).trans c.2.2.1
  have m9 : M.1 109 0 = 0 := (w 109 (by decide)).trans c.2.2.2.1
  have m10 : M.1 110 0 = 0 := (w 110 (by decide)).trans c.2.2.2.2
  have m82 : M.1 82 30 = V := by
    rw [← hM, qi_ne (by omega), cv, clear_o _ (by decide) _ (by omega), qi_eq]
  have hf : M.2 = m.2 := by rw [← hM]; rfl
  have iM : iEe M 0 1399 := by
    unfold iEe
    rw [m6, m7, m8, m9, z0]
    exact ⟨by omega, by omega, by omega, Or.inl ⟨rfl, by omega⟩, fun z => absurd z hne⟩
  have es := mo_say_eq M (e := 0) (by decide) iM 12 0 0
  rw [m6, if_neg hne, m9, m7, z0, if_pos (by decide)] at es
  have es' : mo_say M 0 12 0 0 = my_pi (mo_transmit (sy6 M 0 12 0 0) (Int32.ofNat 0) (Int32.ofNat 0)) 108 0 1 := es
  rw [es', tr_pi108 _ (by decide) (by decide)]
  generalize hN : my_pi (sy6 M 0 12 0 0) 108 0 1 = N
  have n_o (i j : Nat) (h1 : ¬ (106 ≤ i ∧ i < 113 ∧ j = 0)) (h2 : ¬ (i = 82 ∧ (j = 30 ∨ j = 17))) (h3 : ¬ (i = 113 ∨ i = 114 ∨ i = 115)) : N.1 i j = m.1 i j := by
    rw [← hN, qi_ne (by omega), sy6_o M 0 12 0 0 (by omega) (by omega), o i j h1 h2]
  have n6 : N.1 106 0 = V := by rw [← hN, qi_ne (by omega), sy6_o M 0 12 0 0 (by omega) (by omega), m6]
  have n7 : N.1 107 0 = 0 := by rw [← hN, qi_ne (by omega), sy6_o M 0 12 0 0 (by omega) (by omega), m7]
  have n8 : N.1 108 0 = 1 := by rw [← hN, qi_eq]
  have n9 : N.1 109 0 = 1 := by rw [← hN, qi_ne (by omega), sy6_109, m9]; rfl
  have n10 : N.1 110 0 = 0 := by rw [← hN, qi_ne (by omega), sy6_o M 0 12 0 0 (by omega) (by omega), m10]
  have n82 : N.1 82 30 = V := by rw [← hN, qi_ne (by omega), sy6_o M 0 12 0 0 (by omega) (by omega), m82]
  have n113 (j : Nat) : N.1 113 j = if j = 0 then 12 else m.1 113 j := by
    have key : (sy4 M 0 12 0 0).1 113 j = if j = 0 then 12 else m.1 113 j := by
      unfold sy4
      rw [m9, qi_ne (by omega), qi_ne (by omega), qi_ne (by omega), qi_if]
      by_cases hj : j = 0
      · rw [if_pos hj, if_pos (by subst hj; exact ⟨rfl, rfl⟩)]
      · rw [if_neg hj, if_neg (fun z => hj (z.2.trans (by decide))), o 113 j (by omega) (by omega)]
    rw [← hN, qi_ne (by omega)]
    unfold sy6
    split
    · rw [qi_ne (by omega), qi_ne (by omega)]; exact key
    · exact key
  have nf : N.2 = m.2 := by
    rw [← hN]
    show (sy6 M 0 12 0 0).2 = _
    have : (sy6 M 0 12 0 0).2 = M.2 := by unfold sy6; split <;> rfl
    rw [this, hf]
  have v1 : vcs N = vcs m + 1 := by show (N.1 82 30).toInt = _; rw [n82, eV]
  have c0 : vch N 0 = vcs m + 1 := by show (N.1 106 0).toInt = _; rw [n6, eV]
  have c1 : vch N 1 = vch m 1 := by show (N.1 106 1).toInt = _; rw [n_o 106 1 (by omega) (by omega) (by omega)]
  have a0 : vak N 0 = 0 := by show (N.1 107 0).toInt = _; rw [n7]; rfl
  have a1 : vak N 1 = vak m 1 := by show (N.1 107 1).toInt = _; rw [n_o 107 1 (by omega) (by omega) (by omega)]
  have s0 : vsn N 0 = 1 := by show (N.1 108 0).toInt = _; rw [n8]; rfl
  have s1 : vsn N 1 = vsn m 1 := by show (N.1 108 1).toInt = _; rw [n_o 108 1 (by omega) (by omega) (by omega)]
  have t0 : vpt N 0 = 1 := by show (N.1 109 0).toInt = _; rw [n9]; rfl
  have t1 : vpt N 1 = vpt m 1 := by show (N.1 109 1).toInt = _; rw [n_o 109 1 (by omega) (by omega) (by omega)]
  have x0 : vex N 0 = 0 := by show (N.1 110 0).toInt = _; rw [n10]; rfl
  have x1 : vex N 1 = vex m 1 := by show (N.1 110 1).toInt = _; rw [n_o 110 1 (by omega) (by omega) (by omega)]
  have n85 : N.1 85 = m.1 85 := funext fun j => n_o 85 j (by omega) (by omega) (by omega)
  have hPN : PC N L H dl lam a s a' s' := by
    refine PC_v h n85 (by rw [nf]) ?_ ?_ ?_ ?_ ?_
    · unfold eC
      rw [v1, c0, c1, a0, s0, s1, t0, t1, x0, x1]
      refine ⟨⟨by omega, by omega, b3, by omega, by omega, b6⟩, fun z => by omega, E3, fun _ => ⟨by omega, by rw [n113, if_pos rfl]⟩, fun n h1 h2 => by omega, fun n hn => ?_, fun _ z => by omega⟩
      rw [n113, if_neg (by omega)]; exact E6 n hn
    · intro o kd fr to CH N' KN hc hk
      obtain ⟨d1, d2, d3, d4, d5, d6, d7, d8, d9⟩ := hc hk
      rw [v1, c0, c1, a0, s0, s1]
      exact ⟨d1, ⟨d2.1, by omega, d2.2.2⟩, d3, d4, fun _ z => by omega, fun _ z => by omega, d7, d8, d9⟩
    · intro z hz hyo
      unfold YO at *
      rw [c0, c1, a0, a1, x0]
      by_cases hzv : z = vcs m + 1
      · refine Or.inl ⟨AllP_mono (AllP_f p2 n85 (by rw [nf])) ?_, fun _ => by omega, fun q => by omega⟩
        intro o kd fr to CH N' KN hc hk hCH
        obtain ⟨d1, d2, d3⟩ := hc hk
        omega
      · rcases hyo with y | y
        · exact Or.inl ⟨AllP_f y.1 n85 (by rw [nf]), fun q => by omega, y.2.2⟩
        · exact Or.inr ⟨AllP_f y.1 n85 (by rw [nf]), fun q => by omega⟩
    · rw [x0, x1, a0, a1]; exact ⟨ha, p4.2.1, hs, p4.2.2.2⟩
    · intro hd
      have := p5 hd
      rw [v1, c1]; omega
  refine PC_out hPN (e := 0) (by decide) (by rw [c0]; omega) (n := 0) (by rw [a0]; decide) (by rw [s0]; decide) (by rw [t0]; decide) (by rw [t0]; decide) (by rw [s0, a0]; decide) ?_
  intro hd _ _
  have := p5 hd
  rw [c0]; omega
theorem AllP_and {m : mx_M} {L : Nat} {H : vH} {Q Q' : vQ} (h : AllP m L H Q) (h' : AllP m L H Q') : AllP m L H (fun o a b c d e f => Q o a b c d e f ∧ Q' o a b c d e f) :=
  ⟨fun k hk => ⟨h.1 k hk, h'.1 k hk⟩, fun a b c d e f hH => ⟨h.2 a b c d e f hH, h'.2 a b c d e f hH⟩⟩
theorem PC_clear0 {m : mx_M} {L : Nat} {H : vH} {dl : Bool} {lam a s a' s' : Int} (h : PC m L H dl lam a s a' s') (hs : 0 ≤ s') (ha : 0 ≤ a') : PC (mo_clear m 0 0) L H dl lam a s a' s' := by
  have hh := h
  obtain ⟨⟨⟨b1, b2, b3, b4, b5, b6⟩, E2, E3, E4, E5, E6, E7⟩, p2, p3, p4, p5, p6⟩ := hh
  have cv := clear_v m (e := 0) (by decide) 0
  have o (i j : Nat) (h1 : ¬ (106 ≤ i ∧ i < 113 ∧ j = 0)) : (mo_clear m 0 0).1 i j = m.1 i j := clear_o (e := 0) m (by decide) 0 h1
  generalize hN : mo_clear m 0 0 = N at *
  have v1 : vcs N = vcs m := by show (N.1 82 30).toInt = _; rw [o 82 30 (by omega)]
  have c0 : vch N 0 = 0 := by show (N.1 106 0).toInt = _; rw [cv.1]; rfl
  have c1 : vch N 1 = vch m 1 := by show (N.1 106 1).toInt = _; rw [o 106 1 (by omega)]
  have a0 : vak N 0 = 0 := by show (N.1 107 0).toInt = _; rw [cv.2.1]; rfl
  have a1 : vak N 1 = vak m 1 := by show (N.1 107 1).toInt = _; rw [o 107 1 (by omega)]
  have s0 : vsn N 0 = 0 := by show (N.1 108 0).toInt = _; rw [cv.2.2.1]; rfl
  have s1 : vsn N 1 = vsn m 1 := by show (N.1 108 1).toInt = _; rw [o 108 1 (by omega)]
  have t0 : vpt N 0 = 0 := by show (N.1 109 0).toInt = _; rw [cv.2.2.2.1]; rfl
  have t1 : vpt N 1 = vpt m 1 := by show (N.1 109 1).toInt = _; rw [o 109 1 (by omega)]
  have x0 : vex N 0 = 0 := by show (N.1 110 0).toInt = _; rw [cv.2.2.2.2]; rfl
  have x1 : vex N 1 = vex m 1 := by show (N.1 110 1).toInt = _; rw [o 110 1 (by omega)]
  have n85 : N.1 85 = m.1 85 := funext fun j => o 85 j (by omega)
  have n113 : N.1 113 = m.1 113 := funext fun j => o 113 j (by omega)
  have nf : N.2.1 = m.2.1 := by rw [← hN]; rfl
  refine PC_v h n85 nf ?_ ?_ ?_ ?_ ?_
  · unfold eC
    rw [v1, c0, c1, a0, s0, s1, t0, t1, x0, x1, n113]
    exact ⟨⟨by omega, by omega, b3, b4, by omega, b6⟩, fun z => by omega, E3, fun z => absurd rfl z, fun n h1 h2 => by omega, E6, fun z => absurd rfl z⟩
  · intro o kd fr to CH N' KN hc hk
    obtain ⟨d1, d2, d3, d4, d5, d6, d7, d8, d9⟩ := hc hk
    rw [v1, c0, c1, a0, s0, s1]
    exact ⟨d1, d2, d3, d4, fun _ z => by omega, fun _ z => by omega, d7, d8, d9⟩
  · intro z hz hyo
    unfold YO at *
    rw [c0, c1, a0, a1, x0]
    rcases hyo with y | y
    · exact Or.inl ⟨AllP_f y.1 n85 nf, fun q => by omega, y.2.2⟩
    · exact Or.inr ⟨AllP_f y.1 n85 nf, fun q => by omega⟩
  · rw [x0, x1, a0, a1]; exact ⟨ha, p4.2.1, hs, p4.2.2.2⟩
  · rw [v1, c1]; exact p5
/-- the server's end is gone, between the deliveries -/
theorem PC_clear1 {m : mx_M} {lam a s a' s' : Int} (h : PC m 0 none false lam a s a' s') (hs : 0 ≤ s') (ha : 0 ≤ a') : PC (mo_clear m 1 0) 0 none false lam a s a' s' := by
  have hh := h
  obtain ⟨⟨⟨b1, b2, b3, b4, b5, b6⟩, E2, E3, E4, E5, E6, E7⟩, p2, p3, p4, p5, p6⟩ := hh
  have cv := clear_v m (e := 1) (by decide) 0
  have o (i j : Nat) (h1 : ¬ (106 ≤ i ∧ i < 113 ∧ j = 1)) : (mo_clear m 1 0).1 i j = m.1 i j := clear_o (e := 1) m (by decide) 0 h1
  generalize hN : mo_clear m 1 0 = N at *
  have v1 : vcs N = vcs m := by show (N.1 82 30).toInt = _; rw [o 82 30 (by omega)]
  have c1 : vch N 1 = 0 := by show (N.1 106 1).toInt = _; rw [cv.1]; rfl
  have c0 : vch N 0 = vch m 0 := by show (N.1 106 0).toInt = _; rw [o 106 0 (by omega)]
  have a1 : vak N 1 = 0 := by show (N.1 107 1).toInt = _; rw [cv.2.1]; rfl
  have a0 : vak N 0 = vak m 0 := by show (N.1 107 0).toInt = _; rw [o 107 0 (by omega)]
  have s1 : vsn N 1 = 0 := by show (N.1 108 1).toInt = _; rw [cv.2.2.1]; rfl
  have s0 : vsn N 0 = vsn m 0 := by show (N.1 108 0).toInt = _; rw [o 108 0 (by omega)]
  have t1 : vpt N 1 = 0 := by show (N.1 109 1).toInt = _; rw [cv.2.2.2.1]; rfl
  have t0 : vpt N 0 = vpt m 0 := by show (N.1 109 0).toInt = _; rw [o 109 0 (by omega)]
  have x1 : vex N 1 = 0 := by show (N.1 110 1).toInt = _; rw [cv.2.2.2.2]; rfl
  have x0 : vex N 0 = vex m 0 := by show (N.1 110 0).toInt = _; rw [o 110 0 (by omega)]
  have n85 : N.1 85 = m.1 85 := funext fun j => o 85 j (by omega)
  have n113 : N.1 113 = m.1 113 := funext fun j => o 113 j (by omega)
  have nf : N.2.1 = m.2.1 := by rw [← hN]; rfl
  refine PC_v h n85 nf ?_ ?_ ?_ ?_ ?_
  · unfold eC
    rw [v1, c0, c1, a0, s0, s1, t0, t1, x0, x1, n113]
    exact ⟨⟨b1, b2, by omega, by omega, b5, by omega⟩, fun _ z => absurd rfl z, fun z => absurd rfl z, E4, E5, fun n h1 => by omega, E7⟩
  · intro o kd fr to CH N' KN hc hk
    obtain ⟨d1, d2, d3, d4, d5, d6, d7, d8, d9⟩ := hc hk
    rw [v1, c0, c1, a0, s0, s1]
    exact ⟨d1, d2, d3, d4, d5, d6, fun _ z => by omega, fun _ z => by omega, d9⟩
  · intro z hz hyo
    unfold YO at *
    rw [c0, c1, a0, a1, x0]
    rcases hyo with y | y
    · exact Or.inl ⟨AllP_f y.1 n85 nf, y.2.1, fun q => rfl⟩
    · refine Or.inr ⟨?_, y.2⟩
      have y1 := AllP_f y.1 n85 nf
      refine ⟨fun k hk => ?_, fun _ _ _ _ _ _ q => by cases q⟩
      have g := y1.1 k hk
      rw [show decide (k < 0) = false by simp] at g ⊢
      intro w1 w2 w3
      exact absurd (g w1 w2 w3).1 nft
  · rw [x0, x1, a0, a1]; exact ⟨p4.1, ha, p4.2.2.1, hs⟩
  · intro z; exact absurd z nft
/-- the server begins a channel: an OPEN in hand -/
theorem PC_clear1o {m N : mx_M} {L : Nat} {fr to : Int32} {CH N0 KN : Int} {lam a s a' s' : Int} (h : PC m L (some (12, fr, to, CH, N0, KN)) true lam a s a' s') (hi : iE m 1399) (hs : 0 ≤ s') (ha : 1 ≤ a') (hgt : vch m 1 < CH)
    (c1 : vch N 1 = CH) (a1 : vak N 1 = 0) (s1 : vsn N 1 = 0) (t1 : vpt N 1 = 0) (x1 : vex N 1 = 1) (v1 : vcs N = vcs m) (c0 : vch N 0 = vch m 0) (a0 : vak N 0 = vak m 0) (s0 : vsn N 0 = vsn m 0) (t0 : vpt N 0 = vpt m 0) (x0 : vex N 0 = vex m 0) (n85 : N.1 85 = m.1 85) (n113 : N.1 113 = m.1 113) (nf : N.2.1 = m.2.1) :
    PC N L (some (12, fr, to, CH, N0, KN)) true lam a s a' s' := by
  have hh := h
  obtain ⟨⟨⟨b1, b2, b3, b4, b5, b6⟩, E2, E3, E4, E5, E6, E7⟩, p2, p3, p4, p5, p6⟩ := hh
  have hd := p2.2 12 fr to CH N0 KN rfl (by decide)
  obtain ⟨d1, d2, d3, d4, d5, d6, d7, d8, d9, d10, d11⟩ := hd
  have hY : AllP m L (some (12, fr, to, CH, N0, KN)) (yq CH) ∧ (vch m 0 = CH → vex m 0 ≤ 3) ∧ (vch m 1 = CH → vak m 1 = 0) := by
    rcases p3 CH d2.1 with y | y
    · exact y
    · have := (y.1.2 12 fr to CH N0 KN rfl (by decide) rfl rfl).2
      omega
  have ie0 := hi.1
  have vv0 := vv m 0
  obtain ⟨i1, i2, i3, i4, i5⟩ := ie0
  refine ⟨?_, ?_, fun z hz => ?_, ?_, ?_, by rw [nf]; exact p6⟩
  · unfold eC
    rw [v1, c0, c1, a0, s0, s1, t0, t1, x0, x1, n113]
    refine ⟨⟨b1, b2, by omega, d2.2.1, b5, by omega⟩, fun z1 z2 => ⟨?_, ?_⟩, fun _ => by omega, E4, E5, fun n h1 => by omega, E7⟩
    · have := (E4 (by omega)).1
      omega
    · have := hY.2.1 z1.symm
      omega
  · refine AllP_mono (AllP_f (AllP_and p2 hY.1) n85 nf) ?_
    intro o kd fr' to' CH' N' KN' hcy hk
    obtain ⟨f1, f2, f3, f4, f5, f6, f7, f8, f9, f10, f11⟩ := hcy.1 hk
    rw [v1, c0, c1, a0, s0, s1]
    refine ⟨f1, f2, f3, f4, f5, f6, fun z1 z2 => ?_, fun z1 z2 z3 => ?_, f9, f10, f11⟩
    · have := (hcy.2 hk z2).1 z1
      omega
    · have := (hcy.2 hk z2).2 z1 z3
      omega
  · have hyo := p3 z hz
    unfold YO at *
    rw [c0, c1, a0, a1, x0]
    rcases hyo with y | y
    · exact Or.inl ⟨AllP_f y.1 n85 nf, y.2.1, fun q => rfl⟩
    · refine Or.inr ⟨AllP_mono (AllP_f y.1 n85 nf) ?_, y.2⟩
      intro o kd fr' to' CH' N' KN' g w1 w2 w3
      have := g w1 w2 w3
      exact ⟨this.1, by omega⟩
  · rw [x0, x1, a0, a1]; exact ⟨p4.1, ha, p4.2.2.1, hs⟩
  · intro q
    rw [v1, c1]
    have := (d11 rfl).1 rfl
    exact ⟨this, (p5 q).2⟩
/-- the next message of the server is taken -/
theorem PC_exp0 {m : mx_M} {L : Nat} {kd fr to : Int32} {CH N0 KN : Int} {dl : Bool} {lam a s a' s' : Int} (h : PC m L (some (kd, fr, to, CH, N0, KN)) dl lam a s a' s') (hk : ¬ kd < 12) (h17 : ¬ kd = 17) (hfr : fr = 5) (hch : CH = vch m 0) (hn : N0 = vex m 0) (hak : 1 ≤ vak m 0) (hsa : s + 3 ≤ a') (hb : a' < 2147483647) : PC (my_pi m 110 0 (m.1 110 0 + 1)) L (some (kd, fr, to, CH, N0, KN)) dl lam a s a' s' := by
  have hh := h
  obtain ⟨⟨⟨b1, b2, b3, b4, b5, b6⟩, E2, E3, E4, E5, E6, E7⟩, p2, p3, p4, p5, p6⟩ := hh
  obtain ⟨d1, d2, d3, d4, d5, d6, d7, d8, d9, d10, d11⟩ := p2.2 _ _ _ _ _ _ rfl hk
  have vv0 := vv m 0
  have vv1 := vv m 1
  have r (i j : Nat) (h1 : ¬ (i = 110 ∧ j = 0)) : (my_pi m 110 0 (m.1 110 0 + 1)).1 i j = m.1 i j := qi_ne h1
  have e1 : (m.1 110 0 + 1).toInt = vex m 0 + 1 := i_p1 (by omega)
  have x0 : vex (my_pi m 110 0 (m.1 110 0 + 1)) 0 = vex m 0 + 1 := by show ((my_pi m 110 0 _).1 110 0).toInt = _; rw [qi_eq, e1]
  generalize hN : my_pi m 110 0 (m.1 110 0 + 1) = N at *
  have v1 : vcs N = vcs m := by show (N.1 82 30).toInt = _; rw [r 82 30 (by omega)]
  have c (e : Nat) : vch N e = vch m e := by show (N.1 106 e).toInt = _; rw [r 106 e (by omega)]
  have ak (e : Nat) : vak N e = vak m e := by show (N.1 107 e).toInt = _; rw [r 107 e (by omega)]
  have sn (e : Nat) : vsn N e = vsn m e := by show (N.1 108 e).toInt = _; rw [r 108 e (by omega)]
  have pt (e : Nat) : vpt N e = vpt m e := by show (N.1 109 e).toInt = _; rw [r 109 e (by omega)]
  have x1 : vex N 1 = vex m 1 := by show (N.1 110 1).toInt = _; rw [r 110 1 (by omega)]
  have n85 : N.1 85 = m.1 85 := funext fun j => r 85 j (by omega)
  have n113 : N.1 113 = m.1 113 := funext fun j => r 113 j (by omega)
  have nf : N.2.1 = m.2.1 := by rw [← hN]; rfl
  refine PC_v h n85 nf ?_ ?_ ?_ ?_ ?_
  · unfold eC
    rw [v1, c, c, ak, sn, sn, pt, pt, x0, x1, n113]
    refine ⟨⟨b1, b2, b3, b4, by omega, b6⟩, fun z1 z2 => ⟨(E2 z1 z2).1, ?_⟩, E3, E4, E5, E6, fun _ _ => hak⟩
    have := d8 hfr (by omega) h17
    omega
  · intro o kd fr' to' CH' N' KN' hc
    unfold cqm at *
    rw [v1, c, c, ak, sn, sn]; exact hc
  · intro z hz hyo
    unfold YO at *
    rw [c, c, ak, ak, x0]
    rcases hyo with y | y
    · refine Or.inl ⟨AllP_f y.1 n85 nf, fun q => ?_, y.2.2⟩
      have := (y.1.2 _ _ _ _ _ _ rfl hk (by omega)).2 hfr h17
      omega
    · exact Or.inr ⟨AllP_f y.1 n85 nf, y.2⟩
  · rw [x0, x1, ak, ak]
    have := (d9 rfl).1
    exact ⟨by omega, p4.2⟩
  · rw [v1, c]; exact p5
/-- the next message of the access node is taken -/
theorem PC_exp1 {m : mx_M} {L : Nat} {kd fr to : Int32} {CH N0 KN : Int} {dl : Bool} {lam a s a' s' : Int} (h : PC m L (some (kd, fr, to, CH, N0, KN)) dl lam a s a' s') (hk : ¬ kd < 12) (h17 : ¬ kd = 17) (hfr : fr = 4) (hch : CH = vch m 1) (hn : N0 = vex m 1) (hsa : s + 3 ≤ a') (hb : a' < 2147483647) : PC (my_pi m 110 1 (m.1 110 1 + 1)) L (some (kd, fr, to, CH, N0, KN)) dl lam a s a' s' := by
  have hh := h
  obtain ⟨⟨⟨b1, b2, b3, b4, b5, b6⟩, E2, E3, E4, E5, E6, E7⟩, p2, p3, p4, p5, p6⟩ := hh
  obtain ⟨d1, d2, d3, d4, d5, d6, d7, d8, d9, d10, d11⟩ := p2.2 _ _ _ _ _ _ rfl hk
  have vv0 := vv m 0
  have vv1 := vv m 1
  have r (i j : Nat) (h1 : ¬ (i = 110 ∧ j = 1)) : (my_pi m 110 1 (m.1 110 1 + 1)).1 i j = m.1 i j := qi_ne h1
  have e1 : (m.1 110 1 + 1).toInt = vex m 1 + 1 := i_p1 (by omega)
  have x1 : vex (my_pi m 110 1 (m.1 110 1 + 1)) 1 = vex m 1 + 1 := by show ((my_pi m 110 1 _).1 110 1).toInt = _; rw [qi_eq, e1]
  generalize hN : my_pi m 110 1 (m.1 110 1 + 1) = N at *
  have v1 : vcs N = vcs m := by show (N.1 82 30).toInt = _; rw [r 82 30 (by omega)]
  have c (e : Nat) : vch N e = vch m e := by show (N.1 106 e).toInt = _; rw [r 106 e (by omega)]
  have ak (e : Nat) : vak N e = vak m e := by show (N.1 107 e).toInt = _; rw [r 107 e (by omega)]
  have sn (e : Nat) : vsn N e = vsn m e := by show (N.1 108 e).toInt = _; rw [r 108 e (by omega)]
  have pt (e : Nat) : vpt N e = vpt m e := by show (N.1 109 e).toInt = _; rw [r 109 e (by omega)]
  have x0 : vex N 0 = vex m 0 := by show (N.1 110 0).toInt = _; rw [r 110 0 (by omega)]
  have n85 : N.1 85 = m.1 85 := funext fun j => r 85 j (by omega)
  have n113 : N.1 113 = m.1 113 := funext fun j => r 113 j (by omega)
  have nf : N.2.1 = m.2.1 := by rw [← hN]; rfl
  refine PC_v h n85 nf ?_ ?_ ?_ ?_ ?_
  · unfold eC
    rw [v1, c, c, ak, sn, sn, pt, pt, x0, x1, n113]
    refine ⟨⟨b1, b2, b3, b4, b5, by omega⟩, fun z1 z2 => ⟨?_, (E2 z1 z2).2⟩, fun _ => by omega, E4, E5, E6, E7⟩
    have := (d5 hfr (by omega)).1 h17
    omega
  · intro o kd fr' to' CH' N' KN' hc
    unfold cqm at *
    rw [v1, c, c, ak, sn, sn]; exact hc
  · intro z hz hyo
    unfold YO at *
    rw [c, c, ak, ak, x0]
    rcases hyo with y | y
    · exact Or.inl ⟨AllP_f y.1 n85 nf, y.2⟩
    · exact Or.inr ⟨AllP_f y.1 n85 nf, y.2⟩
  · rw [x0, x1, ak, ak]
    have := (d9 rfl).1
    exact ⟨p4.1, by omega, p4.2.2⟩
  · rw [v1, c]; exact p5
