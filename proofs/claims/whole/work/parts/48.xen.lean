/-! the ends of the channel -/
def rQ (c : mx_C) (m : mx_M) : Prop := rF c m ∧ rT c m ∧ rS c m ∧ rH c m ∧ rK c
theorem rR_q {c : mx_C} {m : mx_M} (h : rR c m) : rQ c m := ⟨h.1, h.2.1, h.2.2.1, h.2.2.2.1, h.2.2.2.2.2⟩
theorem rQ_r {c : mx_C} {m : mx_M} (h : rQ c m) (he : rE c m) : rR c m := ⟨h.1, h.2.1, h.2.2.1, h.2.2.2.1, he, h.2.2.2.2⟩
theorem pi_self (c : mx_C) (i k : Nat) : mx_pi c i k (c.1 i k) = c := by
  refine Prod.ext ?_ rfl
  funext a b
  show mx_up _ _ _ _ _ _ = _
  rw [mx_up_if]
  split
  · rename_i z; rw [z.1, z.2]
  · rfl
theorem qi_self (m : mx_M) (i k : Nat) : my_pi m i k (m.1 i k) = m := by
  refine Prod.ext ?_ rfl
  funext a b
  show mx_up _ _ _ _ _ _ = _
  rw [mx_up_if]
  split
  · rename_i z; rw [z.1, z.2]
  · rfl
theorem rQ_c {c : mx_C} {m : mx_M} (h : rQ c m) {i k : Nat} (v : Int32) (hi : (62 < i ∧ i < 66) ∨ (74 < i ∧ i < 78) ∨ ((i = 62 ∨ i = 74) ∧ (k = 5 ∨ k = 6))) : rQ (mx_pi c i k v) m := by
  obtain ⟨h1, h2, h3, h4, h5⟩ := h
  have hm := qi_self m 111 0
  have a1 := rF_pi (i' := 111) (k' := 0) (v' := m.1 111 0) (k := k) (v := v) h1 (show 45 ≤ i by omega) (by decide)
  have a3 := rS_pi (i' := 111) (k' := 0) (v' := m.1 111 0) (k := k) (v := v) h3 (show i < 78 by omega) (by decide)
  have a4 := rH_pi (i' := 111) (k' := 0) (v' := m.1 111 0) (k := k) (v := v) h4 (show ¬ (i = 49 ∨ i = 52 ∨ i = 55 ∨ i = 58 ∨ i = 71 ∨ i = 73) by omega) (by decide)
  rw [hm] at a1 a3 a4
  refine ⟨a1, rT_c h2 v ?_, a3, a4, rK_pi h5 (by omega)⟩
  have : ∀ q ∈ tb4, ¬ (62 < q.1.1 ∧ q.1.1 < 66) ∧ ¬ (74 < q.1.1 ∧ q.1.1 < 78) ∧ ¬ ((q.1.1 = 62 ∨ q.1.1 = 74) ∧ (q.1.2 = 5 ∨ q.1.2 = 6)) := by decide +kernel
  intro q hq hz
  have := this q hq
  rw [hz] at this
  simp only at this
  omega
theorem rQ_m {c : mx_C} {m : mx_M} (h : rQ c m) {i k : Nat} (v : Int32) (hi : i = 108 ∨ (111 ≤ i ∧ i < 116)) : rQ c (my_pi m i k v) := by
  obtain ⟨h1, h2, h3, h4, h5⟩ := h
  have hm := pi_self c 62 5
  have a1 := rF_pi (i := 62) (k := 5) (v := c.1 62 5) (k' := k) (v' := v) h1 (by decide) (show ¬ i = 85 by omega)
  have a3 := rS_pi (i := 62) (k := 5) (v := c.1 62 5) (k' := k) (v' := v) h3 (by decide) (show ¬ (98 ≤ i ∧ i < 103) by omega)
  have a4 := rH_pi (i := 62) (k := 5) (v := c.1 62 5) (k' := k) (v' := v) h4 (by decide) (show ¬ (i = 95 ∨ i = 94 ∨ i = 103 ∨ i = 104 ∨ (i = 82 ∧ k = 24)) by omega)
  rw [hm] at a1 a3 a4
  refine ⟨a1, rT_m h2 v ?_, a3, a4, h5⟩
  have : ∀ q ∈ tb4, ¬ (q.2.1 = 108 ∨ (111 ≤ q.2.1 ∧ q.2.1 < 116)) := by decide +kernel
  intro q hq hz
  have := this q hq
  rw [hz] at this
  exact this hi
theorem rQ_w {c : mx_C} {m : mx_M} (h : rQ c m) {i k i' k' : Nat} (hq : ((i, k), (i', k')) ∈ tb4) (hh : ¬ (i' = 94 ∨ (i' = 82 ∧ k' = 24))) (v : Int32) : rQ (mx_pi c i k v) (my_pi m i' k' v) := by
  obtain ⟨h1, h2, h3, h4, h5⟩ := h
  have r4 := tb4_rng _ hq
  have rn := tb4_nrow _ hq
  have : ∀ q ∈ tb4, ¬ ((q.1.1 = 47 ∨ q.1.1 = 50 ∨ q.1.1 = 53 ∨ q.1.1 = 56 ∨ q.1.1 = 62 ∨ q.1.1 = 74) ∧ q.1.2 < 2) := by decide +kernel
  have := this _ hq
  simp only at r4 rn this
  exact ⟨rF_pi h1 (by omega) (by omega), rT_w h2 hq v, rS_pi h3 (by omega) (by omega), rH_pi h4 (by omega) (by omega), rK_pi h5 this⟩
/-! reading an end -/
theorem tE3 {e : Nat} (h : e < 2) : ((62 + 12 * e, 3), (106, e)) ∈ tbW := (by decide +kernel : ∀ e : Fin 2, ((62 + 12 * e.val, 3), (106, e.val)) ∈ tbW) ⟨e, h⟩
theorem tE4 {e : Nat} (h : e < 2) : ((62 + 12 * e, 4), (110, e)) ∈ tbW := (by decide +kernel : ∀ e : Fin 2, ((62 + 12 * e.val, 4), (110, e.val)) ∈ tbW) ⟨e, h⟩
theorem tE7 {e : Nat} (h : e < 2) : ((62 + 12 * e, 7), (107, e)) ∈ tb4 := (by decide +kernel : ∀ e : Fin 2, ((62 + 12 * e.val, 7), (107, e.val)) ∈ tb4) ⟨e, h⟩
theorem tE8 {e : Nat} (h : e < 2) : ((62 + 12 * e, 8), (109, e)) ∈ tb4 := (by decide +kernel : ∀ e : Fin 2, ((62 + 12 * e.val, 8), (109, e.val)) ∈ tb4) ⟨e, h⟩
theorem rd_E3 {c : mx_C} {m : mx_M} (h : rQ c m) {e : Nat} (he : e < 2) : c.1 (62 + 12 * e) 3 = m.1 106 e := h.2.1 _ (tbW_mem (tE3 he))
theorem rd_E4 {c : mx_C} {m : mx_M} (h : rQ c m) {e : Nat} (he : e < 2) : c.1 (62 + 12 * e) 4 = m.1 110 e := h.2.1 _ (tbW_mem (tE4 he))
theorem rd_E7 {c : mx_C} {m : mx_M} (h : rQ c m) {e : Nat} (he : e < 2) : c.1 (62 + 12 * e) 7 = m.1 107 e := h.2.1 _ (tE7 he)
theorem rd_E8 {c : mx_C} {m : mx_M} (h : rQ c m) {e : Nat} (he : e < 2) : c.1 (62 + 12 * e) 8 = m.1 109 e := h.2.1 _ (tE8 he)
theorem rd_E0 {c : mx_C} {m : mx_M} (h : rQ c m) {e : Nat} (he : e < 2) : c.1 (62 + 12 * e) 0 = Int32.ofNat (4 + e) := by
  have : e = 0 ∨ e = 1 := by omega
  rcases this with rfl | rfl
  · exact h.2.2.2.2.2.1
  · exact h.2.2.2.2.2.2.2.1
theorem rd_E1 {c : mx_C} {m : mx_M} (h : rQ c m) {e : Nat} (he : e < 2) : c.1 (62 + 12 * e) 1 = Int32.ofNat (5 - e) := by
  have : e = 0 ∨ e = 1 := by omega
  rcases this with rfl | rfl
  · exact h.2.2.2.2.2.2.1
  · exact h.2.2.2.2.2.2.2.2
theorem rE_get {c : mx_C} {m : mx_M} (h : rE c m) {e : Nat} (he : e < 2) : rEe c.1 m.1 (62 + 12 * e) e := by
  have : e = 0 ∨ e = 1 := by omega
  rcases this with rfl | rfl
  · exact h.1
  · exact h.2
/-- both ends, one of them new, the other left alone -/
theorem rE_mk {c c' : mx_C} {m m' : mx_M} (h : rE c m) {e : Nat} (he : e < 2) (hn : rEe c'.1 m'.1 (62 + 12 * e) e) (hc : ∀ i k, ¬ (62 + 12 * e ≤ i ∧ i < 66 + 12 * e) → 62 ≤ i → c'.1 i k = c.1 i k) (hm : ∀ i k, 107 ≤ i → i < 116 → i ≠ 110 → (if i < 113 then ¬ k = e else ¬ (1400 * e ≤ k ∧ k < 1400 * e + 1400)) → m'.1 i k = m.1 i k) (hb : ∀ e', e' < 2 → (m.1 109 e').toInt ≤ 1400) : rE c' m' := by
  have key : ∀ e', e' < 2 → ¬ e' = e → rEe c'.1 m'.1 (62 + 12 * e') e' := by
    intro e' he' hne
    have g := rE_get h he'
    have b := hb e' he'
    have f (i : Nat) (hi : i = 107 ∨ i = 109 ∨ i = 111 ∨ i = 112) : m'.1 i e' = m.1 i e' := hm i e' (by omega) (by omega) (by omega) (by rw [if_pos (by omega)]; exact hne)
    unfold rEe
    rw [f 107 (by omega), f 109 (by omega), f 111 (by omega), f 112 (by omega), hc _ 5 (by omega) (by omega), hc _ 6 (by omega) (by omega)]
    refine ⟨g.1, fun n hn => ?_⟩
    have g2 := g.2 n hn
    rw [hc _ n (by omega) (by omega), hc _ n (by omega) (by omega), hc _ n (by omega) (by omega)]
    rw [hm 113 _ (by omega) (by omega) (by omega) (by rw [if_neg (by omega)]; omega), hm 114 _ (by omega) (by omega) (by omega) (by rw [if_neg (by omega)]; omega), hm 115 _ (by omega) (by omega) (by omega) (by rw [if_neg (by omega)]; omega)]
    exact g2
  have h01 : e = 0 ∨ e = 1 := by omega
  rcases h01 with rfl | rfl
  · exact ⟨hn, key 1 (by decide) (by decide)⟩
  · exact ⟨key 0 (by decide) (by decide), hn⟩
theorem place_eq (n : Nat) (h : n < 2048) : (Int32.ofNat n &&& 2047) = Int32.ofNat n := (by decide +kernel : ∀ n : Fin 2048, (Int32.ofNat n.val &&& 2047) = Int32.ofNat n.val) ⟨n, h⟩
theorem of_nn {a : Int32} (h : 0 ≤ a.toInt) : a = Int32.ofNat a.toInt.toNat := by
  have := i_rng a
  rw [i_eq, i_of _ (by omega)]
  omega
theorem of_nc {a : Int32} (h : 0 ≤ a.toInt) : a.toNatClampNeg = a.toInt.toNat := by
  have := i_cl a
  rw [if_pos h] at this
  omega
/-- what holds of an end's counters -/
def iEe (m : mx_M) (e : Nat) (B : Int) : Prop := 0 ≤ (m.1 107 e).toInt ∧ (m.1 107 e).toInt ≤ (m.1 109 e).toInt ∧ (m.1 109 e).toInt ≤ B ∧ ((m.1 108 e).toInt = (m.1 109 e).toInt ∧ (m.1 109 e).toInt ≤ (m.1 107 e).toInt + 3 ∨ (m.1 108 e).toInt = (m.1 107 e).toInt + 3 ∧ (m.1 107 e).toInt + 3 ≤ (m.1 109 e).toInt) ∧ (m.1 106 e = 0 → (m.1 109 e).toInt = 0)
def iE (m : mx_M) (B : Int) : Prop := iEe m 0 B ∧ iEe m 1 B
theorem iE_get {m : mx_M} {B : Int} (h : iE m B) {e : Nat} (he : e < 2) : iEe m e B := by
  have : e = 0 ∨ e = 1 := by omega
  rcases this with rfl | rfl
  · exact h.1
  · exact h.2
theorem en_transmit_eq (c : mx_C) (t n : Nat) (ht : 45 ≤ t) (hn : n < 2048) : en_transmit c t (Int32.ofNat n) = mc_send c (pk9 (c.1 (t + 1) n) (c.1 t 0) (c.1 t 1) (c.1 (t + 2) n) (c.1 (t + 3) n) 0 (c.1 t 3) (Int32.ofNat n) (c.1 t 4)) := by
  unfold en_transmit en_placeOf
  simp only [fl_launch_eq, pk_bear_eq, place_eq n hn, of_cl n (show n < 2147483648 by omega)]
  rw [mc_send_o _ _ (show 45 ≤ t + 2 by omega), mc_send_o _ _ (show 45 ≤ t + 3 by omega), mc_send_o _ _ ht, pk_number_eq]
theorem x_transmit {c : mx_C} {m : mx_M} (h : rR c m) {e : Nat} (he : e < 2) {n : Nat} (hn : (n : Int) < (m.1 109 e).toInt) (hb : n < 1400) : rR (en_transmit c (62 + 12 * e) (Int32.ofNat n)) (mo_transmit m (Int32.ofNat e) (Int32.ofNat n)) := by
  have hq := rR_q h
  have g := (rE_get h.2.2.2.2.1 he).2 n hn
  rw [en_transmit_eq c _ n (by omega) (by omega), mo_transmit_eq m e he _ (by rw [i_of n (by omega)]; omega)]
  have : mo_pk m e (Int32.ofNat n) = pk9 (m.1 113 (1400 * e + n)) (Int32.ofNat (4 + e)) (Int32.ofNat (5 - e)) (m.1 114 (1400 * e + n)) (m.1 115 (1400 * e + n)) 0 (m.1 106 e) (Int32.ofNat n) (m.1 110 e) := by
    unfold mo_pk
    rw [if_neg (by rw [i_lt, i_of n (by omega), show (0 : Int32).toInt = 0 from rfl]; omega), of_cl n (by omega)]
  rw [this, g.1, g.2.1, g.2.2, rd_E0 hq he, rd_E1 hq he, rd_E3 hq he, rd_E4 hq he]
  exact rR_send h _
theorem x_ack {c : mx_C} {m : mx_M} (h : rR c m) {e : Nat} (he : e < 2) : rR (en_acknowledge c (62 + 12 * e)) (mo_transmit m (Int32.ofNat e) (-1)) := by
  have hq := rR_q h
  have ht : 45 ≤ 62 + 12 * e := by omega
  rw [mo_transmit_eq m e he _ (by decide)]
  have : mo_pk m e (-1) = pk9 17 (Int32.ofNat (4 + e)) (Int32.ofNat (5 - e)) 0 0 0 (m.1 106 e) 0 (m.1 110 e) := by
    unfold mo_pk
    rw [if_pos (by decide)]
  unfold en_acknowledge
  simp only [fl_launch_eq, mc_send_o _ _ ht, pk_number_eq]
  rw [this, rd_E0 hq he, rd_E1 hq he, rd_E3 hq he, rd_E4 hq he]
  exact rR_send h _
theorem my_tr_o (m : mx_M) {e : Nat} (he : e < 2) (n : Int32) (hn : n.toInt < 1400) {i : Nat} (hi : ¬ i = 85) : (mo_transmit m (Int32.ofNat e) n).1 i = m.1 i := by
  rw [mo_transmit_eq m e he n hn, my_send_o _ _ hi]
theorem so0_stop (n : Nat) (m : mx_M) (v : Int32) (h : ¬ (m.1 108 v.toNatClampNeg < m.1 109 v.toNatClampNeg ∧ m.1 108 v.toNatClampNeg < m.1 107 v.toNatClampNeg + 3)) : mo_sendOpen_0 n m v = m := by
  cases n with
  | zero => rfl
  | succ n =>
    unfold mo_sendOpen_0
    by_cases h1 : m.1 108 v.toNatClampNeg < m.1 109 v.toNatClampNeg
    · rw [if_pos h1, if_neg (fun z => h ⟨h1, z⟩)]
    · rw [if_neg h1]
theorem i_p3 {a : Int32} (h : -2147483648 ≤ a.toInt ∧ a.toInt < 2147483644) : (a + 3).toInt = a.toInt + 3 := i_add (by rw [show (3 : Int32).toInt = 3 from rfl]; omega) (by rw [show (3 : Int32).toInt = 3 from rfl]; omega)
def sy4 (m : mx_M) (e : Nat) (k a b : Int32) : mx_M := my_pi (my_pi (my_pi (my_pi m 113 (1400 * e + (m.1 109 e).toInt.toNat) k) 114 (1400 * e + (m.1 109 e).toInt.toNat) a) 115 (1400 * e + (m.1 109 e).toInt.toNat) b) 109 e (m.1 109 e + 1)
def sy6 (m : mx_M) (e : Nat) (k a b : Int32) : mx_M := if m.1 109 e = m.1 107 e then my_pi (my_pi (sy4 m e k a b) 111 e 0) 112 e 2 else sy4 m e k a b
theorem sy4_o (m : mx_M) (e : Nat) (k a b : Int32) {i j : Nat} (h : ¬ (i = 113 ∨ i = 114 ∨ i = 115 ∨ (i = 109 ∧ j = e))) : (sy4 m e k a b).1 i j = m.1 i j := by
  unfold sy4
  rw [qi_ne (by omega), qi_ne (by omega), qi_ne (by omega), qi_ne (by omega)]
theorem sy6_o (m : mx_M) (e : Nat) (k a b : Int32) {i j : Nat} (h : ¬ (i = 113 ∨ i = 114 ∨ i = 115 ∨ (i = 109 ∧ j = e))) (h2 : ¬ ((i = 111 ∨ i = 112) ∧ j = e)) : (sy6 m e k a b).1 i j = m.1 i j := by
  unfold sy6
  split
  · rw [qi_ne (by omega), qi_ne (by omega), sy4_o m e k a b h]
  · exact sy4_o m e k a b h
theorem sy6_109 (m : mx_M) (e : Nat) (k a b : Int32) : (sy6 m e k a b).1 109 e = m.1 109 e + 1 := by
  unfold sy6
  split
  · rw [qi_ne (by omega), qi_ne (by omega)]; exact qi_eq
  · exact qi_eq
theorem mo_say_eq (m : mx_M) {e : Nat} (he : e < 2) (hi : iEe m e 1399) (k a b : Int32) : mo_say m (Int32.ofNat e) k a b =
    if m.1 106 e = 0 then m
    else if (m.1 109 e).toInt < (m.1 107 e).toInt + 3 then my_pi (mo_transmit (sy6 m e k a b) (Int32.ofNat e) (m.1 109 e)) 108 e (m.1 109 e + 1)
    else sy6 m e k a b := by
  obtain ⟨i1, i2, i3, i4, i5⟩ := hi
  have ee : (Int32.ofNat e).toNatClampNeg = e := of_cl e (by omega)
  have hneg : ¬ m.1 109 e < 0 := by rw [i_lt, show (0 : Int32).toInt = 0 from rfl]; omega
  have hat := mo_at_eq e he (m.1 109 e) hneg (by omega)
  rw [of_nc (show 0 ≤ (m.1 109 e).toInt by omega)] at hat
  unfold mo_say
  simp only [ee, hat]
  by_cases hch : m.1 106 e = 0
  · rw [if_pos hch, if_pos hch]
  · rw [if_neg hch, if_neg hch]
    have r1 : (my_pi (my_pi (my_pi m 113 (1400 * e + (m.1 109 e).toInt.toNat) k) 114 (1400 * e + (m.1 109 e).toInt.toNat) a) 115 (1400 * e + (m.1 109 e).toInt.toNat) b).1 109 e = m.1 109 e := by
      rw [qi_ne (by omega), qi_ne (by omega), qi_ne (by omega)]
    simp only [r1]
    have e4 : my_pi (my_pi (my_pi (my_pi m 113 (1400 * e + (m.1 109 e).toInt.toNat) k) 114 (1400 * e + (m.1 109 e).toInt.toNat) a) 115 (1400 * e + (m.1 109 e).toInt.toNat) b) 109 e (m.1 109 e + 1) = sy4 m e k a b := rfl
    simp only [e4]
    rw [sy4_o m e k a b (by omega)]
    have e6 : (if m.1 109 e = m.1 107 e then mo_sendOpen (my_pi (my_pi (sy4 m e k a b) 111 e 0) 112 e 2) (Int32.ofNat e) else mo_sendOpen (sy4 m e k a b) (Int32.ofNat e)) = mo_sendOpen (sy6 m e k a b) (Int32.ofNat e) := by
      unfold sy6
      split <;> rfl
    rw [e6]
    unfold mo_sendOpen
    have s8 : (sy6 m e k a b).1 108 e = m.1 108 e := sy6_o m e k a b (by omega) (by omega)
    have s7 : (sy6 m e k a b).1 107 e = m.1 107 e := sy6_o m e k a b (by omega) (by omega)
    have s9 := sy6_109 m e k a b
    have p1 : (m.1 109 e + 1).toInt = (m.1 109 e).toInt + 1 := i_p1 (by omega)
    have p3 : (m.1 107 e + 3).toInt = (m.1 107 e).toInt + 3 := i_p3 (by omega)
    simp only [ee, s8, s7, s9]
    rw [if_pos (by rw [i_lt, p1]; omega)]
    by_cases hlt : (m.1 109 e).toInt < (m.1 107 e).toInt + 3
    · have e89 : m.1 108 e = m.1 109 e := by rw [i_eq]; omega
      rw [if_pos (by rw [i_lt, p3]; omega), if_pos hlt, e89, my_tr_o _ he _ (by omega) (by decide), s8, e89]
      refine so0_stop _ _ _ ?_
      rw [ee, qi_eq, qi_ne (by omega), my_tr_o _ he _ (by omega) (by decide), s9]
      intro z
      exact absurd z.1 (by rw [i_lt]; omega)
    · rw [if_neg (by rw [i_lt, p3]; omega), if_neg hlt]
theorem rR_m108 {c : mx_C} {m : mx_M} (h : rR c m) (k : Nat) (v : Int32) : rR c (my_pi m 108 k v) := by
  refine rQ_r (rQ_m (rR_q h) v (by omega)) ?_
  unfold rE rEe
  rw [qi_row (by decide), qi_row (by decide), qi_row (by decide), qi_row (by decide), qi_row (by decide), qi_row (by decide), qi_row (by decide)]
  exact h.2.2.2.2.1
def en_app (c : mx_C) (t n : Nat) (k a b : Int32) : mx_C := mx_pi (mx_pi (mx_pi (mx_pi c (t + 1) n k) (t + 2) n a) (t + 3) n b) t 8 (Int32.ofNat (n + 1))
theorem en_app_o (c : mx_C) (t n : Nat) (k a b : Int32) {i j : Nat} (h1 : ¬ (t < i ∧ i < t + 4)) (h2 : ¬ (i = t ∧ j = 8)) : (en_app c t n k a b).1 i j = c.1 i j := by
  unfold en_app
  rw [pi_ne (by omega), pi_ne (by omega), pi_ne (by omega), pi_ne (by omega)]
theorem x_app {c : mx_C} {m : mx_M} (h : rR c m) {e : Nat} (he : e < 2) (hb : ∀ e', e' < 2 → (m.1 109 e').toInt ≤ 1399) (h0 : 0 ≤ (m.1 109 e).toInt) (k a b : Int32) :
    rR (en_app (if m.1 109 e = m.1 107 e then en_startWaiting c (62 + 12 * e) else c) (62 + 12 * e) (m.1 109 e).toInt.toNat k a b) (sy6 m e k a b) := by
  obtain ⟨n, hn⟩ : ∃ n : Nat, (m.1 109 e).toInt = (n : Int) := ⟨(m.1 109 e).toInt.toNat, by omega⟩
  have hbe := hb e he
  have en : (m.1 109 e).toInt.toNat = n := by omega
  have e9 : m.1 109 e = Int32.ofNat n := by rw [i_eq, i_of _ (by omega)]; exact hn
  have e91 : m.1 109 e + 1 = Int32.ofNat (n + 1) := by rw [e9]; exact of_add n 1
  rw [en]
  have q0 := rR_q h
  have ge := rE_get h.2.2.2.2.1 he
  by_cases hemp : m.1 109 e = m.1 107 e
  · rw [if_pos hemp]
    have es : sy6 m e k a b = my_pi (my_pi (sy4 m e k a b) 111 e 0) 112 e 2 := if_pos hemp
    refine rQ_r ?_ (rE_mk h.2.2.2.2.1 he ?_ ?_ ?_ (fun e' h' => by have := hb e' h'; omega))
    · rw [es]
      refine rQ_m (rQ_m ?_ 0 (by omega)) 2 (by omega)
      unfold en_app en_startWaiting sy4
      rw [e91]
      refine rQ_w ?_ (tE8 he) (by omega) _
      refine rQ_m (rQ_m (rQ_m ?_ k (by omega)) a (by omega)) b (by omega)
      exact rQ_c (rQ_c (rQ_c (rQ_c (rQ_c q0 0 (by omega)) 2 (by omega)) k (by omega)) a (by omega)) b (by omega)
    · refine ⟨fun _ => ?_, fun j hj => ?_⟩
      · rw [en_app_o _ _ _ _ _ _ (by omega) (by omega), en_app_o _ _ _ _ _ _ (by omega) (by omega), es, qi_eq, qi_ne (by omega), qi_eq]
        unfold en_startWaiting
        exact ⟨by rw [pi_ne (by omega), pi_eq], by rw [pi_eq]⟩
      · rw [sy6_109, e91, i_of _ (by omega)] at hj
        rw [es]
        unfold sy4 en_app en_startWaiting
        rw [en]
        simp only [pi_if, qi_if]
        by_cases hjn : j = n
        · subst hjn
          simp
        · have g2 := ge.2 j (by omega)
          simp [hjn, show ¬ 1400 * e + j = 1400 * e + n by omega, g2.1, g2.2.1, g2.2.2]
    · intro i j h1 h2
      rw [en_app_o _ _ _ _ _ _ (by omega) (by omega)]
      unfold en_startWaiting
      rw [pi_ne (by omega), pi_ne (by omega)]
    · intro i j h1 h2 h3 h4
      rw [es]
      unfold sy4
      rw [en]
      by_cases h113 : i < 113
      · rw [if_pos h113] at h4
        rw [qi_ne (by omega), qi_ne (by omega), qi_ne (by omega), qi_ne (by omega), qi_ne (by omega), qi_ne (by omega)]
      · rw [if_neg h113] at h4
        rw [qi_ne (by omega), qi_ne (by omega), qi_ne (by omega), qi_ne (by omega), qi_ne (by omega), qi_ne (by omega)]
  · rw [if_neg hemp]
    have es : sy6 m e k a b = sy4 m e k a b := if_neg hemp
    refine rQ_r ?_ (rE_mk h.2.2.2.2.1 he ?_ ?_ ?_ (fun e' h' => by have := hb e' h'; omega))
    · rw [es]
      unfold en_app sy4
      rw [e91]
      refine rQ_w ?_ (tE8 he) (by omega) _
      refine rQ_m (rQ_m (rQ_m ?_ k (by omega)) a (by omega)) b (by omega)
      exact rQ_c (rQ_c (rQ_c q0 k (by omega)) a (by omega)) b (by omega)
    · refine ⟨fun _ => ?_, fun j hj => ?_⟩
      · rw [en_app_o _ _ _ _ _ _ (by omega) (by omega), en_app_o _ _ _ _ _ _ (by omega) (by omega), es, sy4_o m e k a b (by omega), sy4_o m e k a b (by omega)]
        exact ge.1 hemp
      · rw [sy6_109, e91, i_of _ (by omega)] at hj
        rw [es]
        unfold sy4 en_app
        rw [en]
        simp only [pi_if, qi_if]
        by_cases hjn : j = n
        · subst hjn
          simp
        · have g2 := ge.2 j (by omega)
          simp [hjn, show ¬ 1400 * e + j = 1400 * e + n by omega, g2.1, g2.2.1, g2.2.2]
    · intro i j h1 h2
      rw [en_app_o _ _ _ _ _ _ (by omega) (by omega)]
    · intro i j h1 h2 h3 h4
      rw [es]
      unfold sy4
      rw [en]
      by_cases h113 : i < 113
      · rw [if_pos h113] at h4
        rw [qi_ne (by omega), qi_ne (by omega), qi_ne (by omega), qi_ne (by omega)]
      · rw [if_neg h113] at h4
        rw [qi_ne (by omega), qi_ne (by omega), qi_ne (by omega), qi_ne (by omega)]
theorem en_put_eq (c : mx_C) (t n o : Nat) (ht : 45 ≤ t) (h8 : c.1 t 8 = Int32.ofNat n) (h7 : c.1 t 7 = Int32.ofNat o) (ho : o ≤ n) (hn : n < 2047) (k a b : Int32) : en_put c t k a b =
    if c.1 t 3 = 0 then c
    else if n + 1 - o ≤ 3 then en_transmit (en_app (if n = o then en_startWaiting c t else c) t n k a b) t (Int32.ofNat n)
    else en_app (if n = o then en_startWaiting c t else c) t n k a b := by
  unfold en_put
  by_cases h3 : c.1 t 3 = 0
  · rw [if_pos h3, if_pos h3]
  · rw [if_neg h3, if_neg h3]
    have hs : (c.1 t 8 - c.1 t 7).toInt = (n : Int) - (o : Int) := by
      rw [h8, h7, i_sub] <;> rw [i_of n (by omega), i_of o (by omega)] <;> omega
    rw [if_neg (by rw [i_eq, hs, show (2048 : Int32).toInt = 2048 from rfl]; omega)]
    have hpl : (en_placeOf c (Int32.ofNat n)).toNatClampNeg = n := by
      unfold en_placeOf
      rw [place_eq n (by omega), of_cl n (by omega)]
    have hpl' (c' : mx_C) : (en_placeOf c' (Int32.ofNat n)).toNatClampNeg = n := hpl
    have e1 : Int32.ofNat n + 1 = Int32.ofNat (n + 1) := of_add n 1
    have e2 : Int32.ofNat (n + 1) - 1 = Int32.ofNat n := by
      rw [← e1, i_eq, i_sub] <;> rw [i_p1 (by rw [i_of n (by omega)]; omega), i_of n (by omega), show (1 : Int32).toInt = 1 from rfl] <;> omega
    have hem : (en_isEmpty c t = 0) ↔ ¬ n = o := by
      unfold en_isEmpty
      rw [h8, h7]
      by_cases hno : n = o
      · subst hno; simp
      · rw [if_neg (by rw [i_eq, i_of n (by omega), i_of o (by omega)]; omega)]; simp [hno]
    have s8 : (en_startWaiting c t).1 t 8 = Int32.ofNat n := by
      unfold en_startWaiting
      rw [pi_ne (by omega), pi_ne (by omega), h8]
    have s7 : (en_startWaiting c t).1 t 7 = Int32.ofNat o := by
      unfold en_startWaiting
      rw [pi_ne (by omega), pi_ne (by omega), h7]
    have key : ∀ c0 : mx_C, c0.1 t 8 = Int32.ofNat n → c0.1 t 7 = Int32.ofNat o →
      (if 3 < ((mx_pi (mx_pi (mx_pi (mx_pi c0 (t + 1) n k) (t + 2) n a) (t + 3) n b) t 8 ((mx_pi (mx_pi (mx_pi c0 (t + 1) n k) (t + 2) n a) (t + 3) n b).1 t 8 + 1)).1 t 8 - (mx_pi (mx_pi (mx_pi (mx_pi c0 (t + 1) n k) (t + 2) n a) (t + 3) n b) t 8 ((mx_pi (mx_pi (mx_pi c0 (t + 1) n k) (t + 2) n a) (t + 3) n b).1 t 8 + 1)).1 t 7) then
        mx_pi (mx_pi (mx_pi (mx_pi c0 (t + 1) n k) (t + 2) n a) (t + 3) n b) t 8 ((mx_pi (mx_pi (mx_pi c0 (t + 1) n k) (t + 2) n a) (t + 3) n b).1 t 8 + 1)
      else en_transmit (mx_pi (mx_pi (mx_pi (mx_pi c0 (t + 1) n k) (t + 2) n a) (t + 3) n b) t 8 ((mx_pi (mx_pi (mx_pi c0 (t + 1) n k) (t + 2) n a) (t + 3) n b).1 t 8 + 1)) t ((mx_pi (mx_pi (mx_pi (mx_pi c0 (t + 1) n k) (t + 2) n a) (t + 3) n b) t 8 ((mx_pi (mx_pi (mx_pi c0 (t + 1) n k) (t + 2) n a) (t + 3) n b).1 t 8 + 1)).1 t 8 - 1)) =
      if n + 1 - o ≤ 3 then en_transmit (en_app c0 t n k a b) t (Int32.ofNat n) else en_app c0 t n k a b := by
      intro c0 g8 g7
      have r8 : (mx_pi (mx_pi (mx_pi c0 (t + 1) n k) (t + 2) n a) (t + 3) n b).1 t 8 = Int32.ofNat n := by rw [pi_ne (by omega), pi_ne (by omega), pi_ne (by omega), g8]
      have r7 : (mx_pi (mx_pi (mx_pi c0 (t + 1) n k) (t + 2) n a) (t + 3) n b).1 t 7 = Int32.ofNat o := by rw [pi_ne (by omega), pi_ne (by omega), pi_ne (by omega), g7]
      rw [r8, e1, pi_eq, pi_ne (show ¬ (t = t ∧ 7 = 8) by omega), r7, e2]
      have hd : (Int32.ofNat (n + 1) - Int32.ofNat o).toInt = (n : Int) + 1 - (o : Int) := by
        rw [i_sub] <;> rw [i_of _ (by omega), i_of o (by omega)] <;> omega
      by_cases hw : n + 1 - o ≤ 3
      · rw [if_neg (by rw [i_lt, hd, show (3 : Int32).toInt = 3 from rfl]; omega), if_pos hw]; rfl
      · rw [if_pos (by rw [i_lt, hd, show (3 : Int32).toInt = 3 from rfl]; omega), if_neg hw]; rfl
    by_cases hno : n = o
    · rw [if_neg (fun z => (hem.1 z) hno), if_pos hno]
      simp only [s8, hpl']
      exact key _ s8 s7
    · rw [if_pos (hem.2 hno), if_neg hno]
      simp only [h8, hpl']
      exact key _ h8 h7
theorem x_say {c : mx_C} {m : mx_M} (h : rR c m) {e : Nat} (he : e < 2) (hi : iE m 1399) (k a b : Int32) : rR (en_put c (62 + 12 * e) k a b) (mo_say m (Int32.ofNat e) k a b) := by
  have hie := iE_get hi he
  have hq := rR_q h
  rw [mo_say_eq m he hie]
  obtain ⟨i1, i2, i3, i4, i5⟩ := hie
  have h8 : c.1 (62 + 12 * e) 8 = Int32.ofNat (m.1 109 e).toInt.toNat := by rw [rd_E8 hq he]; exact of_nn (by omega)
  have h7 : c.1 (62 + 12 * e) 7 = Int32.ofNat (m.1 107 e).toInt.toNat := by rw [rd_E7 hq he]; exact of_nn (by omega)
  rw [en_put_eq c _ _ _ (by omega) h8 h7 (by omega) (by omega), rd_E3 hq he]
  by_cases hch : m.1 106 e = 0
  · rw [if_pos hch, if_pos hch]; exact h
  · rw [if_neg hch, if_neg hch]
    have hap := x_app h he (fun e' h' => (iE_get hi h').2.2.1) (by omega) k a b
    have hcond : ((m.1 109 e).toInt.toNat = (m.1 107 e).toInt.toNat) ↔ m.1 109 e = m.1 107 e := by rw [i_eq]; omega
    rw [show (if (m.1 109 e).toInt.toNat = (m.1 107 e).toInt.toNat then en_startWaiting c (62 + 12 * e) else c) = (if m.1 109 e = m.1 107 e then en_startWaiting c (62 + 12 * e) else c) by
      by_cases hz : m.1 109 e = m.1 107 e
      · rw [if_pos hz, if_pos (hcond.2 hz)]
      · rw [if_neg hz, if_neg (fun q => hz (hcond.1 q))]]
    by_cases hlt : (m.1 109 e).toInt < (m.1 107 e).toInt + 3
    · rw [if_pos (by omega), if_pos hlt]
      refine rR_m108 ?_ _ _
      have e9 : m.1 109 e = Int32.ofNat (m.1 109 e).toInt.toNat := of_nn (by omega)
      have := x_transmit hap he (n := (m.1 109 e).toInt.toNat) (by rw [sy6_109, i_p1 (by omega)]; omega) (by omega)
      rw [← e9] at this
      rw [← e9]
      exact this
    · rw [if_neg (by omega), if_neg hlt]; exact hap
/-! a channel begins or ends -/
theorem mo_clear_eq (m : mx_M) {e : Nat} (he : e < 2) (v : Int32) : mo_clear m (Int32.ofNat e) v = my_pi (my_pi (my_pi (my_pi (my_pi (my_pi (my_pi m 106 e v) 110 e 0) 107 e 0) 109 e 0) 108 e 0) 111 e 0) 112 e 0 := by
  unfold mo_clear
  rw [of_cl e (by omega)]
  refine Prod.ext ?_ rfl
  funext a b
  simp only [my_pi, mx_up_if]
  grind
theorem clear_o (m : mx_M) {e : Nat} (he : e < 2) (v : Int32) {i j : Nat} (h : ¬ (106 ≤ i ∧ i < 113 ∧ j = e)) : (mo_clear m (Int32.ofNat e) v).1 i j = m.1 i j := by
  rw [mo_clear_eq m he, qi_ne (by omega), qi_ne (by omega), qi_ne (by omega), qi_ne (by omega), qi_ne (by omega), qi_ne (by omega), qi_ne (by omega)]
theorem clear_v (m : mx_M) {e : Nat} (he : e < 2) (v : Int32) : (mo_clear m (Int32.ofNat e) v).1 106 e = v ∧ (mo_clear m (Int32.ofNat e) v).1 107 e = 0 ∧ (mo_clear m (Int32.ofNat e) v).1 108 e = 0 ∧ (mo_clear m (Int32.ofNat e) v).1 109 e = 0 ∧ (mo_clear m (Int32.ofNat e) v).1 110 e = 0 := by
  rw [mo_clear_eq m he]
  simp [qi_if]
theorem x_begin {c : mx_C} {m : mx_M} (h : rR c m) {e : Nat} (he : e < 2) (hb : ∀ e', e' < 2 → (m.1 109 e').toInt ≤ 1400) (v : Int32) : rR (en_begin c (62 + 12 * e) v) (mo_clear m (Int32.ofNat e) v) := by
  have q0 := rR_q h
  refine rQ_r ?_ (rE_mk h.2.2.2.2.1 he ?_ ?_ ?_ hb)
  · rw [mo_clear_eq m he]
    refine rQ_m (rQ_m (rQ_m ?_ 0 (by omega)) 0 (by omega)) 0 (by omega)
    unfold en_begin
    refine rQ_c (rQ_c ?_ 0 (by omega)) 0 (by omega)
    exact rQ_w (rQ_w (rQ_w (rQ_w q0 (tbW_mem (tE3 he)) (by omega) v) (tbW_mem (tE4 he)) (by omega) 0) (tE7 he) (by omega) 0) (tE8 he) (by omega) 0
  · have cv := clear_v m he v
    refine ⟨fun z => absurd (by rw [cv.2.2.2.1, cv.2.1]) z, fun n hn => ?_⟩
    rw [cv.2.2.2.1, show (0 : Int32).toInt = 0 from rfl] at hn
    omega
  · intro i k h1 h2
    unfold en_begin
    rw [pi_ne (by omega), pi_ne (by omega), pi_ne (by omega), pi_ne (by omega), pi_ne (by omega), pi_ne (by omega)]
  · intro i k h1 h2 h3 h4
    refine clear_o m he v ?_
    split at h4 <;> omega
/-! what the other end has got -/
def mo_settle (m : mx_M) (e : Nat) (v : Int32) : mx_M := if m.1 107 e < v then mo_sendOpen (my_pi (my_pi (my_pi m 107 e (if v < m.1 109 e then v else m.1 109 e)) 111 e 0) 112 e 2) (Int32.ofNat e) else m
theorem mo_c34_eq (m : mx_M) {e : Nat} (he : e < 2) (kd a b ch n kn : Int32) : mo_control_34 1 m (Int32.ofNat e) kd a b ch n kn =
    if ch = m.1 106 e then
      (if kd = 17 then mo_settle m e kn
      else if n = (mo_settle m e kn).1 110 e then mo_transmit (if e = 0 then mo_accessDoes (my_pi (mo_settle m e kn) 110 e ((mo_settle m e kn).1 110 e + 1)) kd a b else mo_serverDoes (my_pi (mo_settle m e kn) 110 e ((mo_settle m e kn).1 110 e + 1)) kd a) (Int32.ofNat e) (-1)
      else mo_transmit (mo_settle m e kn) (Int32.ofNat e) (-1))
    else m := by
  have ee : (Int32.ofNat e).toNatClampNeg = e := of_cl e (by omega)
  have e0 : (Int32.ofNat e = 0) ↔ e = 0 := by
    rw [i_eq, i_of e (by omega), show (0 : Int32).toInt = 0 from rfl]; omega
  have key : ∀ m', mo_control_104 1 m' (Int32.ofNat e) kd a b ch n kn = if kd = 17 then m' else if n = m'.1 110 e then mo_transmit (if e = 0 then mo_accessDoes (my_pi m' 110 e (m'.1 110 e + 1)) kd a b else mo_serverDoes (my_pi m' 110 e (m'.1 110 e + 1)) kd a) (Int32.ofNat e) (-1) else mo_transmit m' (Int32.ofNat e) (-1) := by
    intro m'
    simp only [mo_control_104, mo_control_153, ee]
    by_cases h17 : kd = 17
    · rw [if_pos h17, if_pos h17]
    · rw [if_neg h17, if_neg h17]
      by_cases hn : n = m'.1 110 e
      · rw [if_pos hn, if_pos hn]
        by_cases hz : e = 0
        · rw [if_pos (e0.2 hz), if_pos hz]
        · rw [if_neg (fun q => hz (e0.1 q)), if_neg hz]
      · rw [if_neg hn, if_neg hn]
  rw [show mo_control_34 1 m (Int32.ofNat e) kd a b ch n kn = mo_control_34 (0 + 1) m (Int32.ofNat e) kd a b ch n kn from rfl, mo_control_34]
  simp only [ee, key]
  by_cases hch : ch = m.1 106 e
  · rw [if_pos hch, if_pos hch]
    unfold mo_settle
    by_cases h7 : m.1 107 e < kn
    · rw [if_pos h7, if_pos h7]
      by_cases h9 : kn < m.1 109 e
      · rw [if_pos h9, if_pos h9]
      · rw [if_neg h9, if_neg h9]
    · rw [if_neg h7, if_neg h7]
  · rw [if_neg hch, if_neg hch]
theorem mo_sendOpen_0eq (m : mx_M) (v : Int32) : mo_sendOpen m v = mo_sendOpen_0 1403 m v := rfl
/-- the steps of a sending -/
theorem so_ind (P : mx_M → Prop) {e : Nat} (he : e < 2) (hs : ∀ m, P m → m.1 108 e < m.1 109 e → m.1 108 e < m.1 107 e + 3 → P (my_pi (mo_transmit m (Int32.ofNat e) (m.1 108 e)) 108 e ((mo_transmit m (Int32.ofNat e) (m.1 108 e)).1 108 e + 1))) : ∀ n m, P m → P (mo_sendOpen_0 n m (Int32.ofNat e)) := by
  have ee : (Int32.ofNat e).toNatClampNeg = e := of_cl e (by omega)
  intro n
  induction n with
  | zero => intro m h; exact h
  | succ n ih =>
    intro m h
    unfold mo_sendOpen_0
    rw [ee]
    by_cases h1 : m.1 108 e < m.1 109 e
    · rw [if_pos h1]
      by_cases h2 : m.1 108 e < m.1 107 e + 3
      · rw [if_pos h2]; exact ih _ (hs m h h1 h2)
      · rw [if_neg h2]; exact h
    · rw [if_neg h1]; exact h
theorem x_open {e : Nat} (he : e < 2) (v1 v2 v3 : Int32) (q : Nat) (hq : q ≤ 1400) : ∀ (d : Nat) (c : mx_C) (m : mx_M) (j : Nat) (fC fM : Nat), rR c m → j + d = q → d < fC → d < fM → m.1 108 e = Int32.ofNat j → (∀ x : Nat, x ≤ 1400 → (x < q ↔ (x : Int) < (m.1 109 e).toInt ∧ (x : Int) < (m.1 107 e).toInt + 3)) → 0 ≤ (m.1 107 e).toInt → (m.1 107 e).toInt ≤ 1400 →
    rR (en_settle_66 fC c (62 + 12 * e) v1 v2 v3 (Int32.ofNat q) (Int32.ofNat j)) (mo_sendOpen_0 fM m (Int32.ofNat e)) := by
  have ee : (Int32.ofNat e).toNatClampNeg = e := of_cl e (by omega)
  intro d
  induction d with
  | zero =>
    intro c m j fC fM h hjd hfC hfM h8 hx h0 h14
    have hjq : j = q := by omega
    subst hjq
    obtain ⟨fC, rfl⟩ : ∃ k, fC = k + 1 := ⟨fC - 1, by omega⟩
    unfold en_settle_66
    rw [if_neg (by rw [i_lt]; omega), so0_stop]
    · exact h
    · rw [ee, h8]
      intro z
      have p3 : (m.1 107 e + 3).toInt = (m.1 107 e).toInt + 3 := i_p3 (by omega)
      rw [i_lt, i_lt, p3, i_of _ (by omega)] at z
      have := (hx j hq).2 z
      omega
  | succ d ih =>
    intro c m j fC fM h hjd hfC hfM h8 hx h0 h14
    obtain ⟨fC, rfl⟩ : ∃ k, fC = k + 1 := ⟨fC - 1, by omega⟩
    obtain ⟨fM, rfl⟩ : ∃ k, fM = k + 1 := ⟨fM - 1, by omega⟩
    have hj := (hx j (by omega)).1 (by omega)
    have p3 : (m.1 107 e + 3).toInt = (m.1 107 e).toInt + 3 := i_p3 (by omega)
    unfold en_settle_66 mo_sendOpen_0
    rw [ee, h8, if_pos (by rw [i_lt, i_of _ (by omega), i_of _ (by omega)]; omega), if_pos (by rw [i_lt, i_of _ (by omega)]; omega), if_pos (by rw [i_lt, i_of _ (by omega), p3]; omega)]
    have ht := x_transmit h he hj.1 (by omega)
    have hn : (Int32.ofNat j).toInt < 1400 := by rw [i_of _ (by omega)]; omega
    have h8' : (mo_transmit m (Int32.ofNat e) (Int32.ofNat j)).1 108 e = Int32.ofNat j := by rw [my_tr_o _ he _ hn (by decide), h8]
    show rR (en_settle_66 fC (en_transmit c (62 + 12 * e) (Int32.ofNat j)) (62 + 12 * e) v1 v2 v3 (Int32.ofNat q) (Int32.ofNat j + 1)) (mo_sendOpen_0 fM (my_pi (mo_transmit m (Int32.ofNat e) (Int32.ofNat j)) 108 e ((mo_transmit m (Int32.ofNat e) (Int32.ofNat j)).1 108 e + 1)) (Int32.ofNat e))
    rw [show Int32.ofNat j + 1 = Int32.ofNat (j + 1) from of_add j 1, h8', show Int32.ofNat j + 1 = Int32.ofNat (j + 1) from of_add j 1]
    have g7 : (my_pi (mo_transmit m (Int32.ofNat e) (Int32.ofNat j)) 108 e (Int32.ofNat (j + 1))).1 107 e = m.1 107 e := by rw [qi_ne (by omega), my_tr_o _ he _ hn (by decide)]
    have g9 : (my_pi (mo_transmit m (Int32.ofNat e) (Int32.ofNat j)) 108 e (Int32.ofNat (j + 1))).1 109 e = m.1 109 e := by rw [qi_ne (by omega), my_tr_o _ he _ hn (by decide)]
    refine ih _ _ (j + 1) fC fM (rR_m108 ht _ _) (by omega) (by omega) (by omega) qi_eq ?_ (by rw [g7]; exact h0) (by rw [g7]; exact h14)
    intro x hx14
    rw [g7, g9]
    exact hx x hx14
theorem jx_min_i (a b : Int32) : (jx_min a b).toInt = min a.toInt b.toInt := by
  unfold jx_min
  split <;> rename_i h <;> rw [i_lt] at h <;> omega
theorem jx_max_i (a b : Int32) : (jx_max a b).toInt = max a.toInt b.toInt := by
  unfold jx_max
  split <;> rename_i h <;> rw [i_lt] at h <;> omega
/-- acked is raised, tries begin anew -/
theorem x_raise {c : mx_C} {m : mx_M} (h : rR c m) {e : Nat} (he : e < 2) (hb : ∀ e', e' < 2 → (m.1 109 e').toInt ≤ 1400) (v : Int32) : rR (en_startWaiting (mx_pi c (62 + 12 * e) 7 v) (62 + 12 * e)) (my_pi (my_pi (my_pi m 107 e v) 111 e 0) 112 e 2) := by
  have q0 := rR_q h
  have ge := rE_get h.2.2.2.2.1 he
  refine rQ_r ?_ (rE_mk h.2.2.2.2.1 he ?_ ?_ ?_ hb)
  · unfold en_startWaiting
    exact rQ_m (rQ_m (rQ_c (rQ_c (rQ_w q0 (tE7 he) (by omega) v) 0 (by omega)) 2 (by omega)) 0 (by omega)) 2 (by omega)
  · unfold en_startWaiting
    refine ⟨fun _ => ⟨?_, ?_⟩, fun n hn => ?_⟩
    · rw [pi_ne (by omega), pi_eq, qi_ne (by omega), qi_eq]
    · rw [pi_eq, qi_eq]
    · rw [qi_ne (by omega), qi_ne (by omega), qi_ne (by omega)] at hn
      rw [pi_ne (by omega), pi_ne (by omega), pi_ne (by omega), pi_ne (by omega), pi_ne (by omega), pi_ne (by omega), pi_ne (by omega), pi_ne (by omega), pi_ne (by omega)]
      rw [qi_row (by decide), qi_row (by decide), qi_row (by decide), qi_row (by decide), qi_row (by decide), qi_row (by decide), qi_row (by decide), qi_row (by decide), qi_row (by decide)]
      exact ge.2 n hn
  · intro i k h1 h2
    unfold en_startWaiting
    rw [pi_ne (by omega), pi_ne (by omega), pi_ne (by omega)]
  · intro i k h1 h2 h3 h4
    split at h4
    · rw [qi_ne (by omega), qi_ne (by omega), qi_ne (by omega)]
    · rw [qi_ne (by omega), qi_ne (by omega), qi_ne (by omega)]
/-- tries and wait of an empty end do not count -/
theorem x_raise0 {c : mx_C} {m : mx_M} (h : rR c m) {e : Nat} (he : e < 2) (hb : ∀ e', e' < 2 → (m.1 109 e').toInt ≤ 1400) (hz : m.1 107 e = m.1 109 e) : rR c (my_pi (my_pi (my_pi m 107 e (m.1 109 e)) 111 e 0) 112 e 2) := by
  have q0 := rR_q h
  have ge := rE_get h.2.2.2.2.1 he
  have hs := qi_self m 107 e
  rw [hz] at hs
  rw [hs]
  refine rQ_r (rQ_m (rQ_m q0 0 (by omega)) 2 (by omega)) (rE_mk h.2.2.2.2.1 he ?_ (fun _ _ _ _ => rfl) ?_ hb)
  · refine ⟨fun z => absurd ?_ z, fun n hn => ?_⟩
    · rw [qi_ne (by omega), qi_ne (by omega), qi_ne (by omega), qi_ne (by omega)]; exact hz.symm
    · rw [qi_ne (by omega), qi_ne (by omega)] at hn
      rw [qi_row (by decide), qi_row (by decide), qi_row (by decide), qi_row (by decide), qi_row (by decide), qi_row (by decide)]
      exact ge.2 n hn
  · intro i k h1 h2 h3 h4
    split at h4
    · rw [qi_ne (by omega), qi_ne (by omega)]
    · rw [qi_ne (by omega), qi_ne (by omega)]
theorem x_settle {c : mx_C} {m : mx_M} (h : rR c m) {e : Nat} (he : e < 2) (hi : iE m 1400) (v : Int32) (hk : v.toInt ≤ (m.1 108 e).toInt ∨ (m.1 108 e).toInt = (m.1 109 e).toInt) : rR (en_settle c (62 + 12 * e) v) (mo_settle m e v) := by
  obtain ⟨i1, i2, i3, i4, i5⟩ := iE_get hi he
  have hb : ∀ e', e' < 2 → (m.1 109 e').toInt ≤ 1400 := fun e' h' => (iE_get hi h').2.2.1
  have hq := rR_q h
  unfold en_settle mo_settle
  rw [rd_E7 hq he, rd_E8 hq he]
  by_cases h7 : m.1 107 e < v
  · have h7' := i_lt.1 h7
    rw [if_pos h7]
    by_cases hem : m.1 107 e = m.1 109 e
    · have hem' := i_eq.1 hem
      rw [if_neg (by rw [i_lt, jx_min_i]; omega), if_neg (show ¬ v < m.1 109 e by rw [i_lt]; omega)]
      rw [mo_sendOpen_0eq, so0_stop]
      · exact x_raise0 h he hb hem
      · have ee : (Int32.ofNat e).toNatClampNeg = e := of_cl e (by omega)
        rw [ee, qi_ne (by omega), qi_ne (by omega), qi_ne (by omega), qi_ne (by omega), qi_ne (by omega), qi_ne (by omega)]
        intro z
        have := z.1
        rw [i_lt] at this
        omega
    · have hem' : ¬ (m.1 107 e).toInt = (m.1 109 e).toInt := fun z => hem (i_eq.2 z)
      rw [if_pos (by rw [i_lt, jx_min_i]; omega)]
      have hmin : (if v < m.1 109 e then v else m.1 109 e) = jx_min v (m.1 109 e) := by
        rw [i_eq, jx_min_i]
        split <;> rename_i z <;> rw [i_lt] at z <;> omega
      rw [hmin]
      have hr := x_raise h he hb (jx_min v (m.1 109 e))
      have hqr := rR_q hr
      have K := jx_min_i v (m.1 109 e)
      have e7 : (en_startWaiting (mx_pi c (62 + 12 * e) 7 (jx_min v (m.1 109 e))) (62 + 12 * e)).1 (62 + 12 * e) 7 = jx_min v (m.1 109 e) := by
        rw [rd_E7 hqr he, qi_ne (by omega), qi_ne (by omega), qi_eq]
      have e8 : (en_startWaiting (mx_pi c (62 + 12 * e) 7 (jx_min v (m.1 109 e))) (62 + 12 * e)).1 (62 + 12 * e) 8 = m.1 109 e := by
        rw [rd_E8 hqr he, qi_ne (by omega), qi_ne (by omega), qi_ne (by omega)]
      simp only [e7, e8]
      have pk3 : (jx_min v (m.1 109 e) + 3).toInt = (jx_min v (m.1 109 e)).toInt + 3 := i_p3 (by omega)
      have p3 : (m.1 107 e + 3).toInt = (m.1 107 e).toInt + 3 := i_p3 (by omega)
      have Q := jx_min_i (jx_min v (m.1 109 e) + 3) (m.1 109 e)
      have S := jx_min_i (m.1 107 e + 3) (m.1 109 e)
      have J := jx_max_i (jx_min (m.1 107 e + 3) (m.1 109 e)) (jx_min v (m.1 109 e))
      rw [pk3] at Q
      rw [p3] at S
      obtain ⟨q, hqn⟩ : ∃ q : Nat, (jx_min (jx_min v (m.1 109 e) + 3) (m.1 109 e)).toInt = (q : Int) := ⟨(jx_min (jx_min v (m.1 109 e) + 3) (m.1 109 e)).toInt.toNat, by omega⟩
      obtain ⟨j, hjn⟩ : ∃ j : Nat, (m.1 108 e).toInt = (j : Int) := ⟨(m.1 108 e).toInt.toNat, by omega⟩
      have eq : jx_min (jx_min v (m.1 109 e) + 3) (m.1 109 e) = Int32.ofNat q := by rw [i_eq, hqn, i_of _ (by omega)]
      have ej : jx_max (jx_min (m.1 107 e + 3) (m.1 109 e)) (jx_min v (m.1 109 e)) = Int32.ofNat j := by rw [i_eq, J, i_of _ (by omega)]; omega
      have ej2 : m.1 108 e = Int32.ofNat j := by rw [i_eq, hjn, i_of _ (by omega)]
      rw [eq, ej, mo_sendOpen_0eq]
      have g8 : (my_pi (my_pi (my_pi m 107 e (jx_min v (m.1 109 e))) 111 e 0) 112 e 2).1 108 e = Int32.ofNat j := by rw [qi_ne (by omega), qi_ne (by omega), qi_ne (by omega), ej2]
      have g9 : (my_pi (my_pi (my_pi m 107 e (jx_min v (m.1 109 e))) 111 e 0) 112 e 2).1 109 e = m.1 109 e := by rw [qi_ne (by omega), qi_ne (by omega), qi_ne (by omega)]
      have g7 : (my_pi (my_pi (my_pi m 107 e (jx_min v (m.1 109 e))) 111 e 0) 112 e 2).1 107 e = jx_min v (m.1 109 e) := by rw [qi_ne (by omega), qi_ne (by omega), qi_eq]
      refine x_open he _ _ _ q (by omega) (q - j) _ _ j 4 1403 hr (by omega) (by omega) (by omega) g8 ?_ (by rw [g7]; omega) (by rw [g7]; omega)
      intro x hx
      rw [g9, g7]
      omega
  · rw [if_neg h7, if_neg (by rw [i_lt, jx_min_i]; rw [i_lt] at h7; omega)]
    exact h
