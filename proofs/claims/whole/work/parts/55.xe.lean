/-! what is sent meanwhile: kinds and second fields -/
abbrev vS : Type := Int32 → Int32 → Prop
def SP (S : vS) : Prop := ∀ k b : Int32, ¬ k = 1 → ¬ k = 4 → (k = 14 → 0 ≤ b.toInt) → S k b
def S0 : vS := fun k b => ¬ k = 1 ∧ ¬ k = 4 ∧ (k = 14 → 0 ≤ b.toInt)
theorem SP0 : SP S0 := fun k b h1 h2 h3 => ⟨h1, h2, h3⟩
def ext (S : vS) (m m' : mx_M) : Prop := m.2.1.val ≤ m'.2.1.val ∧ (∀ k f : Nat, k < m.2.1.val → f < 9 → fp m' k f = fp m k f) ∧ (∀ k : Nat, m.2.1.val ≤ k → k < m'.2.1.val → S (fp m' k 0) (fp m' k 4))
theorem ext_r {S : vS} (m : mx_M) : ext S m m := ⟨Nat.le_refl _, fun _ _ _ _ => rfl, fun k h1 h2 => by omega⟩
theorem ext_t {S : vS} {m1 m2 m3 : mx_M} (h1 : ext S m1 m2) (h2 : ext S m2 m3) : ext S m1 m3 := by
  obtain ⟨a1, a2, a3⟩ := h1
  obtain ⟨b1, b2, b3⟩ := h2
  refine ⟨Nat.le_trans a1 b1, fun k f hk hf => (b2 k f (by omega) hf).trans (a2 k f hk hf), fun k h1 h2 => ?_⟩
  by_cases hk : k < m2.2.1.val
  · rw [b2 k 0 hk (by decide), b2 k 4 hk (by decide)]; exact a3 k h1 hk
  · exact b3 k (by omega) h2
theorem ext_f {S : vS} {m m' : mx_M} (h85 : m'.1 85 = m.1 85) (hf : m'.2.1 = m.2.1) : ext S m m' := by
  refine ⟨by rw [hf]; exact Nat.le_refl _, fun k f _ _ => ?_, fun k h1 h2 => by rw [hf] at h2; omega⟩
  unfold fp
  rw [h85]
theorem ext_send {S : vS} (m : mx_M) (q : Nat → Int32) (hq : S (q 0) (q 4)) : ext S m (my_send m q) := by
  refine ⟨?_, fun k f hk hf => ?_, fun k h1 h2 => ?_⟩
  · rw [send_cnt]; split <;> omega
  · rw [send_fp m q k f hf, if_neg (by omega)]
  · rw [send_cnt] at h2
    by_cases hl : m.2.1.val < 40
    · rw [if_pos hl] at h2
      have hk : k = m.2.1.val := by omega
      rw [send_fp m q k 0 (by decide), send_fp m q k 4 (by decide), if_pos ⟨hk, hl⟩, if_pos ⟨hk, hl⟩]; exact hq
    · rw [if_neg hl] at h2; omega
/-- the messages that wait -/
def gM (m : mx_M) : Prop := ∀ e n : Nat, e < 2 → (n : Int) < (m.1 109 e).toInt → S0 (m.1 113 (1400 * e + n)) (m.1 115 (1400 * e + n))
theorem gM_f {m m' : mx_M} (h : gM m) (h9 : m'.1 109 = m.1 109) (h13 : m'.1 113 = m.1 113) (h15 : m'.1 115 = m.1 115) : gM m' := by
  unfold gM
  rw [h9, h13, h15]
  exact h
def XE (S : vS) (m m' : mx_M) : Prop := ext S m m' ∧ gM m'
theorem XE_t {S : vS} {m1 m2 m3 : mx_M} (h1 : XE S m1 m2) (h2 : XE S m2 m3) : XE S m1 m3 := ⟨ext_t h1.1 h2.1, h2.2⟩
theorem XE_r {S : vS} {m : mx_M} (h : gM m) : XE S m m := ⟨ext_r m, h⟩
theorem XE_w {S : vS} {m m0 : mx_M} (h : XE S m0 m) {i k : Nat} {v : Int32} (hi : ¬ (i = 85 ∨ i = 109 ∨ i = 113 ∨ i = 115)) : XE S m0 (my_pi m i k v) :=
  ⟨ext_t h.1 (ext_f (qi_row (by omega)) rfl), gM_f h.2 (qi_row (by omega)) (qi_row (by omega)) (qi_row (by omega))⟩
theorem XE_f {S : vS} {m m0 m' : mx_M} (h : XE S m0 m) (h85 : m'.1 85 = m.1 85) (hf : m'.2.1 = m.2.1) (h9 : m'.1 109 = m.1 109) (h13 : m'.1 113 = m.1 113) (h15 : m'.1 115 = m.1 115) : XE S m0 m' :=
  ⟨ext_t h.1 (ext_f h85 hf), gM_f h.2 h9 h13 h15⟩
theorem XE_send {S : vS} {m m0 : mx_M} (h : XE S m0 m) (q : Nat → Int32) (hq : S (q 0) (q 4)) : XE S m0 (my_send m q) :=
  ⟨ext_t h.1 (ext_send m q hq), gM_f h.2 (my_send_o _ _ (by decide)) (my_send_o _ _ (by decide)) (my_send_o _ _ (by decide))⟩
theorem XE_so {S : vS} {m m0 : mx_M} (h : XE S m0 m) {k e : Int32} (hq : S k e) (b c d f : Int32) : XE S m0 (mo_sendOff m k b c d e f) := by
  rw [mo_sendOff_eq]
  exact XE_send h _ hq
theorem XE_tr {S : vS} (hS : SP S) {m m0 : mx_M} (h : XE S m0 m) {e : Nat} (he : e < 2) {n : Int32} (hn : n.toInt < 1400) (hp : ¬ n < 0 → n.toInt < (m.1 109 e).toInt) : XE S m0 (mo_transmit m (Int32.ofNat e) n) := by
  rw [mo_transmit_eq m e he n hn]
  refine XE_send h _ ?_
  unfold mo_pk
  by_cases hz : n < 0
  · rw [if_pos hz]
    exact hS 17 0 (by decide) (by decide) (fun z => absurd z (by decide))
  · rw [if_neg hz]
    have hz' := hz
    rw [i_lt, show (0 : Int32).toInt = 0 from rfl] at hz'
    have g := h.2 e n.toNatClampNeg he (by rw [of_nc (by omega)]; have := hp hz; omega)
    exact hS _ _ g.1 g.2.1 g.2.2
theorem sy6_113 (m : mx_M) {e : Nat} (k a b : Int32) (i : Nat) (v : Int32) (hi : (i = 113 ∧ v = k) ∨ (i = 115 ∧ v = b)) (j : Nat) : (sy6 m e k a b).1 i j = if j = 1400 * e + (m.1 109 e).toInt.toNat then v else m.1 i j := by
  have k4 : (sy4 m e k a b).1 i j = if j = 1400 * e + (m.1 109 e).toInt.toNat then v else m.1 i j := by
    unfold sy4
    rcases hi with ⟨rfl, rfl⟩ | ⟨rfl, rfl⟩
    · rw [qi_ne (by omega), qi_ne (by omega), qi_ne (by omega), qi_if]; simp
    · rw [qi_ne (by omega), qi_if]
      simp only [true_and]
      split
      · rfl
      · rw [qi_ne (by omega), qi_ne (by omega)]
  unfold sy6
  split
  · rw [qi_ne (by omega), qi_ne (by omega)]; exact k4
  · exact k4
theorem gM_sy6 {m : mx_M} (h : gM m) {e : Nat} (he : e < 2) (hi : iE m 1399) {k b : Int32} (hk : S0 k b) (a : Int32) : gM (sy6 m e k a b) := by
  intro e' n he' hn
  have i0 := iE_get hi he
  have i1 := iE_get hi he'
  rw [sy6_113 m k a b 113 k (Or.inl ⟨rfl, rfl⟩), sy6_113 m k a b 115 b (Or.inr ⟨rfl, rfl⟩)]
  by_cases hee : e' = e
  · subst hee
    rw [sy6_109, i_p1 (by have := i0.2.2.1; have := i0.1; have := i0.2.1; omega)] at hn
    by_cases hz : 1400 * e' + n = 1400 * e' + (m.1 109 e').toInt.toNat
    · rw [if_pos hz, if_pos hz]; exact hk
    · rw [if_neg hz, if_neg hz]; exact h e' n he' (by have := i0.2.1; have := i0.1; omega)
  · rw [sy6_o m e k a b (by omega) (by omega)] at hn
    have b0 := i0.2.2.1
    have b1 := i1.2.2.1
    rw [if_neg (by omega), if_neg (by omega)]; exact h e' n he' hn
theorem XE_say {S : vS} (hS : SP S) {m m0 : mx_M} (h : XE S m0 m) {e : Nat} (he : e < 2) (hi : iE m 1399) {k b : Int32} (hk : S0 k b) (a : Int32) : XE S m0 (mo_say m (Int32.ofNat e) k a b) := by
  have hie := iE_get hi he
  rw [mo_say_eq m he hie]
  obtain ⟨i1, i2, i3, i4, i5⟩ := hie
  have g6 : XE S m0 (sy6 m e k a b) := by
    refine ⟨ext_t h.1 (ext_f (funext fun j => sy6_o m e k a b (by omega) (by omega)) ?_), gM_sy6 h.2 he hi hk a⟩
    unfold sy6
    split <;> rfl
  split
  · exact h
  · split
    · refine XE_w (XE_tr hS g6 he (by omega) (fun _ => ?_)) (by omega)
      rw [sy6_109, i_p1 (by omega)]; omega
    · exact g6
theorem XE_clear {S : vS} {m m0 : mx_M} (h : XE S m0 m) {e : Nat} (he : e < 2) (v : Int32) : XE S m0 (mo_clear m (Int32.ofNat e) v) := by
  refine ⟨ext_t h.1 (ext_f (funext fun j => clear_o m he v (by omega)) rfl), fun e' n he' hn => ?_⟩
  rw [clear_o m he v (by omega), clear_o m he v (by omega)]
  by_cases hee : e' = e
  · subst hee
    rw [(clear_v m he v).2.2.2.1, show (0 : Int32).toInt = 0 from rfl] at hn
    omega
  · rw [clear_o m he v (by omega)] at hn
    exact h.2 e' n he' hn
theorem XE_settle {S : vS} (hS : SP S) {m m0 : mx_M} (h : XE S m0 m) {e : Nat} (he : e < 2) (hb : (m.1 109 e).toInt ≤ 1400) (v : Int32) : XE S m0 (mo_settle m e v) := by
  unfold mo_settle
  split
  · rw [mo_sendOpen_0eq]
    refine (so_ind (fun M => XE S m0 M ∧ M.1 109 e = m.1 109 e) he ?_ 1403 _ ⟨XE_w (XE_w (XE_w h (by omega)) (by omega)) (by omega), by rw [qi_ne (by omega), qi_ne (by omega), qi_ne (by omega)]⟩).1
    intro M ⟨u1, u2⟩ w1 w2
    rw [i_lt, u2] at w1
    have hn : (M.1 108 e).toInt < 1400 := by omega
    refine ⟨XE_w (XE_tr hS u1 he hn (fun _ => by rw [u2]; omega)) (by omega), ?_⟩
    rw [qi_ne (by omega), my_tr_o M he _ hn (by decide), u2]
  · exact h
theorem XE_et0 {S : vS} (hS : SP S) {m m0 : mx_M} (h : XE S m0 m) {e : Nat} (he : e < 2) (hi : iE m 1400) : XE S m0 (mo_et0 m e) := by
  obtain ⟨i1, i2, i3, i4, i5⟩ := iE_get hi he
  unfold mo_et0
  split
  · exact h
  · rename_i hne
    have hne' : ¬ (m.1 109 e).toInt = (m.1 107 e).toInt := fun z => hne (i_eq.2 z)
    split
    · exact XE_w h (by omega)
    · refine XE_tr hS (XE_w (XE_w (XE_w h (by omega)) (by omega)) (by omega)) he (by omega) (fun _ => ?_)
      rw [qi_ne (by omega), qi_ne (by omega), qi_ne (by omega)]; omega
theorem XE_off {S : vS} {m m0 : mx_M} (h : XE S m0 m) (x : Int32) : XE S m0 (mo_off m x) := XE_w (XE_w (XE_w h (by omega)) (by omega)) (by omega)
theorem sp3 {S : vS} (hS : SP S) (b : Int32) : S 3 b := hS _ _ (by decide) (by decide) (fun z => absurd z (by decide))
theorem XE_leave {S : vS} (hS : SP S) {m m0 : mx_M} (h : XE S m0 m) (x : Int32) : XE S m0 (mo_leave m x) := XE_off (XE_so h (sp3 hS _) _ _ _ _) x
theorem XE_acc {S : vS} (hS : SP S) {m m0 : mx_M} (h : XE S m0 m) (x y : Int32) : XE S m0 (mo_accepted m x y) := by
  have s7 (b : Int32) : S 7 b := hS _ _ (by decide) (by decide) (fun z => absurd z (by decide))
  unfold mo_accepted
  split
  · split
    · exact XE_so (XE_w (XE_w (XE_w h (by omega)) (by omega)) (by omega)) (s7 _) _ _ _ _
    · exact h
  · exact XE_so (XE_w (XE_w (XE_w h (by omega)) (by omega)) (by omega)) (s7 _) _ _ _ _
theorem XE_td {S : vS} (hS : SP S) {m m0 : mx_M} (h : XE S m0 m) (hi : iE m 1399) (x : Int32) : XE S m0 (mo_takeDown m x) := by
  unfold mo_takeDown
  split
  · exact XE_say hS (XE_w (XE_w h (by omega)) (by omega)) (e := 0) (by decide) (rm_iE hi _ 0 0) ⟨by decide, by decide, fun z => absurd z (by decide)⟩ _
  · exact XE_w (XE_w h (by omega)) (by omega)
theorem XE_jn {S : vS} (hS : SP S) {m m0 : mx_M} (h : XE S m0 m) (hi : iE m 1398) (t : Nat) : XE S m0 (mo_jn m t) := by
  unfold mo_jn
  have h4 := XE_send (XE_w (XE_w h (i := 82) (k := 28) (v := m.1 82 28 + 1) (by omega)) (i := 96) (k := t) (v := m.1 82 28 + 1) (by omega)) (pk9 2 4 (Int32.ofNat t) (m.1 82 28 + 1) 0 0 0 0 0) (hS 2 0 (by decide) (by decide) (fun z => absurd z (by decide)))
  have i4 : iE (my_send (my_pi (my_pi m 82 28 (m.1 82 28 + 1)) 96 t (m.1 82 28 + 1)) (pk9 2 4 (Int32.ofNat t) (m.1 82 28 + 1) 0 0 0 0 0)) 1398 := iE_f hi (fun i h1 h2 => by rw [my_send_o _ _ (by omega), qi_row (by omega), qi_row (by omega)])
  dsimp only
  generalize hM : my_send (my_pi (my_pi m 82 28 (m.1 82 28 + 1)) 96 t (m.1 82 28 + 1)) (pk9 2 4 (Int32.ofNat t) (m.1 82 28 + 1) 0 0 0 0 0) = M at *
  split
  · have i7 : iE (my_pi (mo_clear (my_pi M 82 30 (m.1 82 30 + 1)) 0 (m.1 82 30 + 1)) 82 17 0) 1398 := iE_f (clear_iE (e := 0) (by decide) (by decide) (iE_f i4 (fun i h1 h2 => qi_row (show ¬ i = 82 by omega))) (m.1 82 30 + 1) (m := my_pi M 82 30 (m.1 82 30 + 1))) (fun i h1 h2 => qi_row (by omega))
    refine XE_say hS (XE_say hS (XE_w (XE_clear (XE_w h4 (by omega)) (e := 0) (by decide) _) (by omega)) (e := 0) (by decide) (iE_mono i7 (by decide)) ⟨by decide, by decide, fun z => absurd z (by decide)⟩ _) (e := 0) (by decide) ?_ ⟨by decide, by decide, fun z => absurd z (by decide)⟩ _
    exact say_iE (e := 0) (by decide) (by decide) i7 12 0 0
  · exact XE_say hS h4 (e := 0) (by decide) (iE_mono i4 (by decide)) ⟨by decide, by decide, fun z => absurd z (by decide)⟩ _
theorem XE_join {S : vS} (hS : SP S) {m m0 : mx_M} (h : XE S m0 m) (hi : iE m 1397) {t : Nat} (ht : t < 4) : XE S m0 (mo_join m (Int32.ofNat t)) := by
  rw [mo_join_eq m ht hi]
  split
  · exact XE_jn hS (XE_td hS h (iE_mono hi (by decide)) _) (td_iE (by decide) hi ht) t
  · exact XE_jn hS h (iE_mono hi (by decide)) t
theorem XE_fromSub {S : vS} (hS : SP S) {m m0 : mx_M} (h : XE S m0 m) (hi : iE m 1397) {t : Nat} (ht : t < 4) {k y : Int32} (hk : ¬ k = 1 → S k y) (x w : Int32) : XE S m0 (mo_fromSubscriber m (Int32.ofNat t) k x y w) := by
  unfold mo_fromSubscriber
  split
  · exact XE_join hS h hi ht
  · rename_i h1
    split
    · exact h
    · split
      · split
        · exact XE_td hS h (iE_mono hi (by decide)) _
        · split
          · split
            · exact XE_so h (hk h1) _ _ _ _
            · split
              · exact XE_so h (hk h1) _ _ _ _
              · split
                · exact XE_so h (hk h1) _ _ _ _
                · split
                  · exact XE_so h (hk h1) _ _ _ _
                  · exact h
          · exact h
      · exact h
theorem XE_fromSrv {S : vS} (hS : SP S) {m m0 : mx_M} (h : XE S m0 m) (k x y w : Int32) : XE S m0 (mo_fromServer m k x y w) := by
  unfold mo_fromServer
  split
  · exact h
  · split
    · rename_i z; subst z; exact XE_so h (hS _ _ (by decide) (by decide) (fun z => absurd z (by decide))) _ _ _ _
    · split
      · rename_i z; subst z; exact XE_so h (hS _ _ (by decide) (by decide) (fun z => absurd z (by decide))) _ _ _ _
      · split
        · rename_i z; subst z; exact XE_so h (hS _ _ (by decide) (by decide) (fun z => absurd z (by decide))) _ _ _ _
        · split
          · rename_i z; subst z; exact XE_so h (hS _ _ (by decide) (by decide) (fun z => absurd z (by decide))) _ _ _ _
          · exact h
theorem XE_rm {S : vS} {m m0 : mx_M} (h : XE S m0 m) {k : Nat} (hk : k < m.2.2.val) : XE S m0 (mo_endSession m (Int32.ofNat k)) := by
  rw [mo_endS_eq m hk]
  exact XE_f h (rm_o (by omega)) rfl (rm_o (by omega)) (rm_o (by omega)) (rm_o (by omega))
theorem XE_login {S : vS} (hS : SP S) {m m0 : mx_M} (h : XE S m0 m) (hi : iE m 1399) {k : Nat} (hk : k < m.2.2.val) (u w : Int32) : XE S m0 (mo_login m (Int32.ofNat k) u w) := by
  have hb : m.2.2.val < 5 := m.2.2.isLt
  obtain ⟨l1, l2, l3, l4⟩ := mo_login_eq m (k := k) (by omega) u w
  have s5 (b : Int32) : S 5 b := hS _ _ (by decide) (by decide) (fun z => absurd z (by decide))
  by_cases s1 : m.1 100 k = 1
  · by_cases ok : lg_ok m u w
    · rw [l1 s1 ok]
      exact XE_send (XE_w (XE_w h (by omega)) (by omega)) _ (s5 _)
    · rw [l2 s1 ok]
      unfold lg_no
      have g := XE_send h (pk9 6 5 4 (m.1 99 k) 0 0 0 0 0) (hS 6 0 (by decide) (by decide) (fun z => absurd z (by decide)))
      have hk' : k < (my_send m (pk9 6 5 4 (m.1 99 k) 0 0 0 0 0)).2.2.val := by rw [my_send_s]; exact hk
      refine XE_say hS (XE_rm g hk') (e := 1) (by decide) ?_ ⟨by decide, by decide, fun z => absurd z (by decide)⟩ _
      rw [mo_endS_eq _ hk']
      exact iE_f hi (fun i h1 h2 => by rw [rm_o (by omega), my_send_o _ _ (by omega)])
  · by_cases s2 : m.1 100 k = 2
    · rw [l3 s2]
      exact XE_send h _ (s5 _)
    · rw [l4 s1 s2]; exact h
theorem XE_toS {S : vS} (hS : SP S) {m m0 : mx_M} (h : XE S m0 m) (hi : iE m 1399) (hn : iNm m) (h0 : 0 ≤ (m.1 82 24).toInt) (kd n b w : Int32) : XE S m0 (mo_toSession m kd n b w) := by
  have hb : m.2.2.val < 5 := m.2.2.isLt
  rcases mo_ixx hn n with ⟨k, hk, _, e⟩ | e
  · rw [mo_toS_eq m kd n b w h0 (k := k) (by omega) e]
    have g := XE_w h (i := 102) (k := k) (v := 0) (by omega)
    split
    · exact XE_login hS g (iE_f hi (fun i h1 h2 => qi_row (by omega))) (k := k) hk _ _
    · split
      · exact XE_w g (by omega)
      · split
        · split
          · exact XE_w (XE_w (XE_w g (by omega)) (by omega)) (by omega)
          · exact XE_w g (by omega)
        · exact g
  · unfold mo_toSession
    rw [e, if_pos neg1_lt]; exact h
theorem XE_accDoes {S : vS} (hS : SP S) {m m0 : mx_M} (h : XE S m0 m) (hi : iE m 1399) (kd x y : Int32) : XE S m0 (mo_accessDoes m kd x y) := by
  unfold mo_accessDoes
  split
  · split
    · exact XE_say hS h (e := 0) (by decide) hi ⟨by decide, by decide, fun z => absurd z (by decide)⟩ _
    · exact XE_w h (by omega)
  · split
    · split
      · exact h
      · exact XE_so (XE_w (XE_w h (by omega)) (by omega)) (sp3 hS _) _ _ _ _
    · exact h
theorem XE_srvDoes {S : vS} (hS : SP S) {m m0 : mx_M} (h : XE S m0 m) (hi : iE m 1399) (hn : iNm m) (h29 : 0 ≤ (m.1 82 29).toInt ∧ (m.1 82 29).toInt < 2147483647) (kd x : Int32) : XE S m0 (mo_serverDoes m kd x) := by
  have hb : m.2.2.val < 5 := m.2.2.isLt
  unfold mo_serverDoes
  by_cases h15 : kd = 15
  · subst h15
    rw [if_pos rfl]
    simp only [show ¬ (15 : Int32) = 13 by decide, if_false]
    rcases mo_ixx hn x with ⟨k, hk, _, e⟩ | e
    · rw [e, if_neg (of_nneg (by omega))]; exact XE_rm h hk
    · rw [e, if_pos neg1_lt]; exact h
  · rw [if_neg h15]
    split
    · split
      · exact XE_say hS h (e := 1) (by decide) hi ⟨by decide, by decide, fun z => absurd z (by decide)⟩ _
      · refine XE_say hS (e := 1) ?_ (by decide) ?_ ⟨by decide, by decide, fun _ => ?_⟩ _
        · exact XE_f (XE_w (XE_w (XE_w (XE_w (XE_w (XE_w h (i := 82) (by omega)) (i := 98) (by omega)) (i := 99) (by omega)) (i := 100) (by omega)) (i := 101) (by omega)) (i := 102) (by omega)) rfl rfl rfl rfl rfl
        · refine iE_f hi (fun i h1 h2 => ?_)
          show (my_pi _ _ _ _).1 i = _
          rw [qi_row (by omega), qi_row (by omega), qi_row (by omega), qi_row (by omega), qi_row (by omega), qi_row (by omega)]
        · show 0 ≤ ((my_pi _ _ _ _).1 82 29).toInt
          rw [qi_ne (by omega), qi_ne (by omega), qi_ne (by omega), qi_ne (by omega), qi_ne (by omega), qi_eq, i_p1 (by omega)]
          omega
    · exact h
theorem XE_c34 {S : vS} (hS : SP S) {m m0 : mx_M} (h : XE S m0 m) {e : Nat} (he : e < 2) (hi : iE m 1397) (hc : iC m) (hn : iNm m) (h29 : 0 ≤ (m.1 82 29).toInt ∧ (m.1 82 29).toInt < 2147483647) (kd x y ch n kn : Int32) (hk : ch = m.1 106 e → kn.toInt ≤ (m.1 108 e).toInt ∨ (m.1 108 e).toInt = (m.1 109 e).toInt) : XE S m0 (mo_control_34 1 m (Int32.ofNat e) kd x y ch n kn) := by
  rw [mo_c34_eq m he]
  by_cases hch : ch = m.1 106 e
  · rw [if_pos hch]
    obtain ⟨i1, i2, i3, i4, i5⟩ := iE_get hi he
    have g := XE_settle hS h he (by omega) kn
    obtain ⟨x1, x2, x3, x4, x5⟩ := exp_f he hi kn (hk hch)
    have g2 : XE S m0 (my_pi (mo_settle m e kn) 110 e ((mo_settle m e kn).1 110 e + 1)) := XE_w g (by omega)
    split
    · exact g
    · split
      · refine XE_tr hS ?_ he (by decide) (fun z => absurd neg1_lt z)
        split
        · exact XE_accDoes hS g2 (iE_mono x1 (by decide)) _ _ _
        · exact XE_srvDoes hS g2 (iE_mono x1 (by decide)) (x3 hn) (by rw [x5 82 29 (by omega)]; exact h29) _ _
      · exact XE_tr hS g he (by decide) (fun z => absurd neg1_lt z)
  · rw [if_neg hch]; exact h
theorem XE_cl {S : vS} (hS : SP S) {m m0 : mx_M} (h : XE S m0 m) (t : Nat) : XE S m0 (mo_cl m t) := by
  unfold mo_cl
  split
  · exact h
  · exact XE_send (XE_w (XE_w h (by omega)) (by omega)) _ (sp3 hS _)
theorem XE_tl {S : vS} (hS : SP S) {m m0 : mx_M} (h : XE S m0 m) (hi : iE m 1399) : XE S m0 (mo_tl m) := by
  unfold mo_tl
  split
  · split
    · split
      · exact XE_w (XE_say hS (XE_w h (by omega)) (e := 0) (by decide) (iE_f hi (fun i h1 h2 => qi_row (by omega))) ⟨by decide, by decide, fun z => absurd z (by decide)⟩ _) (by omega)
      · exact XE_w h (by omega)
    · exact XE_w h (by omega)
  · exact XE_w h (by omega)
theorem XE_aT {S : vS} (hS : SP S) {m m0 : mx_M} (h : XE S m0 m) (hi : iE m 1399) (hc : iC m) : XE S m0 (aT m) := by
  unfold aT
  split
  · exact XE_w h (by omega)
  · rw [mo_at_eq2]
    have hi' := iE_mono hi (show (1399 : Int) ≤ 1400 by decide)
    have hm := mo_et_0 hi' hc
    by_cases hb : mo_brk m 0
    · rw [hm.2 hb]
      unfold mo_bk0 mo_cl4
      refine XE_tl hS (XE_cl hS (XE_cl hS (XE_cl hS (XE_cl hS (XE_clear (XE_w h (i := 112) (k := 0) (v := m.1 112 0 - 1) (by omega)) (e := 0) (by decide) 0) 0) 1) 2) 3) ?_
      refine iE_f (clear_iE (e := 0) (by decide) (by decide) (iE_f hi (fun i h1 h2 => qi_row (show ¬ i = 112 by omega))) 0 (m := my_pi m 112 0 (m.1 112 0 - 1))) (fun i h1 h2 => ?_)
      funext j
      exact cl4_o (by omega)
    · rw [hm.1 hb]
      refine XE_tl hS (XE_et0 hS h (e := 0) (by decide) hi') (iE_f hi (fun i h1 h2 => ?_))
      funext j
      exact et0_o (by decide) hi'.1 (by omega)
theorem XE_eat {S : vS} (hS : SP S) {m m0 : mx_M} (h : XE S m0 m) (k : Nat) (v : Int32) : XE S m0 (mo_eat m k v) := by
  have s5 (b : Int32) : S 5 b := hS _ _ (by decide) (by decide) (fun z => absurd z (by decide))
  have s8 (b : Int32) : S 8 b := hS _ _ (by decide) (by decide) (fun z => absurd z (by decide))
  unfold mo_eat
  split
  · exact XE_send (XE_w h (by omega)) _ (s5 _)
  · split
    · exact XE_send (XE_w h (by omega)) _ (s8 _)
    · exact XE_w h (by omega)
theorem XE_stl {S : vS} (hS : SP S) {m0 : mx_M} : ∀ (n : Nat) (m : mx_M) (k : Nat), XE S m0 m → k ≤ m.2.2.val → m.2.2.val - k < n → iE m (1399 - (m.2.2.val : Int)) → XE S m0 (mo_serverTimer_2 n m (Int32.ofNat k)) := by
  intro n
  induction n with
  | zero => intro m k h h1 h2 hi; omega
  | succ n ih =>
    intro m k h h1 h2 hi
    have hb : m.2.2.val < 5 := m.2.2.isLt
    by_cases hk : k < m.2.2.val
    · rw [mo_st_step n m hk]
      by_cases h12 : m.1 102 k + 1 = 12
      · rw [if_pos h12]
        have b := iE_f hi (fun i h1 h2 => qi_row (show ¬ i = 102 by omega)) (m' := my_pi m 102 k (m.1 102 k + 1))
        have eS := mo_endS_eq (my_pi m 102 k (m.1 102 k + 1)) (a := k) hk
        have hE : iE (mo_endSession (my_pi m 102 k (m.1 102 k + 1)) (Int32.ofNat k)) 1399 := by
          rw [eS]
          exact iE_f (iE_mono b (by omega)) (fun i h1 h2 => rm_o (by omega))
        have gi := lgn_iE b (show 1399 - (m.2.2.val : Int) ≤ 1399 by omega) (k := k) hk (m.1 99 k)
        have es : (mo_say (mo_endSession (my_pi m 102 k (m.1 102 k + 1)) (Int32.ofNat k)) 1 15 (m.1 99 k) 0).2.2.val = m.2.2.val - 1 := by
          have t2 : (mo_say (mo_endSession (my_pi m 102 k (m.1 102 k + 1)) (Int32.ofNat k)) 1 15 (m.1 99 k) 0).2.2 = (mo_endSession (my_pi m 102 k (m.1 102 k + 1)) (Int32.ofNat k)).2.2 := say_s (e := 1) (by decide) hE.2 15 (m.1 99 k) 0
          rw [t2, eS]
          exact rm_cnt (m := my_pi m 102 k (m.1 102 k + 1)) hk
        have g := XE_say hS (XE_rm (XE_w h (i := 102) (k := k) (v := m.1 102 k + 1) (by omega)) (k := k) hk) (e := 1) (by decide) hE (k := 15) (b := 0) ⟨by decide, by decide, fun z => absurd z (by decide)⟩ (m.1 99 k)
        exact ih _ k g (by rw [es]; omega) (by rw [es]; omega) (by rw [es]; exact iE_mono gi (by omega))
      · rw [if_neg h12]
        exact ih _ (k + 1) (XE_eat hS h k _) (by rw [eat_s]; omega) (by rw [eat_s]; omega) (by rw [eat_s]; exact iE_f hi (fun i h1 h2 => funext fun j => eat_o (by omega)))
    · rw [mo_serverTimer_2, if_neg (fun z => hk ((of_le (by omega) (by omega)).1 z))]
      have hi' := iE_mono hi (show 1399 - (m.2.2.val : Int) ≤ 1400 by omega)
      have hE := mo_endTimer_eq m (e := 1) (by decide) hi'.2
      show XE S m0 (mo_endTimer m 1)
      by_cases hbk : mo_brk m 1
      · have m1 : mo_endTimer m 1 = my_ps (mo_clear (my_pi m 112 1 (m.1 112 1 - 1)) 1 0) 0 := (hE.2 hbk).trans (if_neg (by decide))
        rw [m1]
        exact XE_f (XE_clear (XE_w h (i := 112) (k := 1) (v := m.1 112 1 - 1) (by omega)) (e := 1) (by decide) 0) rfl rfl rfl rfl rfl
      · have m1 : mo_endTimer m 1 = mo_et0 m 1 := hE.1 hbk
        rw [m1]
        exact XE_et0 hS h (by decide) hi'
theorem XE_vT {S : vS} (hS : SP S) {m m0 : mx_M} (h : XE S m0 m) (hi : iE m 1395) : XE S m0 (vT m) := by
  unfold vT
  split
  · exact XE_w h (by omega)
  · have hb : m.2.2.val < 5 := m.2.2.isLt
    exact XE_stl hS 6 m 0 h (by omega) (by omega) (iE_mono hi (by omega))
theorem XE_core2 {S : vS} (hS : SP S) {m m0 : mx_M} (h : XE S m0 m) (x y : Int32) : ∀ (n : Nat) (i : Int32), XE S m0 (mo_core_2 n m x y i).1 := by
  intro n
  induction n with
  | zero => intro i; exact h
  | succ n ih =>
    intro i
    rw [mo_core_2]
    split
    · split
      · split
        · exact XE_so h (hS 11 _ (by decide) (by decide) (fun z => absurd z (by decide))) _ _ _ _
        · exact ih _
      · exact ih _
    · exact h
/-! the ends' counters through it all -/
theorem iE_w {m : mx_M} {B : Int} (h : iE m B) {i k : Nat} {v : Int32} (hi : ¬ (106 ≤ i ∧ i < 110)) : iE (my_pi m i k v) B := iE_f h (fun j h1 h2 => qi_row (by omega))
theorem iE_so {m : mx_M} {B : Int} (h : iE m B) (a b c d e f : Int32) : iE (mo_sendOff m a b c d e f) B := by
  rw [mo_sendOff_eq]
  exact iE_f h (fun i h1 h2 => my_send_o _ _ (by omega))
theorem iE_snd {m : mx_M} {B : Int} (h : iE m B) (q : Nat → Int32) : iE (my_send m q) B := iE_f h (fun i h1 h2 => my_send_o _ _ (by omega))
theorem iE_off {m : mx_M} {B : Int} (h : iE m B) (x : Int32) : iE (mo_off m x) B := iE_w (iE_w (iE_w h (by omega)) (by omega)) (by omega)
theorem iE_leave {m : mx_M} {B : Int} (h : iE m B) (x : Int32) : iE (mo_leave m x) B := iE_off (iE_so h _ _ _ _ _ _) x
theorem iE_ask {m : mx_M} {B : Int} (h : iE m B) (x : Int32) : iE (mo_ask m x) B := by
  unfold mo_ask
  split
  · exact iE_w (iE_w (iE_so h _ _ _ _ _ _) (by omega)) (by omega)
  · exact iE_w (iE_w (iE_so h _ _ _ _ _ _) (by omega)) (by omega)
theorem iE_acc {m : mx_M} {B : Int} (h : iE m B) (x y : Int32) : iE (mo_accepted m x y) B := by
  unfold mo_accepted
  split
  · split
    · exact iE_so (iE_w (iE_w (iE_w h (by omega)) (by omega)) (by omega)) _ _ _ _ _ _
    · exact h
  · exact iE_so (iE_w (iE_w (iE_w h (by omega)) (by omega)) (by omega)) _ _ _ _ _ _
theorem iE_toSub {m : mx_M} {B : Int} (h : iE m B) {t : Nat} (ht : t < 4) (k x y w : Int32) (h0 : 0 ≤ (m.1 94 t).toInt) (h1 : (m.1 94 t).toInt < 2147483647) : iE (mo_toSubscriber m (Int32.ofNat t) k x y w) B := by
  rw [mo_toSub_eq m ht k x y w h0 h1]
  split
  · split
    · exact iE_ask (iE_w (iE_w (iE_w h (by omega)) (by omega)) (by omega)) _
    · exact h
  · split
    · exact h
    · split
      · exact h
      · split
        · exact iE_off h _
        · split
          · exact iE_acc h _ _
          · split
            · exact iE_leave h _
            · split
              · exact iE_snd (iE_w h (by omega)) _
              · split
                · exact iE_w (iE_w (iE_w h (by omega)) (by omega)) (by omega)
                · exact h
theorem iE_jn {m : mx_M} {B : Int} (h : iE m B) (h0 : 0 ≤ B) (hB : B ≤ 1397) (t : Nat) : iE (mo_jn m t) (B + 2) := by
  unfold mo_jn
  dsimp only
  have i4 := iE_snd (iE_w (iE_w h (i := 82) (k := 28) (v := m.1 82 28 + 1) (by omega)) (i := 96) (k := t) (v := m.1 82 28 + 1) (by omega)) (pk9 2 4 (Int32.ofNat t) (m.1 82 28 + 1) 0 0 0 0 0)
  split
  · have i7 := iE_w (clear_iE (e := 0) (by decide) h0 (iE_w i4 (i := 82) (k := 30) (v := m.1 82 30 + 1) (by omega)) (m.1 82 30 + 1)) (i := 82) (k := 17) (v := 0) (by omega)
    have i8 := say_iE (e := 0) (by decide) (by omega) i7 12 0 0
    have i9 := say_iE (e := 0) (by decide) (by omega) i8 13 (m.1 82 28 + 1) 0
    exact iE_mono i9 (by omega)
  · have i9 := say_iE (e := 0) (by decide) (by omega) i4 13 (m.1 82 28 + 1) 0
    exact iE_mono i9 (by omega)
theorem iE_fromSub {m : mx_M} {B : Int} (h : iE m B) (h0 : 0 ≤ B) (hB : B ≤ 1396) {t : Nat} (ht : t < 4) (k x y w : Int32) : iE (mo_fromSubscriber m (Int32.ofNat t) k x y w) (B + 3) := by
  unfold mo_fromSubscriber
  split
  · show iE (mo_join m (Int32.ofNat t)) (B + 3)
    rw [mo_join_eq m ht (iE_mono h (by omega))]
    split
    · exact iE_mono (iE_jn (td_iE (by omega) h ht) (by omega) (by omega) t) (by omega)
    · exact iE_mono (iE_jn h h0 (by omega) t) (by omega)
  · split
    · exact iE_mono h (by omega)
    · split
      · split
        · exact iE_mono (td_iE (by omega) h ht) (by omega)
        · split
          · split
            · exact iE_mono (iE_so h _ _ _ _ _ _) (by omega)
            · split
              · exact iE_mono (iE_so h _ _ _ _ _ _) (by omega)
              · split
                · exact iE_mono (iE_so h _ _ _ _ _ _) (by omega)
                · split
                  · exact iE_mono (iE_so h _ _ _ _ _ _) (by omega)
                  · exact iE_mono h (by omega)
          · exact iE_mono h (by omega)
      · exact iE_mono h (by omega)
theorem iE_fromSrv {m : mx_M} {B : Int} (h : iE m B) (k x y w : Int32) : iE (mo_fromServer m k x y w) B := by
  unfold mo_fromServer
  split
  · exact h
  · split
    · exact iE_so h _ _ _ _ _ _
    · split
      · exact iE_so h _ _ _ _ _ _
      · split
        · exact iE_so h _ _ _ _ _ _
        · split
          · exact iE_so h _ _ _ _ _ _
          · exact h
theorem iE_login {m : mx_M} {B : Int} (h : iE m B) (hB : B ≤ 1399) {k : Nat} (hk : k < m.2.2.val) (u w : Int32) : iE (mo_login m (Int32.ofNat k) u w) (B + 1) := by
  have hb : m.2.2.val < 5 := m.2.2.isLt
  obtain ⟨l1, l2, l3, l4⟩ := mo_login_eq m (k := k) (by omega) u w
  by_cases s1 : m.1 100 k = 1
  · by_cases ok : lg_ok m u w
    · rw [l1 s1 ok]
      exact iE_mono (iE_snd (iE_w (iE_w h (by omega)) (by omega)) _) (by omega)
    · rw [l2 s1 ok]
      exact lgn_iE (iE_snd h _) hB (by rw [my_send_s]; exact hk) _
  · by_cases s2 : m.1 100 k = 2
    · rw [l3 s2]
      exact iE_mono (iE_snd h _) (by omega)
    · rw [l4 s1 s2]; exact iE_mono h (by omega)
theorem iE_toS {m : mx_M} {B : Int} (h : iE m B) (hB : B ≤ 1399) (hn : iNm m) (h0 : 0 ≤ (m.1 82 24).toInt) (kd n b w : Int32) : iE (mo_toSession m kd n b w) (B + 1) := by
  have hb : m.2.2.val < 5 := m.2.2.isLt
  rcases mo_ixx hn n with ⟨k, hk, _, e⟩ | e
  · rw [mo_toS_eq m kd n b w h0 (k := k) (by omega) e]
    have g := iE_w h (i := 102) (k := k) (v := 0) (by omega)
    split
    · exact iE_login g hB (k := k) hk _ _
    · split
      · exact iE_mono (iE_w g (by omega)) (by omega)
      · split
        · split
          · exact iE_mono (iE_w (iE_w (iE_w g (by omega)) (by omega)) (by omega)) (by omega)
          · exact iE_mono (iE_w g (by omega)) (by omega)
        · exact iE_mono g (by omega)
  · unfold mo_toSession
    rw [e, if_pos neg1_lt]; exact iE_mono h (by omega)
theorem iE_accDoes {m : mx_M} {B : Int} (h : iE m B) (hB : B ≤ 1399) (kd x y : Int32) : iE (mo_accessDoes m kd x y) (B + 1) := by
  unfold mo_accessDoes
  split
  · split
    · exact say_iE (e := 0) (by decide) hB h _ _ _
    · exact iE_mono (iE_w h (by omega)) (by omega)
  · split
    · split
      · exact iE_mono h (by omega)
      · exact iE_mono (iE_so (iE_w (iE_w h (by omega)) (by omega)) _ _ _ _ _ _) (by omega)
    · exact iE_mono h (by omega)
theorem iE_srvDoes {m : mx_M} {B : Int} (h : iE m B) (hB : B ≤ 1399) (hn : iNm m) (kd x : Int32) : iE (mo_serverDoes m kd x) (B + 1) := by
  have hb : m.2.2.val < 5 := m.2.2.isLt
  unfold mo_serverDoes
  by_cases h15 : kd = 15
  · subst h15
    rw [if_pos rfl]
    simp only [show ¬ (15 : Int32) = 13 by decide, if_false]
    rcases mo_ixx hn x with ⟨k, hk, _, e⟩ | e
    · rw [e, if_neg (of_nneg (by omega)), mo_endS_eq m hk]; exact iE_mono (iE_f h (fun i h1 h2 => rm_o (by omega))) (by omega)
    · rw [e, if_pos neg1_lt]; exact iE_mono h (by omega)
  · rw [if_neg h15]
    split
    · split
      · exact say_iE (e := 1) (by decide) hB h _ _ _
      · refine say_iE (e := 1) (by decide) hB ?_ _ _ _
        refine iE_f h (fun i h1 h2 => ?_)
        show (my_pi _ _ _ _).1 i = _
        rw [qi_row (by omega), qi_row (by omega), qi_row (by omega), qi_row (by omega), qi_row (by omega), qi_row (by omega)]
    · exact iE_mono h (by omega)
theorem iE_tr {m : mx_M} {B : Int} (h : iE m B) {e : Nat} (he : e < 2) {n : Int32} (hn : n.toInt < 1400) : iE (mo_transmit m (Int32.ofNat e) n) B := iE_f h (fun i h1 h2 => my_tr_o m he n hn (by omega))
theorem iE_c34 {m : mx_M} {B : Int} (h : iE m B) (hB : B ≤ 1397) (hn : iNm m) {e : Nat} (he : e < 2) (kd x y ch n kn : Int32) (hk : ch = m.1 106 e → kn.toInt ≤ (m.1 108 e).toInt ∨ (m.1 108 e).toInt = (m.1 109 e).toInt) : iE (mo_control_34 1 m (Int32.ofNat e) kd x y ch n kn) (B + 1) := by
  rw [mo_c34_eq m he]
  by_cases hch : ch = m.1 106 e
  · rw [if_pos hch]
    have g := settle_iE he (by omega) h kn (hk hch)
    obtain ⟨x1, x2, x3, x4, x5⟩ := exp_f he (iE_mono h hB) kn (hk hch)
    have g2 : iE (my_pi (mo_settle m e kn) 110 e ((mo_settle m e kn).1 110 e + 1)) B := iE_w g (by omega)
    split
    · exact iE_mono g (by omega)
    · split
      · refine iE_tr ?_ he (by decide)
        split
        · exact iE_accDoes g2 (by omega) _ _ _
        · exact iE_srvDoes g2 (by omega) (x3 hn) _ _
      · exact iE_mono (iE_tr g he (by decide)) (by omega)
  · rw [if_neg hch]; exact iE_mono h (by omega)
theorem iE_arrive {m : mx_M} {B : Int} (hB0 : 0 ≤ B) (hB : B ≤ 1396) (h : iE m B) (ok : arOK m) : iE (mo_arrive m).1 (B + 3) := by
  obtain ⟨o1, oS, oW, oE, oC, oN, oI, oP, ⟨⟨t, ht, e2⟩, p1, p4, p40c, p5c⟩⟩ := ok
  obtain ⟨A1, A2, A3, A4, A5, A6⟩ := arrive_eq m o1 ht e2
  have o (i : Nat) (hi : ¬ i = 85) : (mo_tk m 0).1 i = m.1 i := tk_o hi
  have g : iE (mo_tk m 0) B := iE_f h (fun i h1 h2 => o i (by omega))
  have hE : iE (mo_tk m 0) 1397 := iE_mono g (by omega)
  have hC : iC (mo_tk m 0) := iC_f oC (o 96 (by decide)) (o 97 (by decide))
  have hN : iNm (mo_tk m 0) := by unfold iNm; rw [o 98 (by decide)]; exact oN
  by_cases t4 : t < 4
  · rw [A1 t4]
    exact iE_mono (iE_toSub g t4 _ _ _ _ (by rw [o 94 (by decide)]; exact (oW.1 t t4).1) (by rw [o 94 (by decide)]; exact (oW.1 t t4).2)) (by omega)
  · by_cases hz : 0 < m.1 105 (t - 4)
    · rw [A2 t4 hz]; exact iE_mono g (by omega)
    · by_cases hk : fp m 0 0 < 12
      · have t45 : t = 4 ∨ t = 5 := by omega
        rcases t45 with rfl | rfl
        · rcases p4 e2 hk with ⟨z, _⟩ | ⟨u, hu, z, _⟩
          · rw [A5 rfl hz hk (by rw [z]; decide)]
            exact iE_mono (iE_fromSrv g _ _ _ _) (by omega)
          · rw [A4 rfl hz hk (by rw [z]; exact (ofl4 (by omega)).2 hu), z]
            exact iE_fromSub g hB0 hB hu _ _ _ _
        · rw [A3 rfl hz hk]
          exact iE_mono (iE_toS g (by omega) hN (by rw [o 82 (by decide)]; exact oW.2.1) _ _ _ _) (by omega)
      · rw [A6 t4 hz hk]
        have t45 : t = 4 ∨ t = 5 := by omega
        rcases t45 with rfl | rfl
        · have e := ctl_0 (mo_tk m 0) (fp m 0 0) (fp m 0 3) (fp m 0 4) (fp m 0 6) (fp m 0 7) (fp m 0 8)
          rw [show mo_control (mo_tk m 0) (Int32.ofNat (4 - 4)) (fp m 0 0) (fp m 0 3) (fp m 0 4) (fp m 0 6) (fp m 0 7) (fp m 0 8) = mo_control (mo_tk m 0) 0 (fp m 0 0) (fp m 0 3) (fp m 0 4) (fp m 0 6) (fp m 0 7) (fp m 0 8) from rfl, e]
          exact iE_mono (iE_c34 g (by omega) hN (e := 0) (by decide) _ _ _ _ _ _ (by rw [o 106 (by decide), o 108 (by decide), o 109 (by decide)]; exact p40c e2 hk)) (by omega)
        · have e := ctl_cases (mo_tk m 0) (fp m 0 0) (fp m 0 3) (fp m 0 4) (fp m 0 6) (fp m 0 7) (fp m 0 8)
          rw [show mo_control (mo_tk m 0) (Int32.ofNat (5 - 4)) (fp m 0 0) (fp m 0 3) (fp m 0 4) (fp m 0 6) (fp m 0 7) (fp m 0 8) = mo_control (mo_tk m 0) 1 (fp m 0 0) (fp m 0 3) (fp m 0 4) (fp m 0 6) (fp m 0 7) (fp m 0 8) from rfl, e]
          have hk5 : ¬ (fp m 0 0 = 12 ∧ (mo_tk m 0).1 106 1 < fp m 0 6) → fp m 0 6 = (mo_tk m 0).1 106 1 → (fp m 0 8).toInt ≤ ((mo_tk m 0).1 108 1).toInt ∨ ((mo_tk m 0).1 108 1).toInt = ((mo_tk m 0).1 109 1).toInt := by
            rw [o 106 (by decide), o 108 (by decide), o 109 (by decide)]; exact p5c e2 hk
          have key : iE (if fp m 0 0 = 12 ∧ (mo_tk m 0).1 106 1 < fp m 0 6 then mo_clear (my_ps (mo_tk m 0) 0) 1 (fp m 0 6) else mo_tk m 0) B ∧ iNm (if fp m 0 0 = 12 ∧ (mo_tk m 0).1 106 1 < fp m 0 6 then mo_clear (my_ps (mo_tk m 0) 0) 1 (fp m 0 6) else mo_tk m 0) ∧ (fp m 0 6 = (if fp m 0 0 = 12 ∧ (mo_tk m 0).1 106 1 < fp m 0 6 then mo_clear (my_ps (mo_tk m 0) 0) 1 (fp m 0 6) else mo_tk m 0).1 106 1 → (fp m 0 8).toInt ≤ ((if fp m 0 0 = 12 ∧ (mo_tk m 0).1 106 1 < fp m 0 6 then mo_clear (my_ps (mo_tk m 0) 0) 1 (fp m 0 6) else mo_tk m 0).1 108 1).toInt ∨ ((if fp m 0 0 = 12 ∧ (mo_tk m 0).1 106 1 < fp m 0 6 then mo_clear (my_ps (mo_tk m 0) 0) 1 (fp m 0 6) else mo_tk m 0).1 108 1).toInt = ((if fp m 0 0 = 12 ∧ (mo_tk m 0).1 106 1 < fp m 0 6 then mo_clear (my_ps (mo_tk m 0) 0) 1 (fp m 0 6) else mo_tk m 0).1 109 1).toInt) := by
            by_cases ho : fp m 0 0 = 12 ∧ (mo_tk m 0).1 106 1 < fp m 0 6
            · rw [if_pos ho]
              have cv := clear_v (my_ps (mo_tk m 0) 0) (e := 1) (by decide) (fp m 0 6)
              have c1 : (mo_clear (my_ps (mo_tk m 0) 0) 1 (fp m 0 6)).1 108 1 = 0 := cv.2.2.1
              have c2 : (mo_clear (my_ps (mo_tk m 0) 0) 1 (fp m 0 6)).1 109 1 = 0 := cv.2.2.2.1
              exact ⟨clear_iE (e := 1) (by decide) hB0 (m := my_ps (mo_tk m 0) 0) g _, fun i j h1 => absurd h1 (Nat.not_lt_zero i), fun _ => Or.inr (by rw [c1, c2])⟩
            · rw [if_neg ho]
              exact ⟨g, hN, hk5 ho⟩
          exact iE_mono (iE_c34 key.1 (by omega) key.2.1 (e := 1) (by decide) _ _ _ _ _ _ key.2.2) (by omega)
