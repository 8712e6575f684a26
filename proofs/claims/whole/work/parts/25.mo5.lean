theorem mo_circL (l : Int32) : ∀ (n : Nat) (m : mx_M) (f v : Int32), up4 n v → (¬ f < 0 → vp_in f 4) → ¬ mo_circuitOf_4 n m l f v < 0 → vp_in (mo_circuitOf_4 n m l f v) 4 := by
  intro n
  induction n with
  | zero => intro m f v hP; omega
  | succ n ih =>
    intro m f v hP hf
    unfold mo_circuitOf_4
    split
    · rename_i h
      split
      · split
        · exact ih _ _ _ (up4_1 h hP) (fun _ => up4_in h hP)
        · exact ih _ _ _ (up4_1 h hP) hf
      · exact ih _ _ _ (up4_1 h hP) hf
    · exact hf
theorem mo_circ_in {m : mx_M} {l : Int32} (h : ¬ mo_circuitOf m l < 0) : vp_in (mo_circuitOf m l) 4 := mo_circL l 5 m (-1) 0 (by decide) (fun h => absurd (by decide) h) h
theorem mo_sessL (a : Int32) : ∀ (n : Nat) (m : mx_M) (f v : Int32), up4 n v → (¬ f < 0 → mo_es m f) → ¬ mo_sessionOf_4 n m a f v < 0 → mo_es m (mo_sessionOf_4 n m a f v) := by
  intro n
  induction n with
  | zero => intro m f v hP; omega
  | succ n ih =>
    intro m f v hP hf
    unfold mo_sessionOf_4
    split
    · rename_i h
      have hes : mo_es m v := by
        have h' := h
        rw [i_lt, i_of _ (by omega)] at h'
        exact ⟨hP.1, h'⟩
      split
      · exact ih _ _ _ (mo_ses h hP).2 (fun _ => hes)
      · exact ih _ _ _ (mo_ses h hP).2 hf
    · exact hf
theorem mo_sess_in {m : mx_M} {a : Int32} (h : ¬ mo_sessionOf m a < 0) : mo_es m (mo_sessionOf m a) := mo_sessL a 5 m (-1) 0 (by decide) (fun h => absurd (by decide) h) h
theorem mo_es_in {m : mx_M} {v : Int32} (h : mo_es m v) : vp_in v 4 := by
  have := m.2.2.isLt
  unfold mo_es at h
  rw [i_in]
  omega
theorem fz_loseL : ∀ (n : Nat) (m : mx_M) (v : Int32), fz m (mo_loseCircuits_2 n m v) := by
  intro n
  induction n with
  | zero => intro m v; exact fz_rf m
  | succ n ih =>
    intro m v
    unfold mo_loseCircuits_2
    split
    · dsimp only
      split
      · exact fz_tr (fz_tr (fz_tr (fz_pi _ _ _ _ (by decide)) (fz_pi _ _ _ _ (by decide))) (fz_fy (fy_sendOff _ _ _ _ _ _ _))) (ih _ _)
      · exact fz_tr (fz_tr (fz_pi _ _ _ _ (by decide)) (fz_pi _ _ _ _ (by decide))) (ih _ _)
    · exact fz_rf m
theorem fz_loseCircuits (m : mx_M) : fz m (mo_loseCircuits m) := fz_loseL 5 m 0
theorem fz_endL (a : Int32) : ∀ (n : Nat) (m : mx_M) (v : Int32), fz m (mo_endSession_12 n m a v) := by
  intro n
  induction n with
  | zero => intro m v; exact fz_rf m
  | succ n ih =>
    intro m v
    unfold mo_endSession_12
    split
    · exact fz_tr (fz_tr (fz_tr (fz_tr (fz_tr (fz_pi _ _ _ _ (by decide)) (fz_pi _ _ _ _ (by decide))) (fz_pi _ _ _ _ (by decide))) (fz_pi _ _ _ _ (by decide))) (fz_pi _ _ _ _ (by decide))) (ih _ _)
    · exact fz_rf m
theorem fz_endSession (m : mx_M) (a : Int32) : fz m (mo_endSession m a) := fz_tr (fz_ps m _) (fz_endL a 6 _ _)
theorem mo_b_endTimer {m : mx_M} {k : Int} {e : Int32} (h : mo_b m k) (hk : 0 ≤ k) : mo_b (mo_endTimer m e) k := by
  unfold mo_endTimer
  split
  · exact h
  · split
    · exact h
    · dsimp only
      split
      · exact mo_b_pi (by decide) h
      · split
        · split
          · exact mo_b_fz (fz_loseCircuits _) (mo_b_clear (mo_b_pi (by decide) h) hk)
          · exact mo_b_fz (fz_ps _ _) (mo_b_clear (mo_b_pi (by decide) h) hk)
        · exact mo_b_fz (fz_fy (fy_transmit _ _ _)) (mo_b_pi (by decide) (mo_b_pi (by decide) (mo_b_pi (by decide) h)))
def mo_accessDoes (m : mx_M) (a1 : Int32) (a2 : Int32) (a3 : Int32) : mx_M :=
  if a1 = 14 then
    if (mo_circuitOf m a2) < 0 then
      let m1 := mo_say m 0 15 a3 0
      m1
    else
      let m2 := my_pi m 97 (Int32.toNatClampNeg (mo_circuitOf m a2)) a3
      m2
  else
    if a1 = 15 then
      if (mo_circuitOf m a2) < 0 then
        m
      else
        let m3 := my_pi m 96 (Int32.toNatClampNeg (mo_circuitOf m a2)) 0
        let m4 := my_pi m3 97 (Int32.toNatClampNeg (mo_circuitOf m a2)) 0
        let m5 := mo_sendOff m4 3 4 (mo_circuitOf m a2) a2 0 0
        m5
    else
      m
def K_mo_accessDoes : rx_K mx := k_RIII (fun a0 a1 a2 a3 c m => (a0 = 82 ∧ mo_b m 1399, (c, mo_accessDoes m a1 a2 a3), none))
def L_mo_accessDoes : List (rx_E mx) := [
  (0, .iload_n 1, 1, 0, 1, 0, [], kno),
  (1, .bipush 14, 2, 0, 0, 14, [], kno),
  (3, .if_icmp .eq 9, 3, 2, 6, 0, [], kno),
  (6, .iload_n 1, 1, 0, 1, 0, [], kno),
  (7, .bipush 15, 2, 0, 0, 15, [], kno),
  (9, .if_icmp .ne 11, 3, 2, 10, 0, [], kno),
  (12, .aload_n 0, 1, 0, 0, 0, [], kno),
  (13, .iload_n 2, 1, 0, 2, 0, [], kno),
  (14, .invokevirtual 168, 3, 7, 2, 0, [], K_mo_circuitOf),
  (17, .goto 4, 3, 1, 11, 0, [], kno),
  (20, .iconst (-1), 1, 0, 0, (-1), [], kno),
  (21, .istore 4, 2, 0, 4, 0, [], kno),
  (23, .iload_n 1, 1, 0, 1, 0, [], kno),
  (24, .bipush 14, 2, 0, 0, 14, [], kno),
  (26, .if_icmp .ne 20, 3, 2, 24, 0, [], kno),
  (29, .iload 4, 2, 0, 4, 0, [], kno),
  (31, .ifCond .ge 15, 3, 2, 24, 0, [], kno),
  (34, .aload_n 0, 1, 0, 0, 0, [], kno),
  (35, .iconst 0, 1, 0, 0, 0, [], kno),
  (36, .bipush 15, 2, 0, 0, 15, [], kno),
  (38, .iload_n 3, 1, 0, 3, 0, [], kno),
  (39, .iconst 0, 1, 0, 0, 0, [], kno),
  (40, .invokevirtual 149, 3, 7, 5, 0, [], K_mo_say),
  (43, .goto 52, 3, 1, 53, 0, [], kno),
  (46, .iload_n 1, 1, 0, 1, 0, [], kno),
  (47, .bipush 14, 2, 0, 0, 14, [], kno),
  (49, .if_icmp .ne 14, 3, 2, 33, 0, [], kno),
  (52, .aload_n 0, 1, 0, 0, 0, [], kno),
  (53, .getfield 53, 3, 7, 1, 0, [], mgr 97),
  (56, .iload 4, 2, 0, 4, 0, [], kno),
  (58, .iload_n 3, 1, 0, 3, 0, [], kno),
  (59, .iastore, 1, 7, 3, 0, [], mpa),
  (60, .goto 35, 3, 1, 53, 0, [], kno),
  (63, .iload 4, 2, 0, 4, 0, [], kno),
  (65, .ifCond .lt 30, 3, 2, 53, 0, [], kno),
  (68, .aload_n 0, 1, 0, 0, 0, [], kno),
  (69, .getfield 50, 3, 7, 1, 0, [], mgr 96),
  (72, .iload 4, 2, 0, 4, 0, [], kno),
  (74, .iconst 0, 1, 0, 0, 0, [], kno),
  (75, .iastore, 1, 7, 3, 0, [], mpa),
  (76, .aload_n 0, 1, 0, 0, 0, [], kno),
  (77, .getfield 53, 3, 7, 1, 0, [], mgr 97),
  (80, .iload 4, 2, 0, 4, 0, [], kno),
  (82, .iconst 0, 1, 0, 0, 0, [], kno),
  (83, .iastore, 1, 7, 3, 0, [], mpa),
  (84, .aload_n 0, 1, 0, 0, 0, [], kno),
  (85, .iconst 3, 1, 0, 0, 3, [], kno),
  (86, .iconst 4, 1, 0, 0, 4, [], kno),
  (87, .iload 4, 2, 0, 4, 0, [], kno),
  (89, .iload_n 2, 1, 0, 2, 0, [], kno),
  (90, .iconst 0, 1, 0, 0, 0, [], kno),
  (91, .iconst 0, 1, 0, 0, 0, [], kno),
  (92, .invokevirtual 138, 3, 7, 7, 0, [], K_mo_sendOff),
  (95, .return_, 1, 6, 0, 0, [], kno)]
theorem E_mo_accessDoes (c : mx_C) (m : mx_M) (a1 : Int32) (a2 : Int32) (a3 : Int32)  : rx_ev L_mo_accessDoes [] 56 L_mo_accessDoes (c, m) [some (.ref 82), some (.int a1), some (.int a2), some (.int a3), none] [] = ry_v c (mo_accessDoes m a1 a2 a3) :=
  rx_ite2 (f := ry_v c) (fun h0 => rx_litT h0 (rx_ite2 (f := ry_v c) (fun h1 => rfl) (fun h1 => rx_litT h0 (rfl)))) (fun h0 => rx_ite2 (f := ry_v c) (fun h1 => rx_litF h0 (rx_litF h0 (rx_ite2 (f := ry_v c) (fun h2 => rfl) (fun h2 => rfl)))) (fun h1 => rx_litF h0 (rx_litF h0 (rfl))))
theorem S_mo_accessDoes (c : mx_C) (m : mx_M) (a1 : Int32) (a2 : Int32) (a3 : Int32) (hb : mo_b m 1399) : rx_sf L_mo_accessDoes [] 56 L_mo_accessDoes (c, m) [some (.ref 82), some (.int a1), some (.int a2), some (.int a3), none] [] :=
  And.intro (fun h0 => And.intro rfl (And.intro (fun _ => And.intro (fun h1 => And.intro (And.intro rfl (mo_b_sy (k := 1399) hb (by decide) (i_in.mpr (by decide)))) (trivial)) (fun h1 => And.intro (fun _ => And.intro rfl (And.intro (mo_circ_in (by assumption)) (trivial))) (fun h => absurd h0 h))) (fun h => absurd h0 h))) (fun h0 => And.intro (fun h1 => And.intro rfl (And.intro (fun h => absurd h h0) (fun _ => And.intro (fun h => absurd h h0) (fun _ => And.intro (fun h2 => trivial) (fun h2 => And.intro rfl (And.intro (mo_circ_in (by assumption)) (And.intro rfl (And.intro (mo_circ_in (by assumption)) (And.intro rfl (trivial)))))))))) (fun h1 => And.intro (fun h => absurd h h0) (fun _ => And.intro (fun h => absurd h h0) (fun _ => And.intro (fun _ => trivial) (fun h => absurd (by decide : (((-1) : Int32) < 0)) h)))))

theorem cv_mo_circuitOf {p : Program} {l : Launch} {e : Env} {R : Room} {s : State} {m : MethodId} {args : Array Value} {below : List Frame} {meth : Method} {c : Code} {cc : ByteArray} {nL : Nat} {ad : Nat → Nat} {D : va_G} {g : Nat → ClassId} {B : Nat} {own : String} {idx : Nat} (X : ox_C p s m args c cc nL own D g ad B) (hV : rx_V l D g ad B ⟨"SubscriberLinesModel", "circuitOf", "(I)I"⟩ prog_12_method_13_code 4 (some .int) 0 0 K_mo_circuitOf) (hl : Cond.methodLink own idx ⟨"SubscriberLinesModel", "circuitOf", "(I)I"⟩ ∈ al) (hR : 0 + 1 ≤ R.frames ∧ 8 + (4 + 11) + 0 ≤ R.locals) : rx_OK p l e R s m args below meth c cc nL ad (mx_W D g ad B s.heap) mx_cs (.invokevirtual idx) 3 2 (K_mo_circuitOf) :=
  ox_callV (q := 9) (T := T_9) X hV (fun av x h => by obtain ⟨a0, a1, rfl⟩ := k_RI_inv h; exact ⟨a0, _, rfl, by have h2 : a0 = 82 := h; rw [h2]; rfl⟩) (by decide) rfl hl (al_at 900 (by decide +kernel) rfl) (al_pr (y := (⟨"SubscriberLinesModel", "circuitOf", "(I)I"⟩, _)) 46 rfl) (al_at 12 (by decide +kernel) rfl) (al_at 901 (by decide +kernel) rfl) ⟨by decide, by decide, by decide +kernel⟩ hR
theorem ok_mo_accessDoes : rx_okF prog_12_method_17_code 5 none L_mo_accessDoes 0 L_mo_accessDoes = true := by decide +kernel
theorem V_mo_accessDoes {l : Launch} {D : va_G} {g : Nat → ClassId} {ad : Nat → Nat} {B : Nat} (had : mx_A ad B) : rx_V l D g ad B ⟨"SubscriberLinesModel", "accessDoes", "(III)V"⟩ prog_12_method_17_code 5 none 4 98 K_mo_accessDoes := by
  intro av x hp
  obtain ⟨a0, a1, a2, a3, rfl⟩ := k_RIII_inv hp
  have hp : a0 = 82 ∧ mo_b x.2 1399 := hp
  have h0 : a0 = 82 := hp.1
  subst h0
  exact rx_met (k := 1) had (by decide) (Nat.le_of_ble_eq_true rfl) ok_mo_accessDoes rfl rfl 56 (fun p e s m args below meth c X => And.intro (cv_mo_circuitOf X (V_mo_circuitOf had) (al_at 898 (by decide +kernel) rfl) ⟨by decide, by decide⟩) (And.intro (cv_mo_say X (V_mo_say had) (al_at 902 (by decide +kernel) rfl) ⟨by decide, by decide⟩) (And.intro (og_mo_53_g X) (And.intro (oy_pa X) (And.intro (og_mo_50_g X) (And.intro (oy_pa X) (And.intro (og_mo_53_g X) (And.intro (oy_pa X) (And.intro (cv_mo_sendOff X (V_mo_sendOff had) (al_at 858 (by decide +kernel) rfl) ⟨by decide, by decide⟩) (trivial)))))))))) (S_mo_accessDoes x.1 x.2 a1 a2 a3 hp.2) (E_mo_accessDoes x.1 x.2 a1 a2 a3)
def mo_fromServer (m : mx_M) (a1 : Int32) (a2 : Int32) (a3 : Int32) (a4 : Int32) : mx_M :=
  if (mo_circuitOf m a2) < 0 then
    m
  else
    if a1 = 5 then
      let m1 := mo_sendOff m a1 4 (mo_circuitOf m a2) a2 a3 a4
      m1
    else
      if a1 = 6 then
        let m2 := mo_sendOff m a1 4 (mo_circuitOf m a2) a2 a3 a4
        m2
      else
        if a1 = 8 then
          let m3 := mo_sendOff m a1 4 (mo_circuitOf m a2) a2 a3 a4
          m3
        else
          if a1 = 11 then
            let m4 := mo_sendOff m a1 4 (mo_circuitOf m a2) a2 a3 a4
            m4
          else
            m
def K_mo_fromServer : rx_K mx := k_RIIII (fun a0 a1 a2 a3 a4 c m => (a0 = 82, (c, mo_fromServer m a1 a2 a3 a4), none))
def L_mo_fromServer : List (rx_E mx) := [
  (0, .aload_n 0, 1, 0, 0, 0, [], kno),
  (1, .iload_n 2, 1, 0, 2, 0, [], kno),
  (2, .invokevirtual 168, 3, 7, 2, 0, [], K_mo_circuitOf),
  (5, .istore 5, 2, 0, 5, 0, [], kno),
  (7, .iload 5, 2, 0, 5, 0, [], kno),
  (9, .ifCond .lt 38, 3, 2, 26, 0, [], kno),
  (12, .iload_n 1, 1, 0, 1, 0, [], kno),
  (13, .iconst 5, 1, 0, 0, 5, [], kno),
  (14, .if_icmp .eq 21, 3, 2, 18, 0, [], kno),
  (17, .iload_n 1, 1, 0, 1, 0, [], kno),
  (18, .bipush 6, 2, 0, 0, 6, [], kno),
  (20, .if_icmp .eq 15, 3, 2, 18, 0, [], kno),
  (23, .iload_n 1, 1, 0, 1, 0, [], kno),
  (24, .bipush 8, 2, 0, 0, 8, [], kno),
  (26, .if_icmp .eq 9, 3, 2, 18, 0, [], kno),
  (29, .iload_n 1, 1, 0, 1, 0, [], kno),
  (30, .bipush 11, 2, 0, 0, 11, [], kno),
  (32, .if_icmp .ne 15, 3, 2, 26, 0, [], kno),
  (35, .aload_n 0, 1, 0, 0, 0, [], kno),
  (36, .iload_n 1, 1, 0, 1, 0, [], kno),
  (37, .iconst 4, 1, 0, 0, 4, [], kno),
  (38, .iload 5, 2, 0, 5, 0, [], kno),
  (40, .iload_n 2, 1, 0, 2, 0, [], kno),
  (41, .iload_n 3, 1, 0, 3, 0, [], kno),
  (42, .iload 4, 2, 0, 4, 0, [], kno),
  (44, .invokevirtual 138, 3, 7, 7, 0, [], K_mo_sendOff),
  (47, .return_, 1, 6, 0, 0, [], kno)]
theorem E_mo_fromServer (c : mx_C) (m : mx_M) (a1 : Int32) (a2 : Int32) (a3 : Int32) (a4 : Int32)  : rx_ev L_mo_fromServer [] 29 L_mo_fromServer (c, m) [some (.ref 82), some (.int a1), some (.int a2), some (.int a3), some (.int a4), none] [] = ry_v c (mo_fromServer m a1 a2 a3 a4) :=
  rx_ite2 (f := ry_v c) (fun h0 => rfl) (fun h0 => rx_ite2 (f := ry_v c) (fun h1 => rfl) (fun h1 => rx_ite2 (f := ry_v c) (fun h2 => rfl) (fun h2 => rx_ite2 (f := ry_v c) (fun h3 => rfl) (fun h3 => rx_ite2 (f := ry_v c) (fun h4 => rfl) (fun h4 => rfl)))))
theorem S_mo_fromServer (c : mx_C) (m : mx_M) (a1 : Int32) (a2 : Int32) (a3 : Int32) (a4 : Int32)  : rx_sf L_mo_fromServer [] 29 L_mo_fromServer (c, m) [some (.ref 82), some (.int a1), some (.int a2), some (.int a3), some (.int a4), none] [] :=
  And.intro rfl (And.intro (fun h0 => trivial) (fun h0 => And.intro (fun h1 => And.intro rfl (trivial)) (fun h1 => And.intro (fun h2 => And.intro rfl (trivial)) (fun h2 => And.intro (fun h3 => And.intro rfl (trivial)) (fun h3 => And.intro (fun h4 => And.intro rfl (trivial)) (fun h4 => trivial))))))

theorem ok_mo_fromServer : rx_okF prog_12_method_18_code 6 none L_mo_fromServer 0 L_mo_fromServer = true := by decide +kernel
theorem V_mo_fromServer {l : Launch} {D : va_G} {g : Nat → ClassId} {ad : Nat → Nat} {B : Nat} (had : mx_A ad B) : rx_V l D g ad B ⟨"SubscriberLinesModel", "fromServer", "(IIII)V"⟩ prog_12_method_18_code 6 none 2 54 K_mo_fromServer := by
  intro av x hp
  obtain ⟨a0, a1, a2, a3, a4, rfl⟩ := k_RIIII_inv hp
  have hp : a0 = 82 := hp
  have h0 : a0 = 82 := hp
  subst h0
  exact rx_met (k := 1) had (by decide) (Nat.le_of_ble_eq_true rfl) ok_mo_fromServer rfl rfl 29 (fun p e s m args below meth c X => And.intro (cv_mo_circuitOf X (V_mo_circuitOf had) (al_at 898 (by decide +kernel) rfl) ⟨by decide, by decide⟩) (And.intro (cv_mo_sendOff X (V_mo_sendOff had) (al_at 858 (by decide +kernel) rfl) ⟨by decide, by decide⟩) (trivial))) (S_mo_fromServer x.1 x.2 a1 a2 a3 a4 ) (E_mo_fromServer x.1 x.2 a1 a2 a3 a4)
def mo_fromSubscriber (m : mx_M) (a1 : Int32) (a2 : Int32) (a3 : Int32) (a4 : Int32) (a5 : Int32) : mx_M :=
  if a2 = 1 then
    let m1 := mo_join m a1
    m1
  else
    if (m.1 96 (Int32.toNatClampNeg a1)) = 0 then
      m
    else
      if (m.1 96 (Int32.toNatClampNeg a1)) = a3 then
        if a2 = 3 then
          let m2 := mo_takeDown m a1
          m2
        else
          if 0 < (m.1 97 (Int32.toNatClampNeg a1)) then
            if a2 = 4 then
              let m3 := mo_sendOff m a2 4 5 (m.1 97 (Int32.toNatClampNeg a1)) a4 a5
              m3
            else
              if a2 = 7 then
                let m4 := mo_sendOff m a2 4 5 (m.1 97 (Int32.toNatClampNeg a1)) a4 a5
                m4
              else
                if a2 = 9 then
                  let m5 := mo_sendOff m a2 4 5 (m.1 97 (Int32.toNatClampNeg a1)) a4 a5
                  m5
                else
                  if a2 = 10 then
                    let m6 := mo_sendOff m a2 4 5 (m.1 97 (Int32.toNatClampNeg a1)) a4 a5
                    m6
                  else
                    m
          else
            m
      else
        m
def K_mo_fromSubscriber : rx_K mx := k_RIIIII (fun a0 a1 a2 a3 a4 a5 c m => (a0 = 82 ∧ mo_j m 1397 a1, (c, mo_fromSubscriber m a1 a2 a3 a4 a5), none))
def L_mo_fromSubscriber : List (rx_E mx) := [
  (0, .iload_n 2, 1, 0, 2, 0, [], kno),
  (1, .iconst 1, 1, 0, 0, 1, [], kno),
  (2, .if_icmp .ne 9, 3, 2, 7, 0, [], kno),
  (5, .aload_n 0, 1, 0, 0, 0, [], kno),
  (6, .iload_n 1, 1, 0, 1, 0, [], kno),
  (7, .invokevirtual 165, 3, 7, 2, 0, [], K_mo_join),
  (10, .return_, 1, 6, 0, 0, [], kno),
  (11, .aload_n 0, 1, 0, 0, 0, [], kno),
  (12, .getfield 50, 3, 7, 1, 0, [], mgr 96),
  (15, .iload_n 1, 1, 0, 1, 0, [], kno),
  (16, .iaload, 1, 7, 2, 0, [], mai),
  (17, .ifCond .eq 13, 3, 2, 18, 0, [], kno),
  (20, .aload_n 0, 1, 0, 0, 0, [], kno),
  (21, .getfield 50, 3, 7, 1, 0, [], mgr 96),
  (24, .iload_n 1, 1, 0, 1, 0, [], kno),
  (25, .iaload, 1, 7, 2, 0, [], mai),
  (26, .iload_n 3, 1, 0, 3, 0, [], kno),
  (27, .if_icmp .eq 4, 3, 2, 19, 0, [], kno),
  (30, .return_, 1, 6, 0, 0, [], kno),
  (31, .iload_n 2, 1, 0, 2, 0, [], kno),
  (32, .iconst 3, 1, 0, 0, 3, [], kno),
  (33, .if_icmp .ne 11, 3, 2, 26, 0, [], kno),
  (36, .aload_n 0, 1, 0, 0, 0, [], kno),
  (37, .iload_n 1, 1, 0, 1, 0, [], kno),
  (38, .invokevirtual 153, 3, 7, 2, 0, [], K_mo_takeDown),
  (41, .goto 52, 3, 1, 54, 0, [], kno),
  (44, .aload_n 0, 1, 0, 0, 0, [], kno),
  (45, .getfield 53, 3, 7, 1, 0, [], mgr 97),
  (48, .iload_n 1, 1, 0, 1, 0, [], kno),
  (49, .iaload, 1, 7, 2, 0, [], mai),
  (50, .ifCond .le 43, 3, 2, 54, 0, [], kno),
  (53, .iload_n 2, 1, 0, 2, 0, [], kno),
  (54, .iconst 4, 1, 0, 0, 4, [], kno),
  (55, .if_icmp .eq 21, 3, 2, 43, 0, [], kno),
  (58, .iload_n 2, 1, 0, 2, 0, [], kno),
  (59, .bipush 7, 2, 0, 0, 7, [], kno),
  (61, .if_icmp .eq 15, 3, 2, 43, 0, [], kno),
  (64, .iload_n 2, 1, 0, 2, 0, [], kno),
  (65, .bipush 9, 2, 0, 0, 9, [], kno),
  (67, .if_icmp .eq 9, 3, 2, 43, 0, [], kno),
  (70, .iload_n 2, 1, 0, 2, 0, [], kno),
  (71, .bipush 10, 2, 0, 0, 10, [], kno),
  (73, .if_icmp .ne 20, 3, 2, 54, 0, [], kno),
  (76, .aload_n 0, 1, 0, 0, 0, [], kno),
  (77, .iload_n 2, 1, 0, 2, 0, [], kno),
  (78, .iconst 4, 1, 0, 0, 4, [], kno),
  (79, .iconst 5, 1, 0, 0, 5, [], kno),
  (80, .aload_n 0, 1, 0, 0, 0, [], kno),
  (81, .getfield 53, 3, 7, 1, 0, [], mgr 97),
  (84, .iload_n 1, 1, 0, 1, 0, [], kno),
  (85, .iaload, 1, 7, 2, 0, [], mai),
  (86, .iload 4, 2, 0, 4, 0, [], kno),
  (88, .iload 5, 2, 0, 5, 0, [], kno),
  (90, .invokevirtual 138, 3, 7, 7, 0, [], K_mo_sendOff),
  (93, .return_, 1, 6, 0, 0, [], kno)]
theorem E_mo_fromSubscriber (c : mx_C) (m : mx_M) (a1 : Int32) (a2 : Int32) (a3 : Int32) (a4 : Int32) (a5 : Int32)  : rx_ev L_mo_fromSubscriber [] 57 L_mo_fromSubscriber (c, m) [some (.ref 82), some (.int a1), some (.int a2), some (.int a3), some (.int a4), some (.int a5)] [] = ry_v c (mo_fromSubscriber m a1 a2 a3 a4 a5) :=
  rx_ite2 (f := ry_v c) (fun h0 => rfl) (fun h0 => rx_ite2 (f := ry_v c) (fun h1 => rfl) (fun h1 => rx_ite2 (f := ry_v c) (fun h2 => rx_ite2 (f := ry_v c) (fun h3 => rfl) (fun h3 => rx_ite2 (f := ry_v c) (fun h4 => rx_ite2 (f := ry_v c) (fun h5 => rfl) (fun h5 => rx_ite2 (f := ry_v c) (fun h6 => rfl) (fun h6 => rx_ite2 (f := ry_v c) (fun h7 => rfl) (fun h7 => rx_ite2 (f := ry_v c) (fun h8 => rfl) (fun h8 => rfl))))) (fun h4 => rfl))) (fun h2 => rfl)))
theorem S_mo_fromSubscriber (c : mx_C) (m : mx_M) (a1 : Int32) (a2 : Int32) (a3 : Int32) (a4 : Int32) (a5 : Int32) (hj : mo_j m 1397 a1) : rx_sf L_mo_fromSubscriber [] 57 L_mo_fromSubscriber (c, m) [some (.ref 82), some (.int a1), some (.int a2), some (.int a3), some (.int a4), some (.int a5)] [] :=
  And.intro (fun h0 => And.intro (And.intro rfl hj) (trivial)) (fun h0 => And.intro rfl (And.intro hj.1 (And.intro (fun h1 => trivial) (fun h1 => And.intro rfl (And.intro hj.1 (And.intro (fun h2 => And.intro (fun h3 => And.intro (And.intro rfl (And.intro hj.1 (mo_b_mono hj.2 (by decide)))) (trivial)) (fun h3 => And.intro rfl (And.intro hj.1 (And.intro (fun h4 => And.intro (fun h5 => And.intro rfl (And.intro hj.1 (And.intro rfl (trivial)))) (fun h5 => And.intro (fun h6 => And.intro rfl (And.intro hj.1 (And.intro rfl (trivial)))) (fun h6 => And.intro (fun h7 => And.intro rfl (And.intro hj.1 (And.intro rfl (trivial)))) (fun h7 => And.intro (fun h8 => And.intro rfl (And.intro hj.1 (And.intro rfl (trivial)))) (fun h8 => trivial))))) (fun h4 => trivial))))) (fun h2 => trivial)))))))

theorem cv_mo_join {p : Program} {l : Launch} {e : Env} {R : Room} {s : State} {m : MethodId} {args : Array Value} {below : List Frame} {meth : Method} {c : Code} {cc : ByteArray} {nL : Nat} {ad : Nat → Nat} {D : va_G} {g : Nat → ClassId} {B : Nat} {own : String} {idx : Nat} (X : ox_C p s m args c cc nL own D g ad B) (hV : rx_V l D g ad B ⟨"SubscriberLinesModel", "join", "(I)V"⟩ prog_12_method_15_code 2 none 5 120 K_mo_join) (hl : Cond.methodLink own idx ⟨"SubscriberLinesModel", "join", "(I)V"⟩ ∈ al) (hR : 5 + 1 ≤ R.frames ∧ 8 + (2 + 11) + 120 ≤ R.locals) : rx_OK p l e R s m args below meth c cc nL ad (mx_W D g ad B s.heap) mx_cs (.invokevirtual idx) 3 2 (K_mo_join) :=
  ox_callV (q := 9) (T := T_9) X hV (fun av x h => by obtain ⟨a0, a1, rfl⟩ := k_RI_inv h; exact ⟨a0, _, rfl, by have h2 : a0 = 82 := h.1; rw [h2]; rfl⟩) (by decide) rfl hl (al_at 939 (by decide +kernel) rfl) (al_pr (y := (⟨"SubscriberLinesModel", "join", "(I)V"⟩, _)) 55 rfl) (al_at 12 (by decide +kernel) rfl) (al_at 940 (by decide +kernel) rfl) ⟨by decide, by decide, by decide +kernel⟩ hR
theorem ok_mo_fromSubscriber : rx_okF prog_12_method_16_code 6 none L_mo_fromSubscriber 0 L_mo_fromSubscriber = true := by decide +kernel
theorem V_mo_fromSubscriber {l : Launch} {D : va_G} {g : Nat → ClassId} {ad : Nat → Nat} {B : Nat} (had : mx_A ad B) : rx_V l D g ad B ⟨"SubscriberLinesModel", "fromSubscriber", "(IIIII)V"⟩ prog_12_method_16_code 6 none 6 141 K_mo_fromSubscriber := by
  intro av x hp
  obtain ⟨a0, a1, a2, a3, a4, a5, rfl⟩ := k_RIIIII_inv hp
  have hp : a0 = 82 ∧ mo_j x.2 1397 a1 := hp
  have h0 : a0 = 82 := hp.1
  subst h0
  exact rx_met (k := 0) had (by decide) (Nat.le_of_ble_eq_true rfl) ok_mo_fromSubscriber rfl rfl 57 (fun p e s m args below meth c X => And.intro (cv_mo_join X (V_mo_join had) (al_at 937 (by decide +kernel) rfl) ⟨by decide, by decide⟩) (And.intro (og_mo_50_g X) (And.intro (oy_ai X) (And.intro (og_mo_50_g X) (And.intro (oy_ai X) (And.intro (cv_mo_takeDown X (V_mo_takeDown had) (al_at 941 (by decide +kernel) rfl) ⟨by decide, by decide⟩) (And.intro (og_mo_53_g X) (And.intro (oy_ai X) (And.intro (og_mo_53_g X) (And.intro (oy_ai X) (And.intro (cv_mo_sendOff X (V_mo_sendOff had) (al_at 858 (by decide +kernel) rfl) ⟨by decide, by decide⟩) (trivial)))))))))))) (S_mo_fromSubscriber x.1 x.2 a1 a2 a3 a4 a5 hp.2) (E_mo_fromSubscriber x.1 x.2 a1 a2 a3 a4 a5)
def mo_accessTimer (m : mx_M)  : mx_M :=
  let m1 := mo_endTimer m 0
  if 0 < (m1.1 106 0) then
    if (m1.1 109 0) = (m1.1 107 0) then
      let m2 := my_pi m1 82 17 ((m1.1 82 17) + 1)
      if (m2.1 82 17) = 10 then
        let m3 := mo_say m2 0 16 0 0
        let m4 := my_pi m3 82 17 0
        m4
      else
        m2
    else
      let m5 := my_pi m1 82 17 0
      m5
  else
    let m6 := my_pi m1 82 17 0
    m6
def K_mo_accessTimer : rx_K mx := k_R (fun a0 c m => (a0 = 82 ∧ mo_b m 1399, (c, mo_accessTimer m), none))
def L_mo_accessTimer : List (rx_E mx) := [
  (0, .aload_n 0, 1, 0, 0, 0, [], kno),
  (1, .iconst 0, 1, 0, 0, 0, [], kno),
  (2, .invokevirtual 172, 3, 7, 2, 0, [], K_mo_endTimer),
  (5, .aload_n 0, 1, 0, 0, 0, [], kno),
  (6, .aload_n 0, 1, 0, 0, 0, [], kno),
  (7, .getfield 80, 3, 7, 1, 0, [], mgr 106),
  (10, .iconst 0, 1, 0, 0, 0, [], kno),
  (11, .iaload, 1, 7, 2, 0, [], mai),
  (12, .ifCond .le 27, 3, 2, 23, 0, [], kno),
  (15, .aload_n 0, 1, 0, 0, 0, [], kno),
  (16, .getfield 89, 3, 7, 1, 0, [], mgr 109),
  (19, .iconst 0, 1, 0, 0, 0, [], kno),
  (20, .iaload, 1, 7, 2, 0, [], mai),
  (21, .aload_n 0, 1, 0, 0, 0, [], kno),
  (22, .getfield 83, 3, 7, 1, 0, [], mgr 107),
  (25, .iconst 0, 1, 0, 0, 0, [], kno),
  (26, .iaload, 1, 7, 2, 0, [], mai),
  (27, .if_icmp .ne 12, 3, 2, 23, 0, [], kno),
  (30, .aload_n 0, 1, 0, 0, 0, [], kno),
  (31, .getfield 162, 3, 7, 1, 0, [], mgi 17),
  (34, .iconst 1, 1, 0, 0, 1, [], kno),
  (35, .iadd, 1, 0, 0, 0, [], kno),
  (36, .goto 4, 3, 1, 24, 0, [], kno),
  (39, .iconst 0, 1, 0, 0, 0, [], kno),
  (40, .putfield 162, 3, 7, 2, 0, [], mpi 17),
  (43, .aload_n 0, 1, 0, 0, 0, [], kno),
  (44, .getfield 162, 3, 7, 1, 0, [], mgi 17),
  (47, .bipush 10, 2, 0, 0, 10, [], kno),
  (49, .if_icmp .ne 17, 3, 2, 38, 0, [], kno),
  (52, .aload_n 0, 1, 0, 0, 0, [], kno),
  (53, .iconst 0, 1, 0, 0, 0, [], kno),
  (54, .bipush 16, 2, 0, 0, 16, [], kno),
  (56, .iconst 0, 1, 0, 0, 0, [], kno),
  (57, .iconst 0, 1, 0, 0, 0, [], kno),
  (58, .invokevirtual 149, 3, 7, 5, 0, [], K_mo_say),
  (61, .aload_n 0, 1, 0, 0, 0, [], kno),
  (62, .iconst 0, 1, 0, 0, 0, [], kno),
  (63, .putfield 162, 3, 7, 2, 0, [], mpi 17),
  (66, .return_, 1, 6, 0, 0, [], kno)]
theorem E_mo_accessTimer (c : mx_C) (m : mx_M)   : rx_ev L_mo_accessTimer [] 41 L_mo_accessTimer (c, m) [some (.ref 82)] [] = ry_v c (mo_accessTimer m) :=
  rx_ite2 (f := ry_v c) (fun h0 => rx_ite2 (f := ry_v c) (fun h1 => rx_ite2 (f := ry_v c) (fun h2 => rfl) (fun h2 => rfl)) (fun h1 => rfl)) (fun h0 => rfl)
theorem S_mo_accessTimer (c : mx_C) (m : mx_M)  (hb : mo_b m 1399) : rx_sf L_mo_accessTimer [] 41 L_mo_accessTimer (c, m) [some (.ref 82)] [] :=
  And.intro (And.intro rfl (mo_b_et hb (by decide) (i_in.mpr (by decide)))) (And.intro rfl (And.intro (i_in.mpr (by decide)) (And.intro (fun h0 => And.intro rfl (And.intro (i_in.mpr (by decide)) (And.intro rfl (And.intro (i_in.mpr (by decide)) (And.intro (fun h1 => And.intro rfl (And.intro rfl (And.intro rfl (And.intro (fun h2 => And.intro (And.intro rfl (mo_b_sy (k := 1399) (mo_b_pi (by decide) (mo_b_endTimer hb (by decide))) (by decide) (i_in.mpr (by decide)))) (And.intro rfl (trivial))) (fun h2 => trivial))))) (fun h1 => And.intro rfl (And.intro rfl (And.intro (fun h => absurd h (by decide : ¬ ((0 : Int32) = 10))) (fun _ => trivial))))))))) (fun h0 => And.intro rfl (And.intro rfl (And.intro (fun h => absurd h (by decide : ¬ ((0 : Int32) = 10))) (fun _ => trivial)))))))

theorem cv_mo_endTimer {p : Program} {l : Launch} {e : Env} {R : Room} {s : State} {m : MethodId} {args : Array Value} {below : List Frame} {meth : Method} {c : Code} {cc : ByteArray} {nL : Nat} {ad : Nat → Nat} {D : va_G} {g : Nat → ClassId} {B : Nat} {own : String} {idx : Nat} (X : ox_C p s m args c cc nL own D g ad B) (hV : rx_V l D g ad B ⟨"SubscriberLinesModel", "endTimer", "(I)V"⟩ prog_12_method_10_code 2 none 3 76 K_mo_endTimer) (hl : Cond.methodLink own idx ⟨"SubscriberLinesModel", "endTimer", "(I)V"⟩ ∈ al) (hR : 3 + 1 ≤ R.frames ∧ 8 + (2 + 11) + 76 ≤ R.locals) : rx_OK p l e R s m args below meth c cc nL ad (mx_W D g ad B s.heap) mx_cs (.invokevirtual idx) 3 2 (K_mo_endTimer) :=
  ox_callV (q := 9) (T := T_9) X hV (fun av x h => by obtain ⟨a0, a1, rfl⟩ := k_RI_inv h; exact ⟨a0, _, rfl, by have h2 : a0 = 82 := h.1; rw [h2]; rfl⟩) (by decide) rfl hl (al_at 959 (by decide +kernel) rfl) (al_pr (y := (⟨"SubscriberLinesModel", "endTimer", "(I)V"⟩, _)) 60 rfl) (al_at 12 (by decide +kernel) rfl) (al_at 960 (by decide +kernel) rfl) ⟨by decide, by decide, by decide +kernel⟩ hR
theorem og_mo_162_g {p : Program} {l : Launch} {e : Env} {R : Room} {s : State} {m : MethodId} {args : Array Value} {below : List Frame} {meth : Method} {c : Code} {cc : ByteArray} {nL : Nat} {ad : Nat → Nat} {D : va_G} {g : Nat → ClassId} {B : Nat} (X : ox_C p s m args c cc nL "SubscriberLinesModel" D g ad B) : rx_OK p l e R s m args below meth c cc nL ad (mx_W D g ad B s.heap) mx_cs (.getfield 162) 3 1 (mgi 17) := oy_gi X (by decide) rfl (al_at 728 (by decide +kernel) rfl)
theorem ok_mo_accessTimer : rx_okF prog_12_method_19_code 1 none L_mo_accessTimer 0 L_mo_accessTimer = true := by decide +kernel
theorem V_mo_accessTimer {l : Launch} {D : va_G} {g : Nat → ClassId} {ad : Nat → Nat} {B : Nat} (had : mx_A ad B) : rx_V l D g ad B ⟨"SubscriberLinesModel", "accessTimer", "()V"⟩ prog_12_method_19_code 1 none 4 98 K_mo_accessTimer := by
  intro av x hp
  obtain ⟨a0, rfl⟩ := k_R_inv hp
  have hp : a0 = 82 ∧ mo_b x.2 1399 := hp
  have h0 : a0 = 82 := hp.1
  subst h0
  exact rx_met (k := 0) had (by decide) (Nat.le_of_ble_eq_true rfl) ok_mo_accessTimer rfl rfl 41 (fun p e s m args below meth c X => And.intro (cv_mo_endTimer X (V_mo_endTimer had) (al_at 957 (by decide +kernel) rfl) ⟨by decide, by decide⟩) (And.intro (og_mo_80_g X) (And.intro (oy_ai X) (And.intro (og_mo_89_g X) (And.intro (oy_ai X) (And.intro (og_mo_83_g X) (And.intro (oy_ai X) (And.intro (og_mo_162_g X) (And.intro (og_mo_162_p X) (And.intro (og_mo_162_g X) (And.intro (cv_mo_say X (V_mo_say had) (al_at 902 (by decide +kernel) rfl) ⟨by decide, by decide⟩) (And.intro (og_mo_162_p X) (trivial))))))))))))) (S_mo_accessTimer x.1 x.2  hp.2) (E_mo_accessTimer x.1 x.2 )
def mo_serverDoes (m : mx_M) (a1 : Int32) (a2 : Int32) : mx_M :=
  if a1 = 15 then
    if (mo_sessionOf m a2) < 0 then
      if a1 = 13 then
        if (Int32.ofNat m.2.2.val) = 4 then
          let m1 := mo_say m 1 15 a2 0
          m1
        else
          let m2 := my_pi m 82 29 ((m.1 82 29) + 1)
          let m3 := my_pi m2 98 (Int32.toNatClampNeg (Int32.ofNat m2.2.2.val)) (m2.1 82 29)
          let m4 := my_pi m3 99 (Int32.toNatClampNeg (Int32.ofNat m3.2.2.val)) a2
          let m5 := my_pi m4 100 (Int32.toNatClampNeg (Int32.ofNat m4.2.2.val)) 1
          let m6 := my_pi m5 101 (Int32.toNatClampNeg (Int32.ofNat m5.2.2.val)) 0
          let m7 := my_pi m6 102 (Int32.toNatClampNeg (Int32.ofNat m6.2.2.val)) 0
          let m8 := my_ps m7 ((Int32.ofNat m7.2.2.val) + 1)
          let m9 := mo_say m8 1 14 a2 (m8.1 82 29)
          m9
      else
        m
    else
      let m10 := mo_endSession m (mo_sessionOf m a2)
      if a1 = 13 then
        if (Int32.ofNat m10.2.2.val) = 4 then
          let m11 := mo_say m10 1 15 a2 0
          m11
        else
          let m12 := my_pi m10 82 29 ((m10.1 82 29) + 1)
          let m13 := my_pi m12 98 (Int32.toNatClampNeg (Int32.ofNat m12.2.2.val)) (m12.1 82 29)
          let m14 := my_pi m13 99 (Int32.toNatClampNeg (Int32.ofNat m13.2.2.val)) a2
          let m15 := my_pi m14 100 (Int32.toNatClampNeg (Int32.ofNat m14.2.2.val)) 1
          let m16 := my_pi m15 101 (Int32.toNatClampNeg (Int32.ofNat m15.2.2.val)) 0
          let m17 := my_pi m16 102 (Int32.toNatClampNeg (Int32.ofNat m16.2.2.val)) 0
          let m18 := my_ps m17 ((Int32.ofNat m17.2.2.val) + 1)
          let m19 := mo_say m18 1 14 a2 (m18.1 82 29)
          m19
      else
        m10
  else
    if a1 = 13 then
      if (Int32.ofNat m.2.2.val) = 4 then
        let m20 := mo_say m 1 15 a2 0
        m20
      else
        let m21 := my_pi m 82 29 ((m.1 82 29) + 1)
        let m22 := my_pi m21 98 (Int32.toNatClampNeg (Int32.ofNat m21.2.2.val)) (m21.1 82 29)
        let m23 := my_pi m22 99 (Int32.toNatClampNeg (Int32.ofNat m22.2.2.val)) a2
        let m24 := my_pi m23 100 (Int32.toNatClampNeg (Int32.ofNat m23.2.2.val)) 1
        let m25 := my_pi m24 101 (Int32.toNatClampNeg (Int32.ofNat m24.2.2.val)) 0
        let m26 := my_pi m25 102 (Int32.toNatClampNeg (Int32.ofNat m25.2.2.val)) 0
        let m27 := my_ps m26 ((Int32.ofNat m26.2.2.val) + 1)
        let m28 := mo_say m27 1 14 a2 (m27.1 82 29)
        m28
    else
      m
def K_mo_serverDoes : rx_K mx := k_RII (fun a0 a1 a2 c m => (a0 = 82 ∧ mo_b m 1399, (c, mo_serverDoes m a1 a2), none))
def L_mo_serverDoes : List (rx_E mx) := [
  (0, .iload_n 1, 1, 0, 1, 0, [], kno),
  (1, .bipush 15, 2, 0, 0, 15, [], kno),
  (3, .if_icmp .ne 18, 3, 2, 12, 0, [], kno),
  (6, .aload_n 0, 1, 0, 0, 0, [], kno),
  (7, .iload_n 2, 1, 0, 2, 0, [], kno),
  (8, .invokevirtual 175, 3, 7, 2, 0, [], K_mo_sessionOf),
  (11, .istore_n 3, 1, 0, 3, 0, [], kno),
  (12, .iload_n 3, 1, 0, 3, 0, [], kno),
  (13, .ifCond .lt 8, 3, 2, 12, 0, [], kno),
  (16, .aload_n 0, 1, 0, 0, 0, [], kno),
  (17, .iload_n 3, 1, 0, 3, 0, [], kno),
  (18, .invokevirtual 178, 3, 7, 2, 0, [], K_mo_endSession),
  (21, .iload_n 1, 1, 0, 1, 0, [], kno),
  (22, .bipush 13, 2, 0, 0, 13, [], kno),
  (24, .if_icmp .eq 4, 3, 2, 16, 0, [], kno),
  (27, .return_, 1, 6, 0, 0, [], kno),
  (28, .aload_n 0, 1, 0, 0, 0, [], kno),
  (29, .getfield 135, 3, 7, 1, 0, [], mgs),
  (32, .iconst 4, 1, 0, 0, 4, [], kno),
  (33, .if_icmp .ne 13, 3, 2, 27, 0, [], kno),
  (36, .aload_n 0, 1, 0, 0, 0, [], kno),
  (37, .iconst 1, 1, 0, 0, 1, [], kno),
  (38, .bipush 15, 2, 0, 0, 15, [], kno),
  (40, .iload_n 2, 1, 0, 2, 0, [], kno),
  (41, .iconst 0, 1, 0, 0, 0, [], kno),
  (42, .invokevirtual 149, 3, 7, 5, 0, [], K_mo_say),
  (45, .return_, 1, 6, 0, 0, [], kno),
  (46, .aload_n 0, 1, 0, 0, 0, [], kno),
  (47, .dup, 1, 0, 0, 0, [], kno),
  (48, .getfield 181, 3, 7, 1, 0, [], mgi 29),
  (51, .iconst 1, 1, 0, 0, 1, [], kno),
  (52, .iadd, 1, 0, 0, 0, [], kno),
  (53, .putfield 181, 3, 7, 2, 0, [], mpi 29),
  (56, .aload_n 0, 1, 0, 0, 0, [], kno),
  (57, .getfield 56, 3, 7, 1, 0, [], mgr 98),
  (60, .aload_n 0, 1, 0, 0, 0, [], kno),
  (61, .getfield 135, 3, 7, 1, 0, [], mgs),
  (64, .aload_n 0, 1, 0, 0, 0, [], kno),
  (65, .getfield 181, 3, 7, 1, 0, [], mgi 29),
  (68, .iastore, 1, 7, 3, 0, [], mpa),
  (69, .aload_n 0, 1, 0, 0, 0, [], kno),
  (70, .getfield 59, 3, 7, 1, 0, [], mgr 99),
  (73, .aload_n 0, 1, 0, 0, 0, [], kno),
  (74, .getfield 135, 3, 7, 1, 0, [], mgs),
  (77, .iload_n 2, 1, 0, 2, 0, [], kno),
  (78, .iastore, 1, 7, 3, 0, [], mpa),
  (79, .aload_n 0, 1, 0, 0, 0, [], kno),
  (80, .getfield 62, 3, 7, 1, 0, [], mgr 100),
  (83, .aload_n 0, 1, 0, 0, 0, [], kno),
  (84, .getfield 135, 3, 7, 1, 0, [], mgs),
  (87, .iconst 1, 1, 0, 0, 1, [], kno),
  (88, .iastore, 1, 7, 3, 0, [], mpa),
  (89, .aload_n 0, 1, 0, 0, 0, [], kno),
  (90, .getfield 65, 3, 7, 1, 0, [], mgr 101),
  (93, .aload_n 0, 1, 0, 0, 0, [], kno),
  (94, .getfield 135, 3, 7, 1, 0, [], mgs),
  (97, .iconst 0, 1, 0, 0, 0, [], kno),
  (98, .iastore, 1, 7, 3, 0, [], mpa),
  (99, .aload_n 0, 1, 0, 0, 0, [], kno),
  (100, .getfield 68, 3, 7, 1, 0, [], mgr 102),
  (103, .aload_n 0, 1, 0, 0, 0, [], kno),
  (104, .getfield 135, 3, 7, 1, 0, [], mgs),
  (107, .iconst 0, 1, 0, 0, 0, [], kno),
  (108, .iastore, 1, 7, 3, 0, [], mpa),
  (109, .aload_n 0, 1, 0, 0, 0, [], kno),
  (110, .dup, 1, 0, 0, 0, [], kno),
  (111, .getfield 135, 3, 7, 1, 0, [], mgs),
  (114, .iconst 1, 1, 0, 0, 1, [], kno),
  (115, .iadd, 1, 0, 0, 0, [], kno),
  (116, .putfield 135, 3, 7, 2, 0, [], mps),
  (119, .aload_n 0, 1, 0, 0, 0, [], kno),
  (120, .iconst 1, 1, 0, 0, 1, [], kno),
  (121, .bipush 14, 2, 0, 0, 14, [], kno),
  (123, .iload_n 2, 1, 0, 2, 0, [], kno),
  (124, .aload_n 0, 1, 0, 0, 0, [], kno),
  (125, .getfield 181, 3, 7, 1, 0, [], mgi 29),
  (128, .invokevirtual 149, 3, 7, 5, 0, [], K_mo_say),
  (131, .return_, 1, 6, 0, 0, [], kno)]
theorem E_mo_serverDoes (c : mx_C) (m : mx_M) (a1 : Int32) (a2 : Int32)  : rx_ev L_mo_serverDoes [] 80 L_mo_serverDoes (c, m) [some (.ref 82), some (.int a1), some (.int a2), none] [] = ry_v c (mo_serverDoes m a1 a2) :=
  rx_ite2 (f := ry_v c) (fun h0 => rx_ite2 (f := ry_v c) (fun h1 => rx_ite2 (f := ry_v c) (fun h2 => rx_ite2 (f := ry_v c) (fun h3 => rfl) (fun h3 => rfl)) (fun h2 => rfl)) (fun h1 => rx_ite2 (f := ry_v c) (fun h2 => rx_ite2 (f := ry_v c) (fun h3 => rfl) (fun h3 => rfl)) (fun h2 => rfl))) (fun h0 => rx_ite2 (f := ry_v c) (fun h1 => rx_ite2 (f := ry_v c) (fun h2 => rfl) (fun h2 => rfl)) (fun h1 => rfl))
theorem S_mo_serverDoes (c : mx_C) (m : mx_M) (a1 : Int32) (a2 : Int32) (hb : mo_b m 1399) : rx_sf L_mo_serverDoes [] 80 L_mo_serverDoes (c, m) [some (.ref 82), some (.int a1), some (.int a2), none] [] :=
  And.intro (fun h0 => And.intro rfl (And.intro (fun h1 => And.intro (fun h2 => And.intro rfl (And.intro (fun h3 => And.intro (And.intro rfl (mo_b_sy (k := 1399) hb (by decide) (i_in.mpr (by decide)))) (trivial)) (fun h3 => And.intro rfl (And.intro rfl (And.intro rfl (And.intro rfl (And.intro rfl (And.intro (sc_inc (by assumption)).1 (And.intro rfl (And.intro rfl (And.intro (sc_inc (by assumption)).1 (And.intro rfl (And.intro rfl (And.intro (sc_inc (by assumption)).1 (And.intro rfl (And.intro rfl (And.intro (sc_inc (by assumption)).1 (And.intro rfl (And.intro rfl (And.intro (sc_inc (by assumption)).1 (And.intro rfl (And.intro (And.intro rfl (sc_inc (by assumption)).2) (And.intro rfl (And.intro (And.intro rfl (mo_b_sy (k := 1399) (mo_b_fz (fz_ps _ _) (mo_b_pi (by decide) (mo_b_pi (by decide) (mo_b_pi (by decide) (mo_b_pi (by decide) (mo_b_pi (by decide) (mo_b_pi (by decide) hb))))))) (by decide) (i_in.mpr (by decide)))) (trivial))))))))))))))))))))))))) (fun h2 => trivial)) (fun h1 => And.intro (And.intro rfl (mo_sess_in (by assumption))) (And.intro (fun h2 => And.intro rfl (And.intro (fun h3 => And.intro (And.intro rfl (mo_b_sy (k := 1399) (mo_b_fz (fz_endSession _ _) hb) (by decide) (i_in.mpr (by decide)))) (trivial)) (fun h3 => And.intro rfl (And.intro rfl (And.intro rfl (And.intro rfl (And.intro rfl (And.intro (sc_inc (by assumption)).1 (And.intro rfl (And.intro rfl (And.intro (sc_inc (by assumption)).1 (And.intro rfl (And.intro rfl (And.intro (sc_inc (by assumption)).1 (And.intro rfl (And.intro rfl (And.intro (sc_inc (by assumption)).1 (And.intro rfl (And.intro rfl (And.intro (sc_inc (by assumption)).1 (And.intro rfl (And.intro (And.intro rfl (sc_inc (by assumption)).2) (And.intro rfl (And.intro (And.intro rfl (mo_b_sy (k := 1399) (mo_b_fz (fz_ps _ _) (mo_b_pi (by decide) (mo_b_pi (by decide) (mo_b_pi (by decide) (mo_b_pi (by decide) (mo_b_pi (by decide) (mo_b_pi (by decide) (mo_b_fz (fz_endSession _ _) hb)))))))) (by decide) (i_in.mpr (by decide)))) (trivial))))))))))))))))))))))))) (fun h2 => trivial))))) (fun h0 => And.intro (fun h1 => And.intro rfl (And.intro (fun h2 => And.intro (And.intro rfl (mo_b_sy (k := 1399) hb (by decide) (i_in.mpr (by decide)))) (trivial)) (fun h2 => And.intro rfl (And.intro rfl (And.intro rfl (And.intro rfl (And.intro rfl (And.intro (sc_inc (by assumption)).1 (And.intro rfl (And.intro rfl (And.intro (sc_inc (by assumption)).1 (And.intro rfl (And.intro rfl (And.intro (sc_inc (by assumption)).1 (And.intro rfl (And.intro rfl (And.intro (sc_inc (by assumption)).1 (And.intro rfl (And.intro rfl (And.intro (sc_inc (by assumption)).1 (And.intro rfl (And.intro (And.intro rfl (sc_inc (by assumption)).2) (And.intro rfl (And.intro (And.intro rfl (mo_b_sy (k := 1399) (mo_b_fz (fz_ps _ _) (mo_b_pi (by decide) (mo_b_pi (by decide) (mo_b_pi (by decide) (mo_b_pi (by decide) (mo_b_pi (by decide) (mo_b_pi (by decide) hb))))))) (by decide) (i_in.mpr (by decide)))) (trivial))))))))))))))))))))))))) (fun h1 => trivial))

theorem cv_mo_sessionOf {p : Program} {l : Launch} {e : Env} {R : Room} {s : State} {m : MethodId} {args : Array Value} {below : List Frame} {meth : Method} {c : Code} {cc : ByteArray} {nL : Nat} {ad : Nat → Nat} {D : va_G} {g : Nat → ClassId} {B : Nat} {own : String} {idx : Nat} (X : ox_C p s m args c cc nL own D g ad B) (hV : rx_V l D g ad B ⟨"SubscriberLinesModel", "sessionOf", "(I)I"⟩ prog_12_method_20_code 4 (some .int) 0 0 K_mo_sessionOf) (hl : Cond.methodLink own idx ⟨"SubscriberLinesModel", "sessionOf", "(I)I"⟩ ∈ al) (hR : 0 + 1 ≤ R.frames ∧ 8 + (4 + 11) + 0 ≤ R.locals) : rx_OK p l e R s m args below meth c cc nL ad (mx_W D g ad B s.heap) mx_cs (.invokevirtual idx) 3 2 (K_mo_sessionOf) :=
  ox_callV (q := 9) (T := T_9) X hV (fun av x h => by obtain ⟨a0, a1, rfl⟩ := k_RI_inv h; exact ⟨a0, _, rfl, by have h2 : a0 = 82 := h; rw [h2]; rfl⟩) (by decide) rfl hl (al_at 912 (by decide +kernel) rfl) (al_pr (y := (⟨"SubscriberLinesModel", "sessionOf", "(I)I"⟩, _)) 49 rfl) (al_at 12 (by decide +kernel) rfl) (al_at 913 (by decide +kernel) rfl) ⟨by decide, by decide, by decide +kernel⟩ hR
theorem cv_mo_endSession {p : Program} {l : Launch} {e : Env} {R : Room} {s : State} {m : MethodId} {args : Array Value} {below : List Frame} {meth : Method} {c : Code} {cc : ByteArray} {nL : Nat} {ad : Nat → Nat} {D : va_G} {g : Nat → ClassId} {B : Nat} {own : String} {idx : Nat} (X : ox_C p s m args c cc nL own D g ad B) (hV : rx_V l D g ad B ⟨"SubscriberLinesModel", "endSession", "(I)V"⟩ prog_12_method_21_code 3 none 0 0 K_mo_endSession) (hl : Cond.methodLink own idx ⟨"SubscriberLinesModel", "endSession", "(I)V"⟩ ∈ al) (hR : 0 + 1 ≤ R.frames ∧ 8 + (3 + 11) + 0 ≤ R.locals) : rx_OK p l e R s m args below meth c cc nL ad (mx_W D g ad B s.heap) mx_cs (.invokevirtual idx) 3 2 (K_mo_endSession) :=
  ox_callV (q := 9) (T := T_9) X hV (fun av x h => by obtain ⟨a0, a1, rfl⟩ := k_RI_inv h; exact ⟨a0, _, rfl, by have h2 : a0 = 82 := h.1; rw [h2]; rfl⟩) (by decide) rfl hl (al_at 916 (by decide +kernel) rfl) (al_pr (y := (⟨"SubscriberLinesModel", "endSession", "(I)V"⟩, _)) 50 rfl) (al_at 12 (by decide +kernel) rfl) (al_at 917 (by decide +kernel) rfl) ⟨by decide, by decide, by decide +kernel⟩ hR
theorem og_mo_181_g {p : Program} {l : Launch} {e : Env} {R : Room} {s : State} {m : MethodId} {args : Array Value} {below : List Frame} {meth : Method} {c : Code} {cc : ByteArray} {nL : Nat} {ad : Nat → Nat} {D : va_G} {g : Nat → ClassId} {B : Nat} (X : ox_C p s m args c cc nL "SubscriberLinesModel" D g ad B) : rx_OK p l e R s m args below meth c cc nL ad (mx_W D g ad B s.heap) mx_cs (.getfield 181) 3 1 (mgi 29) := oy_gi X (by decide) rfl (al_at 740 (by decide +kernel) rfl)
theorem og_mo_181_p {p : Program} {l : Launch} {e : Env} {R : Room} {s : State} {m : MethodId} {args : Array Value} {below : List Frame} {meth : Method} {c : Code} {cc : ByteArray} {nL : Nat} {ad : Nat → Nat} {D : va_G} {g : Nat → ClassId} {B : Nat} (X : ox_C p s m args c cc nL "SubscriberLinesModel" D g ad B) : rx_OK p l e R s m args below meth c cc nL ad (mx_W D g ad B s.heap) mx_cs (.putfield 181) 3 2 (mpi 29) := oy_pi X (by decide) rfl rfl rfl (al_at 740 (by decide +kernel) rfl)
theorem ok_mo_serverDoes : rx_okF prog_12_method_22_code 4 none L_mo_serverDoes 0 L_mo_serverDoes = true := by decide +kernel
theorem V_mo_serverDoes {l : Launch} {D : va_G} {g : Nat → ClassId} {ad : Nat → Nat} {B : Nat} (had : mx_A ad B) : rx_V l D g ad B ⟨"SubscriberLinesModel", "serverDoes", "(II)V"⟩ prog_12_method_22_code 4 none 4 98 K_mo_serverDoes := by
  intro av x hp
  obtain ⟨a0, a1, a2, rfl⟩ := k_RII_inv hp
  have hp : a0 = 82 ∧ mo_b x.2 1399 := hp
  have h0 : a0 = 82 := hp.1
  subst h0
  exact rx_met (k := 1) had (by decide) (Nat.le_of_ble_eq_true rfl) ok_mo_serverDoes rfl rfl 80 (fun p e s m args below meth c X => And.intro (cv_mo_sessionOf X (V_mo_sessionOf had) (al_at 910 (by decide +kernel) rfl) ⟨by decide, by decide⟩) (And.intro (cv_mo_endSession X (V_mo_endSession had) (al_at 914 (by decide +kernel) rfl) ⟨by decide, by decide⟩) (And.intro (og_mo_135_g X) (And.intro (cv_mo_say X (V_mo_say had) (al_at 902 (by decide +kernel) rfl) ⟨by decide, by decide⟩) (And.intro (og_mo_181_g X) (And.intro (og_mo_181_p X) (And.intro (og_mo_56_g X) (And.intro (og_mo_135_g X) (And.intro (og_mo_181_g X) (And.intro (oy_pa X) (And.intro (og_mo_59_g X) (And.intro (og_mo_135_g X) (And.intro (oy_pa X) (And.intro (og_mo_62_g X) (And.intro (og_mo_135_g X) (And.intro (oy_pa X) (And.intro (og_mo_65_g X) (And.intro (og_mo_135_g X) (And.intro (oy_pa X) (And.intro (og_mo_68_g X) (And.intro (og_mo_135_g X) (And.intro (oy_pa X) (And.intro (og_mo_135_g X) (And.intro (og_mo_135_p X) (And.intro (og_mo_181_g X) (And.intro (cv_mo_say X (V_mo_say had) (al_at 902 (by decide +kernel) rfl) ⟨by decide, by decide⟩) (trivial))))))))))))))))))))))))))) (S_mo_serverDoes x.1 x.2 a1 a2 hp.2) (E_mo_serverDoes x.1 x.2 a1 a2)
