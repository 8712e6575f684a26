theorem mt_ini : Cond.initialized "java/lang/Math" ∈ al := al_at 10 (by decide +kernel) rfl
theorem mt_min_st : Cond.static Lib.Math.min.name ∈ al := al_at 247 (by decide +kernel) rfl
theorem mt_max_st : Cond.static Lib.Math.max.name ∈ al := al_at 250 (by decide +kernel) rfl
theorem mt_min_code : Cond.code Lib.Math.min.name Lib.Math.min.code 2 (some .int) ∈ al := al_at 248 (by decide +kernel) rfl
theorem mt_max_code : Cond.code Lib.Math.max.name Lib.Math.max.code 2 (some .int) ∈ al := al_at 251 (by decide +kernel) rfl
theorem mx_lenG_inv {tg src t : Nat} {j : Int32} (h : vp_in j (mx_lenG tg src t)) : 20 ≤ mx_kl t ∧ ¬ mx_kl t = 99 ∧ (mx_ar (mx_kl t)).1 = tg ∧ (mx_ar (mx_kl t)).2.2 = src ∧ vp_in j (mx_ar (mx_kl t)).2.1 := by
  unfold mx_lenG at h
  cases h1 : Nat.blt (mx_kl t) 20 with
  | true =>
    rw [h1, cond_true] at h
    exact absurd (Or.inr (Nat.zero_le _)) h
  | false =>
    rw [h1, cond_false] at h
    cases h2 : (Nat.beq (mx_ar (mx_kl t)).1 tg && Nat.beq (mx_ar (mx_kl t)).2.2 src) with
    | false =>
      rw [h2, cond_false] at h
      exact absurd (Or.inr (Nat.zero_le _)) h
    | true =>
      rw [h2, cond_true] at h
      rw [Bool.and_eq_true] at h2
      refine ⟨Nat.not_lt.mp fun hn => ?_, fun hn => ?_, Nat.eq_of_beq_eq_true h2.1, Nat.eq_of_beq_eq_true h2.2, h⟩
      · rw [mx_blt_t hn] at h1
        cases h1
      · rw [hn] at h
        exact absurd (Or.inr (Nat.zero_le _)) h
theorem mx_len_inv {t : Nat} (h : 0 < mx_len t) : 20 ≤ mx_kl t ∧ ¬ mx_kl t = 99 ∧ mx_len t = (mx_ar (mx_kl t)).2.1 := by
  unfold mx_len at h ⊢
  cases h1 : Nat.blt (mx_kl t) 20 with
  | true => rw [h1, cond_true] at h; omega
  | false =>
    rw [h1, cond_false] at h
    refine ⟨Nat.not_lt.mp fun hn => ?_, fun hn => ?_, rfl⟩
    · rw [mx_blt_t hn] at h1
      cases h1
    · rw [hn] at h
      exact absurd h (by decide)
theorem mx_ar_tag {t : Nat} (h1 : 20 ≤ mx_kl t) (h2 : ¬ mx_kl t = 99) : (mx_ar (mx_kl t)).1 < 6 := by
  have hi := mx_kl_lt (i := t) rfl h2
  have k : ∀ j : Fin 116, 20 ≤ mx_kl j.val → (mx_ar (mx_kl j.val)).1 < 6 := by decide +kernel
  exact k ⟨t, hi⟩ h1
section OA
variable {p : Program} {l : Launch} {e : Env} {R : Room} {s : State} {m : MethodId} {args : Array Value} {below : List Frame} {meth : Method} {c : Code} {cc : ByteArray} {nL : Nat} {ad : Nat → Nat} {D : va_G} {g : Nat → ClassId} {B : Nat} {own : String}
variable {C : String} {T : u_T} {N q k idx : Nat}
theorem oy_gi (X : ox_C p s m args c cc nL own D g ad B) (hk : k < 42) (hd : (mx_ds 9)[k]? = some (6, 0, 0)) (hl : Cond.fieldLink own idx (T_9 k).1 (T_9 k).2.1 (T_9 k).2.2.1 ∈ al) : rx_OK p l e R s m args below meth c cc nL ad (mx_W D g ad B s.heap) mx_cs (.getfield idx) 3 1 (mgi k) := by
  intro pc mem H locs lA av rest Q ha hp hW hsz hrest hdec kk
  obtain ⟨t, rfl⟩ := k_R_inv hp
  exact ow_get (q := 9) X rfl (by omega) hk in_9 hd hl rfl hp (v := .int (mem.2.1 t k)) rfl hW hdec (kk H locs hW)
theorem oy_pi (X : ox_C p s m args c cc nL own D g ad B) (hk : k < 42) (hd : (mx_ds 9)[k]? = some (6, 0, 0)) (hfin : (T_9 k).2.2.2 = false) (hint : ty_9 k = .int) (hl : Cond.fieldLink own idx (T_9 k).1 (T_9 k).2.1 (T_9 k).2.2.1 ∈ al) : rx_OK p l e R s m args below meth c cc nL ad (mx_W D g ad B s.heap) mx_cs (.putfield idx) 3 2 (mpi k) := by
  intro pc mem H locs lA av rest Q ha hp hW hsz hrest hdec kk
  obtain ⟨t, v, rfl⟩ := k_RI_inv hp
  exact ow_put (q := 9) X rfl (by omega) hk in_9 ty_9 ty_9_ok nm_9 hfin hint rfl hl rfl hp (my_set_i hp hd) hW hdec kk
theorem oy_gr {off : Nat} (X : ox_C p s m args c cc nL own D g ad B) (hk : k < 42) (hd : (mx_ds 9)[k]? = some (1, 0, off)) (hl : Cond.fieldLink own idx (T_9 k).1 (T_9 k).2.1 (T_9 k).2.2.1 ∈ al) : rx_OK p l e R s m args below meth c cc nL ad (mx_W D g ad B s.heap) mx_cs (.getfield idx) 3 1 (mgr off) := by
  intro pc mem H locs lA av rest Q ha hp hW hsz hrest hdec kk
  obtain ⟨t, rfl⟩ := k_R_inv hp
  exact ow_get (q := 9) X rfl (by omega) hk in_9 hd hl rfl hp (v := .ref off) (by show Value.ref (ad (t * 0 + off)) = Value.ref (ad off); rw [Nat.mul_zero, Nat.zero_add]) hW hdec (kk H locs hW)
theorem oy_gf (X : ox_C p s m args c cc nL own D g ad B) (hl : Cond.fieldLink own idx "SubscriberLinesModel" "flying" "I" ∈ al) : rx_OK p l e R s m args below meth c cc nL ad (mx_W D g ad B s.heap) mx_cs (.getfield idx) 3 1 mgf := by
  intro pc mem H locs lA av rest Q ha hp hW hsz hrest hdec kk
  obtain ⟨t, rfl⟩ := k_R_inv hp
  exact ow_get (q := 9) (k := 3) (T := T_9) X rfl (by omega) (by decide) in_9 rfl hl rfl hp (v := .int (Int32.ofNat mem.2.2.1.val)) rfl hW hdec (kk H locs hW)
theorem oy_gs (X : ox_C p s m args c cc nL own D g ad B) (hl : Cond.fieldLink own idx "SubscriberLinesModel" "sessions" "I" ∈ al) : rx_OK p l e R s m args below meth c cc nL ad (mx_W D g ad B s.heap) mx_cs (.getfield idx) 3 1 mgs := by
  intro pc mem H locs lA av rest Q ha hp hW hsz hrest hdec kk
  obtain ⟨t, rfl⟩ := k_R_inv hp
  exact ow_get (q := 9) (k := 18) (T := T_9) X rfl (by omega) (by decide) in_9 rfl hl rfl hp (v := .int (Int32.ofNat mem.2.2.2.val)) rfl hW hdec (kk H locs hW)
theorem oy_pf (X : ox_C p s m args c cc nL own D g ad B) (hl : Cond.fieldLink own idx "SubscriberLinesModel" "flying" "I" ∈ al) : rx_OK p l e R s m args below meth c cc nL ad (mx_W D g ad B s.heap) mx_cs (.putfield idx) 3 2 mpf := by
  intro pc mem H locs lA av rest Q ha hp hW hsz hrest hdec kk
  obtain ⟨t, v, rfl⟩ := k_RI_inv hp
  have ht : t = 82 := mx_kl_nine hp.1
  subst ht
  exact ow_put (q := 9) (k := 3) (T := T_9) X rfl (by omega) (by decide) in_9 ty_9 ty_9_ok nm_9 rfl rfl rfl hl rfl rfl (my_set_f hp.2) hW hdec kk
theorem oy_ps (X : ox_C p s m args c cc nL own D g ad B) (hl : Cond.fieldLink own idx "SubscriberLinesModel" "sessions" "I" ∈ al) : rx_OK p l e R s m args below meth c cc nL ad (mx_W D g ad B s.heap) mx_cs (.putfield idx) 3 2 mps := by
  intro pc mem H locs lA av rest Q ha hp hW hsz hrest hdec kk
  obtain ⟨t, v, rfl⟩ := k_RI_inv hp
  have ht : t = 82 := mx_kl_nine hp.1
  subst ht
  exact ow_put (q := 9) (k := 18) (T := T_9) X rfl (by omega) (by decide) in_9 ty_9 ty_9_ok nm_9 rfl rfl rfl hl rfl rfl (my_set_s hp.2) hW hdec kk
/-! arrays -/
theorem ow_arr {x : mx} {t tg src : Nat} (h1 : 20 ≤ mx_kl t) (h2 : ¬ mx_kl t = 99) (h3 : (mx_ar (mx_kl t)).1 = tg) (h4 : (mx_ar (mx_kl t)).2.2 = src) : (mx_ws g ad x)[t]? = some (ad t, .inl (g tg, (mx_ar (mx_kl t)).2.1, mx_as ad x t src)) := by
  rw [mx_ws_ar rfl h1 h2, h3, h4]
theorem ox_ai (X : ox_C p s m args c cc nL own D g ad B) : rx_OK p l e R s m args below meth c cc nL ad (mx_W D g ad B s.heap) mx_cs .iaload 1 2 kai := by
  intro pc mem H locs lA av rest Q ha hp hW hsz hrest hdec kk
  obtain ⟨t, j, rfl⟩ := k_RI_inv hp
  obtain ⟨hx, hb, -, hown, hts, htb, had⟩ := X
  obtain ⟨h1, h2, h3, h4, h5⟩ := mx_lenG_inv hp
  exact va_iald hx hb htb.1 hW.1 t 0 (ow_arr h1 h2 h3 h4) rfl h5 hdec (kk H locs hW)
theorem ox_ab (X : ox_C p s m args c cc nL own D g ad B) : rx_OK p l e R s m args below meth c cc nL ad (mx_W D g ad B s.heap) mx_cs .baload 1 2 kab := by
  intro pc mem H locs lA av rest Q ha hp hW hsz hrest hdec kk
  obtain ⟨t, j, rfl⟩ := k_RI_inv hp
  obtain ⟨hx, hb, -, hown, hts, htb, had⟩ := X
  obtain ⟨h1, h2, h3, h4, h5⟩ := mx_lenG_inv hp
  exact va_zald hx hb htb.1 hW.1 t 1 (ow_arr h1 h2 h3 h4) rfl h5 hdec (kk H locs hW)
theorem oy_ai (X : ox_C p s m args c cc nL own D g ad B) : rx_OK p l e R s m args below meth c cc nL ad (mx_W D g ad B s.heap) mx_cs .iaload 1 2 mai := by
  intro pc mem H locs lA av rest Q ha hp hW hsz hrest hdec kk
  obtain ⟨t, j, rfl⟩ := k_RI_inv hp
  obtain ⟨hx, hb, -, hown, hts, htb, had⟩ := X
  obtain ⟨h1, h2, h3, h4, h5⟩ := mx_lenG_inv hp
  exact va_iald hx hb htb.1 hW.1 t 0 (ow_arr h1 h2 h3 h4) rfl h5 hdec (kk H locs hW)
theorem oy_ab (X : ox_C p s m args c cc nL own D g ad B) : rx_OK p l e R s m args below meth c cc nL ad (mx_W D g ad B s.heap) mx_cs .baload 1 2 mab := by
  intro pc mem H locs lA av rest Q ha hp hW hsz hrest hdec kk
  obtain ⟨t, j, rfl⟩ := k_RI_inv hp
  obtain ⟨hx, hb, -, hown, hts, htb, had⟩ := X
  obtain ⟨h1, h2, h3, h4, h5⟩ := mx_lenG_inv hp
  exact va_zald hx hb htb.1 hW.1 t 1 (ow_arr h1 h2 h3 h4) rfl h5 hdec (kk H locs hW)
theorem ox_pa (X : ox_C p s m args c cc nL own D g ad B) : rx_OK p l e R s m args below meth c cc nL ad (mx_W D g ad B s.heap) mx_cs .iastore 1 3 kpa := by
  intro pc mem H locs lA av rest Q ha hp hW hsz hrest hdec kk
  obtain ⟨t, j, v, rfl⟩ := k_RII_inv hp
  obtain ⟨hx, hb, -, hown, hts, htb, had⟩ := X
  obtain ⟨h1, h2, h3, h4, h5⟩ := mx_lenG_inv hp
  refine va_iast hx hb htb.1 hW.1 (mx_D had mem) hW.2 t 0 (ow_arr h1 h2 h3 h4) rfl h5 hdec (fun H1 locs1 q1 q2 q3 => kk H1 locs1 ⟨?_, q3⟩)
  have := mx_set_a (g := g) (ad := ad) (x := mem) (v := v) (n := j.toNatClampNeg) (rfl : mx_kl t = mx_kl t) h1 h2 h4
  rw [h3] at this
  rw [this] at q1
  exact q1
theorem oy_pa (X : ox_C p s m args c cc nL own D g ad B) : rx_OK p l e R s m args below meth c cc nL ad (mx_W D g ad B s.heap) mx_cs .iastore 1 3 mpa := by
  intro pc mem H locs lA av rest Q ha hp hW hsz hrest hdec kk
  obtain ⟨t, j, v, rfl⟩ := k_RII_inv hp
  obtain ⟨hx, hb, -, hown, hts, htb, had⟩ := X
  obtain ⟨h1, h2, h3, h4, h5⟩ := mx_lenG_inv hp
  refine va_iast hx hb htb.1 hW.1 (mx_D had mem) hW.2 t 0 (ow_arr h1 h2 h3 h4) rfl h5 hdec (fun H1 locs1 q1 q2 q3 => kk H1 locs1 ⟨?_, q3⟩)
  have := my_set_a (g := g) (ad := ad) (x := mem) (v := v) (n := j.toNatClampNeg) (rfl : mx_kl t = mx_kl t) h1 h2 h4
  rw [h3] at this
  rw [this] at q1
  exact q1
theorem ox_pb (X : ox_C p s m args c cc nL own D g ad B) : rx_OK p l e R s m args below meth c cc nL ad (mx_W D g ad B s.heap) mx_cs .bastore 1 3 kpb := by
  intro pc mem H locs lA av rest Q ha hp hW hsz hrest hdec kk
  obtain ⟨t, j, v, rfl⟩ := k_RII_inv hp
  obtain ⟨hx, hb, -, hown, hts, htb, had⟩ := X
  obtain ⟨hp, hv⟩ := hp
  obtain ⟨h1, h2, h3, h4, h5⟩ := mx_lenG_inv hp
  refine va_zast hx hb htb.1 hW.1 (mx_D had mem) hW.2 t 1 (ow_arr h1 h2 h3 h4) rfl h5 hdec (fun H1 locs1 q1 q2 q3 => kk H1 locs1 ⟨?_, q3⟩)
  have hn : vp_nar .boolean v = v := by rw [hv]; rfl
  rw [hn] at q1
  have := mx_set_a (g := g) (ad := ad) (x := mem) (v := v) (n := j.toNatClampNeg) (rfl : mx_kl t = mx_kl t) h1 h2 h4
  rw [h3] at this
  rw [this] at q1
  exact q1
theorem oy_pb (X : ox_C p s m args c cc nL own D g ad B) : rx_OK p l e R s m args below meth c cc nL ad (mx_W D g ad B s.heap) mx_cs .bastore 1 3 mpb := by
  intro pc mem H locs lA av rest Q ha hp hW hsz hrest hdec kk
  obtain ⟨t, j, v, rfl⟩ := k_RII_inv hp
  obtain ⟨hx, hb, -, hown, hts, htb, had⟩ := X
  obtain ⟨hp, hv⟩ := hp
  obtain ⟨h1, h2, h3, h4, h5⟩ := mx_lenG_inv hp
  refine va_zast hx hb htb.1 hW.1 (mx_D had mem) hW.2 t 1 (ow_arr h1 h2 h3 h4) rfl h5 hdec (fun H1 locs1 q1 q2 q3 => kk H1 locs1 ⟨?_, q3⟩)
  have hn : vp_nar .boolean v = v := by rw [hv]; rfl
  rw [hn] at q1
  have := my_set_a (g := g) (ad := ad) (x := mem) (v := v) (n := j.toNatClampNeg) (rfl : mx_kl t = mx_kl t) h1 h2 h4
  rw [h3] at this
  rw [this] at q1
  exact q1
theorem ox_ar (X : ox_C p s m args c cc nL own D g ad B) : rx_OK p l e R s m args below meth c cc nL ad (mx_W D g ad B s.heap) mx_cs .aaload 1 2 kar := by
  intro pc mem H locs lA av rest Q ha hp hW hsz hrest hdec kk
  obtain ⟨t, j, rfl⟩ := k_RI_inv hp
  obtain ⟨hx, hb, -, hown, hts, htb, had⟩ := X
  obtain ⟨h1, h2, h3, h4, h5⟩ := mx_lenG_inv hp
  exact va_aldq hx hb htb.1 hW.1 t 2 (ow_arr h1 h2 h3 h4) rfl h5 hdec (kk H locs hW)
theorem ox_as (X : ox_C p s m args c cc nL own D g ad B) : rx_OK p l e R s m args below meth c cc nL ad (mx_W D g ad B s.heap) mx_cs .aaload 1 2 kas := by
  intro pc mem H locs lA av rest Q ha hp hW hsz hrest hdec kk
  obtain ⟨t, j, rfl⟩ := k_RI_inv hp
  obtain ⟨hx, hb, -, hown, hts, htb, had⟩ := X
  obtain ⟨h1, h2, h3, h4, h5⟩ := mx_lenG_inv hp
  exact va_aldq hx hb htb.1 hW.1 t 3 (ow_arr h1 h2 h3 h4) rfl h5 hdec (kk H locs hW)
theorem ox_au (X : ox_C p s m args c cc nL own D g ad B) : rx_OK p l e R s m args below meth c cc nL ad (mx_W D g ad B s.heap) mx_cs .aaload 1 2 kau := by
  intro pc mem H locs lA av rest Q ha hp hW hsz hrest hdec kk
  obtain ⟨t, j, rfl⟩ := k_RI_inv hp
  obtain ⟨hx, hb, -, hown, hts, htb, had⟩ := X
  obtain ⟨h1, h2, h3, h4, h5⟩ := mx_lenG_inv hp
  exact va_aldq hx hb htb.1 hW.1 t 4 (ow_arr h1 h2 h3 h4) rfl h5 hdec (kk H locs hW)
theorem ox_an (X : ox_C p s m args c cc nL own D g ad B) : rx_OK p l e R s m args below meth c cc nL ad (mx_W D g ad B s.heap) mx_cs .aaload 1 2 kan := by
  intro pc mem H locs lA av rest Q ha hp hW hsz hrest hdec kk
  obtain ⟨t, j, rfl⟩ := k_RI_inv hp
  obtain ⟨hx, hb, -, hown, hts, htb, had⟩ := X
  obtain ⟨h1, h2, h3, h4, h5⟩ := mx_lenG_inv hp
  exact va_aldq hx hb htb.1 hW.1 t 5 (ow_arr h1 h2 h3 h4) rfl h5 hdec (kk H locs hW)
theorem mx_kl_pk {r : Nat} (h1 : 4 ≤ r) (h2 : r < 45) : mx_kl r = 2 := by
  have h := mx_kl_row ⟨r - 4, by omega⟩
  rw [show 4 + (r - 4) = r by omega] at h
  exact h
theorem mx_kl_se {r : Nat} (h1 : 78 ≤ r) (h2 : r < 82) : mx_kl r = 6 := by
  have h := mx_kl_ses ⟨r - 78, by omega⟩
  rw [show 78 + (r - 78) = r by omega] at h
  exact h
theorem ox_pr (X : ox_C p s m args c cc nL own D g ad B) : rx_OK p l e R s m args below meth c cc nL ad (mx_W D g ad B s.heap) mx_cs .aastore 1 3 kpr := by
  intro pc mem H locs lA av rest Q ha hp hW hsz hrest hdec kk
  obtain ⟨t, j, r, rfl⟩ := k_RIR_inv hp
  obtain ⟨hx, hb, -, hown, hts, htb, had⟩ := X
  obtain ⟨hp, hr1, hr2⟩ := hp
  obtain ⟨h1, h2, h3, h4, h5⟩ := mx_lenG_inv hp
  have ht : t = 2 := by
    rcases mx_ar_src t (by omega) with ⟨e1, e2⟩ | ⟨e1, e2⟩ | ⟨e1, e2⟩ | ⟨e1, e2⟩ | ⟨e1, e2⟩ | ⟨e1, e2⟩ | e1 <;> first | exact e2 | (rw [h4] at e1; cases e1) | (have := mx_kl_lt (i := t) rfl h2; omega)
  subst ht
  refine va_astq (r := ("SubscriberLines$Packet", T_2, 9)) hx hb htb.1 hW.1 (mx_D had mem) hW.2 2 2 r 2 (ow_arr (tg := 2) (src := 2) h1 h2 rfl rfl) rfl (mx_ws_ob (mx_kl_pk hr1 hr2) (by omega)) rfl h5 hdec (fun H1 locs1 q1 q2 q3 => kk H1 locs1 ⟨?_, q3⟩)
  have := mx_set_r (g := g) (ad := ad) (x := mem) (n := j.toNatClampNeg) hr1 hr2
  show va_P D mx_cl (mx_ws g ad (mx_pr mem.1 j.toNatClampNeg (Fin.ofNat 41 (r - 4)), mem.2)) H1
  rw [← this]
  exact q1
theorem ox_pq (X : ox_C p s m args c cc nL own D g ad B) : rx_OK p l e R s m args below meth c cc nL ad (mx_W D g ad B s.heap) mx_cs .aastore 1 3 kpq := by
  intro pc mem H locs lA av rest Q ha hp hW hsz hrest hdec kk
  obtain ⟨t, j, r, rfl⟩ := k_RIR_inv hp
  obtain ⟨hx, hb, -, hown, hts, htb, had⟩ := X
  obtain ⟨hp, hr1, hr2⟩ := hp
  obtain ⟨h1, h2, h3, h4, h5⟩ := mx_lenG_inv hp
  have ht : t = 67 := by
    rcases mx_ar_src t (by omega) with ⟨e1, e2⟩ | ⟨e1, e2⟩ | ⟨e1, e2⟩ | ⟨e1, e2⟩ | ⟨e1, e2⟩ | ⟨e1, e2⟩ | e1 <;> first | exact e2 | (rw [h4] at e1; cases e1) | (have := mx_kl_lt (i := t) rfl h2; omega)
  subst ht
  refine va_astq (r := ("SubscriberLines$Session", T_6, 5)) hx hb htb.1 hW.1 (mx_D had mem) hW.2 67 3 r 6 (ow_arr (tg := 3) (src := 3) h1 h2 rfl rfl) rfl (mx_ws_ob (mx_kl_se hr1 hr2) (by omega)) rfl h5 hdec (fun H1 locs1 q1 q2 q3 => kk H1 locs1 ⟨?_, q3⟩)
  have := mx_set_q (g := g) (ad := ad) (x := mem) (n := j.toNatClampNeg) hr1 hr2
  show va_P D mx_cl (mx_ws g ad (mx_ps mem.1 j.toNatClampNeg (Fin.ofNat 4 (r - 78)), mem.2)) H1
  rw [← this]
  exact q1
theorem ox_al (X : ox_C p s m args c cc nL own D g ad B) : rx_OK p l e R s m args below meth c cc nL ad (mx_W D g ad B s.heap) mx_cs .arraylength 1 1 kal := by
  intro pc mem H locs lA av rest Q ha hp hW hsz hrest hdec kk
  obtain ⟨t, rfl⟩ := k_R_inv hp
  obtain ⟨hx, hb, -, hown, hts, htb, had⟩ := X
  obtain ⟨h1, h2, h3⟩ := mx_len_inv hp
  have htg := mx_ar_tag h1 h2
  have hty : ∃ ty, (mx_ty g)[(mx_ar (mx_kl t)).1]? = some (g (mx_ar (mx_kl t)).1, ty) := by
    generalize (mx_ar (mx_kl t)).1 = z at htg
    match z, htg with
    | 0, _ => exact ⟨_, rfl⟩
    | 1, _ => exact ⟨_, rfl⟩
    | 2, _ => exact ⟨_, rfl⟩
    | 3, _ => exact ⟨_, rfl⟩
    | 4, _ => exact ⟨_, rfl⟩
    | 5, _ => exact ⟨_, rfl⟩
  obtain ⟨ty, hty⟩ := hty
  exact va_alen hx hb htb.1 hW.1 t (mx_ar (mx_kl t)).1 (ow_arr h1 h2 rfl rfl) hty (v := Int32.ofNat (mx_len t)) (by rw [h3]) hdec (kk H locs hW)
theorem rx_cat_sum (ad : Nat → Nat) : ∀ rest : List Value, ((rest.map (rx_tr ad)).map fun v => v.category).sum = rest.length := by
  intro rest
  induction rest with
  | nil => rfl
  | cons v r ih => simp only [List.map_cons, List.sum_cons, rx_tr_cat, ih, List.length_cons]; omega
theorem ox_min (X : ox_C p s m args c cc nL own D g ad B) (hl : Cond.methodLink own idx Lib.Math.min.name ∈ al) (hfr : 1 ≤ R.frames) (hlo : 21 ≤ R.locals) : rx_OK p l e R s m args below meth c cc nL ad (mx_W D g ad B s.heap) mx_cs (.invokestatic idx) 3 2 kmin := by
  intro pc mem H locs lA av rest Q ha hp hW hsz hrest hdec kk
  obtain ⟨a, b, rfl⟩ := k_II_inv hp
  obtain ⟨hx, hb, hml, hown, hts, htb, had⟩ := X
  exact va_mmin (rest := rest.map (rx_tr ad)) hx hb (hml.trans hsz.symm) hown (hts _ hl) (hts _ mt_min_st) (hts _ mt_ini) (hts _ mt_min_code) hfr (by rw [rx_cat_sum]; omega) (Nat.zero_le _) (Nat.zero_le _) hdec (kk H locs hW)
theorem ox_max (X : ox_C p s m args c cc nL own D g ad B) (hl : Cond.methodLink own idx Lib.Math.max.name ∈ al) (hfr : 1 ≤ R.frames) (hlo : 21 ≤ R.locals) : rx_OK p l e R s m args below meth c cc nL ad (mx_W D g ad B s.heap) mx_cs (.invokestatic idx) 3 2 kmax := by
  intro pc mem H locs lA av rest Q ha hp hW hsz hrest hdec kk
  obtain ⟨a, b, rfl⟩ := k_II_inv hp
  obtain ⟨hx, hb, hml, hown, hts, htb, had⟩ := X
  exact va_mmax (rest := rest.map (rx_tr ad)) hx hb (hml.trans hsz.symm) hown (hts _ hl) (hts _ mt_max_st) (hts _ mt_ini) (hts _ mt_max_code) hfr (by rw [rx_cat_sum]; omega) (Nat.zero_le _) (Nat.zero_le _) hdec (kk H locs hW)
end OA
