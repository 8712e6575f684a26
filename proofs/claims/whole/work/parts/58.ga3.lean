theorem login_g {m : mx_M} {D : Int} (h : gN m D) (hi : iE m 1399) {k : Nat} (hk : k < m.2.2.val) (u w : Int32) :
    gN (mo_login m (Int32.ofNat k) u w) D ∧ (∀ i j, ¬ (i = 85 ∨ (98 ≤ i ∧ i < 103) ∨ ((i = 108 ∨ i = 109 ∨ i = 111 ∨ i = 112) ∧ j = 1) ∨ 113 ≤ i) → (mo_login m (Int32.ofNat k) u w).1 i j = m.1 i j) := by
  have hb : m.2.2.val < 5 := m.2.2.isLt
  obtain ⟨l1, l2, l3, l4⟩ := mo_login_eq m (k := k) (by omega) u w
  by_cases s1 : m.1 100 k = 1
  · by_cases ok : lg_ok m u w
    · rw [l1 s1 ok]
      unfold lg_yes lg_ac
      exact ⟨gN_f h (by rw [my_send_o _ _ (by decide), qi_row (by decide), qi_row (by decide)]) (by rw [my_send_o _ _ (by decide), qi_ne (by omega), qi_ne (by omega)]) (by rw [my_send_s]; rfl), fun i j hij => by rw [my_send_o _ _ (by omega), qi_ne (by omega), qi_ne (by omega)]⟩
    · rw [l2 s1 ok]
      unfold lg_no
      have g : gN (my_send m (pk9 6 5 4 (m.1 99 k) 0 0 0 0 0)) D := gN_f h (my_send_o _ _ (by decide)) (by rw [my_send_o _ _ (by decide)]) (my_send_s _ _)
      have hk' : k < (my_send m (pk9 6 5 4 (m.1 99 k) 0 0 0 0 0)).2.2.val := by rw [my_send_s]; exact hk
      have eS := mo_endS_eq (my_send m (pk9 6 5 4 (m.1 99 k) 0 0 0 0 0)) hk'
      have g2 := gN_rm g hk'
      have i2 : iE (mo_endSession (my_send m (pk9 6 5 4 (m.1 99 k) 0 0 0 0 0)) (Int32.ofNat k)) 1399 := by
        rw [eS]
        exact iE_f hi (fun i h1 h2 => by rw [rm_o (by omega), my_send_o _ _ (by omega)])
      have o (i j : Nat) (hij : ¬ (i = 85 ∨ 113 ≤ i ∨ ((i = 108 ∨ i = 109 ∨ i = 111 ∨ i = 112) ∧ j = 1))) : (mo_say (mo_endSession (my_send m (pk9 6 5 4 (m.1 99 k) 0 0 0 0 0)) (Int32.ofNat k)) 1 15 (m.1 99 k) 0).1 i j = (mo_endSession (my_send m (pk9 6 5 4 (m.1 99 k) 0 0 0 0 0)) (Int32.ofNat k)).1 i j := say_o (e := 1) (by decide) i2.2 15 (m.1 99 k) 0 (by omega)
      refine ⟨gN_f g2 (funext fun j => o 98 j (by omega)) (o 82 29 (by omega)) (say_s (e := 1) (by decide) i2.2 15 (m.1 99 k) 0), fun i j hij => ?_⟩
      rw [o i j (by omega), eS, rm_o (by omega), my_send_o _ _ (by omega)]
  · by_cases s2 : m.1 100 k = 2
    · rw [l3 s2]
      unfold lg_ac
      exact ⟨gN_f h (my_send_o _ _ (by decide)) (by rw [my_send_o _ _ (by decide)]) (my_send_s _ _), fun i j hij => by rw [my_send_o _ _ (by omega)]⟩
    · rw [l4 s1 s2]; exact ⟨h, fun _ _ _ => rfl⟩
theorem toS_g {m : mx_M} {D : Int} (h : gN m D) (hi : iE m 1399) (h0 : 0 ≤ (m.1 82 24).toInt ∧ (m.1 82 24).toInt < 2147483647) (kd n b w : Int32) :
    gN (mo_toSession m kd n b w) D ∧ (m.1 82 24).toInt ≤ ((mo_toSession m kd n b w).1 82 24).toInt ∧ ((mo_toSession m kd n b w).1 82 24).toInt ≤ (m.1 82 24).toInt + 1 ∧
    (∀ i j, ¬ (i = 85 ∨ (98 ≤ i ∧ i < 105) ∨ (i = 82 ∧ (j = 24 ∨ j = 25)) ∨ ((i = 108 ∨ i = 109 ∨ i = 111 ∨ i = 112) ∧ j = 1) ∨ 113 ≤ i) → (mo_toSession m kd n b w).1 i j = m.1 i j) := by
  have hb : m.2.2.val < 5 := m.2.2.isLt
  rcases mo_ixx h.1 n with ⟨k, hk, _, e⟩ | e
  · rw [mo_toS_eq m kd n b w h0.1 (k := k) (by omega) e]
    have g : gN (my_pi m 102 k 0) D := gN_f h (qi_row (by decide)) (qi_ne (by omega)) rfl
    split
    · obtain ⟨a, c⟩ := login_g g (iE_w hi (by omega)) (k := k) hk b w
      refine ⟨a, ?_, ?_, fun i j hij => by rw [c i j (by omega), qi_ne (by omega)]⟩
      · rw [c 82 24 (by omega), qi_ne (by omega)]; omega
      · rw [c 82 24 (by omega), qi_ne (by omega)]; omega
    · split
      · refine ⟨gN_f g (qi_row (by decide)) (qi_ne (by omega)) rfl, ?_, ?_, fun i j hij => by rw [qi_ne (by omega), qi_ne (by omega)]⟩
        · rw [qi_ne (by omega), qi_ne (by omega)]; omega
        · rw [qi_ne (by omega), qi_ne (by omega)]; omega
      · split
        · split
          · unfold cr_add
            have r24 : (my_pi m 102 k 0).1 82 24 = m.1 82 24 := qi_ne (by omega)
            refine ⟨gN_f g (by rw [qi_row (by decide), qi_row (by decide), qi_row (by decide)]) (by rw [qi_ne (by omega), qi_ne (by omega), qi_ne (by omega)]) rfl, ?_, ?_, fun i j hij => by rw [qi_ne (by omega), qi_ne (by omega), qi_ne (by omega), qi_ne (by omega)]⟩
            · rw [qi_eq, r24, i_p1 (by omega)]; omega
            · rw [qi_eq, r24, i_p1 (by omega)]; omega
          · refine ⟨gN_f g (qi_row (by decide)) (qi_ne (by omega)) rfl, ?_, ?_, fun i j hij => by rw [qi_ne (by omega), qi_ne (by omega)]⟩
            · rw [qi_ne (by omega), qi_ne (by omega)]; omega
            · rw [qi_ne (by omega), qi_ne (by omega)]; omega
        · refine ⟨g, ?_, ?_, fun i j hij => by rw [qi_ne (by omega)]⟩
          · rw [qi_ne (by omega)]; omega
          · rw [qi_ne (by omega)]; omega
  · have : mo_toSession m kd n b w = m := by
      unfold mo_toSession
      rw [e, if_pos neg1_lt]
    rw [this]
    exact ⟨h, by omega, by omega, fun _ _ _ => rfl⟩
theorem c341_g {m : mx_M} {D : Int} (h : gN m D) (hD : D < 2147483646) (hi : iE m 1397) (kd x y ch n kn : Int32) (hk : ch = m.1 106 1 → kn.toInt ≤ (m.1 108 1).toInt ∨ (m.1 108 1).toInt = (m.1 109 1).toInt) :
    gN (mo_control_34 1 m 1 kd x y ch n kn) (D + 1) ∧ (∀ i j, ¬ (i = 85 ∨ (98 ≤ i ∧ i < 103) ∨ (i = 82 ∧ j = 29) ∨ (107 ≤ i ∧ i < 113 ∧ j = 1) ∨ 113 ≤ i) → (mo_control_34 1 m 1 kd x y ch n kn).1 i j = m.1 i j) := by
  rw [show mo_control_34 1 m 1 kd x y ch n kn = mo_control_34 1 m (Int32.ofNat 1) kd x y ch n kn from rfl, mo_c34_eq m (e := 1) (by decide)]
  by_cases hch : ch = m.1 106 1
  · rw [if_pos hch]
    have so := settle_f (e := 1) (by decide) hi kn
    have gi := settle_iE (e := 1) (by decide) (by decide) hi kn (hk hch)
    generalize hM : mo_settle m 1 kn = M at *
    have so2 := so.2
    have gM0 : gN M D := gN_f h (funext fun j => so2 98 j (by decide) (by omega)) (so2 82 29 (by decide) (by omega)) so.1
    have trs (M' : mx_M) : (mo_transmit M' (Int32.ofNat 1) (-1)).2.2 = M'.2.2 := by rw [mo_transmit_eq _ 1 (by decide) _ (by decide), my_send_s]
    have tro (M' : mx_M) (i : Nat) (hi : ¬ i = 85) : (mo_transmit M' (Int32.ofNat 1) (-1)).1 i = M'.1 i := my_tr_o M' (by decide) _ (by decide) hi
    have fin (M' : mx_M) (h1 : gN M' (D + 1)) (h3 : ∀ i j, ¬ (i = 85 ∨ (98 ≤ i ∧ i < 103) ∨ (i = 82 ∧ j = 29) ∨ (107 ≤ i ∧ i < 113 ∧ j = 1) ∨ 113 ≤ i) → M'.1 i j = m.1 i j) : gN (mo_transmit M' (Int32.ofNat 1) (-1)) (D + 1) ∧ (∀ i j, ¬ (i = 85 ∨ (98 ≤ i ∧ i < 103) ∨ (i = 82 ∧ j = 29) ∨ (107 ≤ i ∧ i < 113 ∧ j = 1) ∨ 113 ≤ i) → (mo_transmit M' (Int32.ofNat 1) (-1)).1 i j = m.1 i j) :=
      ⟨gN_f h1 (tro M' 98 (by decide)) (by rw [tro M' 82 (by decide)]) (trs M'), fun i j hij => by rw [tro M' i (by omega), h3 i j hij]⟩
    split
    · exact ⟨gN_mono gM0 (by omega), fun i j hij => so2 i j (by omega) (by omega)⟩
    · split
      · rw [if_neg (by decide)]
        have g2 : gN (my_pi M 110 1 (M.1 110 1 + 1)) D := gN_f gM0 (qi_row (by decide)) (qi_ne (by omega)) rfl
        obtain ⟨a1, a3⟩ := srvDoes_g g2 hD (iE_mono (iE_w gi (by omega)) (by decide)) kd x
        exact fin _ a1 (fun i j hij => by rw [a3 i j (by omega), qi_ne (by omega), so2 i j (by omega) (by omega)])
      · exact fin M (gN_mono gM0 (by omega)) (fun i j hij => so2 i j (by omega) (by omega))
  · rw [if_neg hch]; exact ⟨gN_mono h (by omega), fun _ _ _ => rfl⟩
/-! all of it -/
def gW (m : mx_M) (D : Int) : Prop := (∀ s : Nat, s < 4 → 0 ≤ (m.1 94 s).toInt ∧ (m.1 94 s).toInt ≤ D) ∧ 0 ≤ (m.1 82 24).toInt ∧ (m.1 82 24).toInt ≤ D
def gI (m : mx_M) (D : Int) : Prop := iSi m ∧ (m.1 82 0).toInt ≤ 4 ∧ 0 ≤ (m.1 82 30).toInt ∧ (m.1 82 30).toInt ≤ D
def gA (m : mx_M) (D : Int) : Prop := gS m ∧ gC m D ∧ gN m D ∧ gW m D ∧ gI m D
theorem gW_f {m m' : mx_M} {D : Int} (h : gW m D) (h94 : m'.1 94 = m.1 94) (h24 : m'.1 82 24 = m.1 82 24) : gW m' D := by
  unfold gW; rw [h94, h24]; exact h
theorem gW_mono {m : mx_M} {D D' : Int} (h : gW m D) (hd : D ≤ D') : gW m D' := ⟨fun s hs => ⟨(h.1 s hs).1, by have := (h.1 s hs).2; omega⟩, h.2.1, by have := h.2.2; omega⟩
theorem gI_f {m m' : mx_M} {D : Int} (h : gI m D) (h105 : m'.1 105 = m.1 105) (h0 : m'.1 82 0 = m.1 82 0) (h30 : m'.1 82 30 = m.1 82 30) : gI m' D := by
  unfold gI iSi; rw [h105, h0, h30]; exact h
theorem gI_mono {m : mx_M} {D D' : Int} (h : gI m D) (hd : D ≤ D') : gI m D' := ⟨h.1, h.2.1, h.2.2.1, by have := h.2.2.2; omega⟩
theorem gA_mono {m : mx_M} {D D' : Int} (h : gA m D) (hd : D ≤ D') : gA m D' := ⟨h.1, gC_mono h.2.1 hd, gN_mono h.2.2.1 hd, gW_mono h.2.2.2.1 hd, gI_mono h.2.2.2.2 hd⟩
/-- where the flight alone changes -/
theorem gA_85 {m m' : mx_M} {D : Int} (h : gA m D) (o : ∀ i, ¬ i = 85 → m'.1 i = m.1 i) (hs : m'.2.2 = m.2.2) : gA m' D :=
  ⟨gS_f h.1 (o 86 (by decide)) (o 90 (by decide)) (o 91 (by decide)) (o 92 (by decide)), gC_f h.2.1 (o 96 (by decide)) (o 97 (by decide)) (by rw [o 82 (by decide)]) (by rw [o 106 (by decide)]), gN_f h.2.2.1 (o 98 (by decide)) (by rw [o 82 (by decide)]) hs, gW_f h.2.2.2.1 (o 94 (by decide)) (by rw [o 82 (by decide)]), gI_f h.2.2.2.2 (o 105 (by decide)) (by rw [o 82 (by decide)]) (by rw [o 82 (by decide)])⟩
theorem gA_arrive {m : mx_M} {D : Int} (h : gA m D) (hD : D < 2147483000) (ok : arOK m) (hm : okM m) (hz : fp m 0 2 = 4 → ¬ fp m 0 0 < 12 → ¬ fp m 0 6 = 0) (hy : fp m 0 0 = 14 → 0 ≤ (fp m 0 4).toInt) : gA (mo_arrive m).1 (D + 1) := by
  obtain ⟨o1, oS, oW, oE, oC, oN, oI, oP, ⟨⟨t, ht, e2⟩, p1, p4, p40c, p5c⟩⟩ := ok
  obtain ⟨A1, A2, A3, A4, A5, A6⟩ := arrive_eq m o1 ht e2
  have o (i : Nat) (hi : ¬ i = 85) : (mo_tk m 0).1 i = m.1 i := tk_o hi
  have g : gA (mo_tk m 0) D := gA_85 h (fun i hi => o i hi) rfl
  have hE : iE (mo_tk m 0) 1397 := iE_f oE (fun i h1 h2 => o i (by omega))
  obtain ⟨gs, gc, gn, gw, gi⟩ := g
  have gd : gA (mo_tk m 0) (D + 1) := gA_mono ⟨gs, gc, gn, gw, gi⟩ (by omega)
  by_cases t4 : t < 4
  · rw [A1 t4]
    dsimp only
    have w0 : 0 ≤ ((mo_tk m 0).1 94 t).toInt := (gw.1 t t4).1
    have w1 : ((mo_tk m 0).1 94 t).toInt < 2147483647 := by have := (gw.1 t t4).2; omega
    obtain ⟨s2, oo⟩ := toSub_o t4 (fp m 0 0) (fp m 0 3) (fp m 0 4) (fp m 0 5) w0 w1
    have w := toSub_94 t4 (fp m 0 0) (fp m 0 3) (fp m 0 4) (fp m 0 5) w0 w1
    refine ⟨gS_toSub gs t4 _ _ _ _ w0 w1, gC_f gd.2.1 (funext fun j => oo 96 j (by omega)) (funext fun j => oo 97 j (by omega)) (oo 82 28 (by omega)) (oo 106 0 (by omega)), gN_f gd.2.2.1 (funext fun j => oo 98 j (by omega)) (oo 82 29 (by omega)) s2, ⟨fun s hs => ?_, ?_, ?_⟩, gI_f gd.2.2.2.2 (funext fun j => oo 105 j (by omega)) (oo 82 0 (by omega)) (oo 82 30 (by omega))⟩
    · have := w s hs
      have := gw.1 s hs
      omega
    · rw [oo 82 24 (by omega)]; exact gw.2.1
    · rw [oo 82 24 (by omega)]; have := gw.2.2; omega
  · by_cases hzz : 0 < m.1 105 (t - 4)
    · rw [A2 t4 hzz]; exact gd
    · by_cases hk : fp m 0 0 < 12
      · have t45 : t = 4 ∨ t = 5 := by omega
        rcases t45 with rfl | rfl
        · rcases p4 e2 hk with ⟨z, _⟩ | ⟨u, hu, z, _⟩
          · rw [A5 rfl hzz hk (by rw [z]; decide)]
            obtain ⟨s2, oo⟩ := fromSrv_o (mo_tk m 0) (fp m 0 0) (fp m 0 3) (fp m 0 4) (fp m 0 5)
            exact gA_85 gd (fun i hi => funext fun j => oo i j hi) s2
          · rw [A4 rfl hzz hk (by rw [z]; exact (ofl4 (by omega)).2 hu), z]
            dsimp only
            obtain ⟨c1, s2, c3, c4, oo⟩ := fromSub_g gc (by omega) hE ⟨gi.2.2.1, by have := gi.2.2.2; omega⟩ hu (fp m 0 0) (fp m 0 3) (fp m 0 4) (fp m 0 5)
            refine ⟨gS_f gs (funext fun j => oo 86 j (by omega)) (funext fun j => oo 90 j (by omega)) (funext fun j => oo 91 j (by omega)) (funext fun j => oo 92 j (by omega)), c1, gN_f gd.2.2.1 (funext fun j => oo 98 j (by omega)) (oo 82 29 (by omega)) s2, gW_f gd.2.2.2.1 (funext fun j => oo 94 j (by omega)) (oo 82 24 (by omega)), ⟨?_, ?_, ?_, ?_⟩⟩
            · unfold iSi
              rw [oo 105 0 (by omega), oo 105 1 (by omega)]; exact gi.1
            · rw [oo 82 0 (by omega)]; exact gi.2.1
            · have := gi.2.2.1; omega
            · have := gi.2.2.2; omega
        · rw [A3 rfl hzz hk]
          dsimp only
          obtain ⟨c1, c2, c3, oo⟩ := toS_g gn (iE_mono hE (by decide)) ⟨gw.2.1, by have := gw.2.2; omega⟩ (fp m 0 0) (fp m 0 3) (fp m 0 4) (fp m 0 5)
          refine ⟨gS_f gs (funext fun j => oo 86 j (by omega)) (funext fun j => oo 90 j (by omega)) (funext fun j => oo 91 j (by omega)) (funext fun j => oo 92 j (by omega)), gC_f gd.2.1 (funext fun j => oo 96 j (by omega)) (funext fun j => oo 97 j (by omega)) (oo 82 28 (by omega)) (oo 106 0 (by omega)), gN_mono c1 (by omega), ⟨fun s hs => ?_, ?_, ?_⟩, gI_f gd.2.2.2.2 (funext fun j => oo 105 j (by omega)) (oo 82 0 (by omega)) (oo 82 30 (by omega))⟩
          · rw [oo 94 s (by omega)]; exact gd.2.2.2.1.1 s hs
          · have := gw.2.1; omega
          · have := gw.2.2; omega
      · rw [A6 t4 hzz hk]
        have t45 : t = 4 ∨ t = 5 := by omega
        rcases t45 with rfl | rfl
        · have e := ctl_0 (mo_tk m 0) (fp m 0 0) (fp m 0 3) (fp m 0 4) (fp m 0 6) (fp m 0 7) (fp m 0 8)
          rw [show mo_control (mo_tk m 0) (Int32.ofNat (4 - 4)) (fp m 0 0) (fp m 0 3) (fp m 0 4) (fp m 0 6) (fp m 0 7) (fp m 0 8) = mo_control (mo_tk m 0) 0 (fp m 0 0) (fp m 0 3) (fp m 0 4) (fp m 0 6) (fp m 0 7) (fp m 0 8) from rfl, e]
          obtain ⟨c1, s2, oo⟩ := c340_g gc hE (fp m 0 0) (fp m 0 3) (fp m 0 4) (fp m 0 6) (fp m 0 7) (fp m 0 8) (fun z1 z2 => hz e2 hk (z1.trans z2)) hy (by rw [o 106 (by decide), o 108 (by decide), o 109 (by decide)]; exact p40c e2 hk)
          exact ⟨gS_f gs (funext fun j => oo 86 j (by omega)) (funext fun j => oo 90 j (by omega)) (funext fun j => oo 91 j (by omega)) (funext fun j => oo 92 j (by omega)), gC_mono c1 (by omega), gN_f gd.2.2.1 (funext fun j => oo 98 j (by omega)) (oo 82 29 (by omega)) s2, gW_f gd.2.2.2.1 (funext fun j => oo 94 j (by omega)) (oo 82 24 (by omega)), gI_f gd.2.2.2.2 (funext fun j => oo 105 j (by omega)) (oo 82 0 (by omega)) (oo 82 30 (by omega))⟩
        · have e := ctl_cases (mo_tk m 0) (fp m 0 0) (fp m 0 3) (fp m 0 4) (fp m 0 6) (fp m 0 7) (fp m 0 8)
          rw [show mo_control (mo_tk m 0) (Int32.ofNat (5 - 4)) (fp m 0 0) (fp m 0 3) (fp m 0 4) (fp m 0 6) (fp m 0 7) (fp m 0 8) = mo_control (mo_tk m 0) 1 (fp m 0 0) (fp m 0 3) (fp m 0 4) (fp m 0 6) (fp m 0 7) (fp m 0 8) from rfl, e]
          obtain ⟨c1, c2, c3, c4, c5, c6, c7, c8⟩ := ctl_m hE gc.1 gn.1 (m := mo_tk m 0) (okM_f hm (by rw [o 109 (by decide)]) (o 113 (by decide))) (fp m 0 0) (fp m 0 6) (fp m 0 8) (by rw [o 106 (by decide), o 108 (by decide), o 109 (by decide)]; exact p5c e2 hk)
          have gn2 : gN (if fp m 0 0 = 12 ∧ (mo_tk m 0).1 106 1 < fp m 0 6 then mo_clear (my_ps (mo_tk m 0) 0) 1 (fp m 0 6) else mo_tk m 0) D := by
            refine ⟨c3, fun k hk => ?_, ?_, ?_⟩
            · rw [c6 98 k (by omega), c6 82 29 (by omega)]; exact gn.2.1 k (by omega)
            · rw [c6 82 29 (by omega)]; exact gn.2.2.1
            · rw [c6 82 29 (by omega)]; exact gn.2.2.2
          generalize (if fp m 0 0 = 12 ∧ (mo_tk m 0).1 106 1 < fp m 0 6 then mo_clear (my_ps (mo_tk m 0) 0) 1 (fp m 0 6) else mo_tk m 0) = M at *
          obtain ⟨d1, oo'⟩ := c341_g gn2 (by omega) c1 (fp m 0 0) (fp m 0 3) (fp m 0 4) (fp m 0 6) (fp m 0 7) (fp m 0 8) c5
          have oo (i j : Nat) (hij : ¬ (i = 85 ∨ (98 ≤ i ∧ i < 103) ∨ (i = 82 ∧ j = 29) ∨ (106 ≤ i ∧ i < 113 ∧ j = 1) ∨ 113 ≤ i)) : (mo_control_34 1 M 1 (fp m 0 0) (fp m 0 3) (fp m 0 4) (fp m 0 6) (fp m 0 7) (fp m 0 8)).1 i j = (mo_tk m 0).1 i j := by rw [oo' i j (by omega), c6 i j (by omega)]
          exact ⟨gS_f gs (funext fun j => oo 86 j (by omega)) (funext fun j => oo 90 j (by omega)) (funext fun j => oo 91 j (by omega)) (funext fun j => oo 92 j (by omega)), gC_f gd.2.1 (funext fun j => oo 96 j (by omega)) (funext fun j => oo 97 j (by omega)) (oo 82 28 (by omega)) (oo 106 0 (by omega)), d1, gW_f gd.2.2.2.1 (funext fun j => oo 94 j (by omega)) (oo 82 24 (by omega)), gI_f gd.2.2.2.2 (funext fun j => oo 105 j (by omega)) (oo 82 0 (by omega)) (oo 82 30 (by omega))⟩
theorem subT_o {m : mx_M} {t : Nat} (ht : t < 4) : (mo_subscriberTimer m (Int32.ofNat t)).2.2 = m.2.2 ∧ ∀ i j, ¬ (85 ≤ i ∧ i ≤ 93) → (mo_subscriberTimer m (Int32.ofNat t)).1 i j = m.1 i j := by
  have so (m : mx_M) (a b c d e f : Int32) : (mo_sendOff m a b c d e f).2.2 = m.2.2 := by rw [mo_sendOff_eq, my_send_s]
  have ks (m : mx_M) : (mo_ask m (Int32.ofNat t)).2.2 = m.2.2 := by
    unfold mo_ask
    split
    · show (mo_sendOff _ _ _ _ _ _ _).2.2 = _; rw [so]
    · show (mo_sendOff _ _ _ _ _ _ _).2.2 = _; rw [so]
  have ls (m : mx_M) : (mo_leave m (Int32.ofNat t)).2.2 = m.2.2 := so _ _ _ _ _ _ _
  unfold mo_subscriberTimer
  rw [of_cl t (by omega)]
  dsimp only
  split
  · split
    · exact ⟨ls _, fun i j h => by rw [(leave_v _ ht).2.2 i j (by omega) (by omega), qi_ne (by omega)]⟩
    · exact ⟨rfl, fun i j h => qi_ne (by omega)⟩
  · split
    · exact ⟨rfl, fun _ _ _ => rfl⟩
    · split
      · exact ⟨rfl, fun i j h => qi_ne (by omega)⟩
      · split
        · exact ⟨ks _, fun i j h => by rw [(ask_v _ ht).2.2 i j (by omega) (by omega), qi_ne (by omega)]⟩
        · split
          · exact ⟨ls _, fun i j h => by rw [(leave_v _ ht).2.2 i j (by omega) (by omega), qi_ne (by omega)]⟩
          · exact ⟨rfl, fun i j h => by rw [(off_v _ ht).2.2 i j (by omega), qi_ne (by omega)]⟩
theorem gA_subs {m m' : mx_M} {D : Int} (h : gA m D) (hs : gS m') (o : ∀ i j, ¬ (85 ≤ i ∧ i ≤ 93) → m'.1 i j = m.1 i j) (h2 : m'.2.2 = m.2.2) : gA m' D :=
  ⟨hs, gC_f h.2.1 (funext fun j => o 96 j (by omega)) (funext fun j => o 97 j (by omega)) (o 82 28 (by omega)) (o 106 0 (by omega)), gN_f h.2.2.1 (funext fun j => o 98 j (by omega)) (o 82 29 (by omega)) h2, gW_f h.2.2.2.1 (funext fun j => o 94 j (by omega)) (o 82 24 (by omega)), gI_f h.2.2.2.2 (funext fun j => o 105 j (by omega)) (o 82 0 (by omega)) (o 82 30 (by omega))⟩
theorem gA_subT {m : mx_M} {D : Int} (h : gA m D) {t : Nat} (ht : t < 4) : gA (mo_subscriberTimer m (Int32.ofNat t)) D := gA_subs h (gS_subT h.1 ht) (subT_o ht).2 (subT_o ht).1
theorem gA_sT4 {m : mx_M} {D : Int} (h : gA m D) : gA (sT4 m) D := gA_subT (gA_subT (gA_subT (gA_subT h (t := 0) (by decide)) (t := 1) (by decide)) (t := 2) (by decide)) (t := 3) (by decide)
theorem tl_g {m : mx_M} (hi : iE m 1399) : (mo_tl m).2.2 = m.2.2 ∧ ∀ i j, ¬ (i = 85 ∨ (i = 82 ∧ j = 17) ∨ ((i = 108 ∨ i = 109 ∨ i = 111 ∨ i = 112) ∧ j = 0) ∨ 113 ≤ i) → (mo_tl m).1 i j = m.1 i j := by
  unfold mo_tl
  split
  · split
    · split
      · have i2 := iE_w hi (i := 82) (k := 17) (v := m.1 82 17 + 1) (by omega)
        refine ⟨say_s (e := 0) (by decide) i2.1 16 0 0, fun i j h => ?_⟩
        rw [qi_ne (by omega)]
        exact (say_o (e := 0) (by decide) i2.1 16 0 0 (by omega)).trans (qi_ne (by omega))
      · exact ⟨rfl, fun i j h => qi_ne (by omega)⟩
    · exact ⟨rfl, fun i j h => qi_ne (by omega)⟩
  · exact ⟨rfl, fun i j h => qi_ne (by omega)⟩
theorem aT_g {m : mx_M} {D : Int} (h : gC m D) (hi : iE m 1399) (hs : 0 ≤ (m.1 105 0).toInt) : gC (aT m) D ∧ (aT m).2.2 = m.2.2 ∧ 0 ≤ ((aT m).1 105 0).toInt ∧ (∀ i j, ¬ (i = 85 ∨ i = 96 ∨ i = 97 ∨ (i = 82 ∧ j = 17) ∨ (i = 105 ∧ j = 0) ∨ (106 ≤ i ∧ i < 113 ∧ j = 0) ∨ 113 ≤ i) → (aT m).1 i j = m.1 i j) := by
  unfold aT
  split
  · rename_i hz
    rw [i_lt, show (0 : Int32).toInt = 0 from rfl] at hz
    have hr := i_rng (m.1 105 0)
    refine ⟨gC_f h (qi_row (by decide)) (qi_row (by decide)) (qi_ne (by omega)) (qi_ne (by omega)), rfl, ?_, fun i j hij => qi_ne (by omega)⟩
    rw [qi_eq, i_sub] <;> rw [show (1 : Int32).toInt = 1 from rfl] <;> omega
  · rw [mo_at_eq2]
    have hi' := iE_mono hi (show (1399 : Int) ≤ 1400 by decide)
    have hm := mo_et_0 hi' h.1
    by_cases hb : mo_brk m 0
    · rw [hm.2 hb]
      unfold mo_bk0
      have cM : iC (mo_clear (my_pi m 112 0 (m.1 112 0 - 1)) 0 0) := bk0_iC h.1
      have oM (i j : Nat) (hij : ¬ (106 ≤ i ∧ i < 113 ∧ j = 0)) : (mo_clear (my_pi m 112 0 (m.1 112 0 - 1)) 0 0).1 i j = m.1 i j := (clear_o (e := 0) _ (by decide) _ hij).trans (qi_ne (by omega))
      have iM : iE (mo_clear (my_pi m 112 0 (m.1 112 0 - 1)) 0 0) 1399 := clear_iE (e := 0) (by decide) (by decide) (iE_w hi (i := 112) (k := 0) (v := m.1 112 0 - 1) (by omega)) 0
      have sM : (mo_clear (my_pi m 112 0 (m.1 112 0 - 1)) 0 0).2.2 = m.2.2 := rfl
      generalize mo_clear (my_pi m 112 0 (m.1 112 0 - 1)) 0 0 = M at *
      have i4 : iE (mo_cl4 M) 1399 := iE_f iM (fun i h1 h2 => funext fun j => cl4_o (by omega))
      obtain ⟨t1, t2⟩ := tl_g i4
      have c0 := cl_iC cM (s := 0) (by decide)
      have c1 := cl_iC c0 (s := 1) (by decide)
      have c2 := cl_iC c1 (s := 2) (by decide)
      have z0 := cl_z cM (s := 0) (by decide)
      have z1 := cl_z c0 (s := 1) (by decide)
      have z2 := cl_z c1 (s := 2) (by decide)
      have z3 := cl_z c2 (s := 3) (by decide)
      have zz : ∀ s : Nat, s < 4 → (mo_cl4 M).1 96 s = 0 ∧ (mo_cl4 M).1 97 s = 0 := by
        intro s hs
        unfold mo_cl4
        have : s = 0 ∨ s = 1 ∨ s = 2 ∨ s = 3 := by omega
        rcases this with rfl | rfl | rfl | rfl
        · exact ⟨(cl_o (m := mo_cl (mo_cl (mo_cl M 0) 1) 2) (s := 3) (by omega)).trans ((cl_o (m := mo_cl (mo_cl M 0) 1) (s := 2) (by omega)).trans ((cl_o (m := mo_cl M 0) (s := 1) (by omega)).trans z0.1)), (cl_o (m := mo_cl (mo_cl (mo_cl M 0) 1) 2) (s := 3) (by omega)).trans ((cl_o (m := mo_cl (mo_cl M 0) 1) (s := 2) (by omega)).trans ((cl_o (m := mo_cl M 0) (s := 1) (by omega)).trans z0.2))⟩
        · exact ⟨(cl_o (m := mo_cl (mo_cl (mo_cl M 0) 1) 2) (s := 3) (by omega)).trans ((cl_o (m := mo_cl (mo_cl M 0) 1) (s := 2) (by omega)).trans z1.1), (cl_o (m := mo_cl (mo_cl (mo_cl M 0) 1) 2) (s := 3) (by omega)).trans ((cl_o (m := mo_cl (mo_cl M 0) 1) (s := 2) (by omega)).trans z1.2)⟩
        · exact ⟨(cl_o (m := mo_cl (mo_cl (mo_cl M 0) 1) 2) (s := 3) (by omega)).trans z2.1, (cl_o (m := mo_cl (mo_cl (mo_cl M 0) 1) 2) (s := 3) (by omega)).trans z2.2⟩
        · exact z3
      have t28 : (mo_tl (mo_cl4 M)).1 82 28 = m.1 82 28 := by rw [t2 82 28 (by omega), cl4_o (by omega), oM 82 28 (by omega)]
      have t6 (s : Nat) : (mo_tl (mo_cl4 M)).1 96 s = (mo_cl4 M).1 96 s := t2 96 s (by omega)
      have t7 (s : Nat) : (mo_tl (mo_cl4 M)).1 97 s = (mo_cl4 M).1 97 s := t2 97 s (by omega)
      refine ⟨⟨⟨fun s hs => ?_, fun s s' hs hs' hss hn => ?_⟩, fun s hs => ?_, by rw [t28]; exact h.2.2.1, by rw [t28]; exact h.2.2.2.1, fun _ s hs => by rw [t7, (zz s hs).2]⟩, by rw [t1, cl4_s, sM], ?_, fun i j hij => ?_⟩
      · rw [t6, t7, (zz s hs).1, (zz s hs).2]; decide
      · rw [t6, (zz s hs).1] at hn; exact absurd rfl hn
      · rw [t6, (zz s hs).1, t28]; exact h.2.2.1
      · rw [t2 105 0 (by omega), cl4_o (by omega), oM 105 0 (by omega)]; exact hs
      · rw [t2 i j (by omega), cl4_o (by omega), oM i j (by omega)]
    · rw [hm.1 hb]
      have oM (i j : Nat) (hij : ¬ (i = 85 ∨ ((i = 111 ∨ i = 112) ∧ j = 0))) : (mo_et0 m 0).1 i j = m.1 i j := et0_o (by decide) hi'.1 hij
      obtain ⟨t1, t2⟩ := tl_g (iE_f hi (fun i h1 h2 => funext fun j => oM i j (by omega)) (m' := mo_et0 m 0))
      refine ⟨gC_f h (funext fun j => by rw [t2 96 j (by omega), oM 96 j (by omega)]) (funext fun j => by rw [t2 97 j (by omega), oM 97 j (by omega)]) (by rw [t2 82 28 (by omega), oM 82 28 (by omega)]) (by rw [t2 106 0 (by omega), oM 106 0 (by omega)]), by rw [t1, et0_s (by decide) hi'.1], ?_, fun i j hij => by rw [t2 i j (by omega), oM i j (by omega)]⟩
      rw [t2 105 0 (by omega), oM 105 0 (by omega)]; exact hs
theorem gA_aT {m : mx_M} {D : Int} (h : gA m D) (hi : iE m 1399) : gA (aT m) D := by
  obtain ⟨a1, a2, a3, o⟩ := aT_g h.2.1 hi h.2.2.2.2.1.1
  refine ⟨gS_f h.1 (funext fun j => o 86 j (by omega)) (funext fun j => o 90 j (by omega)) (funext fun j => o 91 j (by omega)) (funext fun j => o 92 j (by omega)), a1, gN_f h.2.2.1 (funext fun j => o 98 j (by omega)) (o 82 29 (by omega)) a2, gW_f h.2.2.2.1 (funext fun j => o 94 j (by omega)) (o 82 24 (by omega)), ⟨⟨a3, ?_⟩, ?_, ?_, ?_⟩⟩
  · rw [o 105 1 (by omega)]; exact h.2.2.2.2.1.2
  · rw [o 82 0 (by omega)]; exact h.2.2.2.2.2.1
  · rw [o 82 30 (by omega)]; exact h.2.2.2.2.2.2.1
  · rw [o 82 30 (by omega)]; exact h.2.2.2.2.2.2.2
theorem stl_g {D : Int} : ∀ (n : Nat) (m : mx_M) (k : Nat), gN m D → k ≤ m.2.2.val → m.2.2.val - k < n → iE m (1399 - (m.2.2.val : Int)) → gN (mo_serverTimer_2 n m (Int32.ofNat k)) D ∧ (∀ i j, ¬ (i = 85 ∨ (98 ≤ i ∧ i < 103) ∨ (106 ≤ i ∧ i < 113 ∧ j = 1) ∨ 113 ≤ i) → (mo_serverTimer_2 n m (Int32.ofNat k)).1 i j = m.1 i j) := by
  intro n
  induction n with
  | zero => intro m k h h1 h2 hi; omega
  | succ n ih =>
    intro m k h h1 h2 hi
    have hb : m.2.2.val < 5 := m.2.2.isLt
    by_cases hk : k < m.2.2.val
    · rw [mo_st_step n m hk]
      by_cases h12 : m.1 102 k + 1 = 12
      · rw [if_pos h12]
        have b := iE_w hi (i := 102) (k := k) (v := m.1 102 k + 1) (by omega)
        have g1 : gN (my_pi m 102 k (m.1 102 k + 1)) D := gN_f h (qi_row (by decide)) (qi_ne (by omega)) rfl
        have eS := mo_endS_eq (my_pi m 102 k (m.1 102 k + 1)) (a := k) hk
        have g2 := gN_rm g1 (k := k) hk
        have hE : iE (mo_endSession (my_pi m 102 k (m.1 102 k + 1)) (Int32.ofNat k)) 1399 := by
          rw [eS]
          exact iE_f (iE_mono b (by omega)) (fun i h1 h2 => rm_o (by omega))
        have gi := lgn_iE b (show 1399 - (m.2.2.val : Int) ≤ 1399 by omega) (k := k) hk (m.1 99 k)
        have t2 : (mo_say (mo_endSession (my_pi m 102 k (m.1 102 k + 1)) (Int32.ofNat k)) 1 15 (m.1 99 k) 0).2.2 = (mo_endSession (my_pi m 102 k (m.1 102 k + 1)) (Int32.ofNat k)).2.2 := say_s (e := 1) (by decide) hE.2 15 (m.1 99 k) 0
        have es : (mo_say (mo_endSession (my_pi m 102 k (m.1 102 k + 1)) (Int32.ofNat k)) 1 15 (m.1 99 k) 0).2.2.val = m.2.2.val - 1 := by
          rw [t2, eS]
          exact rm_cnt (m := my_pi m 102 k (m.1 102 k + 1)) hk
        have o (i j : Nat) (hij : ¬ (i = 85 ∨ 113 ≤ i ∨ ((i = 108 ∨ i = 109 ∨ i = 111 ∨ i = 112) ∧ j = 1))) : (mo_say (mo_endSession (my_pi m 102 k (m.1 102 k + 1)) (Int32.ofNat k)) 1 15 (m.1 99 k) 0).1 i j = (mo_endSession (my_pi m 102 k (m.1 102 k + 1)) (Int32.ofNat k)).1 i j := say_o (e := 1) (by decide) hE.2 15 (m.1 99 k) 0 (by omega)
        obtain ⟨r1, r2⟩ := ih _ k (gN_f g2 (funext fun j => o 98 j (by omega)) (o 82 29 (by omega)) t2) (by rw [es]; omega) (by rw [es]; omega) (by rw [es]; exact iE_mono gi (by omega))
        refine ⟨r1, fun i j hij => ?_⟩
        rw [r2 i j hij, o i j (by omega), eS, rm_o (by omega), qi_ne (by omega)]
      · rw [if_neg h12]
        obtain ⟨r1, r2⟩ := ih (mo_eat m k (m.1 102 k + 1)) (k + 1) (gN_f h (funext fun j => eat_o (by omega)) (eat_o (by omega)) eat_s) (by rw [eat_s]; omega) (by rw [eat_s]; omega) (by rw [eat_s]; exact iE_f hi (fun i h1 h2 => funext fun j => eat_o (by omega)))
        exact ⟨r1, fun i j hij => by rw [r2 i j hij, eat_o (by omega)]⟩
    · rw [mo_serverTimer_2, if_neg (fun z => hk ((of_le (by omega) (by omega)).1 z))]
      have hi' := iE_mono hi (show 1399 - (m.2.2.val : Int) ≤ 1400 by omega)
      have hE := mo_endTimer_eq m (e := 1) (by decide) hi'.2
      show gN (mo_endTimer m 1) D ∧ (∀ i j, _ → (mo_endTimer m 1).1 i j = m.1 i j)
      by_cases hbk : mo_brk m 1
      · have m1 : mo_endTimer m 1 = my_ps (mo_clear (my_pi m 112 1 (m.1 112 1 - 1)) 1 0) 0 := (hE.2 hbk).trans (if_neg (by decide))
        rw [m1]
        have oo (i j : Nat) (hij : ¬ (106 ≤ i ∧ i < 113 ∧ j = 1)) : (my_ps (mo_clear (my_pi m 112 1 (m.1 112 1 - 1)) 1 0) 0).1 i j = m.1 i j := (clear_o (e := 1) _ (by decide) _ hij).trans (qi_ne (by omega))
        refine ⟨gN_0 ?_ rfl, fun i j hij => oo i j (by omega)⟩
        rw [oo 82 29 (by omega)]; exact h.2.2
      · have m1 : mo_endTimer m 1 = mo_et0 m 1 := hE.1 hbk
        rw [m1]
        exact ⟨gN_f h (funext fun j => et0_o (by decide) hi'.2 (by omega)) (et0_o (by decide) hi'.2 (by omega)) (et0_s (by decide) hi'.2), fun i j hij => et0_o (by decide) hi'.2 (by omega)⟩
theorem gA_vT {m : mx_M} {D : Int} (h : gA m D) (hi : iE m 1395) : gA (vT m) D := by
  unfold vT
  split
  · rename_i hz
    rw [i_lt, show (0 : Int32).toInt = 0 from rfl] at hz
    have hr := i_rng (m.1 105 1)
    refine ⟨gS_f h.1 (qi_row (by decide)) (qi_row (by decide)) (qi_row (by decide)) (qi_row (by decide)), gC_f h.2.1 (qi_row (by decide)) (qi_row (by decide)) (qi_ne (by omega)) (qi_ne (by omega)), gN_f h.2.2.1 (qi_row (by decide)) (qi_ne (by omega)) rfl, gW_f h.2.2.2.1 (qi_row (by decide)) (qi_ne (by omega)), ⟨⟨?_, ?_⟩, ?_, ?_, ?_⟩⟩
    · rw [qi_ne (by omega)]; exact h.2.2.2.2.1.1
    · rw [qi_eq, i_sub] <;> rw [show (1 : Int32).toInt = 1 from rfl] <;> omega
    · rw [qi_ne (by omega)]; exact h.2.2.2.2.2.1
    · rw [qi_ne (by omega)]; exact h.2.2.2.2.2.2.1
    · rw [qi_ne (by omega)]; exact h.2.2.2.2.2.2.2
  · have hb : m.2.2.val < 5 := m.2.2.isLt
    obtain ⟨r1, o⟩ := stl_g 6 m 0 h.2.2.1 (by omega) (by omega) (iE_mono hi (by omega))
    exact ⟨gS_f h.1 (funext fun j => o 86 j (by omega)) (funext fun j => o 90 j (by omega)) (funext fun j => o 91 j (by omega)) (funext fun j => o 92 j (by omega)), gC_f h.2.1 (funext fun j => o 96 j (by omega)) (funext fun j => o 97 j (by omega)) (o 82 28 (by omega)) (o 106 0 (by omega)), r1, gW_f h.2.2.2.1 (funext fun j => o 94 j (by omega)) (o 82 24 (by omega)), gI_f h.2.2.2.2 (funext fun j => o 105 j (by omega)) (o 82 0 (by omega)) (o 82 30 (by omega))⟩
