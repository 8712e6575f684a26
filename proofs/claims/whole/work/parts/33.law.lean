theorem cvZ_sl_allow {p : Program} {l : Launch} {e : Env} {R : Room} {s : State} {m : MethodId} {args : Array Value} {below : List Frame} {meth : Method} {c : Code} {cc : ByteArray} {nL : Nat} {ad : Nat → Nat} {D : va_G} {g : Nat → ClassId} {B : Nat} {own : String} {idx k0 n0 : Nat} (X : ox_C p s m args c cc nL own D g ad B) (hkn : k0 ≤ R.cells ∧ n0 ≤ R.slots) (hV : rx_V l D g ad B ⟨"SubscriberLines", "allow", "(II)Z"⟩ prog_1_method_2_code 3 (some .boolean) 1 22 K_sl_allow) (hl : Cond.methodLink own idx ⟨"SubscriberLines", "allow", "(II)Z"⟩ ∈ al) (hR : 1 + 1 ≤ R.frames ∧ 8 + (3 + 11) + 22 ≤ R.locals) : rx_OK p l e R s m args below meth c cc nL ad (mx_W D g ad B s.heap) (mx_ck k0 n0) (.invokevirtual idx) 3 3 (K_sl_allow) :=
  ox_callVZ (q := 0) (T := T_0) X hkn hV (fun av x h => by obtain ⟨a0, a1, a2, rfl⟩ := k_RII_inv h; exact ⟨a0, _, rfl, by have h2 : a0 = 0 := h; rw [h2]; rfl⟩) (by decide) rfl hl (al_at 347 (by decide +kernel) rfl) (al_at 348 (by decide +kernel) rfl) (al_at 1 (by decide +kernel) rfl) (al_at 349 (by decide +kernel) rfl) ⟨by decide, by decide, by decide +kernel⟩ hR
theorem cvZ_mo_allow {p : Program} {l : Launch} {e : Env} {R : Room} {s : State} {m : MethodId} {args : Array Value} {below : List Frame} {meth : Method} {c : Code} {cc : ByteArray} {nL : Nat} {ad : Nat → Nat} {D : va_G} {g : Nat → ClassId} {B : Nat} {own : String} {idx k0 n0 : Nat} (X : ox_C p s m args c cc nL own D g ad B) (hkn : k0 ≤ R.cells ∧ n0 ≤ R.slots) (hV : rx_V l D g ad B ⟨"SubscriberLinesModel", "allow", "(II)Z"⟩ prog_12_method_35_code 3 (some .boolean) 1 21 K_mo_allow) (hl : Cond.methodLink own idx ⟨"SubscriberLinesModel", "allow", "(II)Z"⟩ ∈ al) (hR : 1 + 1 ≤ R.frames ∧ 8 + (3 + 11) + 21 ≤ R.locals) : rx_OK p l e R s m args below meth c cc nL ad (mx_W D g ad B s.heap) (mx_ck k0 n0) (.invokevirtual idx) 3 3 (K_mo_allow) :=
  ox_callVZ (q := 9) (T := T_9) X hkn hV (fun av x h => by obtain ⟨a0, a1, a2, rfl⟩ := k_RII_inv h; exact ⟨a0, _, rfl, by have h2 : a0 = 82 := h; rw [h2]; rfl⟩) (by decide) rfl hl (al_at 970 (by decide +kernel) rfl) (al_at 971 (by decide +kernel) rfl) (al_at 12 (by decide +kernel) rfl) (al_at 972 (by decide +kernel) rfl) ⟨by decide, by decide, by decide +kernel⟩ hR
theorem cvZ_sl_dial {p : Program} {l : Launch} {e : Env} {R : Room} {s : State} {m : MethodId} {args : Array Value} {below : List Frame} {meth : Method} {c : Code} {cc : ByteArray} {nL : Nat} {ad : Nat → Nat} {D : va_G} {g : Nat → ClassId} {B : Nat} {own : String} {idx k0 n0 : Nat} (X : ox_C p s m args c cc nL own D g ad B) (hkn : k0 ≤ R.cells ∧ n0 ≤ R.slots) (hV : rx_V l D g ad B ⟨"SubscriberLines", "dial", "(III)Z"⟩ prog_1_method_3_code 4 (some .boolean) 3 66 K_sl_dial) (hl : Cond.methodLink own idx ⟨"SubscriberLines", "dial", "(III)Z"⟩ ∈ al) (hR : 3 + 1 ≤ R.frames ∧ 8 + (4 + 11) + 66 ≤ R.locals) : rx_OK p l e R s m args below meth c cc nL ad (mx_W D g ad B s.heap) (mx_ck k0 n0) (.invokevirtual idx) 3 4 (K_sl_dial) :=
  ox_callVZ (q := 0) (T := T_0) X hkn hV (fun av x h => by obtain ⟨a0, a1, a2, a3, rfl⟩ := k_RIII_inv h; exact ⟨a0, _, rfl, by have h2 : a0 = 0 := h; rw [h2]; rfl⟩) (by decide) rfl hl (al_at 355 (by decide +kernel) rfl) (al_at 356 (by decide +kernel) rfl) (al_at 1 (by decide +kernel) rfl) (al_at 357 (by decide +kernel) rfl) ⟨by decide, by decide, by decide +kernel⟩ hR
theorem cvZ_mo_dial {p : Program} {l : Launch} {e : Env} {R : Room} {s : State} {m : MethodId} {args : Array Value} {below : List Frame} {meth : Method} {c : Code} {cc : ByteArray} {nL : Nat} {ad : Nat → Nat} {D : va_G} {g : Nat → ClassId} {B : Nat} {own : String} {idx k0 n0 : Nat} (X : ox_C p s m args c cc nL own D g ad B) (hkn : k0 ≤ R.cells ∧ n0 ≤ R.slots) (hV : rx_V l D g ad B ⟨"SubscriberLinesModel", "dial", "(III)Z"⟩ prog_12_method_36_code 4 (some .boolean) 3 75 K_mo_dial) (hl : Cond.methodLink own idx ⟨"SubscriberLinesModel", "dial", "(III)Z"⟩ ∈ al) (hR : 3 + 1 ≤ R.frames ∧ 8 + (4 + 11) + 75 ≤ R.locals) : rx_OK p l e R s m args below meth c cc nL ad (mx_W D g ad B s.heap) (mx_ck k0 n0) (.invokevirtual idx) 3 4 (K_mo_dial) :=
  ox_callVZ (q := 9) (T := T_9) X hkn hV (fun av x h => by obtain ⟨a0, a1, a2, a3, rfl⟩ := k_RIII_inv h; exact ⟨a0, _, rfl, by have h2 : a0 = 82 := h; rw [h2]; rfl⟩) (by decide) rfl hl (al_at 974 (by decide +kernel) rfl) (al_at 975 (by decide +kernel) rfl) (al_at 12 (by decide +kernel) rfl) (al_at 976 (by decide +kernel) rfl) ⟨by decide, by decide, by decide +kernel⟩ hR
theorem cvZ_sl_hangup {p : Program} {l : Launch} {e : Env} {R : Room} {s : State} {m : MethodId} {args : Array Value} {below : List Frame} {meth : Method} {c : Code} {cc : ByteArray} {nL : Nat} {ad : Nat → Nat} {D : va_G} {g : Nat → ClassId} {B : Nat} {own : String} {idx k0 n0 : Nat} (X : ox_C p s m args c cc nL own D g ad B) (hkn : k0 ≤ R.cells ∧ n0 ≤ R.slots) (hV : rx_V l D g ad B ⟨"SubscriberLines", "hangup", "(I)Z"⟩ prog_1_method_4_code 2 (some .boolean) 3 64 K_sl_hangup) (hl : Cond.methodLink own idx ⟨"SubscriberLines", "hangup", "(I)Z"⟩ ∈ al) (hR : 3 + 1 ≤ R.frames ∧ 8 + (2 + 11) + 64 ≤ R.locals) : rx_OK p l e R s m args below meth c cc nL ad (mx_W D g ad B s.heap) (mx_ck k0 n0) (.invokevirtual idx) 3 2 (K_sl_hangup) :=
  ox_callVZ (q := 0) (T := T_0) X hkn hV (fun av x h => by obtain ⟨a0, a1, rfl⟩ := k_RI_inv h; exact ⟨a0, _, rfl, by have h2 : a0 = 0 := h; rw [h2]; rfl⟩) (by decide) rfl hl (al_at 378 (by decide +kernel) rfl) (al_at 379 (by decide +kernel) rfl) (al_at 1 (by decide +kernel) rfl) (al_at 380 (by decide +kernel) rfl) ⟨by decide, by decide, by decide +kernel⟩ hR
theorem cvZ_mo_hangup {p : Program} {l : Launch} {e : Env} {R : Room} {s : State} {m : MethodId} {args : Array Value} {below : List Frame} {meth : Method} {c : Code} {cc : ByteArray} {nL : Nat} {ad : Nat → Nat} {D : va_G} {g : Nat → ClassId} {B : Nat} {own : String} {idx k0 n0 : Nat} (X : ox_C p s m args c cc nL own D g ad B) (hkn : k0 ≤ R.cells ∧ n0 ≤ R.slots) (hV : rx_V l D g ad B ⟨"SubscriberLinesModel", "hangup", "(I)Z"⟩ prog_12_method_37_code 2 (some .boolean) 3 75 K_mo_hangup) (hl : Cond.methodLink own idx ⟨"SubscriberLinesModel", "hangup", "(I)Z"⟩ ∈ al) (hR : 3 + 1 ≤ R.frames ∧ 8 + (2 + 11) + 75 ≤ R.locals) : rx_OK p l e R s m args below meth c cc nL ad (mx_W D g ad B s.heap) (mx_ck k0 n0) (.invokevirtual idx) 3 2 (K_mo_hangup) :=
  ox_callVZ (q := 9) (T := T_9) X hkn hV (fun av x h => by obtain ⟨a0, a1, rfl⟩ := k_RI_inv h; exact ⟨a0, _, rfl, by have h2 : a0 = 82 := h; rw [h2]; rfl⟩) (by decide) rfl hl (al_at 978 (by decide +kernel) rfl) (al_at 979 (by decide +kernel) rfl) (al_at 12 (by decide +kernel) rfl) (al_at 980 (by decide +kernel) rfl) ⟨by decide, by decide, by decide +kernel⟩ hR
theorem cvZ_sl_send {p : Program} {l : Launch} {e : Env} {R : Room} {s : State} {m : MethodId} {args : Array Value} {below : List Frame} {meth : Method} {c : Code} {cc : ByteArray} {nL : Nat} {ad : Nat → Nat} {D : va_G} {g : Nat → ClassId} {B : Nat} {own : String} {idx k0 n0 : Nat} (X : ox_C p s m args c cc nL own D g ad B) (hkn : k0 ≤ R.cells ∧ n0 ≤ R.slots) (hV : rx_V l D g ad B ⟨"SubscriberLines", "send", "(III)Z"⟩ prog_1_method_5_code 4 (some .boolean) 2 46 K_sl_send) (hl : Cond.methodLink own idx ⟨"SubscriberLines", "send", "(III)Z"⟩ ∈ al) (hR : 2 + 1 ≤ R.frames ∧ 8 + (4 + 11) + 46 ≤ R.locals) : rx_OK p l e R s m args below meth c cc nL ad (mx_W D g ad B s.heap) (mx_ck k0 n0) (.invokevirtual idx) 3 4 (K_sl_send) :=
  ox_callVZ (q := 0) (T := T_0) X hkn hV (fun av x h => by obtain ⟨a0, a1, a2, a3, rfl⟩ := k_RIII_inv h; exact ⟨a0, _, rfl, by have h2 : a0 = 0 := h; rw [h2]; rfl⟩) (by decide) rfl hl (al_at 398 (by decide +kernel) rfl) (al_at 399 (by decide +kernel) rfl) (al_at 1 (by decide +kernel) rfl) (al_at 400 (by decide +kernel) rfl) ⟨by decide, by decide, by decide +kernel⟩ hR
theorem cvZ_mo_send {p : Program} {l : Launch} {e : Env} {R : Room} {s : State} {m : MethodId} {args : Array Value} {below : List Frame} {meth : Method} {c : Code} {cc : ByteArray} {nL : Nat} {ad : Nat → Nat} {D : va_G} {g : Nat → ClassId} {B : Nat} {own : String} {idx k0 n0 : Nat} (X : ox_C p s m args c cc nL own D g ad B) (hkn : k0 ≤ R.cells ∧ n0 ≤ R.slots) (hV : rx_V l D g ad B ⟨"SubscriberLinesModel", "send", "(III)Z"⟩ prog_12_method_38_code 4 (some .boolean) 2 54 K_mo_send) (hl : Cond.methodLink own idx ⟨"SubscriberLinesModel", "send", "(III)Z"⟩ ∈ al) (hR : 2 + 1 ≤ R.frames ∧ 8 + (4 + 11) + 54 ≤ R.locals) : rx_OK p l e R s m args below meth c cc nL ad (mx_W D g ad B s.heap) (mx_ck k0 n0) (.invokevirtual idx) 3 4 (K_mo_send) :=
  ox_callVZ (q := 9) (T := T_9) X hkn hV (fun av x h => by obtain ⟨a0, a1, a2, a3, rfl⟩ := k_RIII_inv h; exact ⟨a0, _, rfl, by have h2 : a0 = 82 := h; rw [h2]; rfl⟩) (by decide) rfl hl (al_at 982 (by decide +kernel) rfl) (al_at 983 (by decide +kernel) rfl) (al_at 12 (by decide +kernel) rfl) (al_at 984 (by decide +kernel) rfl) ⟨by decide, by decide, by decide +kernel⟩ hR
theorem cvZ_sl_core {p : Program} {l : Launch} {e : Env} {R : Room} {s : State} {m : MethodId} {args : Array Value} {below : List Frame} {meth : Method} {c : Code} {cc : ByteArray} {nL : Nat} {ad : Nat → Nat} {D : va_G} {g : Nat → ClassId} {B : Nat} {own : String} {idx k0 n0 : Nat} (X : ox_C p s m args c cc nL own D g ad B) (hkn : k0 ≤ R.cells ∧ n0 ≤ R.slots) (hV : rx_V l D g ad B ⟨"SubscriberLines", "core", "(II)Z"⟩ prog_1_method_6_code 3 (some .boolean) 2 48 K_sl_core) (hl : Cond.methodLink own idx ⟨"SubscriberLines", "core", "(II)Z"⟩ ∈ al) (hR : 2 + 1 ≤ R.frames ∧ 8 + (3 + 11) + 48 ≤ R.locals) : rx_OK p l e R s m args below meth c cc nL ad (mx_W D g ad B s.heap) (mx_ck k0 n0) (.invokevirtual idx) 3 3 (K_sl_core) :=
  ox_callVZ (q := 0) (T := T_0) X hkn hV (fun av x h => by obtain ⟨a0, a1, a2, rfl⟩ := k_RII_inv h; exact ⟨a0, _, rfl, by have h2 : a0 = 0 := h; rw [h2]; rfl⟩) (by decide) rfl hl (al_at 406 (by decide +kernel) rfl) (al_at 407 (by decide +kernel) rfl) (al_at 1 (by decide +kernel) rfl) (al_at 408 (by decide +kernel) rfl) ⟨by decide, by decide, by decide +kernel⟩ hR
theorem cvZ_mo_core {p : Program} {l : Launch} {e : Env} {R : Room} {s : State} {m : MethodId} {args : Array Value} {below : List Frame} {meth : Method} {c : Code} {cc : ByteArray} {nL : Nat} {ad : Nat → Nat} {D : va_G} {g : Nat → ClassId} {B : Nat} {own : String} {idx k0 n0 : Nat} (X : ox_C p s m args c cc nL own D g ad B) (hkn : k0 ≤ R.cells ∧ n0 ≤ R.slots) (hV : rx_V l D g ad B ⟨"SubscriberLinesModel", "core", "(II)Z"⟩ prog_12_method_39_code 4 (some .boolean) 2 54 K_mo_core) (hl : Cond.methodLink own idx ⟨"SubscriberLinesModel", "core", "(II)Z"⟩ ∈ al) (hR : 2 + 1 ≤ R.frames ∧ 8 + (4 + 11) + 54 ≤ R.locals) : rx_OK p l e R s m args below meth c cc nL ad (mx_W D g ad B s.heap) (mx_ck k0 n0) (.invokevirtual idx) 3 3 (K_mo_core) :=
  ox_callVZ (q := 9) (T := T_9) X hkn hV (fun av x h => by obtain ⟨a0, a1, a2, rfl⟩ := k_RII_inv h; exact ⟨a0, _, rfl, by have h2 : a0 = 82 := h; rw [h2]; rfl⟩) (by decide) rfl hl (al_at 986 (by decide +kernel) rfl) (al_at 987 (by decide +kernel) rfl) (al_at 12 (by decide +kernel) rfl) (al_at 988 (by decide +kernel) rfl) ⟨by decide, by decide, by decide +kernel⟩ hR
theorem cvZ_sl_restart {p : Program} {l : Launch} {e : Env} {R : Room} {s : State} {m : MethodId} {args : Array Value} {below : List Frame} {meth : Method} {c : Code} {cc : ByteArray} {nL : Nat} {ad : Nat → Nat} {D : va_G} {g : Nat → ClassId} {B : Nat} {own : String} {idx k0 n0 : Nat} (X : ox_C p s m args c cc nL own D g ad B) (hkn : k0 ≤ R.cells ∧ n0 ≤ R.slots) (hV : rx_V l D g ad B ⟨"SubscriberLines", "restart", "(I)Z"⟩ prog_1_method_7_code 2 (some .boolean) 2 42 K_sl_restart) (hl : Cond.methodLink own idx ⟨"SubscriberLines", "restart", "(I)Z"⟩ ∈ al) (hR : 2 + 1 ≤ R.frames ∧ 8 + (2 + 11) + 42 ≤ R.locals) : rx_OK p l e R s m args below meth c cc nL ad (mx_W D g ad B s.heap) (mx_ck k0 n0) (.invokevirtual idx) 3 2 (K_sl_restart) :=
  ox_callVZ (q := 0) (T := T_0) X hkn hV (fun av x h => by obtain ⟨a0, a1, rfl⟩ := k_RI_inv h; exact ⟨a0, _, rfl, by have h2 : a0 = 0 := h; rw [h2]; rfl⟩) (by decide) rfl hl (al_at 416 (by decide +kernel) rfl) (al_at 417 (by decide +kernel) rfl) (al_at 1 (by decide +kernel) rfl) (al_at 418 (by decide +kernel) rfl) ⟨by decide, by decide, by decide +kernel⟩ hR
theorem cvZ_mo_restart {p : Program} {l : Launch} {e : Env} {R : Room} {s : State} {m : MethodId} {args : Array Value} {below : List Frame} {meth : Method} {c : Code} {cc : ByteArray} {nL : Nat} {ad : Nat → Nat} {D : va_G} {g : Nat → ClassId} {B : Nat} {own : String} {idx k0 n0 : Nat} (X : ox_C p s m args c cc nL own D g ad B) (hkn : k0 ≤ R.cells ∧ n0 ≤ R.slots) (hV : rx_V l D g ad B ⟨"SubscriberLinesModel", "restart", "(I)Z"⟩ prog_12_method_40_code 3 (some .boolean) 1 22 K_mo_restart) (hl : Cond.methodLink own idx ⟨"SubscriberLinesModel", "restart", "(I)Z"⟩ ∈ al) (hR : 1 + 1 ≤ R.frames ∧ 8 + (3 + 11) + 22 ≤ R.locals) : rx_OK p l e R s m args below meth c cc nL ad (mx_W D g ad B s.heap) (mx_ck k0 n0) (.invokevirtual idx) 3 2 (K_mo_restart) :=
  ox_callVZ (q := 9) (T := T_9) X hkn hV (fun av x h => by obtain ⟨a0, a1, rfl⟩ := k_RI_inv h; exact ⟨a0, _, rfl, by have h2 : a0 = 82 := h; rw [h2]; rfl⟩) (by decide) rfl hl (al_at 990 (by decide +kernel) rfl) (al_at 991 (by decide +kernel) rfl) (al_at 12 (by decide +kernel) rfl) (al_at 992 (by decide +kernel) rfl) ⟨by decide, by decide, by decide +kernel⟩ hR
theorem cvZ_sl_tick {p : Program} {l : Launch} {e : Env} {R : Room} {s : State} {m : MethodId} {args : Array Value} {below : List Frame} {meth : Method} {c : Code} {cc : ByteArray} {nL : Nat} {ad : Nat → Nat} {D : va_G} {g : Nat → ClassId} {B : Nat} {own : String} {idx k0 n0 : Nat} (X : ox_C p s m args c cc nL own D g ad B) (hkn : k0 ≤ R.cells ∧ n0 ≤ R.slots) (hV : rx_V l D g ad B ⟨"SubscriberLines", "tick", "()I"⟩ prog_1_method_8_code 4 (some .int) 6 137 K_sl_tick) (hl : Cond.methodLink own idx ⟨"SubscriberLines", "tick", "()I"⟩ ∈ al) (hR : 6 + 1 ≤ R.frames ∧ 8 + (4 + 11) + 137 ≤ R.locals) : rx_OK p l e R s m args below meth c cc nL ad (mx_W D g ad B s.heap) (mx_ck k0 n0) (.invokevirtual idx) 3 1 (K_sl_tick) :=
  ox_callVZ (q := 0) (T := T_0) X hkn hV (fun av x h => by obtain ⟨a0, rfl⟩ := k_R_inv h; exact ⟨a0, _, rfl, by have h2 : a0 = 0 := h.1; rw [h2]; rfl⟩) (by decide) rfl hl (al_at 437 (by decide +kernel) rfl) (al_at 438 (by decide +kernel) rfl) (al_at 1 (by decide +kernel) rfl) (al_at 439 (by decide +kernel) rfl) ⟨by decide, by decide, by decide +kernel⟩ hR
theorem cvZ_mo_tick {p : Program} {l : Launch} {e : Env} {R : Room} {s : State} {m : MethodId} {args : Array Value} {below : List Frame} {meth : Method} {c : Code} {cc : ByteArray} {nL : Nat} {ad : Nat → Nat} {D : va_G} {g : Nat → ClassId} {B : Nat} {own : String} {idx k0 n0 : Nat} (X : ox_C p s m args c cc nL own D g ad B) (hkn : k0 ≤ R.cells ∧ n0 ≤ R.slots) (hV : rx_V l D g ad B ⟨"SubscriberLinesModel", "tick", "()I"⟩ prog_12_method_34_code 4 (some .int) 8 195 K_mo_tick) (hl : Cond.methodLink own idx ⟨"SubscriberLinesModel", "tick", "()I"⟩ ∈ al) (hR : 8 + 1 ≤ R.frames ∧ 8 + (4 + 11) + 195 ≤ R.locals) : rx_OK p l e R s m args below meth c cc nL ad (mx_W D g ad B s.heap) (mx_ck k0 n0) (.invokevirtual idx) 3 1 (K_mo_tick) :=
  ox_callVZ (q := 9) (T := T_9) X hkn hV (fun av x h => by obtain ⟨a0, rfl⟩ := k_R_inv h; exact ⟨a0, _, rfl, by have h2 : a0 = 82 := h.1; rw [h2]; rfl⟩) (by decide) rfl hl (al_at 839 (by decide +kernel) rfl) (al_at 840 (by decide +kernel) rfl) (al_at 12 (by decide +kernel) rfl) (al_at 841 (by decide +kernel) rfl) ⟨by decide, by decide, by decide +kernel⟩ hR
theorem cvZ_sl_drop {p : Program} {l : Launch} {e : Env} {R : Room} {s : State} {m : MethodId} {args : Array Value} {below : List Frame} {meth : Method} {c : Code} {cc : ByteArray} {nL : Nat} {ad : Nat → Nat} {D : va_G} {g : Nat → ClassId} {B : Nat} {own : String} {idx k0 n0 : Nat} (X : ox_C p s m args c cc nL own D g ad B) (hkn : k0 ≤ R.cells ∧ n0 ≤ R.slots) (hV : rx_V l D g ad B ⟨"SubscriberLines", "drop", "(I)Z"⟩ prog_1_method_9_code 2 (some .boolean) 2 44 K_sl_drop) (hl : Cond.methodLink own idx ⟨"SubscriberLines", "drop", "(I)Z"⟩ ∈ al) (hR : 2 + 1 ≤ R.frames ∧ 8 + (2 + 11) + 44 ≤ R.locals) : rx_OK p l e R s m args below meth c cc nL ad (mx_W D g ad B s.heap) (mx_ck k0 n0) (.invokevirtual idx) 3 2 (K_sl_drop) :=
  ox_callVZ (q := 0) (T := T_0) X hkn hV (fun av x h => by obtain ⟨a0, a1, rfl⟩ := k_RI_inv h; exact ⟨a0, _, rfl, by have h2 : a0 = 0 := h; rw [h2]; rfl⟩) (by decide) rfl hl (al_at 630 (by decide +kernel) rfl) (al_at 631 (by decide +kernel) rfl) (al_at 1 (by decide +kernel) rfl) (al_at 632 (by decide +kernel) rfl) ⟨by decide, by decide, by decide +kernel⟩ hR
theorem cvZ_mo_drop {p : Program} {l : Launch} {e : Env} {R : Room} {s : State} {m : MethodId} {args : Array Value} {below : List Frame} {meth : Method} {c : Code} {cc : ByteArray} {nL : Nat} {ad : Nat → Nat} {D : va_G} {g : Nat → ClassId} {B : Nat} {own : String} {idx k0 n0 : Nat} (X : ox_C p s m args c cc nL own D g ad B) (hkn : k0 ≤ R.cells ∧ n0 ≤ R.slots) (hV : rx_V l D g ad B ⟨"SubscriberLinesModel", "drop", "(I)Z"⟩ prog_12_method_41_code 2 (some .boolean) 1 22 K_mo_drop) (hl : Cond.methodLink own idx ⟨"SubscriberLinesModel", "drop", "(I)Z"⟩ ∈ al) (hR : 1 + 1 ≤ R.frames ∧ 8 + (2 + 11) + 22 ≤ R.locals) : rx_OK p l e R s m args below meth c cc nL ad (mx_W D g ad B s.heap) (mx_ck k0 n0) (.invokevirtual idx) 3 2 (K_mo_drop) :=
  ox_callVZ (q := 9) (T := T_9) X hkn hV (fun av x h => by obtain ⟨a0, a1, rfl⟩ := k_RI_inv h; exact ⟨a0, _, rfl, by have h2 : a0 = 82 := h; rw [h2]; rfl⟩) (by decide) rfl hl (al_at 994 (by decide +kernel) rfl) (al_at 995 (by decide +kernel) rfl) (al_at 12 (by decide +kernel) rfl) (al_at 996 (by decide +kernel) rfl) ⟨by decide, by decide, by decide +kernel⟩ hR
theorem cvZ_sl_swap {p : Program} {l : Launch} {e : Env} {R : Room} {s : State} {m : MethodId} {args : Array Value} {below : List Frame} {meth : Method} {c : Code} {cc : ByteArray} {nL : Nat} {ad : Nat → Nat} {D : va_G} {g : Nat → ClassId} {B : Nat} {own : String} {idx k0 n0 : Nat} (X : ox_C p s m args c cc nL own D g ad B) (hkn : k0 ≤ R.cells ∧ n0 ≤ R.slots) (hV : rx_V l D g ad B ⟨"SubscriberLines", "swap", "(I)Z"⟩ prog_1_method_10_code 2 (some .boolean) 1 22 K_sl_swap) (hl : Cond.methodLink own idx ⟨"SubscriberLines", "swap", "(I)Z"⟩ ∈ al) (hR : 1 + 1 ≤ R.frames ∧ 8 + (2 + 11) + 22 ≤ R.locals) : rx_OK p l e R s m args below meth c cc nL ad (mx_W D g ad B s.heap) (mx_ck k0 n0) (.invokevirtual idx) 3 2 (K_sl_swap) :=
  ox_callVZ (q := 0) (T := T_0) X hkn hV (fun av x h => by obtain ⟨a0, a1, rfl⟩ := k_RI_inv h; exact ⟨a0, _, rfl, by have h2 : a0 = 0 := h; rw [h2]; rfl⟩) (by decide) rfl hl (al_at 634 (by decide +kernel) rfl) (al_at 635 (by decide +kernel) rfl) (al_at 1 (by decide +kernel) rfl) (al_at 636 (by decide +kernel) rfl) ⟨by decide, by decide, by decide +kernel⟩ hR
theorem cvZ_mo_swap {p : Program} {l : Launch} {e : Env} {R : Room} {s : State} {m : MethodId} {args : Array Value} {below : List Frame} {meth : Method} {c : Code} {cc : ByteArray} {nL : Nat} {ad : Nat → Nat} {D : va_G} {g : Nat → ClassId} {B : Nat} {own : String} {idx k0 n0 : Nat} (X : ox_C p s m args c cc nL own D g ad B) (hkn : k0 ≤ R.cells ∧ n0 ≤ R.slots) (hV : rx_V l D g ad B ⟨"SubscriberLinesModel", "swap", "(I)Z"⟩ prog_12_method_42_code 4 (some .boolean) 1 21 K_mo_swap) (hl : Cond.methodLink own idx ⟨"SubscriberLinesModel", "swap", "(I)Z"⟩ ∈ al) (hR : 1 + 1 ≤ R.frames ∧ 8 + (4 + 11) + 21 ≤ R.locals) : rx_OK p l e R s m args below meth c cc nL ad (mx_W D g ad B s.heap) (mx_ck k0 n0) (.invokevirtual idx) 3 2 (K_mo_swap) :=
  ox_callVZ (q := 9) (T := T_9) X hkn hV (fun av x h => by obtain ⟨a0, a1, rfl⟩ := k_RI_inv h; exact ⟨a0, _, rfl, by have h2 : a0 = 82 := h; rw [h2]; rfl⟩) (by decide) rfl hl (al_at 998 (by decide +kernel) rfl) (al_at 999 (by decide +kernel) rfl) (al_at 12 (by decide +kernel) rfl) (al_at 1000 (by decide +kernel) rfl) ⟨by decide, by decide, by decide +kernel⟩ hR
theorem cvZ_sl_flight {p : Program} {l : Launch} {e : Env} {R : Room} {s : State} {m : MethodId} {args : Array Value} {below : List Frame} {meth : Method} {c : Code} {cc : ByteArray} {nL : Nat} {ad : Nat → Nat} {D : va_G} {g : Nat → ClassId} {B : Nat} {own : String} {idx k0 n0 : Nat} (X : ox_C p s m args c cc nL own D g ad B) (hkn : k0 ≤ R.cells ∧ n0 ≤ R.slots) (hV : rx_V l D g ad B ⟨"SubscriberLines", "flight", "()I"⟩ prog_1_method_11_code 1 (some .int) 0 0 K_sl_flight) (hl : Cond.methodLink own idx ⟨"SubscriberLines", "flight", "()I"⟩ ∈ al) (hR : 0 + 1 ≤ R.frames ∧ 8 + (1 + 11) + 0 ≤ R.locals) : rx_OK p l e R s m args below meth c cc nL ad (mx_W D g ad B s.heap) (mx_ck k0 n0) (.invokevirtual idx) 3 1 (K_sl_flight) :=
  ox_callVZ (q := 0) (T := T_0) X hkn hV (fun av x h => by obtain ⟨a0, rfl⟩ := k_R_inv h; exact ⟨a0, _, rfl, by have h2 : a0 = 0 := h; rw [h2]; rfl⟩) (by decide) rfl hl (al_at 642 (by decide +kernel) rfl) (al_at 643 (by decide +kernel) rfl) (al_at 1 (by decide +kernel) rfl) (al_at 644 (by decide +kernel) rfl) ⟨by decide, by decide, by decide +kernel⟩ hR
theorem cvZ_mo_flight {p : Program} {l : Launch} {e : Env} {R : Room} {s : State} {m : MethodId} {args : Array Value} {below : List Frame} {meth : Method} {c : Code} {cc : ByteArray} {nL : Nat} {ad : Nat → Nat} {D : va_G} {g : Nat → ClassId} {B : Nat} {own : String} {idx k0 n0 : Nat} (X : ox_C p s m args c cc nL own D g ad B) (hkn : k0 ≤ R.cells ∧ n0 ≤ R.slots) (hV : rx_V l D g ad B ⟨"SubscriberLinesModel", "flight", "()I"⟩ prog_12_method_43_code 1 (some .int) 0 0 K_mo_flight) (hl : Cond.methodLink own idx ⟨"SubscriberLinesModel", "flight", "()I"⟩ ∈ al) (hR : 0 + 1 ≤ R.frames ∧ 8 + (1 + 11) + 0 ≤ R.locals) : rx_OK p l e R s m args below meth c cc nL ad (mx_W D g ad B s.heap) (mx_ck k0 n0) (.invokevirtual idx) 3 1 (K_mo_flight) :=
  ox_callVZ (q := 9) (T := T_9) X hkn hV (fun av x h => by obtain ⟨a0, rfl⟩ := k_R_inv h; exact ⟨a0, _, rfl, by have h2 : a0 = 82 := h; rw [h2]; rfl⟩) (by decide) rfl hl (al_at 1002 (by decide +kernel) rfl) (al_at 1003 (by decide +kernel) rfl) (al_at 12 (by decide +kernel) rfl) (al_at 1004 (by decide +kernel) rfl) ⟨by decide, by decide, by decide +kernel⟩ hR
theorem cvZ_sl_packet {p : Program} {l : Launch} {e : Env} {R : Room} {s : State} {m : MethodId} {args : Array Value} {below : List Frame} {meth : Method} {c : Code} {cc : ByteArray} {nL : Nat} {ad : Nat → Nat} {D : va_G} {g : Nat → ClassId} {B : Nat} {own : String} {idx k0 n0 : Nat} (X : ox_C p s m args c cc nL own D g ad B) (hkn : k0 ≤ R.cells ∧ n0 ≤ R.slots) (hV : rx_V l D g ad B ⟨"SubscriberLines", "packet", "(II)I"⟩ prog_1_method_12_code 3 (some .int) 1 21 K_sl_packet) (hl : Cond.methodLink own idx ⟨"SubscriberLines", "packet", "(II)I"⟩ ∈ al) (hR : 1 + 1 ≤ R.frames ∧ 8 + (3 + 11) + 21 ≤ R.locals) : rx_OK p l e R s m args below meth c cc nL ad (mx_W D g ad B s.heap) (mx_ck k0 n0) (.invokevirtual idx) 3 3 (K_sl_packet) :=
  ox_callVZ (q := 0) (T := T_0) X hkn hV (fun av x h => by obtain ⟨a0, a1, a2, rfl⟩ := k_RII_inv h; exact ⟨a0, _, rfl, by have h2 : a0 = 0 := h; rw [h2]; rfl⟩) (by decide) rfl hl (al_at 646 (by decide +kernel) rfl) (al_at 647 (by decide +kernel) rfl) (al_at 1 (by decide +kernel) rfl) (al_at 648 (by decide +kernel) rfl) ⟨by decide, by decide, by decide +kernel⟩ hR
theorem cvZ_mo_packet {p : Program} {l : Launch} {e : Env} {R : Room} {s : State} {m : MethodId} {args : Array Value} {below : List Frame} {meth : Method} {c : Code} {cc : ByteArray} {nL : Nat} {ad : Nat → Nat} {D : va_G} {g : Nat → ClassId} {B : Nat} {own : String} {idx k0 n0 : Nat} (X : ox_C p s m args c cc nL own D g ad B) (hkn : k0 ≤ R.cells ∧ n0 ≤ R.slots) (hV : rx_V l D g ad B ⟨"SubscriberLinesModel", "packet", "(II)I"⟩ prog_12_method_44_code 3 (some .int) 1 21 K_mo_packet) (hl : Cond.methodLink own idx ⟨"SubscriberLinesModel", "packet", "(II)I"⟩ ∈ al) (hR : 1 + 1 ≤ R.frames ∧ 8 + (3 + 11) + 21 ≤ R.locals) : rx_OK p l e R s m args below meth c cc nL ad (mx_W D g ad B s.heap) (mx_ck k0 n0) (.invokevirtual idx) 3 3 (K_mo_packet) :=
  ox_callVZ (q := 9) (T := T_9) X hkn hV (fun av x h => by obtain ⟨a0, a1, a2, rfl⟩ := k_RII_inv h; exact ⟨a0, _, rfl, by have h2 : a0 = 82 := h; rw [h2]; rfl⟩) (by decide) rfl hl (al_at 1006 (by decide +kernel) rfl) (al_at 1007 (by decide +kernel) rfl) (al_at 12 (by decide +kernel) rfl) (al_at 1008 (by decide +kernel) rfl) ⟨by decide, by decide, by decide +kernel⟩ hR
theorem cvZ_sl_state {p : Program} {l : Launch} {e : Env} {R : Room} {s : State} {m : MethodId} {args : Array Value} {below : List Frame} {meth : Method} {c : Code} {cc : ByteArray} {nL : Nat} {ad : Nat → Nat} {D : va_G} {g : Nat → ClassId} {B : Nat} {own : String} {idx k0 n0 : Nat} (X : ox_C p s m args c cc nL own D g ad B) (hkn : k0 ≤ R.cells ∧ n0 ≤ R.slots) (hV : rx_V l D g ad B ⟨"SubscriberLines", "state", "(I)I"⟩ prog_1_method_13_code 2 (some .int) 1 20 K_sl_state) (hl : Cond.methodLink own idx ⟨"SubscriberLines", "state", "(I)I"⟩ ∈ al) (hR : 1 + 1 ≤ R.frames ∧ 8 + (2 + 11) + 20 ≤ R.locals) : rx_OK p l e R s m args below meth c cc nL ad (mx_W D g ad B s.heap) (mx_ck k0 n0) (.invokevirtual idx) 3 2 (K_sl_state) :=
  ox_callVZ (q := 0) (T := T_0) X hkn hV (fun av x h => by obtain ⟨a0, a1, rfl⟩ := k_RI_inv h; exact ⟨a0, _, rfl, by have h2 : a0 = 0 := h; rw [h2]; rfl⟩) (by decide) rfl hl (al_at 655 (by decide +kernel) rfl) (al_at 656 (by decide +kernel) rfl) (al_at 1 (by decide +kernel) rfl) (al_at 657 (by decide +kernel) rfl) ⟨by decide, by decide, by decide +kernel⟩ hR
theorem cvZ_mo_state {p : Program} {l : Launch} {e : Env} {R : Room} {s : State} {m : MethodId} {args : Array Value} {below : List Frame} {meth : Method} {c : Code} {cc : ByteArray} {nL : Nat} {ad : Nat → Nat} {D : va_G} {g : Nat → ClassId} {B : Nat} {own : String} {idx k0 n0 : Nat} (X : ox_C p s m args c cc nL own D g ad B) (hkn : k0 ≤ R.cells ∧ n0 ≤ R.slots) (hV : rx_V l D g ad B ⟨"SubscriberLinesModel", "state", "(I)I"⟩ prog_12_method_45_code 2 (some .int) 1 21 K_mo_state) (hl : Cond.methodLink own idx ⟨"SubscriberLinesModel", "state", "(I)I"⟩ ∈ al) (hR : 1 + 1 ≤ R.frames ∧ 8 + (2 + 11) + 21 ≤ R.locals) : rx_OK p l e R s m args below meth c cc nL ad (mx_W D g ad B s.heap) (mx_ck k0 n0) (.invokevirtual idx) 3 2 (K_mo_state) :=
  ox_callVZ (q := 9) (T := T_9) X hkn hV (fun av x h => by obtain ⟨a0, a1, rfl⟩ := k_RI_inv h; exact ⟨a0, _, rfl, by have h2 : a0 = 82 := h; rw [h2]; rfl⟩) (by decide) rfl hl (al_at 1010 (by decide +kernel) rfl) (al_at 1011 (by decide +kernel) rfl) (al_at 12 (by decide +kernel) rfl) (al_at 1012 (by decide +kernel) rfl) ⟨by decide, by decide, by decide +kernel⟩ hR
theorem cvZ_sl_address {p : Program} {l : Launch} {e : Env} {R : Room} {s : State} {m : MethodId} {args : Array Value} {below : List Frame} {meth : Method} {c : Code} {cc : ByteArray} {nL : Nat} {ad : Nat → Nat} {D : va_G} {g : Nat → ClassId} {B : Nat} {own : String} {idx k0 n0 : Nat} (X : ox_C p s m args c cc nL own D g ad B) (hkn : k0 ≤ R.cells ∧ n0 ≤ R.slots) (hV : rx_V l D g ad B ⟨"SubscriberLines", "address", "(I)I"⟩ prog_1_method_14_code 2 (some .int) 1 20 K_sl_address) (hl : Cond.methodLink own idx ⟨"SubscriberLines", "address", "(I)I"⟩ ∈ al) (hR : 1 + 1 ≤ R.frames ∧ 8 + (2 + 11) + 20 ≤ R.locals) : rx_OK p l e R s m args below meth c cc nL ad (mx_W D g ad B s.heap) (mx_ck k0 n0) (.invokevirtual idx) 3 2 (K_sl_address) :=
  ox_callVZ (q := 0) (T := T_0) X hkn hV (fun av x h => by obtain ⟨a0, a1, rfl⟩ := k_RI_inv h; exact ⟨a0, _, rfl, by have h2 : a0 = 0 := h; rw [h2]; rfl⟩) (by decide) rfl hl (al_at 659 (by decide +kernel) rfl) (al_at 660 (by decide +kernel) rfl) (al_at 1 (by decide +kernel) rfl) (al_at 661 (by decide +kernel) rfl) ⟨by decide, by decide, by decide +kernel⟩ hR
theorem cvZ_mo_address {p : Program} {l : Launch} {e : Env} {R : Room} {s : State} {m : MethodId} {args : Array Value} {below : List Frame} {meth : Method} {c : Code} {cc : ByteArray} {nL : Nat} {ad : Nat → Nat} {D : va_G} {g : Nat → ClassId} {B : Nat} {own : String} {idx k0 n0 : Nat} (X : ox_C p s m args c cc nL own D g ad B) (hkn : k0 ≤ R.cells ∧ n0 ≤ R.slots) (hV : rx_V l D g ad B ⟨"SubscriberLinesModel", "address", "(I)I"⟩ prog_12_method_46_code 2 (some .int) 1 21 K_mo_address) (hl : Cond.methodLink own idx ⟨"SubscriberLinesModel", "address", "(I)I"⟩ ∈ al) (hR : 1 + 1 ≤ R.frames ∧ 8 + (2 + 11) + 21 ≤ R.locals) : rx_OK p l e R s m args below meth c cc nL ad (mx_W D g ad B s.heap) (mx_ck k0 n0) (.invokevirtual idx) 3 2 (K_mo_address) :=
  ox_callVZ (q := 9) (T := T_9) X hkn hV (fun av x h => by obtain ⟨a0, a1, rfl⟩ := k_RI_inv h; exact ⟨a0, _, rfl, by have h2 : a0 = 82 := h; rw [h2]; rfl⟩) (by decide) rfl hl (al_at 1014 (by decide +kernel) rfl) (al_at 1015 (by decide +kernel) rfl) (al_at 12 (by decide +kernel) rfl) (al_at 1016 (by decide +kernel) rfl) ⟨by decide, by decide, by decide +kernel⟩ hR
theorem cvZ_sl_heard {p : Program} {l : Launch} {e : Env} {R : Room} {s : State} {m : MethodId} {args : Array Value} {below : List Frame} {meth : Method} {c : Code} {cc : ByteArray} {nL : Nat} {ad : Nat → Nat} {D : va_G} {g : Nat → ClassId} {B : Nat} {own : String} {idx k0 n0 : Nat} (X : ox_C p s m args c cc nL own D g ad B) (hkn : k0 ≤ R.cells ∧ n0 ≤ R.slots) (hV : rx_V l D g ad B ⟨"SubscriberLines", "heard", "(II)I"⟩ prog_1_method_15_code 4 (some .int) 1 21 K_sl_heard) (hl : Cond.methodLink own idx ⟨"SubscriberLines", "heard", "(II)I"⟩ ∈ al) (hR : 1 + 1 ≤ R.frames ∧ 8 + (4 + 11) + 21 ≤ R.locals) : rx_OK p l e R s m args below meth c cc nL ad (mx_W D g ad B s.heap) (mx_ck k0 n0) (.invokevirtual idx) 3 3 (K_sl_heard) :=
  ox_callVZ (q := 0) (T := T_0) X hkn hV (fun av x h => by obtain ⟨a0, a1, a2, rfl⟩ := k_RII_inv h; exact ⟨a0, _, rfl, by have h2 : a0 = 0 := h; rw [h2]; rfl⟩) (by decide) rfl hl (al_at 663 (by decide +kernel) rfl) (al_at 664 (by decide +kernel) rfl) (al_at 1 (by decide +kernel) rfl) (al_at 665 (by decide +kernel) rfl) ⟨by decide, by decide, by decide +kernel⟩ hR
theorem cvZ_mo_heard {p : Program} {l : Launch} {e : Env} {R : Room} {s : State} {m : MethodId} {args : Array Value} {below : List Frame} {meth : Method} {c : Code} {cc : ByteArray} {nL : Nat} {ad : Nat → Nat} {D : va_G} {g : Nat → ClassId} {B : Nat} {own : String} {idx k0 n0 : Nat} (X : ox_C p s m args c cc nL own D g ad B) (hkn : k0 ≤ R.cells ∧ n0 ≤ R.slots) (hV : rx_V l D g ad B ⟨"SubscriberLinesModel", "heard", "(II)I"⟩ prog_12_method_47_code 3 (some .int) 1 21 K_mo_heard) (hl : Cond.methodLink own idx ⟨"SubscriberLinesModel", "heard", "(II)I"⟩ ∈ al) (hR : 1 + 1 ≤ R.frames ∧ 8 + (3 + 11) + 21 ≤ R.locals) : rx_OK p l e R s m args below meth c cc nL ad (mx_W D g ad B s.heap) (mx_ck k0 n0) (.invokevirtual idx) 3 3 (K_mo_heard) :=
  ox_callVZ (q := 9) (T := T_9) X hkn hV (fun av x h => by obtain ⟨a0, a1, a2, rfl⟩ := k_RII_inv h; exact ⟨a0, _, rfl, by have h2 : a0 = 82 := h; rw [h2]; rfl⟩) (by decide) rfl hl (al_at 1018 (by decide +kernel) rfl) (al_at 1019 (by decide +kernel) rfl) (al_at 12 (by decide +kernel) rfl) (al_at 1020 (by decide +kernel) rfl) ⟨by decide, by decide, by decide +kernel⟩ hR
theorem cvZ_sl_cored {p : Program} {l : Launch} {e : Env} {R : Room} {s : State} {m : MethodId} {args : Array Value} {below : List Frame} {meth : Method} {c : Code} {cc : ByteArray} {nL : Nat} {ad : Nat → Nat} {D : va_G} {g : Nat → ClassId} {B : Nat} {own : String} {idx k0 n0 : Nat} (X : ox_C p s m args c cc nL own D g ad B) (hkn : k0 ≤ R.cells ∧ n0 ≤ R.slots) (hV : rx_V l D g ad B ⟨"SubscriberLines", "cored", "(I)I"⟩ prog_1_method_16_code 2 (some .int) 1 21 K_sl_cored) (hl : Cond.methodLink own idx ⟨"SubscriberLines", "cored", "(I)I"⟩ ∈ al) (hR : 1 + 1 ≤ R.frames ∧ 8 + (2 + 11) + 21 ≤ R.locals) : rx_OK p l e R s m args below meth c cc nL ad (mx_W D g ad B s.heap) (mx_ck k0 n0) (.invokevirtual idx) 3 2 (K_sl_cored) :=
  ox_callVZ (q := 0) (T := T_0) X hkn hV (fun av x h => by obtain ⟨a0, a1, rfl⟩ := k_RI_inv h; exact ⟨a0, _, rfl, by have h2 : a0 = 0 := h; rw [h2]; rfl⟩) (by decide) rfl hl (al_at 671 (by decide +kernel) rfl) (al_at 672 (by decide +kernel) rfl) (al_at 1 (by decide +kernel) rfl) (al_at 673 (by decide +kernel) rfl) ⟨by decide, by decide, by decide +kernel⟩ hR
theorem cvZ_mo_cored {p : Program} {l : Launch} {e : Env} {R : Room} {s : State} {m : MethodId} {args : Array Value} {below : List Frame} {meth : Method} {c : Code} {cc : ByteArray} {nL : Nat} {ad : Nat → Nat} {D : va_G} {g : Nat → ClassId} {B : Nat} {own : String} {idx k0 n0 : Nat} (X : ox_C p s m args c cc nL own D g ad B) (hkn : k0 ≤ R.cells ∧ n0 ≤ R.slots) (hV : rx_V l D g ad B ⟨"SubscriberLinesModel", "cored", "(I)I"⟩ prog_12_method_48_code 2 (some .int) 1 21 K_mo_cored) (hl : Cond.methodLink own idx ⟨"SubscriberLinesModel", "cored", "(I)I"⟩ ∈ al) (hR : 1 + 1 ≤ R.frames ∧ 8 + (2 + 11) + 21 ≤ R.locals) : rx_OK p l e R s m args below meth c cc nL ad (mx_W D g ad B s.heap) (mx_ck k0 n0) (.invokevirtual idx) 3 2 (K_mo_cored) :=
  ox_callVZ (q := 9) (T := T_9) X hkn hV (fun av x h => by obtain ⟨a0, a1, rfl⟩ := k_RI_inv h; exact ⟨a0, _, rfl, by have h2 : a0 = 82 := h; rw [h2]; rfl⟩) (by decide) rfl hl (al_at 1022 (by decide +kernel) rfl) (al_at 1023 (by decide +kernel) rfl) (al_at 12 (by decide +kernel) rfl) (al_at 1024 (by decide +kernel) rfl) ⟨by decide, by decide, by decide +kernel⟩ hR
theorem cvZ_sl_source {p : Program} {l : Launch} {e : Env} {R : Room} {s : State} {m : MethodId} {args : Array Value} {below : List Frame} {meth : Method} {c : Code} {cc : ByteArray} {nL : Nat} {ad : Nat → Nat} {D : va_G} {g : Nat → ClassId} {B : Nat} {own : String} {idx k0 n0 : Nat} (X : ox_C p s m args c cc nL own D g ad B) (hkn : k0 ≤ R.cells ∧ n0 ≤ R.slots) (hV : rx_V l D g ad B ⟨"SubscriberLines", "source", "(I)I"⟩ prog_1_method_17_code 2 (some .int) 1 21 K_sl_source) (hl : Cond.methodLink own idx ⟨"SubscriberLines", "source", "(I)I"⟩ ∈ al) (hR : 1 + 1 ≤ R.frames ∧ 8 + (2 + 11) + 21 ≤ R.locals) : rx_OK p l e R s m args below meth c cc nL ad (mx_W D g ad B s.heap) (mx_ck k0 n0) (.invokevirtual idx) 3 2 (K_sl_source) :=
  ox_callVZ (q := 0) (T := T_0) X hkn hV (fun av x h => by obtain ⟨a0, a1, rfl⟩ := k_RI_inv h; exact ⟨a0, _, rfl, by have h2 : a0 = 0 := h; rw [h2]; rfl⟩) (by decide) rfl hl (al_at 675 (by decide +kernel) rfl) (al_at 676 (by decide +kernel) rfl) (al_at 1 (by decide +kernel) rfl) (al_at 677 (by decide +kernel) rfl) ⟨by decide, by decide, by decide +kernel⟩ hR
theorem cvZ_mo_source {p : Program} {l : Launch} {e : Env} {R : Room} {s : State} {m : MethodId} {args : Array Value} {below : List Frame} {meth : Method} {c : Code} {cc : ByteArray} {nL : Nat} {ad : Nat → Nat} {D : va_G} {g : Nat → ClassId} {B : Nat} {own : String} {idx k0 n0 : Nat} (X : ox_C p s m args c cc nL own D g ad B) (hkn : k0 ≤ R.cells ∧ n0 ≤ R.slots) (hV : rx_V l D g ad B ⟨"SubscriberLinesModel", "source", "(I)I"⟩ prog_12_method_49_code 2 (some .int) 1 21 K_mo_source) (hl : Cond.methodLink own idx ⟨"SubscriberLinesModel", "source", "(I)I"⟩ ∈ al) (hR : 1 + 1 ≤ R.frames ∧ 8 + (2 + 11) + 21 ≤ R.locals) : rx_OK p l e R s m args below meth c cc nL ad (mx_W D g ad B s.heap) (mx_ck k0 n0) (.invokevirtual idx) 3 2 (K_mo_source) :=
  ox_callVZ (q := 9) (T := T_9) X hkn hV (fun av x h => by obtain ⟨a0, a1, rfl⟩ := k_RI_inv h; exact ⟨a0, _, rfl, by have h2 : a0 = 82 := h; rw [h2]; rfl⟩) (by decide) rfl hl (al_at 1026 (by decide +kernel) rfl) (al_at 1027 (by decide +kernel) rfl) (al_at 12 (by decide +kernel) rfl) (al_at 1028 (by decide +kernel) rfl) ⟨by decide, by decide, by decide +kernel⟩ hR
theorem cvZ_sl_circuit {p : Program} {l : Launch} {e : Env} {R : Room} {s : State} {m : MethodId} {args : Array Value} {below : List Frame} {meth : Method} {c : Code} {cc : ByteArray} {nL : Nat} {ad : Nat → Nat} {D : va_G} {g : Nat → ClassId} {B : Nat} {own : String} {idx k0 n0 : Nat} (X : ox_C p s m args c cc nL own D g ad B) (hkn : k0 ≤ R.cells ∧ n0 ≤ R.slots) (hV : rx_V l D g ad B ⟨"SubscriberLines", "circuit", "(II)I"⟩ prog_1_method_18_code 3 (some .int) 1 22 K_sl_circuit) (hl : Cond.methodLink own idx ⟨"SubscriberLines", "circuit", "(II)I"⟩ ∈ al) (hR : 1 + 1 ≤ R.frames ∧ 8 + (3 + 11) + 22 ≤ R.locals) : rx_OK p l e R s m args below meth c cc nL ad (mx_W D g ad B s.heap) (mx_ck k0 n0) (.invokevirtual idx) 3 3 (K_sl_circuit) :=
  ox_callVZ (q := 0) (T := T_0) X hkn hV (fun av x h => by obtain ⟨a0, a1, a2, rfl⟩ := k_RII_inv h; exact ⟨a0, _, rfl, by have h2 : a0 = 0 := h; rw [h2]; rfl⟩) (by decide) rfl hl (al_at 679 (by decide +kernel) rfl) (al_at 680 (by decide +kernel) rfl) (al_at 1 (by decide +kernel) rfl) (al_at 681 (by decide +kernel) rfl) ⟨by decide, by decide, by decide +kernel⟩ hR
theorem cvZ_mo_circuit {p : Program} {l : Launch} {e : Env} {R : Room} {s : State} {m : MethodId} {args : Array Value} {below : List Frame} {meth : Method} {c : Code} {cc : ByteArray} {nL : Nat} {ad : Nat → Nat} {D : va_G} {g : Nat → ClassId} {B : Nat} {own : String} {idx k0 n0 : Nat} (X : ox_C p s m args c cc nL own D g ad B) (hkn : k0 ≤ R.cells ∧ n0 ≤ R.slots) (hV : rx_V l D g ad B ⟨"SubscriberLinesModel", "circuit", "(II)I"⟩ prog_12_method_50_code 3 (some .int) 1 21 K_mo_circuit) (hl : Cond.methodLink own idx ⟨"SubscriberLinesModel", "circuit", "(II)I"⟩ ∈ al) (hR : 1 + 1 ≤ R.frames ∧ 8 + (3 + 11) + 21 ≤ R.locals) : rx_OK p l e R s m args below meth c cc nL ad (mx_W D g ad B s.heap) (mx_ck k0 n0) (.invokevirtual idx) 3 3 (K_mo_circuit) :=
  ox_callVZ (q := 9) (T := T_9) X hkn hV (fun av x h => by obtain ⟨a0, a1, a2, rfl⟩ := k_RII_inv h; exact ⟨a0, _, rfl, by have h2 : a0 = 82 := h; rw [h2]; rfl⟩) (by decide) rfl hl (al_at 1030 (by decide +kernel) rfl) (al_at 1031 (by decide +kernel) rfl) (al_at 12 (by decide +kernel) rfl) (al_at 1032 (by decide +kernel) rfl) ⟨by decide, by decide, by decide +kernel⟩ hR
theorem cvZ_sl_session {p : Program} {l : Launch} {e : Env} {R : Room} {s : State} {m : MethodId} {args : Array Value} {below : List Frame} {meth : Method} {c : Code} {cc : ByteArray} {nL : Nat} {ad : Nat → Nat} {D : va_G} {g : Nat → ClassId} {B : Nat} {own : String} {idx k0 n0 : Nat} (X : ox_C p s m args c cc nL own D g ad B) (hkn : k0 ≤ R.cells ∧ n0 ≤ R.slots) (hV : rx_V l D g ad B ⟨"SubscriberLines", "session", "(II)I"⟩ prog_1_method_19_code 3 (some .int) 1 21 K_sl_session) (hl : Cond.methodLink own idx ⟨"SubscriberLines", "session", "(II)I"⟩ ∈ al) (hR : 1 + 1 ≤ R.frames ∧ 8 + (3 + 11) + 21 ≤ R.locals) : rx_OK p l e R s m args below meth c cc nL ad (mx_W D g ad B s.heap) (mx_ck k0 n0) (.invokevirtual idx) 3 3 (K_sl_session) :=
  ox_callVZ (q := 0) (T := T_0) X hkn hV (fun av x h => by obtain ⟨a0, a1, a2, rfl⟩ := k_RII_inv h; exact ⟨a0, _, rfl, by have h2 : a0 = 0 := h; rw [h2]; rfl⟩) (by decide) rfl hl (al_at 687 (by decide +kernel) rfl) (al_at 688 (by decide +kernel) rfl) (al_at 1 (by decide +kernel) rfl) (al_at 689 (by decide +kernel) rfl) ⟨by decide, by decide, by decide +kernel⟩ hR
theorem cvZ_mo_session {p : Program} {l : Launch} {e : Env} {R : Room} {s : State} {m : MethodId} {args : Array Value} {below : List Frame} {meth : Method} {c : Code} {cc : ByteArray} {nL : Nat} {ad : Nat → Nat} {D : va_G} {g : Nat → ClassId} {B : Nat} {own : String} {idx k0 n0 : Nat} (X : ox_C p s m args c cc nL own D g ad B) (hkn : k0 ≤ R.cells ∧ n0 ≤ R.slots) (hV : rx_V l D g ad B ⟨"SubscriberLinesModel", "session", "(II)I"⟩ prog_12_method_51_code 3 (some .int) 1 21 K_mo_session) (hl : Cond.methodLink own idx ⟨"SubscriberLinesModel", "session", "(II)I"⟩ ∈ al) (hR : 1 + 1 ≤ R.frames ∧ 8 + (3 + 11) + 21 ≤ R.locals) : rx_OK p l e R s m args below meth c cc nL ad (mx_W D g ad B s.heap) (mx_ck k0 n0) (.invokevirtual idx) 3 3 (K_mo_session) :=
  ox_callVZ (q := 9) (T := T_9) X hkn hV (fun av x h => by obtain ⟨a0, a1, a2, rfl⟩ := k_RII_inv h; exact ⟨a0, _, rfl, by have h2 : a0 = 82 := h; rw [h2]; rfl⟩) (by decide) rfl hl (al_at 1034 (by decide +kernel) rfl) (al_at 1035 (by decide +kernel) rfl) (al_at 12 (by decide +kernel) rfl) (al_at 1036 (by decide +kernel) rfl) ⟨by decide, by decide, by decide +kernel⟩ hR
theorem cvZ_sl_channel {p : Program} {l : Launch} {e : Env} {R : Room} {s : State} {m : MethodId} {args : Array Value} {below : List Frame} {meth : Method} {c : Code} {cc : ByteArray} {nL : Nat} {ad : Nat → Nat} {D : va_G} {g : Nat → ClassId} {B : Nat} {own : String} {idx k0 n0 : Nat} (X : ox_C p s m args c cc nL own D g ad B) (hkn : k0 ≤ R.cells ∧ n0 ≤ R.slots) (hV : rx_V l D g ad B ⟨"SubscriberLines", "channel", "(II)I"⟩ prog_1_method_20_code 3 (some .int) 2 41 K_sl_channel) (hl : Cond.methodLink own idx ⟨"SubscriberLines", "channel", "(II)I"⟩ ∈ al) (hR : 2 + 1 ≤ R.frames ∧ 8 + (3 + 11) + 41 ≤ R.locals) : rx_OK p l e R s m args below meth c cc nL ad (mx_W D g ad B s.heap) (mx_ck k0 n0) (.invokevirtual idx) 3 3 (K_sl_channel) :=
  ox_callVZ (q := 0) (T := T_0) X hkn hV (fun av x h => by obtain ⟨a0, a1, a2, rfl⟩ := k_RII_inv h; exact ⟨a0, _, rfl, by have h2 : a0 = 0 := h; rw [h2]; rfl⟩) (by decide) rfl hl (al_at 695 (by decide +kernel) rfl) (al_at 696 (by decide +kernel) rfl) (al_at 1 (by decide +kernel) rfl) (al_at 697 (by decide +kernel) rfl) ⟨by decide, by decide, by decide +kernel⟩ hR
theorem cvZ_mo_channel {p : Program} {l : Launch} {e : Env} {R : Room} {s : State} {m : MethodId} {args : Array Value} {below : List Frame} {meth : Method} {c : Code} {cc : ByteArray} {nL : Nat} {ad : Nat → Nat} {D : va_G} {g : Nat → ClassId} {B : Nat} {own : String} {idx k0 n0 : Nat} (X : ox_C p s m args c cc nL own D g ad B) (hkn : k0 ≤ R.cells ∧ n0 ≤ R.slots) (hV : rx_V l D g ad B ⟨"SubscriberLinesModel", "channel", "(II)I"⟩ prog_12_method_52_code 5 (some .int) 0 0 K_mo_channel) (hl : Cond.methodLink own idx ⟨"SubscriberLinesModel", "channel", "(II)I"⟩ ∈ al) (hR : 0 + 1 ≤ R.frames ∧ 8 + (5 + 11) + 0 ≤ R.locals) : rx_OK p l e R s m args below meth c cc nL ad (mx_W D g ad B s.heap) (mx_ck k0 n0) (.invokevirtual idx) 3 3 (K_mo_channel) :=
  ox_callVZ (q := 9) (T := T_9) X hkn hV (fun av x h => by obtain ⟨a0, a1, a2, rfl⟩ := k_RII_inv h; exact ⟨a0, _, rfl, by have h2 : a0 = 82 := h; rw [h2]; rfl⟩) (by decide) rfl hl (al_at 1038 (by decide +kernel) rfl) (al_at 1039 (by decide +kernel) rfl) (al_at 12 (by decide +kernel) rfl) (al_at 1040 (by decide +kernel) rfl) ⟨by decide, by decide, by decide +kernel⟩ hR
def L_law (xs : Nat → Int32) (L : Nat) : List (rx_E mx) := [
  (0, .new 7, 3, 7, 0, 0, [], kno),
  (3, .dup, 1, 0, 0, 0, [], kno),
  (4, .aload_n 0, 1, 0, 0, 0, [], kno),
  (5, .iconst 0, 1, 0, 0, 0, [], kno),
  (6, .invokestatic 9, 3, 7, 2, 0, [], kno),
  (9, .invokespecial 15, 3, 7, 2, 0, [], kno),
  (12, .astore_n 1, 1, 0, 1, 0, [], kno),
  (13, .new 18, 3, 7, 0, 0, [], kno),
  (16, .dup, 1, 0, 0, 0, [], kno),
  (17, .aload_n 0, 1, 0, 0, 0, [], kno),
  (18, .iconst 0, 1, 0, 0, 0, [], kno),
  (19, .invokestatic 9, 3, 7, 2, 0, [], kno),
  (22, .invokespecial 20, 3, 7, 2, 0, [], kno),
  (25, .astore_n 2, 1, 0, 2, 0, [], kno),
  (26, .iconst 1, 1, 0, 0, 1, [], kno),
  (27, .istore_n 3, 1, 0, 3, 0, [], kno),
  (28, .iload_n 3, 1, 0, 3, 0, [], kno),
  (29, .aload_n 0, 1, 0, 0, 0, [], kno),
  (30, .arraylength, 1, 7, 1, 0, [], kscl L),
  (31, .iconst 4, 1, 0, 0, 4, [], kno),
  (32, .isub, 1, 0, 0, 0, [], kno),
  (33, .if_icmp .gt 632, 3, 2, 443, 0, [], kno),
  (36, .aload_n 0, 1, 0, 0, 0, [], kno),
  (37, .iload_n 3, 1, 0, 3, 0, [], kno),
  (38, .iaload, 1, 7, 2, 0, [], kscr xs L),
  (39, .bipush 31, 2, 0, 0, 31, [], kno),
  (41, .iand, 1, 0, 0, 0, [], kno),
  (42, .tableswitch 617 0 18 #[90, 123, 166, 189, 232, 265, 288, 301, 324, 347, 360, 393, 416, 439, 472, 495, 518, 551, 584], 90, 4, 441, 0, [(0, 28), (1, 55), (2, 92), (3, 109), (4, 146), (5, 173), (6, 190), (7, 197), (8, 214), (9, 231), (10, 238), (11, 265), (12, 282), (13, 299), (14, 326), (15, 343), (16, 360), (17, 387), (18, 414)], kno),
  (132, .aload_n 1, 1, 0, 1, 0, [], kno),
  (133, .aload_n 0, 1, 0, 0, 0, [], kno),
  (134, .iload_n 3, 1, 0, 3, 0, [], kno),
  (135, .iconst 1, 1, 0, 0, 1, [], kno),
  (136, .iadd, 1, 0, 0, 0, [], kno),
  (137, .iaload, 1, 7, 2, 0, [], kscr xs L),
  (138, .aload_n 0, 1, 0, 0, 0, [], kno),
  (139, .iload_n 3, 1, 0, 3, 0, [], kno),
  (140, .iconst 2, 1, 0, 0, 2, [], kno),
  (141, .iadd, 1, 0, 0, 0, [], kno),
  (142, .iaload, 1, 7, 2, 0, [], kscr xs L),
  (143, .invokevirtual 21, 3, 7, 3, 0, [], K_sl_allow),
  (146, .aload_n 2, 1, 0, 2, 0, [], kno),
  (147, .aload_n 0, 1, 0, 0, 0, [], kno),
  (148, .iload_n 3, 1, 0, 3, 0, [], kno),
  (149, .iconst 1, 1, 0, 0, 1, [], kno),
  (150, .iadd, 1, 0, 0, 0, [], kno),
  (151, .iaload, 1, 7, 2, 0, [], kscr xs L),
  (152, .aload_n 0, 1, 0, 0, 0, [], kno),
  (153, .iload_n 3, 1, 0, 3, 0, [], kno),
  (154, .iconst 2, 1, 0, 0, 2, [], kno),
  (155, .iadd, 1, 0, 0, 0, [], kno),
  (156, .iaload, 1, 7, 2, 0, [], kscr xs L),
  (157, .invokevirtual 25, 3, 7, 3, 0, [], K_mo_allow),
  (160, .if_icmp .eq 499, 3, 2, 441, 0, [], kno),
  (163, .iconst 0, 1, 0, 0, 0, [], kno),
  (164, .ireturn, 1, 5, 1, 0, [], kno),
  (165, .aload_n 1, 1, 0, 1, 0, [], kno),
  (166, .aload_n 0, 1, 0, 0, 0, [], kno),
  (167, .iload_n 3, 1, 0, 3, 0, [], kno),
  (168, .iconst 1, 1, 0, 0, 1, [], kno),
  (169, .iadd, 1, 0, 0, 0, [], kno),
  (170, .iaload, 1, 7, 2, 0, [], kscr xs L),
  (171, .aload_n 0, 1, 0, 0, 0, [], kno),
  (172, .iload_n 3, 1, 0, 3, 0, [], kno),
  (173, .iconst 2, 1, 0, 0, 2, [], kno),
  (174, .iadd, 1, 0, 0, 0, [], kno),
  (175, .iaload, 1, 7, 2, 0, [], kscr xs L),
  (176, .aload_n 0, 1, 0, 0, 0, [], kno),
  (177, .iload_n 3, 1, 0, 3, 0, [], kno),
  (178, .iconst 3, 1, 0, 0, 3, [], kno),
  (179, .iadd, 1, 0, 0, 0, [], kno),
  (180, .iaload, 1, 7, 2, 0, [], kscr xs L),
  (181, .invokevirtual 26, 3, 7, 4, 0, [], K_sl_dial),
  (184, .aload_n 2, 1, 0, 2, 0, [], kno),
  (185, .aload_n 0, 1, 0, 0, 0, [], kno),
  (186, .iload_n 3, 1, 0, 3, 0, [], kno),
  (187, .iconst 1, 1, 0, 0, 1, [], kno),
  (188, .iadd, 1, 0, 0, 0, [], kno),
  (189, .iaload, 1, 7, 2, 0, [], kscr xs L),
  (190, .aload_n 0, 1, 0, 0, 0, [], kno),
  (191, .iload_n 3, 1, 0, 3, 0, [], kno),
  (192, .iconst 2, 1, 0, 0, 2, [], kno),
  (193, .iadd, 1, 0, 0, 0, [], kno),
  (194, .iaload, 1, 7, 2, 0, [], kscr xs L),
  (195, .aload_n 0, 1, 0, 0, 0, [], kno),
  (196, .iload_n 3, 1, 0, 3, 0, [], kno),
  (197, .iconst 3, 1, 0, 0, 3, [], kno),
  (198, .iadd, 1, 0, 0, 0, [], kno),
  (199, .iaload, 1, 7, 2, 0, [], kscr xs L),
  (200, .invokevirtual 30, 3, 7, 4, 0, [], K_mo_dial),
  (203, .if_icmp .eq 456, 3, 2, 441, 0, [], kno),
  (206, .iconst 0, 1, 0, 0, 0, [], kno),
  (207, .ireturn, 1, 5, 1, 0, [], kno),
  (208, .aload_n 1, 1, 0, 1, 0, [], kno),
  (209, .aload_n 0, 1, 0, 0, 0, [], kno),
  (210, .iload_n 3, 1, 0, 3, 0, [], kno),
  (211, .iconst 1, 1, 0, 0, 1, [], kno),
  (212, .iadd, 1, 0, 0, 0, [], kno),
  (213, .iaload, 1, 7, 2, 0, [], kscr xs L),
  (214, .invokevirtual 31, 3, 7, 2, 0, [], K_sl_hangup),
  (217, .aload_n 2, 1, 0, 2, 0, [], kno),
  (218, .aload_n 0, 1, 0, 0, 0, [], kno),
  (219, .iload_n 3, 1, 0, 3, 0, [], kno),
  (220, .iconst 1, 1, 0, 0, 1, [], kno),
  (221, .iadd, 1, 0, 0, 0, [], kno),
  (222, .iaload, 1, 7, 2, 0, [], kscr xs L),
  (223, .invokevirtual 35, 3, 7, 2, 0, [], K_mo_hangup),
  (226, .if_icmp .eq 433, 3, 2, 441, 0, [], kno),
  (229, .iconst 0, 1, 0, 0, 0, [], kno),
  (230, .ireturn, 1, 5, 1, 0, [], kno),
  (231, .aload_n 1, 1, 0, 1, 0, [], kno),
  (232, .aload_n 0, 1, 0, 0, 0, [], kno),
  (233, .iload_n 3, 1, 0, 3, 0, [], kno),
  (234, .iconst 1, 1, 0, 0, 1, [], kno),
  (235, .iadd, 1, 0, 0, 0, [], kno),
  (236, .iaload, 1, 7, 2, 0, [], kscr xs L),
  (237, .aload_n 0, 1, 0, 0, 0, [], kno),
  (238, .iload_n 3, 1, 0, 3, 0, [], kno),
  (239, .iconst 2, 1, 0, 0, 2, [], kno),
  (240, .iadd, 1, 0, 0, 0, [], kno),
  (241, .iaload, 1, 7, 2, 0, [], kscr xs L),
  (242, .aload_n 0, 1, 0, 0, 0, [], kno),
  (243, .iload_n 3, 1, 0, 3, 0, [], kno),
  (244, .iconst 3, 1, 0, 0, 3, [], kno),
  (245, .iadd, 1, 0, 0, 0, [], kno),
  (246, .iaload, 1, 7, 2, 0, [], kscr xs L),
  (247, .invokevirtual 36, 3, 7, 4, 0, [], K_sl_send),
  (250, .aload_n 2, 1, 0, 2, 0, [], kno),
  (251, .aload_n 0, 1, 0, 0, 0, [], kno),
  (252, .iload_n 3, 1, 0, 3, 0, [], kno),
  (253, .iconst 1, 1, 0, 0, 1, [], kno),
  (254, .iadd, 1, 0, 0, 0, [], kno),
  (255, .iaload, 1, 7, 2, 0, [], kscr xs L),
  (256, .aload_n 0, 1, 0, 0, 0, [], kno),
  (257, .iload_n 3, 1, 0, 3, 0, [], kno),
  (258, .iconst 2, 1, 0, 0, 2, [], kno),
  (259, .iadd, 1, 0, 0, 0, [], kno),
  (260, .iaload, 1, 7, 2, 0, [], kscr xs L),
  (261, .aload_n 0, 1, 0, 0, 0, [], kno),
  (262, .iload_n 3, 1, 0, 3, 0, [], kno),
  (263, .iconst 3, 1, 0, 0, 3, [], kno),
  (264, .iadd, 1, 0, 0, 0, [], kno),
  (265, .iaload, 1, 7, 2, 0, [], kscr xs L),
  (266, .invokevirtual 39, 3, 7, 4, 0, [], K_mo_send),
  (269, .if_icmp .eq 390, 3, 2, 441, 0, [], kno),
  (272, .iconst 0, 1, 0, 0, 0, [], kno),
  (273, .ireturn, 1, 5, 1, 0, [], kno),
  (274, .aload_n 1, 1, 0, 1, 0, [], kno),
  (275, .aload_n 0, 1, 0, 0, 0, [], kno),
  (276, .iload_n 3, 1, 0, 3, 0, [], kno),
  (277, .iconst 1, 1, 0, 0, 1, [], kno),
  (278, .iadd, 1, 0, 0, 0, [], kno),
  (279, .iaload, 1, 7, 2, 0, [], kscr xs L),
  (280, .aload_n 0, 1, 0, 0, 0, [], kno),
  (281, .iload_n 3, 1, 0, 3, 0, [], kno),
  (282, .iconst 2, 1, 0, 0, 2, [], kno),
  (283, .iadd, 1, 0, 0, 0, [], kno),
  (284, .iaload, 1, 7, 2, 0, [], kscr xs L),
  (285, .invokevirtual 40, 3, 7, 3, 0, [], K_sl_core),
  (288, .aload_n 2, 1, 0, 2, 0, [], kno),
  (289, .aload_n 0, 1, 0, 0, 0, [], kno),
  (290, .iload_n 3, 1, 0, 3, 0, [], kno),
  (291, .iconst 1, 1, 0, 0, 1, [], kno),
  (292, .iadd, 1, 0, 0, 0, [], kno),
  (293, .iaload, 1, 7, 2, 0, [], kscr xs L),
  (294, .aload_n 0, 1, 0, 0, 0, [], kno),
  (295, .iload_n 3, 1, 0, 3, 0, [], kno),
  (296, .iconst 2, 1, 0, 0, 2, [], kno),
  (297, .iadd, 1, 0, 0, 0, [], kno),
  (298, .iaload, 1, 7, 2, 0, [], kscr xs L),
  (299, .invokevirtual 43, 3, 7, 3, 0, [], K_mo_core),
  (302, .if_icmp .eq 357, 3, 2, 441, 0, [], kno),
  (305, .iconst 0, 1, 0, 0, 0, [], kno),
  (306, .ireturn, 1, 5, 1, 0, [], kno),
  (307, .aload_n 1, 1, 0, 1, 0, [], kno),
  (308, .aload_n 0, 1, 0, 0, 0, [], kno),
  (309, .iload_n 3, 1, 0, 3, 0, [], kno),
  (310, .iconst 1, 1, 0, 0, 1, [], kno),
  (311, .iadd, 1, 0, 0, 0, [], kno),
  (312, .iaload, 1, 7, 2, 0, [], kscr xs L),
  (313, .invokevirtual 44, 3, 7, 2, 0, [], K_sl_restart),
  (316, .aload_n 2, 1, 0, 2, 0, [], kno),
  (317, .aload_n 0, 1, 0, 0, 0, [], kno),
  (318, .iload_n 3, 1, 0, 3, 0, [], kno),
  (319, .iconst 1, 1, 0, 0, 1, [], kno),
  (320, .iadd, 1, 0, 0, 0, [], kno),
  (321, .iaload, 1, 7, 2, 0, [], kscr xs L),
  (322, .invokevirtual 47, 3, 7, 2, 0, [], K_mo_restart),
  (325, .if_icmp .eq 334, 3, 2, 441, 0, [], kno),
  (328, .iconst 0, 1, 0, 0, 0, [], kno),
  (329, .ireturn, 1, 5, 1, 0, [], kno),
  (330, .aload_n 1, 1, 0, 1, 0, [], kno),
  (331, .invokevirtual 48, 3, 7, 1, 0, [], K_sl_tick),
  (334, .aload_n 2, 1, 0, 2, 0, [], kno),
  (335, .invokevirtual 52, 3, 7, 1, 0, [], K_mo_tick),
  (338, .if_icmp .eq 321, 3, 2, 441, 0, [], kno),
  (341, .iconst 0, 1, 0, 0, 0, [], kno),
  (342, .ireturn, 1, 5, 1, 0, [], kno),
  (343, .aload_n 1, 1, 0, 1, 0, [], kno),
  (344, .aload_n 0, 1, 0, 0, 0, [], kno),
  (345, .iload_n 3, 1, 0, 3, 0, [], kno),
  (346, .iconst 1, 1, 0, 0, 1, [], kno),
  (347, .iadd, 1, 0, 0, 0, [], kno),
  (348, .iaload, 1, 7, 2, 0, [], kscr xs L),
  (349, .invokevirtual 53, 3, 7, 2, 0, [], K_sl_drop),
  (352, .aload_n 2, 1, 0, 2, 0, [], kno),
  (353, .aload_n 0, 1, 0, 0, 0, [], kno),
  (354, .iload_n 3, 1, 0, 3, 0, [], kno),
  (355, .iconst 1, 1, 0, 0, 1, [], kno),
  (356, .iadd, 1, 0, 0, 0, [], kno),
  (357, .iaload, 1, 7, 2, 0, [], kscr xs L),
  (358, .invokevirtual 56, 3, 7, 2, 0, [], K_mo_drop),
  (361, .if_icmp .eq 298, 3, 2, 441, 0, [], kno),
  (364, .iconst 0, 1, 0, 0, 0, [], kno),
  (365, .ireturn, 1, 5, 1, 0, [], kno),
  (366, .aload_n 1, 1, 0, 1, 0, [], kno),
  (367, .aload_n 0, 1, 0, 0, 0, [], kno),
  (368, .iload_n 3, 1, 0, 3, 0, [], kno),
  (369, .iconst 1, 1, 0, 0, 1, [], kno),
  (370, .iadd, 1, 0, 0, 0, [], kno),
  (371, .iaload, 1, 7, 2, 0, [], kscr xs L),
  (372, .invokevirtual 57, 3, 7, 2, 0, [], K_sl_swap),
  (375, .aload_n 2, 1, 0, 2, 0, [], kno),
  (376, .aload_n 0, 1, 0, 0, 0, [], kno),
  (377, .iload_n 3, 1, 0, 3, 0, [], kno),
  (378, .iconst 1, 1, 0, 0, 1, [], kno),
  (379, .iadd, 1, 0, 0, 0, [], kno),
  (380, .iaload, 1, 7, 2, 0, [], kscr xs L),
  (381, .invokevirtual 60, 3, 7, 2, 0, [], K_mo_swap),
  (384, .if_icmp .eq 275, 3, 2, 441, 0, [], kno),
  (387, .iconst 0, 1, 0, 0, 0, [], kno),
  (388, .ireturn, 1, 5, 1, 0, [], kno),
  (389, .aload_n 1, 1, 0, 1, 0, [], kno),
  (390, .invokevirtual 61, 3, 7, 1, 0, [], K_sl_flight),
  (393, .aload_n 2, 1, 0, 2, 0, [], kno),
  (394, .invokevirtual 64, 3, 7, 1, 0, [], K_mo_flight),
  (397, .if_icmp .eq 262, 3, 2, 441, 0, [], kno),
  (400, .iconst 0, 1, 0, 0, 0, [], kno),
  (401, .ireturn, 1, 5, 1, 0, [], kno),
  (402, .aload_n 1, 1, 0, 1, 0, [], kno),
  (403, .aload_n 0, 1, 0, 0, 0, [], kno),
  (404, .iload_n 3, 1, 0, 3, 0, [], kno),
  (405, .iconst 1, 1, 0, 0, 1, [], kno),
  (406, .iadd, 1, 0, 0, 0, [], kno),
  (407, .iaload, 1, 7, 2, 0, [], kscr xs L),
  (408, .aload_n 0, 1, 0, 0, 0, [], kno),
  (409, .iload_n 3, 1, 0, 3, 0, [], kno),
  (410, .iconst 2, 1, 0, 0, 2, [], kno),
  (411, .iadd, 1, 0, 0, 0, [], kno),
  (412, .iaload, 1, 7, 2, 0, [], kscr xs L),
  (413, .invokevirtual 65, 3, 7, 3, 0, [], K_sl_packet),
  (416, .aload_n 2, 1, 0, 2, 0, [], kno),
  (417, .aload_n 0, 1, 0, 0, 0, [], kno),
  (418, .iload_n 3, 1, 0, 3, 0, [], kno),
  (419, .iconst 1, 1, 0, 0, 1, [], kno),
  (420, .iadd, 1, 0, 0, 0, [], kno),
  (421, .iaload, 1, 7, 2, 0, [], kscr xs L),
  (422, .aload_n 0, 1, 0, 0, 0, [], kno),
  (423, .iload_n 3, 1, 0, 3, 0, [], kno),
  (424, .iconst 2, 1, 0, 0, 2, [], kno),
  (425, .iadd, 1, 0, 0, 0, [], kno),
  (426, .iaload, 1, 7, 2, 0, [], kscr xs L),
  (427, .invokevirtual 69, 3, 7, 3, 0, [], K_mo_packet),
  (430, .if_icmp .eq 229, 3, 2, 441, 0, [], kno),
  (433, .iconst 0, 1, 0, 0, 0, [], kno),
  (434, .ireturn, 1, 5, 1, 0, [], kno),
  (435, .aload_n 1, 1, 0, 1, 0, [], kno),
  (436, .aload_n 0, 1, 0, 0, 0, [], kno),
  (437, .iload_n 3, 1, 0, 3, 0, [], kno),
  (438, .iconst 1, 1, 0, 0, 1, [], kno),
  (439, .iadd, 1, 0, 0, 0, [], kno),
  (440, .iaload, 1, 7, 2, 0, [], kscr xs L),
  (441, .invokevirtual 70, 3, 7, 2, 0, [], K_sl_state),
  (444, .aload_n 2, 1, 0, 2, 0, [], kno),
  (445, .aload_n 0, 1, 0, 0, 0, [], kno),
  (446, .iload_n 3, 1, 0, 3, 0, [], kno),
  (447, .iconst 1, 1, 0, 0, 1, [], kno),
  (448, .iadd, 1, 0, 0, 0, [], kno),
  (449, .iaload, 1, 7, 2, 0, [], kscr xs L),
  (450, .invokevirtual 74, 3, 7, 2, 0, [], K_mo_state),
  (453, .if_icmp .eq 206, 3, 2, 441, 0, [], kno),
  (456, .iconst 0, 1, 0, 0, 0, [], kno),
  (457, .ireturn, 1, 5, 1, 0, [], kno),
  (458, .aload_n 1, 1, 0, 1, 0, [], kno),
  (459, .aload_n 0, 1, 0, 0, 0, [], kno),
  (460, .iload_n 3, 1, 0, 3, 0, [], kno),
  (461, .iconst 1, 1, 0, 0, 1, [], kno),
  (462, .iadd, 1, 0, 0, 0, [], kno),
  (463, .iaload, 1, 7, 2, 0, [], kscr xs L),
  (464, .invokevirtual 75, 3, 7, 2, 0, [], K_sl_address),
  (467, .aload_n 2, 1, 0, 2, 0, [], kno),
  (468, .aload_n 0, 1, 0, 0, 0, [], kno),
  (469, .iload_n 3, 1, 0, 3, 0, [], kno),
  (470, .iconst 1, 1, 0, 0, 1, [], kno),
  (471, .iadd, 1, 0, 0, 0, [], kno),
  (472, .iaload, 1, 7, 2, 0, [], kscr xs L),
  (473, .invokevirtual 78, 3, 7, 2, 0, [], K_mo_address),
  (476, .if_icmp .eq 183, 3, 2, 441, 0, [], kno),
  (479, .iconst 0, 1, 0, 0, 0, [], kno),
  (480, .ireturn, 1, 5, 1, 0, [], kno),
  (481, .aload_n 1, 1, 0, 1, 0, [], kno),
  (482, .aload_n 0, 1, 0, 0, 0, [], kno),
  (483, .iload_n 3, 1, 0, 3, 0, [], kno),
  (484, .iconst 1, 1, 0, 0, 1, [], kno),
  (485, .iadd, 1, 0, 0, 0, [], kno),
  (486, .iaload, 1, 7, 2, 0, [], kscr xs L),
  (487, .aload_n 0, 1, 0, 0, 0, [], kno),
  (488, .iload_n 3, 1, 0, 3, 0, [], kno),
  (489, .iconst 2, 1, 0, 0, 2, [], kno),
  (490, .iadd, 1, 0, 0, 0, [], kno),
  (491, .iaload, 1, 7, 2, 0, [], kscr xs L),
  (492, .invokevirtual 79, 3, 7, 3, 0, [], K_sl_heard),
  (495, .aload_n 2, 1, 0, 2, 0, [], kno),
  (496, .aload_n 0, 1, 0, 0, 0, [], kno),
  (497, .iload_n 3, 1, 0, 3, 0, [], kno),
  (498, .iconst 1, 1, 0, 0, 1, [], kno),
  (499, .iadd, 1, 0, 0, 0, [], kno),
  (500, .iaload, 1, 7, 2, 0, [], kscr xs L),
  (501, .aload_n 0, 1, 0, 0, 0, [], kno),
  (502, .iload_n 3, 1, 0, 3, 0, [], kno),
  (503, .iconst 2, 1, 0, 0, 2, [], kno),
  (504, .iadd, 1, 0, 0, 0, [], kno),
  (505, .iaload, 1, 7, 2, 0, [], kscr xs L),
  (506, .invokevirtual 82, 3, 7, 3, 0, [], K_mo_heard),
  (509, .if_icmp .eq 150, 3, 2, 441, 0, [], kno),
  (512, .iconst 0, 1, 0, 0, 0, [], kno),
  (513, .ireturn, 1, 5, 1, 0, [], kno),
  (514, .aload_n 1, 1, 0, 1, 0, [], kno),
  (515, .aload_n 0, 1, 0, 0, 0, [], kno),
  (516, .iload_n 3, 1, 0, 3, 0, [], kno),
  (517, .iconst 1, 1, 0, 0, 1, [], kno),
  (518, .iadd, 1, 0, 0, 0, [], kno),
  (519, .iaload, 1, 7, 2, 0, [], kscr xs L),
  (520, .invokevirtual 83, 3, 7, 2, 0, [], K_sl_cored),
  (523, .aload_n 2, 1, 0, 2, 0, [], kno),
  (524, .aload_n 0, 1, 0, 0, 0, [], kno),
  (525, .iload_n 3, 1, 0, 3, 0, [], kno),
  (526, .iconst 1, 1, 0, 0, 1, [], kno),
  (527, .iadd, 1, 0, 0, 0, [], kno),
  (528, .iaload, 1, 7, 2, 0, [], kscr xs L),
  (529, .invokevirtual 86, 3, 7, 2, 0, [], K_mo_cored),
  (532, .if_icmp .eq 127, 3, 2, 441, 0, [], kno),
  (535, .iconst 0, 1, 0, 0, 0, [], kno),
  (536, .ireturn, 1, 5, 1, 0, [], kno),
  (537, .aload_n 1, 1, 0, 1, 0, [], kno),
  (538, .aload_n 0, 1, 0, 0, 0, [], kno),
  (539, .iload_n 3, 1, 0, 3, 0, [], kno),
  (540, .iconst 1, 1, 0, 0, 1, [], kno),
  (541, .iadd, 1, 0, 0, 0, [], kno),
  (542, .iaload, 1, 7, 2, 0, [], kscr xs L),
  (543, .invokevirtual 87, 3, 7, 2, 0, [], K_sl_source),
  (546, .aload_n 2, 1, 0, 2, 0, [], kno),
  (547, .aload_n 0, 1, 0, 0, 0, [], kno),
  (548, .iload_n 3, 1, 0, 3, 0, [], kno),
  (549, .iconst 1, 1, 0, 0, 1, [], kno),
  (550, .iadd, 1, 0, 0, 0, [], kno),
  (551, .iaload, 1, 7, 2, 0, [], kscr xs L),
  (552, .invokevirtual 90, 3, 7, 2, 0, [], K_mo_source),
  (555, .if_icmp .eq 104, 3, 2, 441, 0, [], kno),
  (558, .iconst 0, 1, 0, 0, 0, [], kno),
  (559, .ireturn, 1, 5, 1, 0, [], kno),
  (560, .aload_n 1, 1, 0, 1, 0, [], kno),
  (561, .aload_n 0, 1, 0, 0, 0, [], kno),
  (562, .iload_n 3, 1, 0, 3, 0, [], kno),
  (563, .iconst 1, 1, 0, 0, 1, [], kno),
  (564, .iadd, 1, 0, 0, 0, [], kno),
  (565, .iaload, 1, 7, 2, 0, [], kscr xs L),
  (566, .aload_n 0, 1, 0, 0, 0, [], kno),
  (567, .iload_n 3, 1, 0, 3, 0, [], kno),
  (568, .iconst 2, 1, 0, 0, 2, [], kno),
  (569, .iadd, 1, 0, 0, 0, [], kno),
  (570, .iaload, 1, 7, 2, 0, [], kscr xs L),
  (571, .invokevirtual 91, 3, 7, 3, 0, [], K_sl_circuit),
  (574, .aload_n 2, 1, 0, 2, 0, [], kno),
  (575, .aload_n 0, 1, 0, 0, 0, [], kno),
  (576, .iload_n 3, 1, 0, 3, 0, [], kno),
  (577, .iconst 1, 1, 0, 0, 1, [], kno),
  (578, .iadd, 1, 0, 0, 0, [], kno),
  (579, .iaload, 1, 7, 2, 0, [], kscr xs L),
  (580, .aload_n 0, 1, 0, 0, 0, [], kno),
  (581, .iload_n 3, 1, 0, 3, 0, [], kno),
  (582, .iconst 2, 1, 0, 0, 2, [], kno),
  (583, .iadd, 1, 0, 0, 0, [], kno),
  (584, .iaload, 1, 7, 2, 0, [], kscr xs L),
  (585, .invokevirtual 94, 3, 7, 3, 0, [], K_mo_circuit),
  (588, .if_icmp .eq 71, 3, 2, 441, 0, [], kno),
  (591, .iconst 0, 1, 0, 0, 0, [], kno),
  (592, .ireturn, 1, 5, 1, 0, [], kno),
  (593, .aload_n 1, 1, 0, 1, 0, [], kno),
  (594, .aload_n 0, 1, 0, 0, 0, [], kno),
  (595, .iload_n 3, 1, 0, 3, 0, [], kno),
  (596, .iconst 1, 1, 0, 0, 1, [], kno),
  (597, .iadd, 1, 0, 0, 0, [], kno),
  (598, .iaload, 1, 7, 2, 0, [], kscr xs L),
  (599, .aload_n 0, 1, 0, 0, 0, [], kno),
  (600, .iload_n 3, 1, 0, 3, 0, [], kno),
  (601, .iconst 2, 1, 0, 0, 2, [], kno),
  (602, .iadd, 1, 0, 0, 0, [], kno),
  (603, .iaload, 1, 7, 2, 0, [], kscr xs L),
  (604, .invokevirtual 95, 3, 7, 3, 0, [], K_sl_session),
  (607, .aload_n 2, 1, 0, 2, 0, [], kno),
  (608, .aload_n 0, 1, 0, 0, 0, [], kno),
  (609, .iload_n 3, 1, 0, 3, 0, [], kno),
  (610, .iconst 1, 1, 0, 0, 1, [], kno),
  (611, .iadd, 1, 0, 0, 0, [], kno),
  (612, .iaload, 1, 7, 2, 0, [], kscr xs L),
  (613, .aload_n 0, 1, 0, 0, 0, [], kno),
  (614, .iload_n 3, 1, 0, 3, 0, [], kno),
  (615, .iconst 2, 1, 0, 0, 2, [], kno),
  (616, .iadd, 1, 0, 0, 0, [], kno),
  (617, .iaload, 1, 7, 2, 0, [], kscr xs L),
  (618, .invokevirtual 98, 3, 7, 3, 0, [], K_mo_session),
  (621, .if_icmp .eq 38, 3, 2, 441, 0, [], kno),
  (624, .iconst 0, 1, 0, 0, 0, [], kno),
  (625, .ireturn, 1, 5, 1, 0, [], kno),
  (626, .aload_n 1, 1, 0, 1, 0, [], kno),
  (627, .aload_n 0, 1, 0, 0, 0, [], kno),
  (628, .iload_n 3, 1, 0, 3, 0, [], kno),
  (629, .iconst 1, 1, 0, 0, 1, [], kno),
  (630, .iadd, 1, 0, 0, 0, [], kno),
  (631, .iaload, 1, 7, 2, 0, [], kscr xs L),
  (632, .aload_n 0, 1, 0, 0, 0, [], kno),
  (633, .iload_n 3, 1, 0, 3, 0, [], kno),
  (634, .iconst 2, 1, 0, 0, 2, [], kno),
  (635, .iadd, 1, 0, 0, 0, [], kno),
  (636, .iaload, 1, 7, 2, 0, [], kscr xs L),
  (637, .invokevirtual 99, 3, 7, 3, 0, [], K_sl_channel),
  (640, .aload_n 2, 1, 0, 2, 0, [], kno),
  (641, .aload_n 0, 1, 0, 0, 0, [], kno),
  (642, .iload_n 3, 1, 0, 3, 0, [], kno),
  (643, .iconst 1, 1, 0, 0, 1, [], kno),
  (644, .iadd, 1, 0, 0, 0, [], kno),
  (645, .iaload, 1, 7, 2, 0, [], kscr xs L),
  (646, .aload_n 0, 1, 0, 0, 0, [], kno),
  (647, .iload_n 3, 1, 0, 3, 0, [], kno),
  (648, .iconst 2, 1, 0, 0, 2, [], kno),
  (649, .iadd, 1, 0, 0, 0, [], kno),
  (650, .iaload, 1, 7, 2, 0, [], kscr xs L),
  (651, .invokevirtual 102, 3, 7, 3, 0, [], K_mo_channel),
  (654, .if_icmp .eq 5, 3, 2, 441, 0, [], kno),
  (657, .iconst 0, 1, 0, 0, 0, [], kno),
  (658, .ireturn, 1, 5, 1, 0, [], kno),
  (659, .iinc 3 4, 3, 0, 3, 4, [], kno),
  (662, .goto (-634), 3, 1, 16, 0, [], kno),
  (665, .iconst 1, 1, 0, 0, 1, [], kno),
  (666, .ireturn, 1, 5, 1, 0, [], kno)]
def la_28 (xs : Nat → Int32) (L : Nat) : Nat → mx_C → mx_M → Int32 → mx × Int32
  | 0, c, m, _ => ((c, m), 0)
  | n + 1, c, m, v3 =>
    if (Int32.ofNat L - 4) < v3 then
      ((c, m), 1)
    else
      if (xs (Int32.toNatClampNeg v3) &&& 31) = 0 then
        if (sl_allow c (xs (Int32.toNatClampNeg (v3 + 1))) (xs (Int32.toNatClampNeg (v3 + 2)))).2 = (mo_allow m (xs (Int32.toNatClampNeg (v3 + 1))) (xs (Int32.toNatClampNeg (v3 + 2)))).2 then
          la_28 xs L n (sl_allow c (xs (Int32.toNatClampNeg (v3 + 1))) (xs (Int32.toNatClampNeg (v3 + 2)))).1 (mo_allow m (xs (Int32.toNatClampNeg (v3 + 1))) (xs (Int32.toNatClampNeg (v3 + 2)))).1 (v3 + 4)
        else
          (((sl_allow c (xs (Int32.toNatClampNeg (v3 + 1))) (xs (Int32.toNatClampNeg (v3 + 2)))).1, (mo_allow m (xs (Int32.toNatClampNeg (v3 + 1))) (xs (Int32.toNatClampNeg (v3 + 2)))).1), 0)
      else
        if (xs (Int32.toNatClampNeg v3) &&& 31) = 1 then
          if (sl_dial c (xs (Int32.toNatClampNeg (v3 + 1))) (xs (Int32.toNatClampNeg (v3 + 2))) (xs (Int32.toNatClampNeg (v3 + 3)))).2 = (mo_dial m (xs (Int32.toNatClampNeg (v3 + 1))) (xs (Int32.toNatClampNeg (v3 + 2))) (xs (Int32.toNatClampNeg (v3 + 3)))).2 then
            la_28 xs L n (sl_dial c (xs (Int32.toNatClampNeg (v3 + 1))) (xs (Int32.toNatClampNeg (v3 + 2))) (xs (Int32.toNatClampNeg (v3 + 3)))).1 (mo_dial m (xs (Int32.toNatClampNeg (v3 + 1))) (xs (Int32.toNatClampNeg (v3 + 2))) (xs (Int32.toNatClampNeg (v3 + 3)))).1 (v3 + 4)
          else
            (((sl_dial c (xs (Int32.toNatClampNeg (v3 + 1))) (xs (Int32.toNatClampNeg (v3 + 2))) (xs (Int32.toNatClampNeg (v3 + 3)))).1, (mo_dial m (xs (Int32.toNatClampNeg (v3 + 1))) (xs (Int32.toNatClampNeg (v3 + 2))) (xs (Int32.toNatClampNeg (v3 + 3)))).1), 0)
        else
          if (xs (Int32.toNatClampNeg v3) &&& 31) = 2 then
            if (sl_hangup c (xs (Int32.toNatClampNeg (v3 + 1)))).2 = (mo_hangup m (xs (Int32.toNatClampNeg (v3 + 1)))).2 then
              la_28 xs L n (sl_hangup c (xs (Int32.toNatClampNeg (v3 + 1)))).1 (mo_hangup m (xs (Int32.toNatClampNeg (v3 + 1)))).1 (v3 + 4)
            else
              (((sl_hangup c (xs (Int32.toNatClampNeg (v3 + 1)))).1, (mo_hangup m (xs (Int32.toNatClampNeg (v3 + 1)))).1), 0)
          else
            if (xs (Int32.toNatClampNeg v3) &&& 31) = 3 then
              if (sl_send c (xs (Int32.toNatClampNeg (v3 + 1))) (xs (Int32.toNatClampNeg (v3 + 2))) (xs (Int32.toNatClampNeg (v3 + 3)))).2 = (mo_send m (xs (Int32.toNatClampNeg (v3 + 1))) (xs (Int32.toNatClampNeg (v3 + 2))) (xs (Int32.toNatClampNeg (v3 + 3)))).2 then
                la_28 xs L n (sl_send c (xs (Int32.toNatClampNeg (v3 + 1))) (xs (Int32.toNatClampNeg (v3 + 2))) (xs (Int32.toNatClampNeg (v3 + 3)))).1 (mo_send m (xs (Int32.toNatClampNeg (v3 + 1))) (xs (Int32.toNatClampNeg (v3 + 2))) (xs (Int32.toNatClampNeg (v3 + 3)))).1 (v3 + 4)
              else
                (((sl_send c (xs (Int32.toNatClampNeg (v3 + 1))) (xs (Int32.toNatClampNeg (v3 + 2))) (xs (Int32.toNatClampNeg (v3 + 3)))).1, (mo_send m (xs (Int32.toNatClampNeg (v3 + 1))) (xs (Int32.toNatClampNeg (v3 + 2))) (xs (Int32.toNatClampNeg (v3 + 3)))).1), 0)
            else
              if (xs (Int32.toNatClampNeg v3) &&& 31) = 4 then
                if (sl_core c (xs (Int32.toNatClampNeg (v3 + 1))) (xs (Int32.toNatClampNeg (v3 + 2)))).2 = (mo_core m (xs (Int32.toNatClampNeg (v3 + 1))) (xs (Int32.toNatClampNeg (v3 + 2)))).2 then
                  la_28 xs L n (sl_core c (xs (Int32.toNatClampNeg (v3 + 1))) (xs (Int32.toNatClampNeg (v3 + 2)))).1 (mo_core m (xs (Int32.toNatClampNeg (v3 + 1))) (xs (Int32.toNatClampNeg (v3 + 2)))).1 (v3 + 4)
                else
                  (((sl_core c (xs (Int32.toNatClampNeg (v3 + 1))) (xs (Int32.toNatClampNeg (v3 + 2)))).1, (mo_core m (xs (Int32.toNatClampNeg (v3 + 1))) (xs (Int32.toNatClampNeg (v3 + 2)))).1), 0)
              else
                if (xs (Int32.toNatClampNeg v3) &&& 31) = 5 then
                  if (sl_restart c (xs (Int32.toNatClampNeg (v3 + 1)))).2 = (mo_restart m (xs (Int32.toNatClampNeg (v3 + 1)))).2 then
                    la_28 xs L n (sl_restart c (xs (Int32.toNatClampNeg (v3 + 1)))).1 (mo_restart m (xs (Int32.toNatClampNeg (v3 + 1)))).1 (v3 + 4)
                  else
                    (((sl_restart c (xs (Int32.toNatClampNeg (v3 + 1)))).1, (mo_restart m (xs (Int32.toNatClampNeg (v3 + 1)))).1), 0)
                else
                  if (xs (Int32.toNatClampNeg v3) &&& 31) = 6 then
                    if (sl_tick c).2 = (mo_tick m).2 then
                      la_28 xs L n (sl_tick c).1 (mo_tick m).1 (v3 + 4)
                    else
                      (((sl_tick c).1, (mo_tick m).1), 0)
                  else
                    if (xs (Int32.toNatClampNeg v3) &&& 31) = 7 then
                      if (sl_drop c (xs (Int32.toNatClampNeg (v3 + 1)))).2 = (mo_drop m (xs (Int32.toNatClampNeg (v3 + 1)))).2 then
                        la_28 xs L n (sl_drop c (xs (Int32.toNatClampNeg (v3 + 1)))).1 (mo_drop m (xs (Int32.toNatClampNeg (v3 + 1)))).1 (v3 + 4)
                      else
                        (((sl_drop c (xs (Int32.toNatClampNeg (v3 + 1)))).1, (mo_drop m (xs (Int32.toNatClampNeg (v3 + 1)))).1), 0)
                    else
                      if (xs (Int32.toNatClampNeg v3) &&& 31) = 8 then
                        if (sl_swap c (xs (Int32.toNatClampNeg (v3 + 1)))).2 = (mo_swap m (xs (Int32.toNatClampNeg (v3 + 1)))).2 then
                          la_28 xs L n (sl_swap c (xs (Int32.toNatClampNeg (v3 + 1)))).1 (mo_swap m (xs (Int32.toNatClampNeg (v3 + 1)))).1 (v3 + 4)
                        else
                          (((sl_swap c (xs (Int32.toNatClampNeg (v3 + 1)))).1, (mo_swap m (xs (Int32.toNatClampNeg (v3 + 1)))).1), 0)
                      else
                        if (xs (Int32.toNatClampNeg v3) &&& 31) = 9 then
                          if (sl_flight c) = (mo_flight m) then
                            la_28 xs L n c m (v3 + 4)
                          else
                            ((c, m), 0)
                        else
                          if (xs (Int32.toNatClampNeg v3) &&& 31) = 10 then
                            if (sl_packet c (xs (Int32.toNatClampNeg (v3 + 1))) (xs (Int32.toNatClampNeg (v3 + 2)))) = (mo_packet m (xs (Int32.toNatClampNeg (v3 + 1))) (xs (Int32.toNatClampNeg (v3 + 2)))) then
                              la_28 xs L n c m (v3 + 4)
                            else
                              ((c, m), 0)
                          else
                            if (xs (Int32.toNatClampNeg v3) &&& 31) = 11 then
                              if (sl_state c (xs (Int32.toNatClampNeg (v3 + 1)))) = (mo_state m (xs (Int32.toNatClampNeg (v3 + 1)))) then
                                la_28 xs L n c m (v3 + 4)
                              else
                                ((c, m), 0)
                            else
                              if (xs (Int32.toNatClampNeg v3) &&& 31) = 12 then
                                if (sl_address c (xs (Int32.toNatClampNeg (v3 + 1)))) = (mo_address m (xs (Int32.toNatClampNeg (v3 + 1)))) then
                                  la_28 xs L n c m (v3 + 4)
                                else
                                  ((c, m), 0)
                              else
                                if (xs (Int32.toNatClampNeg v3) &&& 31) = 13 then
                                  if (sl_heard c (xs (Int32.toNatClampNeg (v3 + 1))) (xs (Int32.toNatClampNeg (v3 + 2)))) = (mo_heard m (xs (Int32.toNatClampNeg (v3 + 1))) (xs (Int32.toNatClampNeg (v3 + 2)))) then
                                    la_28 xs L n c m (v3 + 4)
                                  else
                                    ((c, m), 0)
                                else
                                  if (xs (Int32.toNatClampNeg v3) &&& 31) = 14 then
                                    if (sl_cored c (xs (Int32.toNatClampNeg (v3 + 1)))) = (mo_cored m (xs (Int32.toNatClampNeg (v3 + 1)))) then
                                      la_28 xs L n c m (v3 + 4)
                                    else
                                      ((c, m), 0)
                                  else
                                    if (xs (Int32.toNatClampNeg v3) &&& 31) = 15 then
                                      if (sl_source c (xs (Int32.toNatClampNeg (v3 + 1)))) = (mo_source m (xs (Int32.toNatClampNeg (v3 + 1)))) then
                                        la_28 xs L n c m (v3 + 4)
                                      else
                                        ((c, m), 0)
                                    else
                                      if (xs (Int32.toNatClampNeg v3) &&& 31) = 16 then
                                        if (sl_circuit c (xs (Int32.toNatClampNeg (v3 + 1))) (xs (Int32.toNatClampNeg (v3 + 2)))) = (mo_circuit m (xs (Int32.toNatClampNeg (v3 + 1))) (xs (Int32.toNatClampNeg (v3 + 2)))) then
                                          la_28 xs L n c m (v3 + 4)
                                        else
                                          ((c, m), 0)
                                      else
                                        if (xs (Int32.toNatClampNeg v3) &&& 31) = 17 then
                                          if (sl_session c (xs (Int32.toNatClampNeg (v3 + 1))) (xs (Int32.toNatClampNeg (v3 + 2)))) = (mo_session m (xs (Int32.toNatClampNeg (v3 + 1))) (xs (Int32.toNatClampNeg (v3 + 2)))) then
                                            la_28 xs L n c m (v3 + 4)
                                          else
                                            ((c, m), 0)
                                        else
                                          if (xs (Int32.toNatClampNeg v3) &&& 31) = 18 then
                                            if (sl_channel c (xs (Int32.toNatClampNeg (v3 + 1))) (xs (Int32.toNatClampNeg (v3 + 2)))) = (mo_channel m (xs (Int32.toNatClampNeg (v3 + 1))) (xs (Int32.toNatClampNeg (v3 + 2)))) then
                                              la_28 xs L n c m (v3 + 4)
                                            else
                                              ((c, m), 0)
                                          else
                                            la_28 xs L n c m (v3 + 4)
/-- what the law asks from its loop on, n calls at most -/
def lwQ (xs : Nat → Int32) (L : Nat) : Nat → mx_C → mx_M → Int32 → Prop
  | 0, _, _, _ => False
  | n + 1, c, m, v3 => 1 ≤ v3.toInt ∧ L ≤ 2049 ∧ (¬ (Int32.ofNat L - 4) < v3 →
    ((xs (Int32.toNatClampNeg v3) &&& 31) = 0 → (True ∧ True) ∧ ((sl_allow c (xs (Int32.toNatClampNeg (v3 + 1))) (xs (Int32.toNatClampNeg (v3 + 2)))).2 = (mo_allow m (xs (Int32.toNatClampNeg (v3 + 1))) (xs (Int32.toNatClampNeg (v3 + 2)))).2 → lwQ xs L n (sl_allow c (xs (Int32.toNatClampNeg (v3 + 1))) (xs (Int32.toNatClampNeg (v3 + 2)))).1 (mo_allow m (xs (Int32.toNatClampNeg (v3 + 1))) (xs (Int32.toNatClampNeg (v3 + 2)))).1 (v3 + 4))) ∧
    ((xs (Int32.toNatClampNeg v3) &&& 31) = 1 → (True ∧ True) ∧ ((sl_dial c (xs (Int32.toNatClampNeg (v3 + 1))) (xs (Int32.toNatClampNeg (v3 + 2))) (xs (Int32.toNatClampNeg (v3 + 3)))).2 = (mo_dial m (xs (Int32.toNatClampNeg (v3 + 1))) (xs (Int32.toNatClampNeg (v3 + 2))) (xs (Int32.toNatClampNeg (v3 + 3)))).2 → lwQ xs L n (sl_dial c (xs (Int32.toNatClampNeg (v3 + 1))) (xs (Int32.toNatClampNeg (v3 + 2))) (xs (Int32.toNatClampNeg (v3 + 3)))).1 (mo_dial m (xs (Int32.toNatClampNeg (v3 + 1))) (xs (Int32.toNatClampNeg (v3 + 2))) (xs (Int32.toNatClampNeg (v3 + 3)))).1 (v3 + 4))) ∧
    ((xs (Int32.toNatClampNeg v3) &&& 31) = 2 → (True ∧ True) ∧ ((sl_hangup c (xs (Int32.toNatClampNeg (v3 + 1)))).2 = (mo_hangup m (xs (Int32.toNatClampNeg (v3 + 1)))).2 → lwQ xs L n (sl_hangup c (xs (Int32.toNatClampNeg (v3 + 1)))).1 (mo_hangup m (xs (Int32.toNatClampNeg (v3 + 1)))).1 (v3 + 4))) ∧
    ((xs (Int32.toNatClampNeg v3) &&& 31) = 3 → (True ∧ True) ∧ ((sl_send c (xs (Int32.toNatClampNeg (v3 + 1))) (xs (Int32.toNatClampNeg (v3 + 2))) (xs (Int32.toNatClampNeg (v3 + 3)))).2 = (mo_send m (xs (Int32.toNatClampNeg (v3 + 1))) (xs (Int32.toNatClampNeg (v3 + 2))) (xs (Int32.toNatClampNeg (v3 + 3)))).2 → lwQ xs L n (sl_send c (xs (Int32.toNatClampNeg (v3 + 1))) (xs (Int32.toNatClampNeg (v3 + 2))) (xs (Int32.toNatClampNeg (v3 + 3)))).1 (mo_send m (xs (Int32.toNatClampNeg (v3 + 1))) (xs (Int32.toNatClampNeg (v3 + 2))) (xs (Int32.toNatClampNeg (v3 + 3)))).1 (v3 + 4))) ∧
    ((xs (Int32.toNatClampNeg v3) &&& 31) = 4 → (True ∧ True) ∧ ((sl_core c (xs (Int32.toNatClampNeg (v3 + 1))) (xs (Int32.toNatClampNeg (v3 + 2)))).2 = (mo_core m (xs (Int32.toNatClampNeg (v3 + 1))) (xs (Int32.toNatClampNeg (v3 + 2)))).2 → lwQ xs L n (sl_core c (xs (Int32.toNatClampNeg (v3 + 1))) (xs (Int32.toNatClampNeg (v3 + 2)))).1 (mo_core m (xs (Int32.toNatClampNeg (v3 + 1))) (xs (Int32.toNatClampNeg (v3 + 2)))).1 (v3 + 4))) ∧
    ((xs (Int32.toNatClampNeg v3) &&& 31) = 5 → (True ∧ True) ∧ ((sl_restart c (xs (Int32.toNatClampNeg (v3 + 1)))).2 = (mo_restart m (xs (Int32.toNatClampNeg (v3 + 1)))).2 → lwQ xs L n (sl_restart c (xs (Int32.toNatClampNeg (v3 + 1)))).1 (mo_restart m (xs (Int32.toNatClampNeg (v3 + 1)))).1 (v3 + 4))) ∧
    ((xs (Int32.toNatClampNeg v3) &&& 31) = 6 → (tk1 c.2.2.2.1.val c ∧ tm1 m.2.1.val m) ∧ ((sl_tick c).2 = (mo_tick m).2 → lwQ xs L n (sl_tick c).1 (mo_tick m).1 (v3 + 4))) ∧
    ((xs (Int32.toNatClampNeg v3) &&& 31) = 7 → (True ∧ True) ∧ ((sl_drop c (xs (Int32.toNatClampNeg (v3 + 1)))).2 = (mo_drop m (xs (Int32.toNatClampNeg (v3 + 1)))).2 → lwQ xs L n (sl_drop c (xs (Int32.toNatClampNeg (v3 + 1)))).1 (mo_drop m (xs (Int32.toNatClampNeg (v3 + 1)))).1 (v3 + 4))) ∧
    ((xs (Int32.toNatClampNeg v3) &&& 31) = 8 → (True ∧ True) ∧ ((sl_swap c (xs (Int32.toNatClampNeg (v3 + 1)))).2 = (mo_swap m (xs (Int32.toNatClampNeg (v3 + 1)))).2 → lwQ xs L n (sl_swap c (xs (Int32.toNatClampNeg (v3 + 1)))).1 (mo_swap m (xs (Int32.toNatClampNeg (v3 + 1)))).1 (v3 + 4))) ∧
    ((xs (Int32.toNatClampNeg v3) &&& 31) = 9 → (True ∧ True) ∧ ((sl_flight c) = (mo_flight m) → lwQ xs L n c m (v3 + 4))) ∧
    ((xs (Int32.toNatClampNeg v3) &&& 31) = 10 → (True ∧ True) ∧ ((sl_packet c (xs (Int32.toNatClampNeg (v3 + 1))) (xs (Int32.toNatClampNeg (v3 + 2)))) = (mo_packet m (xs (Int32.toNatClampNeg (v3 + 1))) (xs (Int32.toNatClampNeg (v3 + 2)))) → lwQ xs L n c m (v3 + 4))) ∧
    ((xs (Int32.toNatClampNeg v3) &&& 31) = 11 → (True ∧ True) ∧ ((sl_state c (xs (Int32.toNatClampNeg (v3 + 1)))) = (mo_state m (xs (Int32.toNatClampNeg (v3 + 1)))) → lwQ xs L n c m (v3 + 4))) ∧
    ((xs (Int32.toNatClampNeg v3) &&& 31) = 12 → (True ∧ True) ∧ ((sl_address c (xs (Int32.toNatClampNeg (v3 + 1)))) = (mo_address m (xs (Int32.toNatClampNeg (v3 + 1)))) → lwQ xs L n c m (v3 + 4))) ∧
    ((xs (Int32.toNatClampNeg v3) &&& 31) = 13 → (True ∧ True) ∧ ((sl_heard c (xs (Int32.toNatClampNeg (v3 + 1))) (xs (Int32.toNatClampNeg (v3 + 2)))) = (mo_heard m (xs (Int32.toNatClampNeg (v3 + 1))) (xs (Int32.toNatClampNeg (v3 + 2)))) → lwQ xs L n c m (v3 + 4))) ∧
    ((xs (Int32.toNatClampNeg v3) &&& 31) = 14 → (True ∧ True) ∧ ((sl_cored c (xs (Int32.toNatClampNeg (v3 + 1)))) = (mo_cored m (xs (Int32.toNatClampNeg (v3 + 1)))) → lwQ xs L n c m (v3 + 4))) ∧
    ((xs (Int32.toNatClampNeg v3) &&& 31) = 15 → (True ∧ True) ∧ ((sl_source c (xs (Int32.toNatClampNeg (v3 + 1)))) = (mo_source m (xs (Int32.toNatClampNeg (v3 + 1)))) → lwQ xs L n c m (v3 + 4))) ∧
    ((xs (Int32.toNatClampNeg v3) &&& 31) = 16 → (True ∧ True) ∧ ((sl_circuit c (xs (Int32.toNatClampNeg (v3 + 1))) (xs (Int32.toNatClampNeg (v3 + 2)))) = (mo_circuit m (xs (Int32.toNatClampNeg (v3 + 1))) (xs (Int32.toNatClampNeg (v3 + 2)))) → lwQ xs L n c m (v3 + 4))) ∧
    ((xs (Int32.toNatClampNeg v3) &&& 31) = 17 → (True ∧ True) ∧ ((sl_session c (xs (Int32.toNatClampNeg (v3 + 1))) (xs (Int32.toNatClampNeg (v3 + 2)))) = (mo_session m (xs (Int32.toNatClampNeg (v3 + 1))) (xs (Int32.toNatClampNeg (v3 + 2)))) → lwQ xs L n c m (v3 + 4))) ∧
    ((xs (Int32.toNatClampNeg v3) &&& 31) = 18 → (True ∧ True) ∧ ((sl_channel c (xs (Int32.toNatClampNeg (v3 + 1))) (xs (Int32.toNatClampNeg (v3 + 2)))) = (mo_channel m (xs (Int32.toNatClampNeg (v3 + 1))) (xs (Int32.toNatClampNeg (v3 + 2)))) → lwQ xs L n c m (v3 + 4))) ∧
    (¬ (xs (Int32.toNatClampNeg v3) &&& 31) = 0 → ¬ (xs (Int32.toNatClampNeg v3) &&& 31) = 1 → ¬ (xs (Int32.toNatClampNeg v3) &&& 31) = 2 → ¬ (xs (Int32.toNatClampNeg v3) &&& 31) = 3 → ¬ (xs (Int32.toNatClampNeg v3) &&& 31) = 4 → ¬ (xs (Int32.toNatClampNeg v3) &&& 31) = 5 → ¬ (xs (Int32.toNatClampNeg v3) &&& 31) = 6 → ¬ (xs (Int32.toNatClampNeg v3) &&& 31) = 7 → ¬ (xs (Int32.toNatClampNeg v3) &&& 31) = 8 → ¬ (xs (Int32.toNatClampNeg v3) &&& 31) = 9 → ¬ (xs (Int32.toNatClampNeg v3) &&& 31) = 10 → ¬ (xs (Int32.toNatClampNeg v3) &&& 31) = 11 → ¬ (xs (Int32.toNatClampNeg v3) &&& 31) = 12 → ¬ (xs (Int32.toNatClampNeg v3) &&& 31) = 13 → ¬ (xs (Int32.toNatClampNeg v3) &&& 31) = 14 → ¬ (xs (Int32.toNatClampNeg v3) &&& 31) = 15 → ¬ (xs (Int32.toNatClampNeg v3) &&& 31) = 16 → ¬ (xs (Int32.toNatClampNeg v3) &&& 31) = 17 → ¬ (xs (Int32.toNatClampNeg v3) &&& 31) = 18 → lwQ xs L n c m (v3 + 4)))
theorem lw_b {L : Nat} {v j : Int32} (hL : L ≤ 2049) (h1 : 1 ≤ v.toInt) (h : ¬ (Int32.ofNat L - 4) < v) (hj : 0 ≤ j.toInt ∧ j.toInt ≤ 3) : vp_in (v + j) L := by
  have e : (Int32.ofNat L - 4).toInt = (L : Int) - 4 := by
    rw [i_sub, i_of _ (by omega)]
    · rfl
    · rw [i_of _ (by omega)]; show _ ≤ (L : Int) - 4; omega
    · rw [i_of _ (by omega)]; show (L : Int) - 4 < _; omega
  rw [i_lt, e] at h
  rw [i_in, i_add (by omega) (by omega)]
  omega
theorem lw_b0 {L : Nat} {v : Int32} (hL : L ≤ 2049) (h1 : 1 ≤ v.toInt) (h : ¬ (Int32.ofNat L - 4) < v) : vp_in v L := by
  have h2 := lw_b (j := 0) hL h1 h (by decide)
  have e : v + 0 = v := by rw [i_eq, i_add (by rw [Int32.toInt_zero]; have := i_rng v; omega) (by rw [Int32.toInt_zero]; have := i_rng v; omega), Int32.toInt_zero, Int.add_zero]
  rw [e] at h2
  exact h2
def rz (q : mx × Int32) : rx_R mx := (q.1, some (.int q.2))
def G_law (xs : Nat → Int32) (L : Nat) (n : Nat) : rx_G := fun x ls st =>
  match ls, st with
  | [some (.ref r0), some (.ref r1), some (.ref r2), some (.int v3)], [] => ((r0 = 1000 ∧ r1 = 0 ∧ r2 = 82) ∧ lwQ xs L n x.1 x.2 v3, rz (la_28 xs L n x.1 x.2 v3))
  | _, _ => (False, (x, none))
theorem GI_law {xs : Nat → Int32} {L n : Nat} {x : mx} {ls : rx_L} {st : List Value} (h : (G_law xs L n x ls st).1) : ∃ (r0 r1 r2 : Nat) (v3 : Int32), ls = [some (.ref r0), some (.ref r1), some (.ref r2), some (.int v3)] ∧ st = [] ∧ (r0 = 1000 ∧ r1 = 0 ∧ r2 = 82) ∧ lwQ xs L n x.1 x.2 v3 := by
  unfold G_law at h
  split at h
  · exact ⟨_, _, _, _, rfl, rfl, h⟩
  · exact False.elim h
set_option maxRecDepth 100000 in
set_option maxHeartbeats 4000000 in
theorem EH_law (xs : Nat → Int32) (L n : Nat) (c : mx_C) (m : mx_M) (v3 : Int32) : rx_ev (L_law xs L) [(28, G_law xs L n)] 60 ((L_law xs L).drop 16) (c, m) [some (.ref 1000), some (.ref 0), some (.ref 82), some (.int v3)] [] = rz (la_28 xs L (n + 1) c m v3) :=
  rx_ite2 (f := rz) (fun _ => rfl) (fun _ => rx_ite2 (f := rz) (fun _ => rx_ite2 (f := rz) (fun _ => rfl) (fun _ => rfl)) (fun _ => rx_ite2 (f := rz) (fun _ => rx_ite2 (f := rz) (fun _ => rfl) (fun _ => rfl)) (fun _ => rx_ite2 (f := rz) (fun _ => rx_ite2 (f := rz) (fun _ => rfl) (fun _ => rfl)) (fun _ => rx_ite2 (f := rz) (fun _ => rx_ite2 (f := rz) (fun _ => rfl) (fun _ => rfl)) (fun _ => rx_ite2 (f := rz) (fun _ => rx_ite2 (f := rz) (fun _ => rfl) (fun _ => rfl)) (fun _ => rx_ite2 (f := rz) (fun _ => rx_ite2 (f := rz) (fun _ => rfl) (fun _ => rfl)) (fun _ => rx_ite2 (f := rz) (fun _ => rx_ite2 (f := rz) (fun _ => rfl) (fun _ => rfl)) (fun _ => rx_ite2 (f := rz) (fun _ => rx_ite2 (f := rz) (fun _ => rfl) (fun _ => rfl)) (fun _ => rx_ite2 (f := rz) (fun _ => rx_ite2 (f := rz) (fun _ => rfl) (fun _ => rfl)) (fun _ => rx_ite2 (f := rz) (fun _ => rx_ite2 (f := rz) (fun _ => rfl) (fun _ => rfl)) (fun _ => rx_ite2 (f := rz) (fun _ => rx_ite2 (f := rz) (fun _ => rfl) (fun _ => rfl)) (fun _ => rx_ite2 (f := rz) (fun _ => rx_ite2 (f := rz) (fun _ => rfl) (fun _ => rfl)) (fun _ => rx_ite2 (f := rz) (fun _ => rx_ite2 (f := rz) (fun _ => rfl) (fun _ => rfl)) (fun _ => rx_ite2 (f := rz) (fun _ => rx_ite2 (f := rz) (fun _ => rfl) (fun _ => rfl)) (fun _ => rx_ite2 (f := rz) (fun _ => rx_ite2 (f := rz) (fun _ => rfl) (fun _ => rfl)) (fun _ => rx_ite2 (f := rz) (fun _ => rx_ite2 (f := rz) (fun _ => rfl) (fun _ => rfl)) (fun _ => rx_ite2 (f := rz) (fun _ => rx_ite2 (f := rz) (fun _ => rfl) (fun _ => rfl)) (fun _ => rx_ite2 (f := rz) (fun _ => rx_ite2 (f := rz) (fun _ => rfl) (fun _ => rfl)) (fun _ => rx_ite2 (f := rz) (fun _ => rx_ite2 (f := rz) (fun _ => rfl) (fun _ => rfl)) (fun _ => rfl))))))))))))))))))))
set_option maxRecDepth 100000 in
set_option maxHeartbeats 4000000 in
theorem SH_law (xs : Nat → Int32) (L n : Nat) (c : mx_C) (m : mx_M) (v3 : Int32) (hQ : lwQ xs L (n + 1) c m v3) : rx_sf (L_law xs L) [(28, G_law xs L n)] 60 ((L_law xs L).drop 16) (c, m) [some (.ref 1000), some (.ref 0), some (.ref 82), some (.int v3)] [] :=
  And.intro rfl (And.intro (fun h0 => Or.inr rfl) (fun h0 => And.intro (And.intro rfl (lw_b0 hQ.2.1 hQ.1 h0)) (And.intro (fun h1 => And.intro (And.intro rfl (lw_b hQ.2.1 hQ.1 h0 (by decide))) (And.intro (And.intro rfl (lw_b hQ.2.1 hQ.1 h0 (by decide))) (And.intro rfl (And.intro (And.intro rfl (lw_b hQ.2.1 hQ.1 h0 (by decide))) (And.intro (And.intro rfl (lw_b hQ.2.1 hQ.1 h0 (by decide))) (And.intro rfl (And.intro (fun hh => And.intro (And.intro rfl (And.intro rfl rfl)) ((((hQ.2.2 h0).1) h1).2 hh)) (fun _ => Or.inl rfl)))))))) (fun h1 => And.intro (fun h2 => And.intro (And.intro rfl (lw_b hQ.2.1 hQ.1 h0 (by decide))) (And.intro (And.intro rfl (lw_b hQ.2.1 hQ.1 h0 (by decide))) (And.intro (And.intro rfl (lw_b hQ.2.1 hQ.1 h0 (by decide))) (And.intro rfl (And.intro (And.intro rfl (lw_b hQ.2.1 hQ.1 h0 (by decide))) (And.intro (And.intro rfl (lw_b hQ.2.1 hQ.1 h0 (by decide))) (And.intro (And.intro rfl (lw_b hQ.2.1 hQ.1 h0 (by decide))) (And.intro rfl (And.intro (fun hh => And.intro (And.intro rfl (And.intro rfl rfl)) ((((hQ.2.2 h0).2.1) h2).2 hh)) (fun _ => Or.inl rfl)))))))))) (fun h2 => And.intro (fun h3 => And.intro (And.intro rfl (lw_b hQ.2.1 hQ.1 h0 (by decide))) (And.intro rfl (And.intro (And.intro rfl (lw_b hQ.2.1 hQ.1 h0 (by decide))) (And.intro rfl (And.intro (fun hh => And.intro (And.intro rfl (And.intro rfl rfl)) ((((hQ.2.2 h0).2.2.1) h3).2 hh)) (fun _ => Or.inl rfl)))))) (fun h3 => And.intro (fun h4 => And.intro (And.intro rfl (lw_b hQ.2.1 hQ.1 h0 (by decide))) (And.intro (And.intro rfl (lw_b hQ.2.1 hQ.1 h0 (by decide))) (And.intro (And.intro rfl (lw_b hQ.2.1 hQ.1 h0 (by decide))) (And.intro rfl (And.intro (And.intro rfl (lw_b hQ.2.1 hQ.1 h0 (by decide))) (And.intro (And.intro rfl (lw_b hQ.2.1 hQ.1 h0 (by decide))) (And.intro (And.intro rfl (lw_b hQ.2.1 hQ.1 h0 (by decide))) (And.intro rfl (And.intro (fun hh => And.intro (And.intro rfl (And.intro rfl rfl)) ((((hQ.2.2 h0).2.2.2.1) h4).2 hh)) (fun _ => Or.inl rfl)))))))))) (fun h4 => And.intro (fun h5 => And.intro (And.intro rfl (lw_b hQ.2.1 hQ.1 h0 (by decide))) (And.intro (And.intro rfl (lw_b hQ.2.1 hQ.1 h0 (by decide))) (And.intro rfl (And.intro (And.intro rfl (lw_b hQ.2.1 hQ.1 h0 (by decide))) (And.intro (And.intro rfl (lw_b hQ.2.1 hQ.1 h0 (by decide))) (And.intro rfl (And.intro (fun hh => And.intro (And.intro rfl (And.intro rfl rfl)) ((((hQ.2.2 h0).2.2.2.2.1) h5).2 hh)) (fun _ => Or.inl rfl)))))))) (fun h5 => And.intro (fun h6 => And.intro (And.intro rfl (lw_b hQ.2.1 hQ.1 h0 (by decide))) (And.intro rfl (And.intro (And.intro rfl (lw_b hQ.2.1 hQ.1 h0 (by decide))) (And.intro rfl (And.intro (fun hh => And.intro (And.intro rfl (And.intro rfl rfl)) ((((hQ.2.2 h0).2.2.2.2.2.1) h6).2 hh)) (fun _ => Or.inl rfl)))))) (fun h6 => And.intro (fun h7 => And.intro (And.intro rfl (((hQ.2.2 h0).2.2.2.2.2.2.1) h7).1.1) (And.intro (And.intro rfl (((hQ.2.2 h0).2.2.2.2.2.2.1) h7).1.2) (And.intro (fun hh => And.intro (And.intro rfl (And.intro rfl rfl)) ((((hQ.2.2 h0).2.2.2.2.2.2.1) h7).2 hh)) (fun _ => Or.inl rfl)))) (fun h7 => And.intro (fun h8 => And.intro (And.intro rfl (lw_b hQ.2.1 hQ.1 h0 (by decide))) (And.intro rfl (And.intro (And.intro rfl (lw_b hQ.2.1 hQ.1 h0 (by decide))) (And.intro rfl (And.intro (fun hh => And.intro (And.intro rfl (And.intro rfl rfl)) ((((hQ.2.2 h0).2.2.2.2.2.2.2.1) h8).2 hh)) (fun _ => Or.inl rfl)))))) (fun h8 => And.intro (fun h9 => And.intro (And.intro rfl (lw_b hQ.2.1 hQ.1 h0 (by decide))) (And.intro rfl (And.intro (And.intro rfl (lw_b hQ.2.1 hQ.1 h0 (by decide))) (And.intro rfl (And.intro (fun hh => And.intro (And.intro rfl (And.intro rfl rfl)) ((((hQ.2.2 h0).2.2.2.2.2.2.2.2.1) h9).2 hh)) (fun _ => Or.inl rfl)))))) (fun h9 => And.intro (fun h10 => And.intro rfl (And.intro rfl (And.intro (fun hh => And.intro (And.intro rfl (And.intro rfl rfl)) ((((hQ.2.2 h0).2.2.2.2.2.2.2.2.2.1) h10).2 hh)) (fun _ => Or.inl rfl)))) (fun h10 => And.intro (fun h11 => And.intro (And.intro rfl (lw_b hQ.2.1 hQ.1 h0 (by decide))) (And.intro (And.intro rfl (lw_b hQ.2.1 hQ.1 h0 (by decide))) (And.intro rfl (And.intro (And.intro rfl (lw_b hQ.2.1 hQ.1 h0 (by decide))) (And.intro (And.intro rfl (lw_b hQ.2.1 hQ.1 h0 (by decide))) (And.intro rfl (And.intro (fun hh => And.intro (And.intro rfl (And.intro rfl rfl)) ((((hQ.2.2 h0).2.2.2.2.2.2.2.2.2.2.1) h11).2 hh)) (fun _ => Or.inl rfl)))))))) (fun h11 => And.intro (fun h12 => And.intro (And.intro rfl (lw_b hQ.2.1 hQ.1 h0 (by decide))) (And.intro rfl (And.intro (And.intro rfl (lw_b hQ.2.1 hQ.1 h0 (by decide))) (And.intro rfl (And.intro (fun hh => And.intro (And.intro rfl (And.intro rfl rfl)) ((((hQ.2.2 h0).2.2.2.2.2.2.2.2.2.2.2.1) h12).2 hh)) (fun _ => Or.inl rfl)))))) (fun h12 => And.intro (fun h13 => And.intro (And.intro rfl (lw_b hQ.2.1 hQ.1 h0 (by decide))) (And.intro rfl (And.intro (And.intro rfl (lw_b hQ.2.1 hQ.1 h0 (by decide))) (And.intro rfl (And.intro (fun hh => And.intro (And.intro rfl (And.intro rfl rfl)) ((((hQ.2.2 h0).2.2.2.2.2.2.2.2.2.2.2.2.1) h13).2 hh)) (fun _ => Or.inl rfl)))))) (fun h13 => And.intro (fun h14 => And.intro (And.intro rfl (lw_b hQ.2.1 hQ.1 h0 (by decide))) (And.intro (And.intro rfl (lw_b hQ.2.1 hQ.1 h0 (by decide))) (And.intro rfl (And.intro (And.intro rfl (lw_b hQ.2.1 hQ.1 h0 (by decide))) (And.intro (And.intro rfl (lw_b hQ.2.1 hQ.1 h0 (by decide))) (And.intro rfl (And.intro (fun hh => And.intro (And.intro rfl (And.intro rfl rfl)) ((((hQ.2.2 h0).2.2.2.2.2.2.2.2.2.2.2.2.2.1) h14).2 hh)) (fun _ => Or.inl rfl)))))))) (fun h14 => And.intro (fun h15 => And.intro (And.intro rfl (lw_b hQ.2.1 hQ.1 h0 (by decide))) (And.intro rfl (And.intro (And.intro rfl (lw_b hQ.2.1 hQ.1 h0 (by decide))) (And.intro rfl (And.intro (fun hh => And.intro (And.intro rfl (And.intro rfl rfl)) ((((hQ.2.2 h0).2.2.2.2.2.2.2.2.2.2.2.2.2.2.1) h15).2 hh)) (fun _ => Or.inl rfl)))))) (fun h15 => And.intro (fun h16 => And.intro (And.intro rfl (lw_b hQ.2.1 hQ.1 h0 (by decide))) (And.intro rfl (And.intro (And.intro rfl (lw_b hQ.2.1 hQ.1 h0 (by decide))) (And.intro rfl (And.intro (fun hh => And.intro (And.intro rfl (And.intro rfl rfl)) ((((hQ.2.2 h0).2.2.2.2.2.2.2.2.2.2.2.2.2.2.2.1) h16).2 hh)) (fun _ => Or.inl rfl)))))) (fun h16 => And.intro (fun h17 => And.intro (And.intro rfl (lw_b hQ.2.1 hQ.1 h0 (by decide))) (And.intro (And.intro rfl (lw_b hQ.2.1 hQ.1 h0 (by decide))) (And.intro rfl (And.intro (And.intro rfl (lw_b hQ.2.1 hQ.1 h0 (by decide))) (And.intro (And.intro rfl (lw_b hQ.2.1 hQ.1 h0 (by decide))) (And.intro rfl (And.intro (fun hh => And.intro (And.intro rfl (And.intro rfl rfl)) ((((hQ.2.2 h0).2.2.2.2.2.2.2.2.2.2.2.2.2.2.2.2.1) h17).2 hh)) (fun _ => Or.inl rfl)))))))) (fun h17 => And.intro (fun h18 => And.intro (And.intro rfl (lw_b hQ.2.1 hQ.1 h0 (by decide))) (And.intro (And.intro rfl (lw_b hQ.2.1 hQ.1 h0 (by decide))) (And.intro rfl (And.intro (And.intro rfl (lw_b hQ.2.1 hQ.1 h0 (by decide))) (And.intro (And.intro rfl (lw_b hQ.2.1 hQ.1 h0 (by decide))) (And.intro rfl (And.intro (fun hh => And.intro (And.intro rfl (And.intro rfl rfl)) ((((hQ.2.2 h0).2.2.2.2.2.2.2.2.2.2.2.2.2.2.2.2.2.1) h18).2 hh)) (fun _ => Or.inl rfl)))))))) (fun h18 => And.intro (fun h19 => And.intro (And.intro rfl (lw_b hQ.2.1 hQ.1 h0 (by decide))) (And.intro (And.intro rfl (lw_b hQ.2.1 hQ.1 h0 (by decide))) (And.intro rfl (And.intro (And.intro rfl (lw_b hQ.2.1 hQ.1 h0 (by decide))) (And.intro (And.intro rfl (lw_b hQ.2.1 hQ.1 h0 (by decide))) (And.intro rfl (And.intro (fun hh => And.intro (And.intro rfl (And.intro rfl rfl)) ((((hQ.2.2 h0).2.2.2.2.2.2.2.2.2.2.2.2.2.2.2.2.2.2.1) h19).2 hh)) (fun _ => Or.inl rfl)))))))) (fun h19 => And.intro (And.intro rfl (And.intro rfl rfl)) (((hQ.2.2 h0).2.2.2.2.2.2.2.2.2.2.2.2.2.2.2.2.2.2.2) h1 h2 h3 h4 h5 h6 h7 h8 h9 h10 h11 h12 h13 h14 h15 h16 h17 h18 h19)))))))))))))))))))))))
