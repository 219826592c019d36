-- contracts of the methods (laid by program from the listing)
theorem fw_X1_takeMinus_X1 : ∀ w ∈ wsX10, w ∈ wsX1_takeMinus := fun w h => List.mem_cons_of_mem _ (List.mem_append_right _ h)
theorem lk_X1_takeMinus_f36 : Cond.fieldLink RX1 36 "HalftoneScreens$Input" "negative" "Z" ∈ wsX1_takeMinus := List.mem_of_getElem? (i := 1) rfl
theorem lk_X1_takeMinus_f30 : Cond.fieldLink RX1 30 "HalftoneScreens$Input" "phase" "I" ∈ wsX1_takeMinus := List.mem_of_getElem? (i := 2) rfl
abbrev rmX1_takeMinus : Room := { frames := 0, cells := 0, slots := 0, locals := 0 }
set_option maxHeartbeats 4000000 in
set_option maxRecDepth 100000 in
theorem ctX1_takeMinus (l : Launch) (G : GG) (v_q0 : Nat) (v_q1 : Nat) (v_q2 : Nat) (v_length : Int32) (v_phase : Int32) (v_part : Int32) (v_negative : Int32) (v_spot : Int32) (v_middle : Int32) (v_codesA : (Nat → Int32)) (v_partsA : (Nat → Int32)) (a0 : Int32) (o0 : Int32) (o1 : Int32) (o2 : Int32) (h : mX1_takeMinus v_phase v_negative a0 = some (o0, o1, o2))  : Met l yX1_takeMinus wsX1_takeMinus rmX1_takeMinus (va_Pc [.ref v_q0, .int a0] (PreD G (wdX1 G v_q0 v_q1 v_q2 v_length v_phase v_part v_negative v_spot v_middle v_codesA v_partsA) (fun _ => True))) (QwA G (va_A0 (wdX1 G v_q0 v_q1 v_q2 v_length v_phase v_part v_negative v_spot v_middle v_codesA v_partsA)) (wdX1 G v_q0 v_q1 v_q2 v_length o1 v_part o2 v_spot v_middle v_codesA v_partsA) (some (.int o0)) (isZ o0)) 0 0 (va_A0 (wdX1 G v_q0 v_q1 v_q2 v_length v_phase v_part v_negative v_spot v_middle v_codesA v_partsA)) := by
  refine of_wi (cc := cX1_takeMinus) (maxL := 2) (ty := .boolean) (plainFor_of_name (by decide)) rfl (Nat.le_of_ble_eq_true rfl) ?_
  intro p e s m args below meth c ls Q A S hl hP hD hS hK hX hA hret
  obtain ⟨H, hH⟩ : ∃ H, H = s.heap := ⟨_, rfl⟩
  obtain ⟨locs, hlocs⟩ : ∃ L : List Loc, L = [] := ⟨_, rfl⟩
  rw [← hlocs]
  rw [← hlocs] at hS
  have hP : va_P G.1 vwCl (wdX1 G v_q0 v_q1 v_q2 v_length v_phase v_part v_negative v_spot v_middle v_codesA v_partsA) H := by rw [hH]; exact hP
  have hS : va_S A s.heap H locs := by rw [hH]; exact hS
  suffices hgo : W p l e rmX1_takeMinus s m args below meth c H locs 0 0 Q (F0 m 0 ls []) by rw [hH] at hgo; exact hgo
  have S : CallFix p m c cX1_takeMinus 2 s args wsX1_takeMinus RX1 := S
  obtain ⟨hx, hb, hml, hown, hts⟩ := id S
  have hl : lv_has ls 2 [(0, .ref v_q0), (1, .int a0)] := hl
  unfold mX1_takeMinus at h
  refine lv_iload_n hx hb dX1_takeMinus_0 rfl (lv_at hl 1 rfl) ?_
  refine lv_bipush (v := 45) hx hb dX1_takeMinus_1 (by decide) ?_
  refine lv_icmp_eq (tgt := 8) hx hb dX1_takeMinus_3 (by decide) (fun c1 => ?_) (fun c1 => ?_)
  · replace h := ite_t c1 h
    refine lv_aload_n hx hb dX1_takeMinus_8 rfl (lv_at hl 0 rfl) ?_
    refine lv_iconst (v := 1) hx hb dX1_takeMinus_9 (by decide) ?_
    refine va_put (D := G.1) (ci := 1) (v := .int 1) (ty := .boolean) (C := RX1) (T := TX1) (N := 8) hx hb hts fw_X1_takeMinus_X1 tyX1 tyX1_ok nmX1 hown hK.1 hP hD hS 0 rfl rfl 5 (by decide) (hts (.fieldLink RX1 36 "HalftoneScreens$Input" "negative" "Z") lk_X1_takeMinus_f36) (fun _ h9 => h9) rfl (tyX1_ok 5 (by decide)) (isZ.nar isZ1) (isZ.fit isZ1) (Nat.le_of_ble_eq_true rfl) dX1_takeMinus_10 (fun H locs hP hD hS => ?_)
    have hP : va_P G.1 vwCl (wdX1 G v_q0 v_q1 v_q2 v_length v_phase v_part 1 v_spot v_middle v_codesA v_partsA) H := hP
    have hD : va_D A (wdX1 G v_q0 v_q1 v_q2 v_length v_phase v_part 1 v_spot v_middle v_codesA v_partsA) := hD
    refine lv_aload_n hx hb dX1_takeMinus_13 rfl (lv_at hl 0 rfl) ?_
    refine lv_iconst (v := 1) hx hb dX1_takeMinus_14 (by decide) ?_
    refine va_put (D := G.1) (ci := 1) (v := .int 1) (ty := .int) (C := RX1) (T := TX1) (N := 8) hx hb hts fw_X1_takeMinus_X1 tyX1 tyX1_ok nmX1 hown hK.1 hP hD hS 0 rfl rfl 3 (by decide) (hts (.fieldLink RX1 30 "HalftoneScreens$Input" "phase" "I") lk_X1_takeMinus_f30) (fun _ h9 => h9) rfl (tyX1_ok 3 (by decide)) rfl rfl (Nat.le_of_ble_eq_true rfl) dX1_takeMinus_15 (fun H locs hP hD hS => ?_)
    have hP : va_P G.1 vwCl (wdX1 G v_q0 v_q1 v_q2 v_length 1 v_part 1 v_spot v_middle v_codesA v_partsA) H := hP
    have hD : va_D A (wdX1 G v_q0 v_q1 v_q2 v_length 1 v_part 1 v_spot v_middle v_codesA v_partsA) := hD
    refine lv_iconst (v := 1) hx hb dX1_takeMinus_18 (by decide) ?_
    obtain ⟨rfl, rfl, rfl⟩ := sm3 h
    exact hret _ _ _ _ _ rfl isZ1 (isZ.nar isZ1) hP hD hS dX1_takeMinus_19
  · replace h := ite_f c1 h
    refine lv_iconst (v := 0) hx hb dX1_takeMinus_6 (by decide) ?_
    obtain ⟨rfl, rfl, rfl⟩ := sm3 h
    exact hret _ _ _ _ _ rfl isZ0 (isZ.nar isZ0) hP hD hS dX1_takeMinus_7
theorem fw_X1_takeDigit_X1 : ∀ w ∈ wsX10, w ∈ wsX1_takeDigit := fun w h => List.mem_cons_of_mem _ (List.mem_append_right _ h)
theorem lk_X1_takeDigit_f15 : Cond.fieldLink RX1 15 "HalftoneScreens$Input" "parts" "[I" ∈ wsX1_takeDigit := List.mem_of_getElem? (i := 1) rfl
theorem lk_X1_takeDigit_f33 : Cond.fieldLink RX1 33 "HalftoneScreens$Input" "part" "I" ∈ wsX1_takeDigit := List.mem_of_getElem? (i := 2) rfl
theorem lk_X1_takeDigit_f36 : Cond.fieldLink RX1 36 "HalftoneScreens$Input" "negative" "Z" ∈ wsX1_takeDigit := List.mem_of_getElem? (i := 3) rfl
theorem lk_X1_takeDigit_iX4 : Cond.initialized RX4 ∈ wsX1_takeDigit := List.mem_of_getElem? (i := 6) rfl
theorem lk_X1_takeDigit_s_put : Cond.static yX4_put ∈ wsX1_takeDigit := List.mem_of_getElem? (i := 5) rfl
theorem lk_X1_takeDigit_f30 : Cond.fieldLink RX1 30 "HalftoneScreens$Input" "phase" "I" ∈ wsX1_takeDigit := List.mem_of_getElem? (i := 4) rfl
abbrev rmX1_takeDigit : Room := { frames := 1, cells := 0, slots := 0, locals := 22 }
set_option maxHeartbeats 4000000 in
set_option maxRecDepth 100000 in
theorem ctX1_takeDigit (l : Launch) (G : GG) (v_q0 : Nat) (v_q1 : Nat) (v_q2 : Nat) (v_length : Int32) (v_phase : Int32) (v_part : Int32) (v_negative : Int32) (v_spot : Int32) (v_middle : Int32) (v_codesA : (Nat → Int32)) (v_partsA : (Nat → Int32)) (a0 : Int32) (o0 : Int32) (o1 : Int32) (o2 : (Nat → Int32)) (h : mX1_takeDigit v_phase v_part v_negative v_partsA a0 = some (o0, o1, o2))  : Met l yX1_takeDigit wsX1_takeDigit rmX1_takeDigit (va_Pc [.ref v_q0, .int a0] (PreD G (wdX1 G v_q0 v_q1 v_q2 v_length v_phase v_part v_negative v_spot v_middle v_codesA v_partsA) (fun _ => True))) (QwA G (va_A0 (wdX1 G v_q0 v_q1 v_q2 v_length v_phase v_part v_negative v_spot v_middle v_codesA v_partsA)) (wdX1 G v_q0 v_q1 v_q2 v_length o1 v_part v_negative v_spot v_middle v_codesA o2) (some (.int o0)) (isZ o0)) 0 0 (va_A0 (wdX1 G v_q0 v_q1 v_q2 v_length v_phase v_part v_negative v_spot v_middle v_codesA v_partsA)) := by
  refine of_wi (cc := cX1_takeDigit) (maxL := 2) (ty := .boolean) (plainFor_of_name (by decide)) rfl (Nat.le_of_ble_eq_true rfl) ?_
  intro p e s m args below meth c ls Q A S hl hP hD hS hK hX hA hret
  obtain ⟨H, hH⟩ : ∃ H, H = s.heap := ⟨_, rfl⟩
  obtain ⟨locs, hlocs⟩ : ∃ L : List Loc, L = [] := ⟨_, rfl⟩
  rw [← hlocs]
  rw [← hlocs] at hS
  have hP : va_P G.1 vwCl (wdX1 G v_q0 v_q1 v_q2 v_length v_phase v_part v_negative v_spot v_middle v_codesA v_partsA) H := by rw [hH]; exact hP
  have hS : va_S A s.heap H locs := by rw [hH]; exact hS
  suffices hgo : W p l e rmX1_takeDigit s m args below meth c H locs 0 0 Q (F0 m 0 ls []) by rw [hH] at hgo; exact hgo
  have S : CallFix p m c cX1_takeDigit 2 s args wsX1_takeDigit RX1 := S
  obtain ⟨hx, hb, hml, hown, hts⟩ := id S
  have hl : lv_has ls 2 [(0, .ref v_q0), (1, .int a0)] := hl
  unfold mX1_takeDigit at h
  refine lv_iload_n hx hb dX1_takeDigit_0 rfl (lv_at hl 1 rfl) ?_
  refine lv_bipush (v := 48) hx hb dX1_takeDigit_1 (by decide) ?_
  refine lv_icmp_lt (tgt := 12) hx hb dX1_takeDigit_3 (by decide) (fun c1 => ?_) (fun c1 => ?_)
  · replace h := ite_t c1 h
    refine lv_iconst (v := 0) hx hb dX1_takeDigit_12 (by decide) ?_
    obtain ⟨rfl, rfl, rfl⟩ := sm3 h
    exact hret _ _ _ _ _ rfl isZ0 (isZ.nar isZ0) hP hD hS dX1_takeDigit_13
  · replace h := ite_f c1 h
    refine lv_iload_n hx hb dX1_takeDigit_6 rfl (lv_at hl 1 rfl) ?_
    refine lv_bipush (v := 56) hx hb dX1_takeDigit_7 (by decide) ?_
    refine lv_icmp_le (tgt := 14) hx hb dX1_takeDigit_9 (by decide) (fun c2 => ?_) (fun c2 => ?_)
    · replace h := ite_t c2 h
      refine lv_aload_n hx hb dX1_takeDigit_14 rfl (lv_at hl 0 rfl) ?_
      refine va_get (D := G.1) (ci := 1) (v := .ref v_q2) (C := RX1) (T := TX1) (N := 8) hx hb hts fw_X1_takeDigit_X1 hown hK.1 hP 0 rfl rfl 1 (by decide) (hts (.fieldLink RX1 15 "HalftoneScreens$Input" "parts" "[I") lk_X1_takeDigit_f15) (fun _ h9 => h9) rfl dX1_takeDigit_15 ?_
      refine lv_aload_n hx hb dX1_takeDigit_18 rfl (lv_at hl 0 rfl) ?_
      refine va_get (D := G.1) (ci := 1) (v := .int v_part) (C := RX1) (T := TX1) (N := 8) hx hb hts fw_X1_takeDigit_X1 hown hK.1 hP 0 rfl rfl 4 (by decide) (hts (.fieldLink RX1 33 "HalftoneScreens$Input" "part" "I") lk_X1_takeDigit_f33) (fun _ h9 => h9) rfl dX1_takeDigit_19 ?_
      refine lv_aload_n hx hb dX1_takeDigit_22 rfl (lv_at hl 0 rfl) ?_
      refine va_get (D := G.1) (ci := 1) (v := .int v_negative) (C := RX1) (T := TX1) (N := 8) hx hb hts fw_X1_takeDigit_X1 hown hK.1 hP 0 rfl rfl 5 (by decide) (hts (.fieldLink RX1 36 "HalftoneScreens$Input" "negative" "Z") lk_X1_takeDigit_f36) (fun _ h9 => h9) rfl dX1_takeDigit_23 ?_
      refine lv_if_eq (tgt := 36) hx hb dX1_takeDigit_26 (by decide) (fun c3 => ?_) (fun c3 => ?_)
      · replace h := ite_t c3 h
        refine lv_iload_n hx hb dX1_takeDigit_36 rfl (lv_at hl 1 rfl) ?_
        refine lv_bipush (v := 48) hx hb dX1_takeDigit_37 (by decide) ?_
        refine lv_isub hx hb dX1_takeDigit_39 ?_
        obtain ⟨r4_0, g4, h⟩ := bnd1_e h
        refine rwN_back (rest := []) (As := [.ref v_q2, .int v_part, .int (a0 - 48)]) (wr := [(v_q0, .inr (1, [.ref v_q1, .ref v_q2, .int v_length, .int v_phase, .int v_part, .int v_negative, .int v_spot, .int v_middle])), (v_q1, .inl (G.2 0, 20, .inl v_codesA))]) (wf := wdX1 G v_q0 v_q1 v_q2 v_length v_phase v_part v_negative v_spot v_middle v_codesA r4_0) S (ctX4_put l G v_q2 4 v_partsA v_part (a0 - 48) r4_0 g4) ⟨va_cnB 3 hts gX1_takeDigit_X4_put_n22 rfl rfl rfl (hK.2.1 _ (List.mem_of_getElem? (i := 2) rfl)) (hts (.initialized RX4) lk_X1_takeDigit_iX4) hsX4_put ⟨Nat.le_of_ble_eq_true rfl, Nat.le_of_ble_eq_true rfl⟩, (hts (.static yX4_put) lk_X1_takeDigit_s_put), trivial⟩ hK hP hD hS xb_triv (fun _ _ _ => trivial) [2] [0, 1] [0, 1, 2] rfl rfl rfl rfl rfl rfl rfl rfl hl.1 rfl (Nat.le_of_ble_eq_true rfl) dX1_takeDigit_40 ⟨Nat.le_refl _, Nat.le_refl _⟩ (fun _ H locs hP hD hS => ?_)
        have hP : va_P G.1 vwCl (wdX1 G v_q0 v_q1 v_q2 v_length v_phase v_part v_negative v_spot v_middle v_codesA r4_0) H := hP
        have hD : va_D A (wdX1 G v_q0 v_q1 v_q2 v_length v_phase v_part v_negative v_spot v_middle v_codesA r4_0) := hD
        refine lv_aload_n hx hb dX1_takeDigit_43 rfl (lv_at hl 0 rfl) ?_
        refine lv_iconst (v := 2) hx hb dX1_takeDigit_44 (by decide) ?_
        refine va_put (D := G.1) (ci := 1) (v := .int 2) (ty := .int) (C := RX1) (T := TX1) (N := 8) hx hb hts fw_X1_takeDigit_X1 tyX1 tyX1_ok nmX1 hown hK.1 hP hD hS 0 rfl rfl 3 (by decide) (hts (.fieldLink RX1 30 "HalftoneScreens$Input" "phase" "I") lk_X1_takeDigit_f30) (fun _ h9 => h9) rfl (tyX1_ok 3 (by decide)) rfl rfl (Nat.le_of_ble_eq_true rfl) dX1_takeDigit_45 (fun H locs hP hD hS => ?_)
        have hP : va_P G.1 vwCl (wdX1 G v_q0 v_q1 v_q2 v_length 2 v_part v_negative v_spot v_middle v_codesA r4_0) H := hP
        have hD : va_D A (wdX1 G v_q0 v_q1 v_q2 v_length 2 v_part v_negative v_spot v_middle v_codesA r4_0) := hD
        refine lv_iconst (v := 1) hx hb dX1_takeDigit_48 (by decide) ?_
        obtain ⟨rfl, rfl, rfl⟩ := sm3 h
        exact hret _ _ _ _ _ rfl isZ1 (isZ.nar isZ1) hP hD hS dX1_takeDigit_49
      · replace h := ite_f c3 h
        refine lv_bipush (v := 48) hx hb dX1_takeDigit_29 (by decide) ?_
        refine lv_iload_n hx hb dX1_takeDigit_31 rfl (lv_at hl 1 rfl) ?_
        refine lv_isub hx hb dX1_takeDigit_32 ?_
        refine lv_goto (tgt := 40) hx hb dX1_takeDigit_33 (by decide) ?_
        obtain ⟨r5_0, g5, h⟩ := bnd1_e h
        refine rwN_back (rest := []) (As := [.ref v_q2, .int v_part, .int (48 - a0)]) (wr := [(v_q0, .inr (1, [.ref v_q1, .ref v_q2, .int v_length, .int v_phase, .int v_part, .int v_negative, .int v_spot, .int v_middle])), (v_q1, .inl (G.2 0, 20, .inl v_codesA))]) (wf := wdX1 G v_q0 v_q1 v_q2 v_length v_phase v_part v_negative v_spot v_middle v_codesA r5_0) S (ctX4_put l G v_q2 4 v_partsA v_part (48 - a0) r5_0 g5) ⟨va_cnB 3 hts gX1_takeDigit_X4_put_n22 rfl rfl rfl (hK.2.1 _ (List.mem_of_getElem? (i := 2) rfl)) (hts (.initialized RX4) lk_X1_takeDigit_iX4) hsX4_put ⟨Nat.le_of_ble_eq_true rfl, Nat.le_of_ble_eq_true rfl⟩, (hts (.static yX4_put) lk_X1_takeDigit_s_put), trivial⟩ hK hP hD hS xb_triv (fun _ _ _ => trivial) [2] [0, 1] [0, 1, 2] rfl rfl rfl rfl rfl rfl rfl rfl hl.1 rfl (Nat.le_of_ble_eq_true rfl) dX1_takeDigit_40 ⟨Nat.le_refl _, Nat.le_refl _⟩ (fun _ H locs hP hD hS => ?_)
        have hP : va_P G.1 vwCl (wdX1 G v_q0 v_q1 v_q2 v_length v_phase v_part v_negative v_spot v_middle v_codesA r5_0) H := hP
        have hD : va_D A (wdX1 G v_q0 v_q1 v_q2 v_length v_phase v_part v_negative v_spot v_middle v_codesA r5_0) := hD
        refine lv_aload_n hx hb dX1_takeDigit_43 rfl (lv_at hl 0 rfl) ?_
        refine lv_iconst (v := 2) hx hb dX1_takeDigit_44 (by decide) ?_
        refine va_put (D := G.1) (ci := 1) (v := .int 2) (ty := .int) (C := RX1) (T := TX1) (N := 8) hx hb hts fw_X1_takeDigit_X1 tyX1 tyX1_ok nmX1 hown hK.1 hP hD hS 0 rfl rfl 3 (by decide) (hts (.fieldLink RX1 30 "HalftoneScreens$Input" "phase" "I") lk_X1_takeDigit_f30) (fun _ h9 => h9) rfl (tyX1_ok 3 (by decide)) rfl rfl (Nat.le_of_ble_eq_true rfl) dX1_takeDigit_45 (fun H locs hP hD hS => ?_)
        have hP : va_P G.1 vwCl (wdX1 G v_q0 v_q1 v_q2 v_length 2 v_part v_negative v_spot v_middle v_codesA r5_0) H := hP
        have hD : va_D A (wdX1 G v_q0 v_q1 v_q2 v_length 2 v_part v_negative v_spot v_middle v_codesA r5_0) := hD
        refine lv_iconst (v := 1) hx hb dX1_takeDigit_48 (by decide) ?_
        obtain ⟨rfl, rfl, rfl⟩ := sm3 h
        exact hret _ _ _ _ _ rfl isZ1 (isZ.nar isZ1) hP hD hS dX1_takeDigit_49
    · replace h := ite_f c2 h
      refine lv_iconst (v := 0) hx hb dX1_takeDigit_12 (by decide) ?_
      obtain ⟨rfl, rfl, rfl⟩ := sm3 h
      exact hret _ _ _ _ _ rfl isZ0 (isZ.nar isZ0) hP hD hS dX1_takeDigit_13
theorem fw_X1_takeSeparator_X1 : ∀ w ∈ wsX10, w ∈ wsX1_takeSeparator := fun w h => List.mem_cons_of_mem _ (List.mem_append_right _ h)
theorem lk_X1_takeSeparator_f33 : Cond.fieldLink RX1 33 "HalftoneScreens$Input" "part" "I" ∈ wsX1_takeSeparator := List.mem_of_getElem? (i := 1) rfl
theorem lk_X1_takeSeparator_f36 : Cond.fieldLink RX1 36 "HalftoneScreens$Input" "negative" "Z" ∈ wsX1_takeSeparator := List.mem_of_getElem? (i := 2) rfl
theorem lk_X1_takeSeparator_f30 : Cond.fieldLink RX1 30 "HalftoneScreens$Input" "phase" "I" ∈ wsX1_takeSeparator := List.mem_of_getElem? (i := 3) rfl
abbrev rmX1_takeSeparator : Room := { frames := 0, cells := 0, slots := 0, locals := 0 }
set_option maxHeartbeats 4000000 in
set_option maxRecDepth 100000 in
theorem ctX1_takeSeparator (l : Launch) (G : GG) (v_q0 : Nat) (v_q1 : Nat) (v_q2 : Nat) (v_length : Int32) (v_phase : Int32) (v_part : Int32) (v_negative : Int32) (v_spot : Int32) (v_middle : Int32) (v_codesA : (Nat → Int32)) (v_partsA : (Nat → Int32)) (a0 : Int32) (o0 : Int32) (o1 : Int32) (o2 : Int32) (o3 : Int32) (h : mX1_takeSeparator v_phase v_part v_negative a0 = some (o0, o1, o2, o3))  : Met l yX1_takeSeparator wsX1_takeSeparator rmX1_takeSeparator (va_Pc [.ref v_q0, .int a0] (PreD G (wdX1 G v_q0 v_q1 v_q2 v_length v_phase v_part v_negative v_spot v_middle v_codesA v_partsA) (fun _ => True))) (QwA G (va_A0 (wdX1 G v_q0 v_q1 v_q2 v_length v_phase v_part v_negative v_spot v_middle v_codesA v_partsA)) (wdX1 G v_q0 v_q1 v_q2 v_length o1 o2 o3 v_spot v_middle v_codesA v_partsA) (some (.int o0)) (isZ o0)) 0 0 (va_A0 (wdX1 G v_q0 v_q1 v_q2 v_length v_phase v_part v_negative v_spot v_middle v_codesA v_partsA)) := by
  refine of_wi (cc := cX1_takeSeparator) (maxL := 2) (ty := .boolean) (plainFor_of_name (by decide)) rfl (Nat.le_of_ble_eq_true rfl) ?_
  intro p e s m args below meth c ls Q A S hl hP hD hS hK hX hA hret
  obtain ⟨H, hH⟩ : ∃ H, H = s.heap := ⟨_, rfl⟩
  obtain ⟨locs, hlocs⟩ : ∃ L : List Loc, L = [] := ⟨_, rfl⟩
  rw [← hlocs]
  rw [← hlocs] at hS
  have hP : va_P G.1 vwCl (wdX1 G v_q0 v_q1 v_q2 v_length v_phase v_part v_negative v_spot v_middle v_codesA v_partsA) H := by rw [hH]; exact hP
  have hS : va_S A s.heap H locs := by rw [hH]; exact hS
  suffices hgo : W p l e rmX1_takeSeparator s m args below meth c H locs 0 0 Q (F0 m 0 ls []) by rw [hH] at hgo; exact hgo
  have S : CallFix p m c cX1_takeSeparator 2 s args wsX1_takeSeparator RX1 := S
  obtain ⟨hx, hb, hml, hown, hts⟩ := id S
  have hl : lv_has ls 2 [(0, .ref v_q0), (1, .int a0)] := hl
  unfold mX1_takeSeparator at h
  refine lv_iload_n hx hb dX1_takeSeparator_0 rfl (lv_at hl 1 rfl) ?_
  refine lv_aload_n hx hb dX1_takeSeparator_1 rfl (lv_at hl 0 rfl) ?_
  refine va_get (D := G.1) (ci := 1) (v := .int v_part) (C := RX1) (T := TX1) (N := 8) hx hb hts fw_X1_takeSeparator_X1 hown hK.1 hP 0 rfl rfl 4 (by decide) (hts (.fieldLink RX1 33 "HalftoneScreens$Input" "part" "I") lk_X1_takeSeparator_f33) (fun _ h9 => h9) rfl dX1_takeSeparator_2 ?_
  refine lv_iconst (v := 1) hx hb dX1_takeSeparator_5 (by decide) ?_
  obtain ⟨K1, hK1, h⟩ := jB1_e h
  have J1 : ∀ (j1_0 : Int32) (H : Heap) (locs : List Loc) (ls : Array Slot), K1 j1_0 = some (o0, o1, o2, o3) → lv_has ls 2 [(0, .ref v_q0), (1, .int a0)] → va_P G.1 vwCl (wdX1 G v_q0 v_q1 v_q2 v_length v_phase v_part v_negative v_spot v_middle v_codesA v_partsA) H → va_D A (wdX1 G v_q0 v_q1 v_q2 v_length v_phase v_part v_negative v_spot v_middle v_codesA v_partsA) → va_S A s.heap H locs → W p l e rmX1_takeSeparator s m args below meth c H locs 0 0 Q (F0 m 16 ls [.int j1_0, .int a0]) := by
    intro j1_0 H locs ls h hl hP hD hS
    replace h := (hK1 j1_0).symm.trans h
    refine lv_icmp_eq (tgt := 21) hx hb dX1_takeSeparator_16 (by decide) (fun c3 => ?_) (fun c3 => ?_)
    · replace h := ite_t c3 h
      refine lv_aload_n hx hb dX1_takeSeparator_21 rfl (lv_at hl 0 rfl) ?_
      refine lv_dup hx hb dX1_takeSeparator_22 rfl ?_
      refine va_get (D := G.1) (ci := 1) (v := .int v_part) (C := RX1) (T := TX1) (N := 8) hx hb hts fw_X1_takeSeparator_X1 hown hK.1 hP 0 rfl rfl 4 (by decide) (hts (.fieldLink RX1 33 "HalftoneScreens$Input" "part" "I") lk_X1_takeSeparator_f33) (fun _ h9 => h9) rfl dX1_takeSeparator_23 ?_
      refine lv_iconst (v := 1) hx hb dX1_takeSeparator_26 (by decide) ?_
      refine lv_iadd hx hb dX1_takeSeparator_27 ?_
      refine lv_topi (fun x4 e4 => ?_)
      replace h := nmB_e e4 h
      refine va_put (D := G.1) (ci := 1) (v := .int x4) (ty := .int) (C := RX1) (T := TX1) (N := 8) hx hb hts fw_X1_takeSeparator_X1 tyX1 tyX1_ok nmX1 hown hK.1 hP hD hS 0 rfl rfl 4 (by decide) (hts (.fieldLink RX1 33 "HalftoneScreens$Input" "part" "I") lk_X1_takeSeparator_f33) (fun _ h9 => h9) rfl (tyX1_ok 4 (by decide)) rfl rfl (Nat.le_of_ble_eq_true rfl) dX1_takeSeparator_28 (fun H locs hP hD hS => ?_)
      have hP : va_P G.1 vwCl (wdX1 G v_q0 v_q1 v_q2 v_length v_phase x4 v_negative v_spot v_middle v_codesA v_partsA) H := hP
      have hD : va_D A (wdX1 G v_q0 v_q1 v_q2 v_length v_phase x4 v_negative v_spot v_middle v_codesA v_partsA) := hD
      refine lv_aload_n hx hb dX1_takeSeparator_31 rfl (lv_at hl 0 rfl) ?_
      refine lv_iconst (v := 0) hx hb dX1_takeSeparator_32 (by decide) ?_
      refine va_put (D := G.1) (ci := 1) (v := .int 0) (ty := .boolean) (C := RX1) (T := TX1) (N := 8) hx hb hts fw_X1_takeSeparator_X1 tyX1 tyX1_ok nmX1 hown hK.1 hP hD hS 0 rfl rfl 5 (by decide) (hts (.fieldLink RX1 36 "HalftoneScreens$Input" "negative" "Z") lk_X1_takeSeparator_f36) (fun _ h9 => h9) rfl (tyX1_ok 5 (by decide)) (isZ.nar isZ0) (isZ.fit isZ0) (Nat.le_of_ble_eq_true rfl) dX1_takeSeparator_33 (fun H locs hP hD hS => ?_)
      have hP : va_P G.1 vwCl (wdX1 G v_q0 v_q1 v_q2 v_length v_phase x4 0 v_spot v_middle v_codesA v_partsA) H := hP
      have hD : va_D A (wdX1 G v_q0 v_q1 v_q2 v_length v_phase x4 0 v_spot v_middle v_codesA v_partsA) := hD
      refine lv_aload_n hx hb dX1_takeSeparator_36 rfl (lv_at hl 0 rfl) ?_
      refine lv_iconst (v := 0) hx hb dX1_takeSeparator_37 (by decide) ?_
      refine va_put (D := G.1) (ci := 1) (v := .int 0) (ty := .int) (C := RX1) (T := TX1) (N := 8) hx hb hts fw_X1_takeSeparator_X1 tyX1 tyX1_ok nmX1 hown hK.1 hP hD hS 0 rfl rfl 3 (by decide) (hts (.fieldLink RX1 30 "HalftoneScreens$Input" "phase" "I") lk_X1_takeSeparator_f30) (fun _ h9 => h9) rfl (tyX1_ok 3 (by decide)) rfl rfl (Nat.le_of_ble_eq_true rfl) dX1_takeSeparator_38 (fun H locs hP hD hS => ?_)
      have hP : va_P G.1 vwCl (wdX1 G v_q0 v_q1 v_q2 v_length 0 x4 0 v_spot v_middle v_codesA v_partsA) H := hP
      have hD : va_D A (wdX1 G v_q0 v_q1 v_q2 v_length 0 x4 0 v_spot v_middle v_codesA v_partsA) := hD
      refine lv_iconst (v := 1) hx hb dX1_takeSeparator_41 (by decide) ?_
      obtain ⟨rfl, rfl, rfl, rfl⟩ := sm4 h
      exact hret _ _ _ _ _ rfl isZ1 (isZ.nar isZ1) hP hD hS dX1_takeSeparator_42
    · replace h := ite_f c3 h
      refine lv_iconst (v := 0) hx hb dX1_takeSeparator_19 (by decide) ?_
      obtain ⟨rfl, rfl, rfl, rfl⟩ := sm4 h
      exact hret _ _ _ _ _ rfl isZ0 (isZ.nar isZ0) hP hD hS dX1_takeSeparator_20
  refine lv_icmp_ne (tgt := 14) hx hb dX1_takeSeparator_6 (by decide) (fun c2 => ?_) (fun c2 => ?_)
  · replace h := ite_f c2 h
    refine lv_bipush (v := 44) hx hb dX1_takeSeparator_14 (by decide) ?_
    exact J1 44 H locs ls h hl hP hD hS
  · replace h := ite_t c2 h
    refine lv_bipush (v := 59) hx hb dX1_takeSeparator_9 (by decide) ?_
    refine lv_goto (tgt := 16) hx hb dX1_takeSeparator_11 (by decide) ?_
    exact J1 59 H locs ls h hl hP hD hS
theorem fw_X1_takeLetter_X1 : ∀ w ∈ wsX10, w ∈ wsX1_takeLetter := fun w h => List.mem_cons_of_mem _ (List.mem_append_right _ h)
theorem lk_X1_takeLetter_f40 : Cond.fieldLink RX1 40 "HalftoneScreens$Input" "spot" "I" ∈ wsX1_takeLetter := List.mem_of_getElem? (i := 1) rfl
theorem lk_X1_takeLetter_f30 : Cond.fieldLink RX1 30 "HalftoneScreens$Input" "phase" "I" ∈ wsX1_takeLetter := List.mem_of_getElem? (i := 2) rfl
abbrev rmX1_takeLetter : Room := { frames := 0, cells := 0, slots := 0, locals := 0 }
set_option maxHeartbeats 4000000 in
set_option maxRecDepth 100000 in
theorem ctX1_takeLetter (l : Launch) (G : GG) (v_q0 : Nat) (v_q1 : Nat) (v_q2 : Nat) (v_length : Int32) (v_phase : Int32) (v_part : Int32) (v_negative : Int32) (v_spot : Int32) (v_middle : Int32) (v_codesA : (Nat → Int32)) (v_partsA : (Nat → Int32)) (a0 : Int32) (o0 : Int32) (o1 : Int32) (o2 : Int32) (h : mX1_takeLetter v_phase v_spot a0 = some (o0, o1, o2))  : Met l yX1_takeLetter wsX1_takeLetter rmX1_takeLetter (va_Pc [.ref v_q0, .int a0] (PreD G (wdX1 G v_q0 v_q1 v_q2 v_length v_phase v_part v_negative v_spot v_middle v_codesA v_partsA) (fun _ => True))) (QwA G (va_A0 (wdX1 G v_q0 v_q1 v_q2 v_length v_phase v_part v_negative v_spot v_middle v_codesA v_partsA)) (wdX1 G v_q0 v_q1 v_q2 v_length o1 v_part v_negative o2 v_middle v_codesA v_partsA) (some (.int o0)) (isZ o0)) 0 0 (va_A0 (wdX1 G v_q0 v_q1 v_q2 v_length v_phase v_part v_negative v_spot v_middle v_codesA v_partsA)) := by
  refine of_wi (cc := cX1_takeLetter) (maxL := 2) (ty := .boolean) (plainFor_of_name (by decide)) rfl (Nat.le_of_ble_eq_true rfl) ?_
  intro p e s m args below meth c ls Q A S hl hP hD hS hK hX hA hret
  obtain ⟨H, hH⟩ : ∃ H, H = s.heap := ⟨_, rfl⟩
  obtain ⟨locs, hlocs⟩ : ∃ L : List Loc, L = [] := ⟨_, rfl⟩
  rw [← hlocs]
  rw [← hlocs] at hS
  have hP : va_P G.1 vwCl (wdX1 G v_q0 v_q1 v_q2 v_length v_phase v_part v_negative v_spot v_middle v_codesA v_partsA) H := by rw [hH]; exact hP
  have hS : va_S A s.heap H locs := by rw [hH]; exact hS
  suffices hgo : W p l e rmX1_takeLetter s m args below meth c H locs 0 0 Q (F0 m 0 ls []) by rw [hH] at hgo; exact hgo
  have S : CallFix p m c cX1_takeLetter 2 s args wsX1_takeLetter RX1 := S
  obtain ⟨hx, hb, hml, hown, hts⟩ := id S
  have hl : lv_has ls 2 [(0, .ref v_q0), (1, .int a0)] := hl
  unfold mX1_takeLetter at h
  refine lv_iload_n hx hb dX1_takeLetter_0 rfl (lv_at hl 1 rfl) ?_
  by_cases c1 : a0 = 98
  · replace h := ite_t c1 h
    refine lv_lookup (off := 83) (tgt := 84) hx hb dX1_takeLetter_1 (by decide) (by rw [c1]; decide) (by decide) ?_
    refine lv_aload_n hx hb dX1_takeLetter_84 rfl (lv_at hl 0 rfl) ?_
    refine lv_iconst (v := 4) hx hb dX1_takeLetter_85 (by decide) ?_
    refine va_put (D := G.1) (ci := 1) (v := .int 4) (ty := .int) (C := RX1) (T := TX1) (N := 8) hx hb hts fw_X1_takeLetter_X1 tyX1 tyX1_ok nmX1 hown hK.1 hP hD hS 0 rfl rfl 6 (by decide) (hts (.fieldLink RX1 40 "HalftoneScreens$Input" "spot" "I") lk_X1_takeLetter_f40) (fun _ h9 => h9) rfl (tyX1_ok 6 (by decide)) rfl rfl (Nat.le_of_ble_eq_true rfl) dX1_takeLetter_86 (fun H locs hP hD hS => ?_)
    have hP : va_P G.1 vwCl (wdX1 G v_q0 v_q1 v_q2 v_length v_phase v_part v_negative 4 v_middle v_codesA v_partsA) H := hP
    have hD : va_D A (wdX1 G v_q0 v_q1 v_q2 v_length v_phase v_part v_negative 4 v_middle v_codesA v_partsA) := hD
    refine lv_goto (tgt := 94) hx hb dX1_takeLetter_89 (by decide) ?_
    refine lv_aload_n hx hb dX1_takeLetter_94 rfl (lv_at hl 0 rfl) ?_
    refine lv_iconst (v := 3) hx hb dX1_takeLetter_95 (by decide) ?_
    refine va_put (D := G.1) (ci := 1) (v := .int 3) (ty := .int) (C := RX1) (T := TX1) (N := 8) hx hb hts fw_X1_takeLetter_X1 tyX1 tyX1_ok nmX1 hown hK.1 hP hD hS 0 rfl rfl 3 (by decide) (hts (.fieldLink RX1 30 "HalftoneScreens$Input" "phase" "I") lk_X1_takeLetter_f30) (fun _ h9 => h9) rfl (tyX1_ok 3 (by decide)) rfl rfl (Nat.le_of_ble_eq_true rfl) dX1_takeLetter_96 (fun H locs hP hD hS => ?_)
    have hP : va_P G.1 vwCl (wdX1 G v_q0 v_q1 v_q2 v_length 3 v_part v_negative 4 v_middle v_codesA v_partsA) H := hP
    have hD : va_D A (wdX1 G v_q0 v_q1 v_q2 v_length 3 v_part v_negative 4 v_middle v_codesA v_partsA) := hD
    refine lv_iconst (v := 1) hx hb dX1_takeLetter_99 (by decide) ?_
    obtain ⟨rfl, rfl, rfl⟩ := sm3 h
    exact hret _ _ _ _ _ rfl isZ1 (isZ.nar isZ1) hP hD hS dX1_takeLetter_100
  replace h := ite_f c1 h
  by_cases c2 : a0 = 100
  · replace h := ite_t c2 h
    refine lv_lookup (off := 59) (tgt := 60) hx hb dX1_takeLetter_1 (by decide) (by rw [c2]; decide) (by decide) ?_
    refine lv_aload_n hx hb dX1_takeLetter_60 rfl (lv_at hl 0 rfl) ?_
    refine lv_iconst (v := 1) hx hb dX1_takeLetter_61 (by decide) ?_
    refine va_put (D := G.1) (ci := 1) (v := .int 1) (ty := .int) (C := RX1) (T := TX1) (N := 8) hx hb hts fw_X1_takeLetter_X1 tyX1 tyX1_ok nmX1 hown hK.1 hP hD hS 0 rfl rfl 6 (by decide) (hts (.fieldLink RX1 40 "HalftoneScreens$Input" "spot" "I") lk_X1_takeLetter_f40) (fun _ h9 => h9) rfl (tyX1_ok 6 (by decide)) rfl rfl (Nat.le_of_ble_eq_true rfl) dX1_takeLetter_62 (fun H locs hP hD hS => ?_)
    have hP : va_P G.1 vwCl (wdX1 G v_q0 v_q1 v_q2 v_length v_phase v_part v_negative 1 v_middle v_codesA v_partsA) H := hP
    have hD : va_D A (wdX1 G v_q0 v_q1 v_q2 v_length v_phase v_part v_negative 1 v_middle v_codesA v_partsA) := hD
    refine lv_goto (tgt := 94) hx hb dX1_takeLetter_65 (by decide) ?_
    refine lv_aload_n hx hb dX1_takeLetter_94 rfl (lv_at hl 0 rfl) ?_
    refine lv_iconst (v := 3) hx hb dX1_takeLetter_95 (by decide) ?_
    refine va_put (D := G.1) (ci := 1) (v := .int 3) (ty := .int) (C := RX1) (T := TX1) (N := 8) hx hb hts fw_X1_takeLetter_X1 tyX1 tyX1_ok nmX1 hown hK.1 hP hD hS 0 rfl rfl 3 (by decide) (hts (.fieldLink RX1 30 "HalftoneScreens$Input" "phase" "I") lk_X1_takeLetter_f30) (fun _ h9 => h9) rfl (tyX1_ok 3 (by decide)) rfl rfl (Nat.le_of_ble_eq_true rfl) dX1_takeLetter_96 (fun H locs hP hD hS => ?_)
    have hP : va_P G.1 vwCl (wdX1 G v_q0 v_q1 v_q2 v_length 3 v_part v_negative 1 v_middle v_codesA v_partsA) H := hP
    have hD : va_D A (wdX1 G v_q0 v_q1 v_q2 v_length 3 v_part v_negative 1 v_middle v_codesA v_partsA) := hD
    refine lv_iconst (v := 1) hx hb dX1_takeLetter_99 (by decide) ?_
    obtain ⟨rfl, rfl, rfl⟩ := sm3 h
    exact hret _ _ _ _ _ rfl isZ1 (isZ.nar isZ1) hP hD hS dX1_takeLetter_100
  replace h := ite_f c2 h
  by_cases c3 : a0 = 108
  · replace h := ite_t c3 h
    refine lv_lookup (off := 75) (tgt := 76) hx hb dX1_takeLetter_1 (by decide) (by rw [c3]; decide) (by decide) ?_
    refine lv_aload_n hx hb dX1_takeLetter_76 rfl (lv_at hl 0 rfl) ?_
    refine lv_iconst (v := 3) hx hb dX1_takeLetter_77 (by decide) ?_
    refine va_put (D := G.1) (ci := 1) (v := .int 3) (ty := .int) (C := RX1) (T := TX1) (N := 8) hx hb hts fw_X1_takeLetter_X1 tyX1 tyX1_ok nmX1 hown hK.1 hP hD hS 0 rfl rfl 6 (by decide) (hts (.fieldLink RX1 40 "HalftoneScreens$Input" "spot" "I") lk_X1_takeLetter_f40) (fun _ h9 => h9) rfl (tyX1_ok 6 (by decide)) rfl rfl (Nat.le_of_ble_eq_true rfl) dX1_takeLetter_78 (fun H locs hP hD hS => ?_)
    have hP : va_P G.1 vwCl (wdX1 G v_q0 v_q1 v_q2 v_length v_phase v_part v_negative 3 v_middle v_codesA v_partsA) H := hP
    have hD : va_D A (wdX1 G v_q0 v_q1 v_q2 v_length v_phase v_part v_negative 3 v_middle v_codesA v_partsA) := hD
    refine lv_goto (tgt := 94) hx hb dX1_takeLetter_81 (by decide) ?_
    refine lv_aload_n hx hb dX1_takeLetter_94 rfl (lv_at hl 0 rfl) ?_
    refine lv_iconst (v := 3) hx hb dX1_takeLetter_95 (by decide) ?_
    refine va_put (D := G.1) (ci := 1) (v := .int 3) (ty := .int) (C := RX1) (T := TX1) (N := 8) hx hb hts fw_X1_takeLetter_X1 tyX1 tyX1_ok nmX1 hown hK.1 hP hD hS 0 rfl rfl 3 (by decide) (hts (.fieldLink RX1 30 "HalftoneScreens$Input" "phase" "I") lk_X1_takeLetter_f30) (fun _ h9 => h9) rfl (tyX1_ok 3 (by decide)) rfl rfl (Nat.le_of_ble_eq_true rfl) dX1_takeLetter_96 (fun H locs hP hD hS => ?_)
    have hP : va_P G.1 vwCl (wdX1 G v_q0 v_q1 v_q2 v_length 3 v_part v_negative 3 v_middle v_codesA v_partsA) H := hP
    have hD : va_D A (wdX1 G v_q0 v_q1 v_q2 v_length 3 v_part v_negative 3 v_middle v_codesA v_partsA) := hD
    refine lv_iconst (v := 1) hx hb dX1_takeLetter_99 (by decide) ?_
    obtain ⟨rfl, rfl, rfl⟩ := sm3 h
    exact hret _ _ _ _ _ rfl isZ1 (isZ.nar isZ1) hP hD hS dX1_takeLetter_100
  replace h := ite_f c3 h
  by_cases c4 : a0 = 114
  · replace h := ite_t c4 h
    refine lv_lookup (off := 51) (tgt := 52) hx hb dX1_takeLetter_1 (by decide) (by rw [c4]; decide) (by decide) ?_
    refine lv_aload_n hx hb dX1_takeLetter_52 rfl (lv_at hl 0 rfl) ?_
    refine lv_iconst (v := 0) hx hb dX1_takeLetter_53 (by decide) ?_
    refine va_put (D := G.1) (ci := 1) (v := .int 0) (ty := .int) (C := RX1) (T := TX1) (N := 8) hx hb hts fw_X1_takeLetter_X1 tyX1 tyX1_ok nmX1 hown hK.1 hP hD hS 0 rfl rfl 6 (by decide) (hts (.fieldLink RX1 40 "HalftoneScreens$Input" "spot" "I") lk_X1_takeLetter_f40) (fun _ h9 => h9) rfl (tyX1_ok 6 (by decide)) rfl rfl (Nat.le_of_ble_eq_true rfl) dX1_takeLetter_54 (fun H locs hP hD hS => ?_)
    have hP : va_P G.1 vwCl (wdX1 G v_q0 v_q1 v_q2 v_length v_phase v_part v_negative 0 v_middle v_codesA v_partsA) H := hP
    have hD : va_D A (wdX1 G v_q0 v_q1 v_q2 v_length v_phase v_part v_negative 0 v_middle v_codesA v_partsA) := hD
    refine lv_goto (tgt := 94) hx hb dX1_takeLetter_57 (by decide) ?_
    refine lv_aload_n hx hb dX1_takeLetter_94 rfl (lv_at hl 0 rfl) ?_
    refine lv_iconst (v := 3) hx hb dX1_takeLetter_95 (by decide) ?_
    refine va_put (D := G.1) (ci := 1) (v := .int 3) (ty := .int) (C := RX1) (T := TX1) (N := 8) hx hb hts fw_X1_takeLetter_X1 tyX1 tyX1_ok nmX1 hown hK.1 hP hD hS 0 rfl rfl 3 (by decide) (hts (.fieldLink RX1 30 "HalftoneScreens$Input" "phase" "I") lk_X1_takeLetter_f30) (fun _ h9 => h9) rfl (tyX1_ok 3 (by decide)) rfl rfl (Nat.le_of_ble_eq_true rfl) dX1_takeLetter_96 (fun H locs hP hD hS => ?_)
    have hP : va_P G.1 vwCl (wdX1 G v_q0 v_q1 v_q2 v_length 3 v_part v_negative 0 v_middle v_codesA v_partsA) H := hP
    have hD : va_D A (wdX1 G v_q0 v_q1 v_q2 v_length 3 v_part v_negative 0 v_middle v_codesA v_partsA) := hD
    refine lv_iconst (v := 1) hx hb dX1_takeLetter_99 (by decide) ?_
    obtain ⟨rfl, rfl, rfl⟩ := sm3 h
    exact hret _ _ _ _ _ rfl isZ1 (isZ.nar isZ1) hP hD hS dX1_takeLetter_100
  replace h := ite_f c4 h
  by_cases c5 : a0 = 115
  · replace h := ite_t c5 h
    refine lv_lookup (off := 67) (tgt := 68) hx hb dX1_takeLetter_1 (by decide) (by rw [c5]; decide) (by decide) ?_
    refine lv_aload_n hx hb dX1_takeLetter_68 rfl (lv_at hl 0 rfl) ?_
    refine lv_iconst (v := 2) hx hb dX1_takeLetter_69 (by decide) ?_
    refine va_put (D := G.1) (ci := 1) (v := .int 2) (ty := .int) (C := RX1) (T := TX1) (N := 8) hx hb hts fw_X1_takeLetter_X1 tyX1 tyX1_ok nmX1 hown hK.1 hP hD hS 0 rfl rfl 6 (by decide) (hts (.fieldLink RX1 40 "HalftoneScreens$Input" "spot" "I") lk_X1_takeLetter_f40) (fun _ h9 => h9) rfl (tyX1_ok 6 (by decide)) rfl rfl (Nat.le_of_ble_eq_true rfl) dX1_takeLetter_70 (fun H locs hP hD hS => ?_)
    have hP : va_P G.1 vwCl (wdX1 G v_q0 v_q1 v_q2 v_length v_phase v_part v_negative 2 v_middle v_codesA v_partsA) H := hP
    have hD : va_D A (wdX1 G v_q0 v_q1 v_q2 v_length v_phase v_part v_negative 2 v_middle v_codesA v_partsA) := hD
    refine lv_goto (tgt := 94) hx hb dX1_takeLetter_73 (by decide) ?_
    refine lv_aload_n hx hb dX1_takeLetter_94 rfl (lv_at hl 0 rfl) ?_
    refine lv_iconst (v := 3) hx hb dX1_takeLetter_95 (by decide) ?_
    refine va_put (D := G.1) (ci := 1) (v := .int 3) (ty := .int) (C := RX1) (T := TX1) (N := 8) hx hb hts fw_X1_takeLetter_X1 tyX1 tyX1_ok nmX1 hown hK.1 hP hD hS 0 rfl rfl 3 (by decide) (hts (.fieldLink RX1 30 "HalftoneScreens$Input" "phase" "I") lk_X1_takeLetter_f30) (fun _ h9 => h9) rfl (tyX1_ok 3 (by decide)) rfl rfl (Nat.le_of_ble_eq_true rfl) dX1_takeLetter_96 (fun H locs hP hD hS => ?_)
    have hP : va_P G.1 vwCl (wdX1 G v_q0 v_q1 v_q2 v_length 3 v_part v_negative 2 v_middle v_codesA v_partsA) H := hP
    have hD : va_D A (wdX1 G v_q0 v_q1 v_q2 v_length 3 v_part v_negative 2 v_middle v_codesA v_partsA) := hD
    refine lv_iconst (v := 1) hx hb dX1_takeLetter_99 (by decide) ?_
    obtain ⟨rfl, rfl, rfl⟩ := sm3 h
    exact hret _ _ _ _ _ rfl isZ1 (isZ.nar isZ1) hP hD hS dX1_takeLetter_100
  replace h := ite_f c5 h
  refine lv_lookup (off := 91) (tgt := 92) hx hb dX1_takeLetter_1 (by decide) ((lv_osw (a := 98) c1 (by decide)).trans ((lv_osw (a := 100) c2 (by decide)).trans ((lv_osw (a := 108) c3 (by decide)).trans ((lv_osw (a := 114) c4 (by decide)).trans ((lv_osw (a := 115) c5 (by decide)).trans rfl))))) (by decide) ?_
  refine lv_iconst (v := 0) hx hb dX1_takeLetter_92 (by decide) ?_
  obtain ⟨rfl, rfl, rfl⟩ := sm3 h
  exact hret _ _ _ _ _ rfl isZ0 (isZ.nar isZ0) hP hD hS dX1_takeLetter_93
theorem fw_X1_takeStar_X1 : ∀ w ∈ wsX10, w ∈ wsX1_takeStar := fun w h => List.mem_cons_of_mem _ (List.mem_append_right _ h)
theorem lk_X1_takeStar_f43 : Cond.fieldLink RX1 43 "HalftoneScreens$Input" "middle" "Z" ∈ wsX1_takeStar := List.mem_of_getElem? (i := 1) rfl
theorem lk_X1_takeStar_f30 : Cond.fieldLink RX1 30 "HalftoneScreens$Input" "phase" "I" ∈ wsX1_takeStar := List.mem_of_getElem? (i := 2) rfl
abbrev rmX1_takeStar : Room := { frames := 0, cells := 0, slots := 0, locals := 0 }
set_option maxHeartbeats 4000000 in
set_option maxRecDepth 100000 in
theorem ctX1_takeStar (l : Launch) (G : GG) (v_q0 : Nat) (v_q1 : Nat) (v_q2 : Nat) (v_length : Int32) (v_phase : Int32) (v_part : Int32) (v_negative : Int32) (v_spot : Int32) (v_middle : Int32) (v_codesA : (Nat → Int32)) (v_partsA : (Nat → Int32)) (a0 : Int32) (o0 : Int32) (o1 : Int32) (o2 : Int32) (h : mX1_takeStar v_phase v_middle a0 = some (o0, o1, o2))  : Met l yX1_takeStar wsX1_takeStar rmX1_takeStar (va_Pc [.ref v_q0, .int a0] (PreD G (wdX1 G v_q0 v_q1 v_q2 v_length v_phase v_part v_negative v_spot v_middle v_codesA v_partsA) (fun _ => True))) (QwA G (va_A0 (wdX1 G v_q0 v_q1 v_q2 v_length v_phase v_part v_negative v_spot v_middle v_codesA v_partsA)) (wdX1 G v_q0 v_q1 v_q2 v_length o1 v_part v_negative v_spot o2 v_codesA v_partsA) (some (.int o0)) (isZ o0)) 0 0 (va_A0 (wdX1 G v_q0 v_q1 v_q2 v_length v_phase v_part v_negative v_spot v_middle v_codesA v_partsA)) := by
  refine of_wi (cc := cX1_takeStar) (maxL := 2) (ty := .boolean) (plainFor_of_name (by decide)) rfl (Nat.le_of_ble_eq_true rfl) ?_
  intro p e s m args below meth c ls Q A S hl hP hD hS hK hX hA hret
  obtain ⟨H, hH⟩ : ∃ H, H = s.heap := ⟨_, rfl⟩
  obtain ⟨locs, hlocs⟩ : ∃ L : List Loc, L = [] := ⟨_, rfl⟩
  rw [← hlocs]
  rw [← hlocs] at hS
  have hP : va_P G.1 vwCl (wdX1 G v_q0 v_q1 v_q2 v_length v_phase v_part v_negative v_spot v_middle v_codesA v_partsA) H := by rw [hH]; exact hP
  have hS : va_S A s.heap H locs := by rw [hH]; exact hS
  suffices hgo : W p l e rmX1_takeStar s m args below meth c H locs 0 0 Q (F0 m 0 ls []) by rw [hH] at hgo; exact hgo
  have S : CallFix p m c cX1_takeStar 2 s args wsX1_takeStar RX1 := S
  obtain ⟨hx, hb, hml, hown, hts⟩ := id S
  have hl : lv_has ls 2 [(0, .ref v_q0), (1, .int a0)] := hl
  unfold mX1_takeStar at h
  refine lv_iload_n hx hb dX1_takeStar_0 rfl (lv_at hl 1 rfl) ?_
  refine lv_bipush (v := 42) hx hb dX1_takeStar_1 (by decide) ?_
  refine lv_icmp_eq (tgt := 8) hx hb dX1_takeStar_3 (by decide) (fun c1 => ?_) (fun c1 => ?_)
  · replace h := ite_t c1 h
    refine lv_aload_n hx hb dX1_takeStar_8 rfl (lv_at hl 0 rfl) ?_
    refine lv_iconst (v := 1) hx hb dX1_takeStar_9 (by decide) ?_
    refine va_put (D := G.1) (ci := 1) (v := .int 1) (ty := .boolean) (C := RX1) (T := TX1) (N := 8) hx hb hts fw_X1_takeStar_X1 tyX1 tyX1_ok nmX1 hown hK.1 hP hD hS 0 rfl rfl 7 (by decide) (hts (.fieldLink RX1 43 "HalftoneScreens$Input" "middle" "Z") lk_X1_takeStar_f43) (fun _ h9 => h9) rfl (tyX1_ok 7 (by decide)) (isZ.nar isZ1) (isZ.fit isZ1) (Nat.le_of_ble_eq_true rfl) dX1_takeStar_10 (fun H locs hP hD hS => ?_)
    have hP : va_P G.1 vwCl (wdX1 G v_q0 v_q1 v_q2 v_length v_phase v_part v_negative v_spot 1 v_codesA v_partsA) H := hP
    have hD : va_D A (wdX1 G v_q0 v_q1 v_q2 v_length v_phase v_part v_negative v_spot 1 v_codesA v_partsA) := hD
    refine lv_aload_n hx hb dX1_takeStar_13 rfl (lv_at hl 0 rfl) ?_
    refine lv_iconst (v := 4) hx hb dX1_takeStar_14 (by decide) ?_
    refine va_put (D := G.1) (ci := 1) (v := .int 4) (ty := .int) (C := RX1) (T := TX1) (N := 8) hx hb hts fw_X1_takeStar_X1 tyX1 tyX1_ok nmX1 hown hK.1 hP hD hS 0 rfl rfl 3 (by decide) (hts (.fieldLink RX1 30 "HalftoneScreens$Input" "phase" "I") lk_X1_takeStar_f30) (fun _ h9 => h9) rfl (tyX1_ok 3 (by decide)) rfl rfl (Nat.le_of_ble_eq_true rfl) dX1_takeStar_15 (fun H locs hP hD hS => ?_)
    have hP : va_P G.1 vwCl (wdX1 G v_q0 v_q1 v_q2 v_length 4 v_part v_negative v_spot 1 v_codesA v_partsA) H := hP
    have hD : va_D A (wdX1 G v_q0 v_q1 v_q2 v_length 4 v_part v_negative v_spot 1 v_codesA v_partsA) := hD
    refine lv_iconst (v := 1) hx hb dX1_takeStar_18 (by decide) ?_
    obtain ⟨rfl, rfl, rfl⟩ := sm3 h
    exact hret _ _ _ _ _ rfl isZ1 (isZ.nar isZ1) hP hD hS dX1_takeStar_19
  · replace h := ite_f c1 h
    refine lv_iconst (v := 0) hx hb dX1_takeStar_6 (by decide) ?_
    obtain ⟨rfl, rfl, rfl⟩ := sm3 h
    exact hret _ _ _ _ _ rfl isZ0 (isZ.nar isZ0) hP hD hS dX1_takeStar_7
theorem fw_X1_take_X1 : ∀ w ∈ wsX10, w ∈ wsX1_take := fun w h => List.mem_cons_of_mem _ (List.mem_append_right _ h)
theorem lk_X1_take_f30 : Cond.fieldLink RX1 30 "HalftoneScreens$Input" "phase" "I" ∈ wsX1_take := List.mem_of_getElem? (i := 1) rfl
theorem lk_X1_take_f33 : Cond.fieldLink RX1 33 "HalftoneScreens$Input" "part" "I" ∈ wsX1_take := List.mem_of_getElem? (i := 2) rfl
theorem hsX1_takeDigit : yX1_takeDigit.cls ≠ "java/lang/invoke/MethodHandle" ∧ yX1_takeDigit.cls ≠ "java/lang/invoke/VarHandle" ∧ (parseMethodDescriptor yX1_takeDigit.desc).map (fun d => d.parameters.length) = some 1 := by decide +kernel
theorem hvX1_takeDigit : yX1_takeDigit.cls = RX1 ∧ yX1_takeDigit.cls ≠ "java/lang/invoke/MethodHandle" ∧ yX1_takeDigit.cls ≠ "java/lang/invoke/VarHandle" ∧ (parseMethodDescriptor yX1_takeDigit.desc).map (fun d => d.parameters.length) = some 1 := ⟨rfl, hsX1_takeDigit⟩
theorem hsX1_takeLetter : yX1_takeLetter.cls ≠ "java/lang/invoke/MethodHandle" ∧ yX1_takeLetter.cls ≠ "java/lang/invoke/VarHandle" ∧ (parseMethodDescriptor yX1_takeLetter.desc).map (fun d => d.parameters.length) = some 1 := by decide +kernel
theorem hvX1_takeLetter : yX1_takeLetter.cls = RX1 ∧ yX1_takeLetter.cls ≠ "java/lang/invoke/MethodHandle" ∧ yX1_takeLetter.cls ≠ "java/lang/invoke/VarHandle" ∧ (parseMethodDescriptor yX1_takeLetter.desc).map (fun d => d.parameters.length) = some 1 := ⟨rfl, hsX1_takeLetter⟩
theorem hsX1_takeMinus : yX1_takeMinus.cls ≠ "java/lang/invoke/MethodHandle" ∧ yX1_takeMinus.cls ≠ "java/lang/invoke/VarHandle" ∧ (parseMethodDescriptor yX1_takeMinus.desc).map (fun d => d.parameters.length) = some 1 := by decide +kernel
theorem hvX1_takeMinus : yX1_takeMinus.cls = RX1 ∧ yX1_takeMinus.cls ≠ "java/lang/invoke/MethodHandle" ∧ yX1_takeMinus.cls ≠ "java/lang/invoke/VarHandle" ∧ (parseMethodDescriptor yX1_takeMinus.desc).map (fun d => d.parameters.length) = some 1 := ⟨rfl, hsX1_takeMinus⟩
theorem hsX1_takeSeparator : yX1_takeSeparator.cls ≠ "java/lang/invoke/MethodHandle" ∧ yX1_takeSeparator.cls ≠ "java/lang/invoke/VarHandle" ∧ (parseMethodDescriptor yX1_takeSeparator.desc).map (fun d => d.parameters.length) = some 1 := by decide +kernel
theorem hvX1_takeSeparator : yX1_takeSeparator.cls = RX1 ∧ yX1_takeSeparator.cls ≠ "java/lang/invoke/MethodHandle" ∧ yX1_takeSeparator.cls ≠ "java/lang/invoke/VarHandle" ∧ (parseMethodDescriptor yX1_takeSeparator.desc).map (fun d => d.parameters.length) = some 1 := ⟨rfl, hsX1_takeSeparator⟩
theorem hsX1_takeStar : yX1_takeStar.cls ≠ "java/lang/invoke/MethodHandle" ∧ yX1_takeStar.cls ≠ "java/lang/invoke/VarHandle" ∧ (parseMethodDescriptor yX1_takeStar.desc).map (fun d => d.parameters.length) = some 1 := by decide +kernel
theorem hvX1_takeStar : yX1_takeStar.cls = RX1 ∧ yX1_takeStar.cls ≠ "java/lang/invoke/MethodHandle" ∧ yX1_takeStar.cls ≠ "java/lang/invoke/VarHandle" ∧ (parseMethodDescriptor yX1_takeStar.desc).map (fun d => d.parameters.length) = some 1 := ⟨rfl, hsX1_takeStar⟩
abbrev rmX1_take : Room := { frames := 2, cells := 0, slots := 0, locals := 43 }
set_option maxHeartbeats 4000000 in
set_option maxRecDepth 100000 in
theorem ctX1_take (l : Launch) (G : GG) (v_q0 : Nat) (v_q1 : Nat) (v_q2 : Nat) (v_length : Int32) (v_phase : Int32) (v_part : Int32) (v_negative : Int32) (v_spot : Int32) (v_middle : Int32) (v_codesA : (Nat → Int32)) (v_partsA : (Nat → Int32)) (a0 : Int32) (o0 : Int32) (o1 : Int32) (o2 : Int32) (o3 : Int32) (o4 : Int32) (o5 : Int32) (o6 : (Nat → Int32)) (h : mX1_take v_phase v_part v_negative v_spot v_middle v_partsA a0 = some (o0, o1, o2, o3, o4, o5, o6))  : Met l yX1_take wsX1_take rmX1_take (va_Pc [.ref v_q0, .int a0] (PreD G (wdX1 G v_q0 v_q1 v_q2 v_length v_phase v_part v_negative v_spot v_middle v_codesA v_partsA) (fun _ => True))) (QwA G (va_A0 (wdX1 G v_q0 v_q1 v_q2 v_length v_phase v_part v_negative v_spot v_middle v_codesA v_partsA)) (wdX1 G v_q0 v_q1 v_q2 v_length o1 o2 o3 o4 o5 v_codesA o6) (some (.int o0)) (isZ o0)) 0 0 (va_A0 (wdX1 G v_q0 v_q1 v_q2 v_length v_phase v_part v_negative v_spot v_middle v_codesA v_partsA)) := by
  refine of_wi (cc := cX1_take) (maxL := 2) (ty := .boolean) (plainFor_of_name (by decide)) rfl (Nat.le_of_ble_eq_true rfl) ?_
  intro p e s m args below meth c ls Q A S hl hP hD hS hK hX hA hret
  obtain ⟨H, hH⟩ : ∃ H, H = s.heap := ⟨_, rfl⟩
  obtain ⟨locs, hlocs⟩ : ∃ L : List Loc, L = [] := ⟨_, rfl⟩
  rw [← hlocs]
  rw [← hlocs] at hS
  have hP : va_P G.1 vwCl (wdX1 G v_q0 v_q1 v_q2 v_length v_phase v_part v_negative v_spot v_middle v_codesA v_partsA) H := by rw [hH]; exact hP
  have hS : va_S A s.heap H locs := by rw [hH]; exact hS
  suffices hgo : W p l e rmX1_take s m args below meth c H locs 0 0 Q (F0 m 0 ls []) by rw [hH] at hgo; exact hgo
  have S : CallFix p m c cX1_take 2 s args wsX1_take RX1 := S
  obtain ⟨hx, hb, hml, hown, hts⟩ := id S
  have hl : lv_has ls 2 [(0, .ref v_q0), (1, .int a0)] := hl
  unfold mX1_take at h
  refine lv_aload_n hx hb dX1_take_0 rfl (lv_at hl 0 rfl) ?_
  refine va_get (D := G.1) (ci := 1) (v := .int v_phase) (C := RX1) (T := TX1) (N := 8) hx hb hts fw_X1_take_X1 hown hK.1 hP 0 rfl rfl 3 (by decide) (hts (.fieldLink RX1 30 "HalftoneScreens$Input" "phase" "I") lk_X1_take_f30) (fun _ h9 => h9) rfl dX1_take_1 ?_
  by_cases c1 : v_phase = 0
  · replace h := ite_t c1 h
    refine lv_tableIn (off := 32) (tgt := 36) hx hb dX1_take_4 (by rw [c1]; decide) (by rw [c1]; decide) (by rw [c1]; decide) (by decide) ?_
    refine lv_aload_n hx hb dX1_take_36 rfl (lv_at hl 0 rfl) ?_
    refine lv_iload_n hx hb dX1_take_37 rfl (lv_at hl 1 rfl) ?_
    obtain ⟨r2_0, r2_1, r2_2, g2, h⟩ := bnd3_e h
    refine rwV_same (rest := []) (As := [.int a0]) S (ctX1_takeMinus l G v_q0 v_q1 v_q2 v_length v_phase v_part v_negative v_spot v_middle v_codesA v_partsA a0 r2_0 r2_1 r2_2 g2) (cwV 1 hts gX1_take_X1_takeMinus rfl rfl rfl hvX1_takeMinus ⟨Nat.le_of_ble_eq_true rfl, Nat.le_of_ble_eq_true rfl⟩) hK hP hD hS xb_triv (fun _ _ _ => trivial) 0 1 rfl rfl rfl rfl hl.1 rfl (Nat.le_of_ble_eq_true rfl) dX1_take_38 ⟨Nat.le_refl _, Nat.le_refl _⟩ (fun hz2 H locs hP hD hS => ?_)
    have hP : va_P G.1 vwCl (wdX1 G v_q0 v_q1 v_q2 v_length r2_1 v_part r2_2 v_spot v_middle v_codesA v_partsA) H := hP
    have hD : va_D A (wdX1 G v_q0 v_q1 v_q2 v_length r2_1 v_part r2_2 v_spot v_middle v_codesA v_partsA) := hD
    refine lv_if_ne (tgt := 52) hx hb dX1_take_41 (by decide) (fun c3 => ?_) (fun c3 => ?_)
    · replace h := ite_f c3 h
      refine lv_iconst (v := 1) hx hb dX1_take_52 (by decide) ?_
      refine lv_goto (tgt := 57) hx hb dX1_take_53 (by decide) ?_
      obtain ⟨rfl, rfl, rfl, rfl, rfl, rfl, rfl⟩ := sm7 h
      exact hret _ _ _ _ _ rfl isZ1 (isZ.nar isZ1) hP hD hS dX1_take_57
    · replace h := ite_t c3 h
      refine lv_aload_n hx hb dX1_take_44 rfl (lv_at hl 0 rfl) ?_
      refine lv_iload_n hx hb dX1_take_45 rfl (lv_at hl 1 rfl) ?_
      obtain ⟨r4_0, r4_1, r4_2, g4, h⟩ := bnd3_e h
      refine rwV_same (rest := []) (As := [.int a0]) S (ctX1_takeDigit l G v_q0 v_q1 v_q2 v_length r2_1 v_part r2_2 v_spot v_middle v_codesA v_partsA a0 r4_0 r4_1 r4_2 g4) (cwV 1 hts gX1_take_X1_takeDigit rfl rfl rfl hvX1_takeDigit ⟨Nat.le_of_ble_eq_true rfl, Nat.le_of_ble_eq_true rfl⟩) hK hP hD hS xb_triv (fun _ _ _ => trivial) 0 1 rfl rfl rfl rfl hl.1 rfl (Nat.le_of_ble_eq_true rfl) dX1_take_46 ⟨Nat.le_refl _, Nat.le_refl _⟩ (fun hz4 H locs hP hD hS => ?_)
      have hP : va_P G.1 vwCl (wdX1 G v_q0 v_q1 v_q2 v_length r4_1 v_part r2_2 v_spot v_middle v_codesA r4_2) H := hP
      have hD : va_D A (wdX1 G v_q0 v_q1 v_q2 v_length r4_1 v_part r2_2 v_spot v_middle v_codesA r4_2) := hD
      refine lv_if_eq (tgt := 56) hx hb dX1_take_49 (by decide) (fun c5 => ?_) (fun c5 => ?_)
      · replace h := ite_t c5 h
        refine lv_iconst (v := 0) hx hb dX1_take_56 (by decide) ?_
        obtain ⟨rfl, rfl, rfl, rfl, rfl, rfl, rfl⟩ := sm7 h
        exact hret _ _ _ _ _ rfl isZ0 (isZ.nar isZ0) hP hD hS dX1_take_57
      · replace h := ite_f c5 h
        refine lv_iconst (v := 1) hx hb dX1_take_52 (by decide) ?_
        refine lv_goto (tgt := 57) hx hb dX1_take_53 (by decide) ?_
        obtain ⟨rfl, rfl, rfl, rfl, rfl, rfl, rfl⟩ := sm7 h
        exact hret _ _ _ _ _ rfl isZ1 (isZ.nar isZ1) hP hD hS dX1_take_57
  replace h := ite_f c1 h
  by_cases c6 : v_phase = 1
  · replace h := ite_t c6 h
    refine lv_tableIn (off := 54) (tgt := 58) hx hb dX1_take_4 (by rw [c6]; decide) (by rw [c6]; decide) (by rw [c6]; decide) (by decide) ?_
    refine lv_aload_n hx hb dX1_take_58 rfl (lv_at hl 0 rfl) ?_
    refine lv_iload_n hx hb dX1_take_59 rfl (lv_at hl 1 rfl) ?_
    obtain ⟨r7_0, r7_1, r7_2, g7, h⟩ := bnd3_e h
    refine rwV_same (rest := []) (As := [.int a0]) S (ctX1_takeDigit l G v_q0 v_q1 v_q2 v_length v_phase v_part v_negative v_spot v_middle v_codesA v_partsA a0 r7_0 r7_1 r7_2 g7) (cwV 1 hts gX1_take_X1_takeDigit rfl rfl rfl hvX1_takeDigit ⟨Nat.le_of_ble_eq_true rfl, Nat.le_of_ble_eq_true rfl⟩) hK hP hD hS xb_triv (fun _ _ _ => trivial) 0 1 rfl rfl rfl rfl hl.1 rfl (Nat.le_of_ble_eq_true rfl) dX1_take_60 ⟨Nat.le_refl _, Nat.le_refl _⟩ (fun hz7 H locs hP hD hS => ?_)
    have hP : va_P G.1 vwCl (wdX1 G v_q0 v_q1 v_q2 v_length r7_1 v_part v_negative v_spot v_middle v_codesA r7_2) H := hP
    have hD : va_D A (wdX1 G v_q0 v_q1 v_q2 v_length r7_1 v_part v_negative v_spot v_middle v_codesA r7_2) := hD
    obtain ⟨rfl, rfl, rfl, rfl, rfl, rfl, rfl⟩ := sm7 h
    exact hret _ _ _ _ _ rfl hz7 (isZ.nar hz7) hP hD hS dX1_take_63
  replace h := ite_f c6 h
  by_cases c8 : v_phase = 2
  · replace h := ite_t c8 h
    refine lv_tableIn (off := 60) (tgt := 64) hx hb dX1_take_4 (by rw [c8]; decide) (by rw [c8]; decide) (by rw [c8]; decide) (by decide) ?_
    refine lv_aload_n hx hb dX1_take_64 rfl (lv_at hl 0 rfl) ?_
    refine va_get (D := G.1) (ci := 1) (v := .int v_part) (C := RX1) (T := TX1) (N := 8) hx hb hts fw_X1_take_X1 hown hK.1 hP 0 rfl rfl 4 (by decide) (hts (.fieldLink RX1 33 "HalftoneScreens$Input" "part" "I") lk_X1_take_f33) (fun _ h9 => h9) rfl dX1_take_65 ?_
    refine lv_iconst (v := 3) hx hb dX1_take_68 (by decide) ?_
    refine lv_icmp_ge (tgt := 80) hx hb dX1_take_69 (by decide) (fun c9 => ?_) (fun c9 => ?_)
    · replace h := ite_t c9 h
      refine lv_aload_n hx hb dX1_take_80 rfl (lv_at hl 0 rfl) ?_
      refine lv_iload_n hx hb dX1_take_81 rfl (lv_at hl 1 rfl) ?_
      obtain ⟨r10_0, r10_1, r10_2, g10, h⟩ := bnd3_e h
      refine rwV_same (rest := []) (As := [.int a0]) S (ctX1_takeLetter l G v_q0 v_q1 v_q2 v_length v_phase v_part v_negative v_spot v_middle v_codesA v_partsA a0 r10_0 r10_1 r10_2 g10) (cwV 1 hts gX1_take_X1_takeLetter rfl rfl rfl hvX1_takeLetter ⟨Nat.le_of_ble_eq_true rfl, Nat.le_of_ble_eq_true rfl⟩) hK hP hD hS xb_triv (fun _ _ _ => trivial) 0 1 rfl rfl rfl rfl hl.1 rfl (Nat.le_of_ble_eq_true rfl) dX1_take_82 ⟨Nat.le_refl _, Nat.le_refl _⟩ (fun hz10 H locs hP hD hS => ?_)
      have hP : va_P G.1 vwCl (wdX1 G v_q0 v_q1 v_q2 v_length r10_1 v_part v_negative r10_2 v_middle v_codesA v_partsA) H := hP
      have hD : va_D A (wdX1 G v_q0 v_q1 v_q2 v_length r10_1 v_part v_negative r10_2 v_middle v_codesA v_partsA) := hD
      obtain ⟨rfl, rfl, rfl, rfl, rfl, rfl, rfl⟩ := sm7 h
      exact hret _ _ _ _ _ rfl hz10 (isZ.nar hz10) hP hD hS dX1_take_85
    · replace h := ite_f c9 h
      refine lv_aload_n hx hb dX1_take_72 rfl (lv_at hl 0 rfl) ?_
      refine lv_iload_n hx hb dX1_take_73 rfl (lv_at hl 1 rfl) ?_
      obtain ⟨r11_0, r11_1, r11_2, r11_3, g11, h⟩ := bnd4_e h
      refine rwV_same (rest := []) (As := [.int a0]) S (ctX1_takeSeparator l G v_q0 v_q1 v_q2 v_length v_phase v_part v_negative v_spot v_middle v_codesA v_partsA a0 r11_0 r11_1 r11_2 r11_3 g11) (cwV 1 hts gX1_take_X1_takeSeparator rfl rfl rfl hvX1_takeSeparator ⟨Nat.le_of_ble_eq_true rfl, Nat.le_of_ble_eq_true rfl⟩) hK hP hD hS xb_triv (fun _ _ _ => trivial) 0 1 rfl rfl rfl rfl hl.1 rfl (Nat.le_of_ble_eq_true rfl) dX1_take_74 ⟨Nat.le_refl _, Nat.le_refl _⟩ (fun hz11 H locs hP hD hS => ?_)
      have hP : va_P G.1 vwCl (wdX1 G v_q0 v_q1 v_q2 v_length r11_1 r11_2 r11_3 v_spot v_middle v_codesA v_partsA) H := hP
      have hD : va_D A (wdX1 G v_q0 v_q1 v_q2 v_length r11_1 r11_2 r11_3 v_spot v_middle v_codesA v_partsA) := hD
      refine lv_goto (tgt := 85) hx hb dX1_take_77 (by decide) ?_
      obtain ⟨rfl, rfl, rfl, rfl, rfl, rfl, rfl⟩ := sm7 h
      exact hret _ _ _ _ _ rfl hz11 (isZ.nar hz11) hP hD hS dX1_take_85
  replace h := ite_f c8 h
  by_cases c12 : v_phase = 3
  · replace h := ite_t c12 h
    refine lv_tableIn (off := 82) (tgt := 86) hx hb dX1_take_4 (by rw [c12]; decide) (by rw [c12]; decide) (by rw [c12]; decide) (by decide) ?_
    refine lv_aload_n hx hb dX1_take_86 rfl (lv_at hl 0 rfl) ?_
    refine lv_iload_n hx hb dX1_take_87 rfl (lv_at hl 1 rfl) ?_
    obtain ⟨r13_0, r13_1, r13_2, g13, h⟩ := bnd3_e h
    refine rwV_same (rest := []) (As := [.int a0]) S (ctX1_takeStar l G v_q0 v_q1 v_q2 v_length v_phase v_part v_negative v_spot v_middle v_codesA v_partsA a0 r13_0 r13_1 r13_2 g13) (cwV 1 hts gX1_take_X1_takeStar rfl rfl rfl hvX1_takeStar ⟨Nat.le_of_ble_eq_true rfl, Nat.le_of_ble_eq_true rfl⟩) hK hP hD hS xb_triv (fun _ _ _ => trivial) 0 1 rfl rfl rfl rfl hl.1 rfl (Nat.le_of_ble_eq_true rfl) dX1_take_88 ⟨Nat.le_refl _, Nat.le_refl _⟩ (fun hz13 H locs hP hD hS => ?_)
    have hP : va_P G.1 vwCl (wdX1 G v_q0 v_q1 v_q2 v_length r13_1 v_part v_negative v_spot r13_2 v_codesA v_partsA) H := hP
    have hD : va_D A (wdX1 G v_q0 v_q1 v_q2 v_length r13_1 v_part v_negative v_spot r13_2 v_codesA v_partsA) := hD
    obtain ⟨rfl, rfl, rfl, rfl, rfl, rfl, rfl⟩ := sm7 h
    exact hret _ _ _ _ _ rfl hz13 (isZ.nar hz13) hP hD hS dX1_take_91
  replace h := ite_f c12 h
  refine lv_tableOut (tgt := 92) hx hb dX1_take_4 (by have n1 := lv_neT (a := 0) c1 rfl; have n6 := lv_neT (a := 1) c6 rfl; have n8 := lv_neT (a := 2) c8 rfl; have n12 := lv_neT (a := 3) c12 rfl; omega) (by decide) ?_
  refine lv_iconst (v := 0) hx hb dX1_take_92 (by decide) ?_
  obtain ⟨rfl, rfl, rfl, rfl, rfl, rfl, rfl⟩ := sm7 h
  exact hret _ _ _ _ _ rfl isZ0 (isZ.nar isZ0) hP hD hS dX1_take_93
theorem fw_X1_read_X1 : ∀ w ∈ wsX10, w ∈ wsX1_read := fun w h => List.mem_cons_of_mem _ (List.mem_append_right _ h)
theorem lk_X1_read_f30 : Cond.fieldLink RX1 30 "HalftoneScreens$Input" "phase" "I" ∈ wsX1_read := List.mem_of_getElem? (i := 1) rfl
theorem lk_X1_read_f33 : Cond.fieldLink RX1 33 "HalftoneScreens$Input" "part" "I" ∈ wsX1_read := List.mem_of_getElem? (i := 2) rfl
theorem lk_X1_read_f36 : Cond.fieldLink RX1 36 "HalftoneScreens$Input" "negative" "Z" ∈ wsX1_read := List.mem_of_getElem? (i := 3) rfl
theorem lk_X1_read_f40 : Cond.fieldLink RX1 40 "HalftoneScreens$Input" "spot" "I" ∈ wsX1_read := List.mem_of_getElem? (i := 4) rfl
theorem lk_X1_read_f43 : Cond.fieldLink RX1 43 "HalftoneScreens$Input" "middle" "Z" ∈ wsX1_read := List.mem_of_getElem? (i := 5) rfl
theorem lk_X1_read_f18 : Cond.fieldLink RX1 18 "HalftoneScreens$Input" "length" "I" ∈ wsX1_read := List.mem_of_getElem? (i := 6) rfl
theorem lk_X1_read_f9 : Cond.fieldLink RX1 9 "HalftoneScreens$Input" "codes" "[I" ∈ wsX1_read := List.mem_of_getElem? (i := 7) rfl
theorem lk_X1_read_iX4 : Cond.initialized RX4 ∈ wsX1_read := List.mem_of_getElem? (i := 9) rfl
theorem lk_X1_read_s_at : Cond.static yX4_at ∈ wsX1_read := List.mem_of_getElem? (i := 8) rfl
theorem hsX1_take : yX1_take.cls ≠ "java/lang/invoke/MethodHandle" ∧ yX1_take.cls ≠ "java/lang/invoke/VarHandle" ∧ (parseMethodDescriptor yX1_take.desc).map (fun d => d.parameters.length) = some 1 := by decide +kernel
theorem hvX1_take : yX1_take.cls = RX1 ∧ yX1_take.cls ≠ "java/lang/invoke/MethodHandle" ∧ yX1_take.cls ≠ "java/lang/invoke/VarHandle" ∧ (parseMethodDescriptor yX1_take.desc).map (fun d => d.parameters.length) = some 1 := ⟨rfl, hsX1_take⟩
abbrev rmX1_read : Room := { frames := 3, cells := 0, slots := 0, locals := 64 }
set_option maxHeartbeats 4000000 in
set_option maxRecDepth 100000 in
theorem ctX1_read (l : Launch) (G : GG) (v_q0 : Nat) (v_q1 : Nat) (v_q2 : Nat) (v_length : Int32) (v_phase : Int32) (v_part : Int32) (v_negative : Int32) (v_spot : Int32) (v_middle : Int32) (v_codesA : (Nat → Int32)) (v_partsA : (Nat → Int32)) (o0 : Int32) (o1 : Int32) (o2 : Int32) (o3 : Int32) (o4 : Int32) (o5 : Int32) (o6 : (Nat → Int32)) (h : mX1_read v_length v_codesA v_partsA = some (o0, o1, o2, o3, o4, o5, o6))  : Met l yX1_read wsX1_read rmX1_read (va_Pc [.ref v_q0] (PreD G (wdX1 G v_q0 v_q1 v_q2 v_length v_phase v_part v_negative v_spot v_middle v_codesA v_partsA) (fun _ => True))) (QwA G (va_A0 (wdX1 G v_q0 v_q1 v_q2 v_length v_phase v_part v_negative v_spot v_middle v_codesA v_partsA)) (wdX1 G v_q0 v_q1 v_q2 v_length o1 o2 o3 o4 o5 v_codesA o6) (some (.int o0)) True) 0 0 (va_A0 (wdX1 G v_q0 v_q1 v_q2 v_length v_phase v_part v_negative v_spot v_middle v_codesA v_partsA)) := by
  refine of_wi (cc := cX1_read) (maxL := 2) (ty := .int) (plainFor_of_name (by decide)) rfl (Nat.le_of_ble_eq_true rfl) ?_
  intro p e s m args below meth c ls Q A S hl hP hD hS hK hX hA hret
  obtain ⟨H, hH⟩ : ∃ H, H = s.heap := ⟨_, rfl⟩
  obtain ⟨locs, hlocs⟩ : ∃ L : List Loc, L = [] := ⟨_, rfl⟩
  rw [← hlocs]
  rw [← hlocs] at hS
  have hP : va_P G.1 vwCl (wdX1 G v_q0 v_q1 v_q2 v_length v_phase v_part v_negative v_spot v_middle v_codesA v_partsA) H := by rw [hH]; exact hP
  have hS : va_S A s.heap H locs := by rw [hH]; exact hS
  suffices hgo : W p l e rmX1_read s m args below meth c H locs 0 0 Q (F0 m 0 ls []) by rw [hH] at hgo; exact hgo
  have S : CallFix p m c cX1_read 2 s args wsX1_read RX1 := S
  obtain ⟨hx, hb, hml, hown, hts⟩ := id S
  have hl : lv_has ls 2 [(0, .ref v_q0)] := hl
  unfold mX1_read at h
  refine lv_aload_n hx hb dX1_read_0 rfl (lv_at hl 0 rfl) ?_
  refine lv_iconst (v := 0) hx hb dX1_read_1 (by decide) ?_
  refine va_put (D := G.1) (ci := 1) (v := .int 0) (ty := .int) (C := RX1) (T := TX1) (N := 8) hx hb hts fw_X1_read_X1 tyX1 tyX1_ok nmX1 hown hK.1 hP hD hS 0 rfl rfl 3 (by decide) (hts (.fieldLink RX1 30 "HalftoneScreens$Input" "phase" "I") lk_X1_read_f30) (fun _ h9 => h9) rfl (tyX1_ok 3 (by decide)) rfl rfl (Nat.le_of_ble_eq_true rfl) dX1_read_2 (fun H locs hP hD hS => ?_)
  have hP : va_P G.1 vwCl (wdX1 G v_q0 v_q1 v_q2 v_length 0 v_part v_negative v_spot v_middle v_codesA v_partsA) H := hP
  have hD : va_D A (wdX1 G v_q0 v_q1 v_q2 v_length 0 v_part v_negative v_spot v_middle v_codesA v_partsA) := hD
  refine lv_aload_n hx hb dX1_read_5 rfl (lv_at hl 0 rfl) ?_
  refine lv_iconst (v := 0) hx hb dX1_read_6 (by decide) ?_
  refine va_put (D := G.1) (ci := 1) (v := .int 0) (ty := .int) (C := RX1) (T := TX1) (N := 8) hx hb hts fw_X1_read_X1 tyX1 tyX1_ok nmX1 hown hK.1 hP hD hS 0 rfl rfl 4 (by decide) (hts (.fieldLink RX1 33 "HalftoneScreens$Input" "part" "I") lk_X1_read_f33) (fun _ h9 => h9) rfl (tyX1_ok 4 (by decide)) rfl rfl (Nat.le_of_ble_eq_true rfl) dX1_read_7 (fun H locs hP hD hS => ?_)
  have hP : va_P G.1 vwCl (wdX1 G v_q0 v_q1 v_q2 v_length 0 0 v_negative v_spot v_middle v_codesA v_partsA) H := hP
  have hD : va_D A (wdX1 G v_q0 v_q1 v_q2 v_length 0 0 v_negative v_spot v_middle v_codesA v_partsA) := hD
  refine lv_aload_n hx hb dX1_read_10 rfl (lv_at hl 0 rfl) ?_
  refine lv_iconst (v := 0) hx hb dX1_read_11 (by decide) ?_
  refine va_put (D := G.1) (ci := 1) (v := .int 0) (ty := .boolean) (C := RX1) (T := TX1) (N := 8) hx hb hts fw_X1_read_X1 tyX1 tyX1_ok nmX1 hown hK.1 hP hD hS 0 rfl rfl 5 (by decide) (hts (.fieldLink RX1 36 "HalftoneScreens$Input" "negative" "Z") lk_X1_read_f36) (fun _ h9 => h9) rfl (tyX1_ok 5 (by decide)) (isZ.nar isZ0) (isZ.fit isZ0) (Nat.le_of_ble_eq_true rfl) dX1_read_12 (fun H locs hP hD hS => ?_)
  have hP : va_P G.1 vwCl (wdX1 G v_q0 v_q1 v_q2 v_length 0 0 0 v_spot v_middle v_codesA v_partsA) H := hP
  have hD : va_D A (wdX1 G v_q0 v_q1 v_q2 v_length 0 0 0 v_spot v_middle v_codesA v_partsA) := hD
  refine lv_aload_n hx hb dX1_read_15 rfl (lv_at hl 0 rfl) ?_
  refine lv_iconst (v := 0) hx hb dX1_read_16 (by decide) ?_
  refine va_put (D := G.1) (ci := 1) (v := .int 0) (ty := .int) (C := RX1) (T := TX1) (N := 8) hx hb hts fw_X1_read_X1 tyX1 tyX1_ok nmX1 hown hK.1 hP hD hS 0 rfl rfl 6 (by decide) (hts (.fieldLink RX1 40 "HalftoneScreens$Input" "spot" "I") lk_X1_read_f40) (fun _ h9 => h9) rfl (tyX1_ok 6 (by decide)) rfl rfl (Nat.le_of_ble_eq_true rfl) dX1_read_17 (fun H locs hP hD hS => ?_)
  have hP : va_P G.1 vwCl (wdX1 G v_q0 v_q1 v_q2 v_length 0 0 0 0 v_middle v_codesA v_partsA) H := hP
  have hD : va_D A (wdX1 G v_q0 v_q1 v_q2 v_length 0 0 0 0 v_middle v_codesA v_partsA) := hD
  refine lv_aload_n hx hb dX1_read_20 rfl (lv_at hl 0 rfl) ?_
  refine lv_iconst (v := 0) hx hb dX1_read_21 (by decide) ?_
  refine va_put (D := G.1) (ci := 1) (v := .int 0) (ty := .boolean) (C := RX1) (T := TX1) (N := 8) hx hb hts fw_X1_read_X1 tyX1 tyX1_ok nmX1 hown hK.1 hP hD hS 0 rfl rfl 7 (by decide) (hts (.fieldLink RX1 43 "HalftoneScreens$Input" "middle" "Z") lk_X1_read_f43) (fun _ h9 => h9) rfl (tyX1_ok 7 (by decide)) (isZ.nar isZ0) (isZ.fit isZ0) (Nat.le_of_ble_eq_true rfl) dX1_read_22 (fun H locs hP hD hS => ?_)
  have hP : va_P G.1 vwCl (wdX1 G v_q0 v_q1 v_q2 v_length 0 0 0 0 0 v_codesA v_partsA) H := hP
  have hD : va_D A (wdX1 G v_q0 v_q1 v_q2 v_length 0 0 0 0 0 v_codesA v_partsA) := hD
  refine lv_iconst (v := 0) hx hb dX1_read_25 (by decide) ?_
  refine lv_istore_n (lv' := [(1, .int 0), (0, .ref v_q0)]) hx hb dX1_read_26 rfl hl (by decide) rfl (fun ls hl => ?_)
  have L1 : ∀ (fu : Nat) (v1_0 : Int32) (v1_1 : Int32) (v1_2 : Int32) (v1_3 : Int32) (v1_4 : Int32) (v1_5 : Int32) (v1_6 : (Nat → Int32)) (H : Heap) (locs : List Loc) (ls : Array Slot), mX1_read_L27 v_length v_codesA fu v1_0 v1_1 v1_2 v1_3 v1_4 v1_5 v1_6 = some (o0, o1, o2, o3, o4, o5, o6) → lv_has ls 2 [(1, .int v1_0), (0, .ref v_q0)] → va_P G.1 vwCl (wdX1 G v_q0 v_q1 v_q2 v_length v1_1 v1_2 v1_3 v1_4 v1_5 v_codesA v1_6) H → va_D A (wdX1 G v_q0 v_q1 v_q2 v_length v1_1 v1_2 v1_3 v1_4 v1_5 v_codesA v1_6) → va_S A s.heap H locs → W p l e rmX1_read s m args below meth c H locs 0 0 Q (F0 m 27 ls []) := by
    intro fu
    induction fu with
    | zero => intro v1_0 v1_1 v1_2 v1_3 v1_4 v1_5 v1_6 H locs ls h; exact nomatch h
    | succ fu ih =>
      intro v1_0 v1_1 v1_2 v1_3 v1_4 v1_5 v1_6 H locs ls h hl hP hD hS
      rw [mX1_read_L27] at h
      refine lv_iload_n hx hb dX1_read_27 rfl (lv_at hl 0 rfl) ?_
      refine lv_aload_n hx hb dX1_read_28 rfl (lv_at hl 1 rfl) ?_
      refine va_get (D := G.1) (ci := 1) (v := .int v_length) (C := RX1) (T := TX1) (N := 8) hx hb hts fw_X1_read_X1 hown hK.1 hP 0 rfl rfl 2 (by decide) (hts (.fieldLink RX1 18 "HalftoneScreens$Input" "length" "I") lk_X1_read_f18) (fun _ h9 => h9) rfl dX1_read_29 ?_
      refine lv_icmp_ge (tgt := 58) hx hb dX1_read_32 (by decide) (fun c2 => ?_) (fun c2 => ?_)
      · replace h := ite_t c2 h
        refine lv_aload_n hx hb dX1_read_58 rfl (lv_at hl 1 rfl) ?_
        refine va_get (D := G.1) (ci := 1) (v := .int v_length) (C := RX1) (T := TX1) (N := 8) hx hb hts fw_X1_read_X1 hown hK.1 hP 0 rfl rfl 2 (by decide) (hts (.fieldLink RX1 18 "HalftoneScreens$Input" "length" "I") lk_X1_read_f18) (fun _ h9 => h9) rfl dX1_read_59 ?_
        obtain ⟨rfl, rfl, rfl, rfl, rfl, rfl, rfl⟩ := sm7 h
        exact hret _ _ _ _ _ rfl trivial rfl hP hD hS dX1_read_62
      · replace h := ite_f c2 h
        refine lv_aload_n hx hb dX1_read_35 rfl (lv_at hl 1 rfl) ?_
        refine lv_aload_n hx hb dX1_read_36 rfl (lv_at hl 1 rfl) ?_
        refine va_get (D := G.1) (ci := 1) (v := .ref v_q1) (C := RX1) (T := TX1) (N := 8) hx hb hts fw_X1_read_X1 hown hK.1 hP 0 rfl rfl 0 (by decide) (hts (.fieldLink RX1 9 "HalftoneScreens$Input" "codes" "[I") lk_X1_read_f9) (fun _ h9 => h9) rfl dX1_read_37 ?_
        refine lv_iload_n hx hb dX1_read_40 rfl (lv_at hl 0 rfl) ?_
        obtain ⟨r3_0, g3, h⟩ := bnd1_e h
        refine roNi1 (rest := [.ref v_q0]) (As := [.ref v_q1, .int v1_0]) S (ctX4_at l G v_q1 20 v_codesA v1_0 r3_0 g3) ⟨va_cnB 2 hts gX1_read_X4_at_n46 rfl rfl rfl (hK.2.1 _ (List.mem_of_getElem? (i := 3) rfl)) (hts (.initialized RX4) lk_X1_read_iX4) hsX4_at ⟨Nat.le_of_ble_eq_true rfl, Nat.le_of_ble_eq_true rfl⟩, (hts (.static yX4_at) lk_X1_read_s_at), trivial⟩ hK hP [1] rfl rfl hl.1 rfl (Nat.le_of_ble_eq_true rfl) dX1_read_41 ⟨Nat.le_refl _, Nat.le_refl _⟩ (fun _ => ?_)
        obtain ⟨r4_0, r4_1, r4_2, r4_3, r4_4, r4_5, r4_6, g4, h⟩ := bnd7_e h
        refine rwV_same (rest := []) (As := [.int r3_0]) S (ctX1_take l G v_q0 v_q1 v_q2 v_length v1_1 v1_2 v1_3 v1_4 v1_5 v_codesA v1_6 r3_0 r4_0 r4_1 r4_2 r4_3 r4_4 r4_5 r4_6 g4) (cwV 1 hts gX1_read_X1_take rfl rfl rfl hvX1_take ⟨Nat.le_of_ble_eq_true rfl, Nat.le_of_ble_eq_true rfl⟩) hK hP hD hS xb_triv (fun _ _ _ => trivial) 0 1 rfl rfl rfl rfl hl.1 rfl (Nat.le_of_ble_eq_true rfl) dX1_read_44 ⟨Nat.le_refl _, Nat.le_refl _⟩ (fun hz4 H locs hP hD hS => ?_)
        have hP : va_P G.1 vwCl (wdX1 G v_q0 v_q1 v_q2 v_length r4_1 r4_2 r4_3 r4_4 r4_5 v_codesA r4_6) H := hP
        have hD : va_D A (wdX1 G v_q0 v_q1 v_q2 v_length r4_1 r4_2 r4_3 r4_4 r4_5 v_codesA r4_6) := hD
        refine lv_if_ne (tgt := 52) hx hb dX1_read_47 (by decide) (fun c5 => ?_) (fun c5 => ?_)
        · replace h := ite_f c5 h
          obtain ⟨x6, e6⟩ : ∃ y : Int32, y = v1_0 + 1 := ⟨_, rfl⟩
          replace h := nmB_e e6 h
          refine lv_iinc (v := x6) (lv' := [(1, .int x6), (0, .ref v_q0)]) hx hb dX1_read_52 hl (k := 0) rfl (by rw [e6]; rfl) (by decide) rfl (fun ls hl => ?_)
          refine lv_goto (tgt := 27) hx hb dX1_read_55 (by decide) ?_
          exact ih x6 r4_1 r4_2 r4_3 r4_4 r4_5 r4_6 H locs ls h hl hP hD hS
        · replace h := ite_t c5 h
          refine lv_iload_n hx hb dX1_read_50 rfl (lv_at hl 0 rfl) ?_
          obtain ⟨rfl, rfl, rfl, rfl, rfl, rfl, rfl⟩ := sm7 h
          exact hret _ _ _ _ _ rfl trivial rfl hP hD hS dX1_read_51
  exact L1 FU 0 0 0 0 0 0 v_partsA H locs ls h hl hP hD hS
theorem fw_X1_isComplete_X1 : ∀ w ∈ wsX10, w ∈ wsX1_isComplete := fun w h => List.mem_cons_of_mem _ (List.mem_append_right _ h)
theorem lk_X1_isComplete_f18 : Cond.fieldLink RX1 18 "HalftoneScreens$Input" "length" "I" ∈ wsX1_isComplete := List.mem_of_getElem? (i := 1) rfl
theorem lk_X1_isComplete_f30 : Cond.fieldLink RX1 30 "HalftoneScreens$Input" "phase" "I" ∈ wsX1_isComplete := List.mem_of_getElem? (i := 2) rfl
theorem hsX1_read : yX1_read.cls ≠ "java/lang/invoke/MethodHandle" ∧ yX1_read.cls ≠ "java/lang/invoke/VarHandle" ∧ (parseMethodDescriptor yX1_read.desc).map (fun d => d.parameters.length) = some 0 := by decide +kernel
theorem hvX1_read : yX1_read.cls = RX1 ∧ yX1_read.cls ≠ "java/lang/invoke/MethodHandle" ∧ yX1_read.cls ≠ "java/lang/invoke/VarHandle" ∧ (parseMethodDescriptor yX1_read.desc).map (fun d => d.parameters.length) = some 0 := ⟨rfl, hsX1_read⟩
abbrev rmX1_isComplete : Room := { frames := 4, cells := 0, slots := 0, locals := 85 }
set_option maxHeartbeats 4000000 in
set_option maxRecDepth 100000 in
theorem ctX1_isComplete (l : Launch) (G : GG) (v_q0 : Nat) (v_q1 : Nat) (v_q2 : Nat) (v_length : Int32) (v_phase : Int32) (v_part : Int32) (v_negative : Int32) (v_spot : Int32) (v_middle : Int32) (v_codesA : (Nat → Int32)) (v_partsA : (Nat → Int32)) (o0 : Int32) (o1 : Int32) (o2 : Int32) (o3 : Int32) (o4 : Int32) (o5 : Int32) (o6 : (Nat → Int32)) (h : mX1_isComplete v_length v_codesA v_partsA = some (o0, o1, o2, o3, o4, o5, o6))  : Met l yX1_isComplete wsX1_isComplete rmX1_isComplete (va_Pc [.ref v_q0] (PreD G (wdX1 G v_q0 v_q1 v_q2 v_length v_phase v_part v_negative v_spot v_middle v_codesA v_partsA) (fun _ => True))) (QwA G (va_A0 (wdX1 G v_q0 v_q1 v_q2 v_length v_phase v_part v_negative v_spot v_middle v_codesA v_partsA)) (wdX1 G v_q0 v_q1 v_q2 v_length o1 o2 o3 o4 o5 v_codesA o6) (some (.int o0)) (isZ o0)) 0 0 (va_A0 (wdX1 G v_q0 v_q1 v_q2 v_length v_phase v_part v_negative v_spot v_middle v_codesA v_partsA)) := by
  refine of_wi (cc := cX1_isComplete) (maxL := 1) (ty := .boolean) (plainFor_of_name (by decide)) rfl (Nat.le_of_ble_eq_true rfl) ?_
  intro p e s m args below meth c ls Q A S hl hP hD hS hK hX hA hret
  obtain ⟨H, hH⟩ : ∃ H, H = s.heap := ⟨_, rfl⟩
  obtain ⟨locs, hlocs⟩ : ∃ L : List Loc, L = [] := ⟨_, rfl⟩
  rw [← hlocs]
  rw [← hlocs] at hS
  have hP : va_P G.1 vwCl (wdX1 G v_q0 v_q1 v_q2 v_length v_phase v_part v_negative v_spot v_middle v_codesA v_partsA) H := by rw [hH]; exact hP
  have hS : va_S A s.heap H locs := by rw [hH]; exact hS
  suffices hgo : W p l e rmX1_isComplete s m args below meth c H locs 0 0 Q (F0 m 0 ls []) by rw [hH] at hgo; exact hgo
  have S : CallFix p m c cX1_isComplete 1 s args wsX1_isComplete RX1 := S
  obtain ⟨hx, hb, hml, hown, hts⟩ := id S
  have hl : lv_has ls 1 [(0, .ref v_q0)] := hl
  unfold mX1_isComplete at h
  refine lv_aload_n hx hb dX1_isComplete_0 rfl (lv_at hl 0 rfl) ?_
  obtain ⟨r1_0, r1_1, r1_2, r1_3, r1_4, r1_5, r1_6, g1, h⟩ := bnd7_e h
  refine rwV_same (rest := []) (As := []) S (ctX1_read l G v_q0 v_q1 v_q2 v_length v_phase v_part v_negative v_spot v_middle v_codesA v_partsA r1_0 r1_1 r1_2 r1_3 r1_4 r1_5 r1_6 g1) (cwV 0 hts gX1_isComplete_X1_read rfl rfl rfl hvX1_read ⟨Nat.le_of_ble_eq_true rfl, Nat.le_of_ble_eq_true rfl⟩) hK hP hD hS xb_triv (fun _ _ _ => trivial) 0 1 rfl rfl rfl rfl hl.1 rfl (Nat.le_of_ble_eq_true rfl) dX1_isComplete_1 ⟨Nat.le_refl _, Nat.le_refl _⟩ (fun _ H locs hP hD hS => ?_)
  have hP : va_P G.1 vwCl (wdX1 G v_q0 v_q1 v_q2 v_length r1_1 r1_2 r1_3 r1_4 r1_5 v_codesA r1_6) H := hP
  have hD : va_D A (wdX1 G v_q0 v_q1 v_q2 v_length r1_1 r1_2 r1_3 r1_4 r1_5 v_codesA r1_6) := hD
  refine lv_aload_n hx hb dX1_isComplete_4 rfl (lv_at hl 0 rfl) ?_
  refine va_get (D := G.1) (ci := 1) (v := .int v_length) (C := RX1) (T := TX1) (N := 8) hx hb hts fw_X1_isComplete_X1 hown hK.1 hP 0 rfl rfl 2 (by decide) (hts (.fieldLink RX1 18 "HalftoneScreens$Input" "length" "I") lk_X1_isComplete_f18) (fun _ h9 => h9) rfl dX1_isComplete_5 ?_
  refine lv_icmp_ne (tgt := 31) hx hb dX1_isComplete_8 (by decide) (fun c2 => ?_) (fun c2 => ?_)
  · replace h := ite_f c2 h
    refine lv_iconst (v := 0) hx hb dX1_isComplete_31 (by decide) ?_
    obtain ⟨rfl, rfl, rfl, rfl, rfl, rfl, rfl⟩ := sm7 h
    exact hret _ _ _ _ _ rfl isZ0 (isZ.nar isZ0) hP hD hS dX1_isComplete_32
  · replace h := ite_t c2 h
    refine lv_aload_n hx hb dX1_isComplete_11 rfl (lv_at hl 0 rfl) ?_
    refine va_get (D := G.1) (ci := 1) (v := .int r1_1) (C := RX1) (T := TX1) (N := 8) hx hb hts fw_X1_isComplete_X1 hown hK.1 hP 0 rfl rfl 3 (by decide) (hts (.fieldLink RX1 30 "HalftoneScreens$Input" "phase" "I") lk_X1_isComplete_f30) (fun _ h9 => h9) rfl dX1_isComplete_12 ?_
    refine lv_iconst (v := 3) hx hb dX1_isComplete_15 (by decide) ?_
    refine lv_icmp_eq (tgt := 27) hx hb dX1_isComplete_16 (by decide) (fun c3 => ?_) (fun c3 => ?_)
    · replace h := ite_t c3 h
      refine lv_iconst (v := 1) hx hb dX1_isComplete_27 (by decide) ?_
      refine lv_goto (tgt := 32) hx hb dX1_isComplete_28 (by decide) ?_
      obtain ⟨rfl, rfl, rfl, rfl, rfl, rfl, rfl⟩ := sm7 h
      exact hret _ _ _ _ _ rfl isZ1 (isZ.nar isZ1) hP hD hS dX1_isComplete_32
    · replace h := ite_f c3 h
      refine lv_aload_n hx hb dX1_isComplete_19 rfl (lv_at hl 0 rfl) ?_
      refine va_get (D := G.1) (ci := 1) (v := .int r1_1) (C := RX1) (T := TX1) (N := 8) hx hb hts fw_X1_isComplete_X1 hown hK.1 hP 0 rfl rfl 3 (by decide) (hts (.fieldLink RX1 30 "HalftoneScreens$Input" "phase" "I") lk_X1_isComplete_f30) (fun _ h9 => h9) rfl dX1_isComplete_20 ?_
      refine lv_iconst (v := 4) hx hb dX1_isComplete_23 (by decide) ?_
      refine lv_icmp_ne (tgt := 31) hx hb dX1_isComplete_24 (by decide) (fun c4 => ?_) (fun c4 => ?_)
      · replace h := ite_f c4 h
        refine lv_iconst (v := 0) hx hb dX1_isComplete_31 (by decide) ?_
        obtain ⟨rfl, rfl, rfl, rfl, rfl, rfl, rfl⟩ := sm7 h
        exact hret _ _ _ _ _ rfl isZ0 (isZ.nar isZ0) hP hD hS dX1_isComplete_32
      · replace h := ite_t c4 h
        refine lv_iconst (v := 1) hx hb dX1_isComplete_27 (by decide) ?_
        refine lv_goto (tgt := 32) hx hb dX1_isComplete_28 (by decide) ?_
        obtain ⟨rfl, rfl, rfl, rfl, rfl, rfl, rfl⟩ := sm7 h
        exact hret _ _ _ _ _ rfl isZ1 (isZ.nar isZ1) hP hD hS dX1_isComplete_32
theorem fw_X1_add_X1 : ∀ w ∈ wsX10, w ∈ wsX1_add := fun w h => List.mem_cons_of_mem _ (List.mem_append_right _ h)
theorem lk_X1_add_f9 : Cond.fieldLink RX1 9 "HalftoneScreens$Input" "codes" "[I" ∈ wsX1_add := List.mem_of_getElem? (i := 1) rfl
theorem lk_X1_add_f18 : Cond.fieldLink RX1 18 "HalftoneScreens$Input" "length" "I" ∈ wsX1_add := List.mem_of_getElem? (i := 2) rfl
theorem lk_X1_add_iX4 : Cond.initialized RX4 ∈ wsX1_add := List.mem_of_getElem? (i := 4) rfl
theorem lk_X1_add_s_put : Cond.static yX4_put ∈ wsX1_add := List.mem_of_getElem? (i := 3) rfl
abbrev rmX1_add : Room := { frames := 1, cells := 0, slots := 0, locals := 22 }
set_option maxHeartbeats 4000000 in
set_option maxRecDepth 100000 in
theorem ctX1_add (l : Launch) (G : GG) (v_q0 : Nat) (v_q1 : Nat) (v_q2 : Nat) (v_length : Int32) (v_phase : Int32) (v_part : Int32) (v_negative : Int32) (v_spot : Int32) (v_middle : Int32) (v_codesA : (Nat → Int32)) (v_partsA : (Nat → Int32)) (a0 : Int32) (o0 : Int32) (o1 : Int32) (o2 : (Nat → Int32)) (h : mX1_add v_length v_codesA a0 = some (o0, o1, o2))  : Met l yX1_add wsX1_add rmX1_add (va_Pc [.ref v_q0, .int a0] (PreD G (wdX1 G v_q0 v_q1 v_q2 v_length v_phase v_part v_negative v_spot v_middle v_codesA v_partsA) (fun _ => True))) (QwA G (va_A0 (wdX1 G v_q0 v_q1 v_q2 v_length v_phase v_part v_negative v_spot v_middle v_codesA v_partsA)) (wdX1 G v_q0 v_q1 v_q2 o1 v_phase v_part v_negative v_spot v_middle o2 v_partsA) (some (.int o0)) True) 0 0 (va_A0 (wdX1 G v_q0 v_q1 v_q2 v_length v_phase v_part v_negative v_spot v_middle v_codesA v_partsA)) := by
  refine of_wi (cc := cX1_add) (maxL := 2) (ty := .int) (plainFor_of_name (by decide)) rfl (Nat.le_of_ble_eq_true rfl) ?_
  intro p e s m args below meth c ls Q A S hl hP hD hS hK hX hA hret
  obtain ⟨H, hH⟩ : ∃ H, H = s.heap := ⟨_, rfl⟩
  obtain ⟨locs, hlocs⟩ : ∃ L : List Loc, L = [] := ⟨_, rfl⟩
  rw [← hlocs]
  rw [← hlocs] at hS
  have hP : va_P G.1 vwCl (wdX1 G v_q0 v_q1 v_q2 v_length v_phase v_part v_negative v_spot v_middle v_codesA v_partsA) H := by rw [hH]; exact hP
  have hS : va_S A s.heap H locs := by rw [hH]; exact hS
  suffices hgo : W p l e rmX1_add s m args below meth c H locs 0 0 Q (F0 m 0 ls []) by rw [hH] at hgo; exact hgo
  have S : CallFix p m c cX1_add 2 s args wsX1_add RX1 := S
  obtain ⟨hx, hb, hml, hown, hts⟩ := id S
  have hl : lv_has ls 2 [(0, .ref v_q0), (1, .int a0)] := hl
  unfold mX1_add at h
  refine lv_aload_n hx hb dX1_add_0 rfl (lv_at hl 0 rfl) ?_
  refine va_get (D := G.1) (ci := 1) (v := .ref v_q1) (C := RX1) (T := TX1) (N := 8) hx hb hts fw_X1_add_X1 hown hK.1 hP 0 rfl rfl 0 (by decide) (hts (.fieldLink RX1 9 "HalftoneScreens$Input" "codes" "[I") lk_X1_add_f9) (fun _ h9 => h9) rfl dX1_add_1 ?_
  refine lv_aload_n hx hb dX1_add_4 rfl (lv_at hl 0 rfl) ?_
  refine va_get (D := G.1) (ci := 1) (v := .int v_length) (C := RX1) (T := TX1) (N := 8) hx hb hts fw_X1_add_X1 hown hK.1 hP 0 rfl rfl 2 (by decide) (hts (.fieldLink RX1 18 "HalftoneScreens$Input" "length" "I") lk_X1_add_f18) (fun _ h9 => h9) rfl dX1_add_5 ?_
  refine lv_iload_n hx hb dX1_add_8 rfl (lv_at hl 1 rfl) ?_
  obtain ⟨r1_0, g1, h⟩ := bnd1_e h
  refine rwN_back (rest := []) (As := [.ref v_q1, .int v_length, .int a0]) (wr := [(v_q0, .inr (1, [.ref v_q1, .ref v_q2, .int v_length, .int v_phase, .int v_part, .int v_negative, .int v_spot, .int v_middle])), (v_q2, .inl (G.2 0, 4, .inl v_partsA))]) (wf := wdX1 G v_q0 v_q1 v_q2 v_length v_phase v_part v_negative v_spot v_middle r1_0 v_partsA) S (ctX4_put l G v_q1 20 v_codesA v_length a0 r1_0 g1) ⟨va_cnB 3 hts gX1_add_X4_put_n22 rfl rfl rfl (hK.2.1 _ (List.mem_of_getElem? (i := 2) rfl)) (hts (.initialized RX4) lk_X1_add_iX4) hsX4_put ⟨Nat.le_of_ble_eq_true rfl, Nat.le_of_ble_eq_true rfl⟩, (hts (.static yX4_put) lk_X1_add_s_put), trivial⟩ hK hP hD hS xb_triv (fun _ _ _ => trivial) [1] [0, 2] [0, 2, 1] rfl rfl rfl rfl rfl rfl rfl rfl hl.1 rfl (Nat.le_of_ble_eq_true rfl) dX1_add_9 ⟨Nat.le_refl _, Nat.le_refl _⟩ (fun _ H locs hP hD hS => ?_)
  have hP : va_P G.1 vwCl (wdX1 G v_q0 v_q1 v_q2 v_length v_phase v_part v_negative v_spot v_middle r1_0 v_partsA) H := hP
  have hD : va_D A (wdX1 G v_q0 v_q1 v_q2 v_length v_phase v_part v_negative v_spot v_middle r1_0 v_partsA) := hD
  refine lv_aload_n hx hb dX1_add_12 rfl (lv_at hl 0 rfl) ?_
  refine lv_dup hx hb dX1_add_13 rfl ?_
  refine va_get (D := G.1) (ci := 1) (v := .int v_length) (C := RX1) (T := TX1) (N := 8) hx hb hts fw_X1_add_X1 hown hK.1 hP 0 rfl rfl 2 (by decide) (hts (.fieldLink RX1 18 "HalftoneScreens$Input" "length" "I") lk_X1_add_f18) (fun _ h9 => h9) rfl dX1_add_14 ?_
  refine lv_iconst (v := 1) hx hb dX1_add_17 (by decide) ?_
  refine lv_iadd hx hb dX1_add_18 ?_
  refine lv_topi (fun x2 e2 => ?_)
  replace h := nmB_e e2 h
  refine va_put (D := G.1) (ci := 1) (v := .int x2) (ty := .int) (C := RX1) (T := TX1) (N := 8) hx hb hts fw_X1_add_X1 tyX1 tyX1_ok nmX1 hown hK.1 hP hD hS 0 rfl rfl 2 (by decide) (hts (.fieldLink RX1 18 "HalftoneScreens$Input" "length" "I") lk_X1_add_f18) (fun _ h9 => h9) rfl (tyX1_ok 2 (by decide)) rfl rfl (Nat.le_of_ble_eq_true rfl) dX1_add_19 (fun H locs hP hD hS => ?_)
  have hP : va_P G.1 vwCl (wdX1 G v_q0 v_q1 v_q2 x2 v_phase v_part v_negative v_spot v_middle r1_0 v_partsA) H := hP
  have hD : va_D A (wdX1 G v_q0 v_q1 v_q2 x2 v_phase v_part v_negative v_spot v_middle r1_0 v_partsA) := hD
  refine lv_aload_n hx hb dX1_add_22 rfl (lv_at hl 0 rfl) ?_
  refine va_get (D := G.1) (ci := 1) (v := .int x2) (C := RX1) (T := TX1) (N := 8) hx hb hts fw_X1_add_X1 hown hK.1 hP 0 rfl rfl 2 (by decide) (hts (.fieldLink RX1 18 "HalftoneScreens$Input" "length" "I") lk_X1_add_f18) (fun _ h9 => h9) rfl dX1_add_23 ?_
  obtain ⟨rfl, rfl, rfl⟩ := sm3 h
  exact hret _ _ _ _ _ rfl trivial rfl hP hD hS dX1_add_26
