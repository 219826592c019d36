-- contracts of the methods (laid by program from the listing)
theorem fw_X3_area_X3 : ∀ w ∈ wsX30, w ∈ wsX3_area := fun w h => List.mem_cons_of_mem _ (List.mem_append_left _ (List.mem_append_right _ h))
theorem lk_X3_area_f12 : Cond.fieldLink RX3 12 "HalftoneScreens$Screen" "lattice" "LHalftoneScreens$Lattice;" ∈ wsX3_area := List.mem_of_getElem? (i := 1) rfl
abbrev rmX3_area : Room := { frames := 1, cells := 0, slots := 0, locals := 20 }
set_option maxHeartbeats 4000000 in
set_option maxRecDepth 100000 in
theorem ctX3_area (l : Launch) (G : GG) (v_q0 : Nat) (v_q1 : Nat) (v_q2 : Nat) (v_q3 : Nat) (v_q4 : Nat) (v_q5 : Nat) (v_q6 : Nat) (v_q7 : Nat) (v_present : Int32) (v_a : Int32) (v_b : Int32) (v_c : Int32) (v_d : Int32) (v_spot : Int32) (v_middle : Int32) (v_tint : Int32) (v_w : Int32) (v_s : Int32) (v_h : Int32) (v_valuesA : (Nat → Int32)) (v_otherValuesA : (Nat → Int32)) (v_ranksA : (Nat → Int32)) (v_oldRanksA : (Nat → Int32)) (v_orderA : (Nat → Int32)) (v_neighborsA : (Nat → Int32)) (o0 : Int32) (h : mX3_area v_w v_h = some (o0))  : Met l yX3_area wsX3_area rmX3_area (va_Pc [.ref v_q0] (PreW G (wdX3 G v_q0 v_q1 v_q2 v_q3 v_q4 v_q5 v_q6 v_q7 v_present v_a v_b v_c v_d v_spot v_middle v_tint v_w v_s v_h v_valuesA v_otherValuesA v_ranksA v_oldRanksA v_orderA v_neighborsA))) (vp_Si (fun r => r = o0 ∧ True)) 0 0 (fun _ => False) := by
  refine of_ri (cc := cX3_area) (maxL := 1) (ty := .int) (plainFor_of_name (by decide)) rfl (Nat.le_of_ble_eq_true rfl) ?_
  intro p e s m args below meth c ls Q S hl hP hK hret
  have S : CallFix p m c cX3_area 1 s args wsX3_area RX3 := S
  obtain ⟨hx, hb, hml, hown, hts⟩ := id S
  have hl : lv_has ls 1 [(0, .ref v_q0)] := hl
  unfold mX3_area at h
  refine lv_aload_n hx hb dX3_area_0 rfl (lv_at hl 0 rfl) ?_
  refine va_get (D := G.1) (ci := 3) (v := .ref v_q1) (C := RX3) (T := TX3) (N := 15) hx hb hts fw_X3_area_X3 hown hK.1 hP 0 rfl rfl 0 (by decide) (hts (.fieldLink RX3 12 "HalftoneScreens$Screen" "lattice" "LHalftoneScreens$Lattice;") lk_X3_area_f12) (fun _ h9 => h9) rfl dX3_area_1 ?_
  obtain ⟨r1_0, g1, h⟩ := bnd1_e h
  refine roVi1 (rest := []) (As := []) S (ctX2_area l G v_q1 v_w v_s v_h r1_0 g1) (cwV 0 hts gX3_area_X2_area rfl rfl rfl hvX2_area ⟨Nat.le_of_ble_eq_true rfl, Nat.le_of_ble_eq_true rfl⟩) hK hP [1] rfl 1 2 rfl rfl rfl rfl hl.1 rfl (Nat.le_of_ble_eq_true rfl) dX3_area_4 ⟨Nat.le_refl _, Nat.le_refl _⟩ (fun _ => ?_)
  exact hret _ _ _ ⟨smi h, trivial⟩ rfl dX3_area_7
theorem fw_X3_property_X3 : ∀ w ∈ wsX30, w ∈ wsX3_property := fun w h => List.mem_cons_of_mem _ (List.mem_append_left _ (List.mem_append_right _ h))
theorem lk_X3_property_f37 : Cond.fieldLink RX3 37 "HalftoneScreens$Screen" "a" "I" ∈ wsX3_property := List.mem_of_getElem? (i := 1) rfl
theorem lk_X3_property_f41 : Cond.fieldLink RX3 41 "HalftoneScreens$Screen" "b" "I" ∈ wsX3_property := List.mem_of_getElem? (i := 2) rfl
theorem lk_X3_property_f44 : Cond.fieldLink RX3 44 "HalftoneScreens$Screen" "c" "I" ∈ wsX3_property := List.mem_of_getElem? (i := 3) rfl
theorem lk_X3_property_f47 : Cond.fieldLink RX3 47 "HalftoneScreens$Screen" "d" "I" ∈ wsX3_property := List.mem_of_getElem? (i := 4) rfl
theorem lk_X3_property_f12 : Cond.fieldLink RX3 12 "HalftoneScreens$Screen" "lattice" "LHalftoneScreens$Lattice;" ∈ wsX3_property := List.mem_of_getElem? (i := 8) rfl
theorem lk_X3_property_f50 : Cond.fieldLink RX3 50 "HalftoneScreens$Screen" "spot" "I" ∈ wsX3_property := List.mem_of_getElem? (i := 5) rfl
theorem lk_X3_property_f53 : Cond.fieldLink RX3 53 "HalftoneScreens$Screen" "middle" "Z" ∈ wsX3_property := List.mem_of_getElem? (i := 6) rfl
theorem lk_X3_property_f57 : Cond.fieldLink RX3 57 "HalftoneScreens$Screen" "tint" "I" ∈ wsX3_property := List.mem_of_getElem? (i := 7) rfl
theorem hsX2_property : yX2_property.cls ≠ "java/lang/invoke/MethodHandle" ∧ yX2_property.cls ≠ "java/lang/invoke/VarHandle" ∧ (parseMethodDescriptor yX2_property.desc).map (fun d => d.parameters.length) = some 1 := by decide +kernel
theorem hvX2_property : yX2_property.cls = RX2 ∧ yX2_property.cls ≠ "java/lang/invoke/MethodHandle" ∧ yX2_property.cls ≠ "java/lang/invoke/VarHandle" ∧ (parseMethodDescriptor yX2_property.desc).map (fun d => d.parameters.length) = some 1 := ⟨rfl, hsX2_property⟩
abbrev rmX3_property : Room := { frames := 2, cells := 0, slots := 0, locals := 41 }
set_option maxHeartbeats 4000000 in
set_option maxRecDepth 100000 in
theorem ctX3_property (l : Launch) (G : GG) (v_q0 : Nat) (v_q1 : Nat) (v_q2 : Nat) (v_q3 : Nat) (v_q4 : Nat) (v_q5 : Nat) (v_q6 : Nat) (v_q7 : Nat) (v_present : Int32) (v_a : Int32) (v_b : Int32) (v_c : Int32) (v_d : Int32) (v_spot : Int32) (v_middle : Int32) (v_tint : Int32) (v_w : Int32) (v_s : Int32) (v_h : Int32) (v_valuesA : (Nat → Int32)) (v_otherValuesA : (Nat → Int32)) (v_ranksA : (Nat → Int32)) (v_oldRanksA : (Nat → Int32)) (v_orderA : (Nat → Int32)) (v_neighborsA : (Nat → Int32)) (a0 : Int32) (o0 : Int32) (h : mX3_property v_a v_b v_c v_d v_spot v_middle v_tint v_w v_s v_h a0 = some (o0))  : Met l yX3_property wsX3_property rmX3_property (va_Pc [.ref v_q0, .int a0] (PreW G (wdX3 G v_q0 v_q1 v_q2 v_q3 v_q4 v_q5 v_q6 v_q7 v_present v_a v_b v_c v_d v_spot v_middle v_tint v_w v_s v_h v_valuesA v_otherValuesA v_ranksA v_oldRanksA v_orderA v_neighborsA))) (vp_Si (fun r => r = o0 ∧ True)) 0 0 (fun _ => False) := by
  refine of_ri (cc := cX3_property) (maxL := 2) (ty := .int) (plainFor_of_name (by decide)) rfl (Nat.le_of_ble_eq_true rfl) ?_
  intro p e s m args below meth c ls Q S hl hP hK hret
  have S : CallFix p m c cX3_property 2 s args wsX3_property RX3 := S
  obtain ⟨hx, hb, hml, hown, hts⟩ := id S
  have hl : lv_has ls 2 [(0, .ref v_q0), (1, .int a0)] := hl
  unfold mX3_property at h
  refine lv_iload_n hx hb dX3_property_0 rfl (lv_at hl 1 rfl) ?_
  by_cases c1 : a0 = 0
  · replace h := ite_t c1 h
    refine lv_tableIn (off := 59) (tgt := 60) hx hb dX3_property_1 (by rw [c1]; decide) (by rw [c1]; decide) (by rw [c1]; decide) (by decide) ?_
    refine lv_aload_n hx hb dX3_property_60 rfl (lv_at hl 0 rfl) ?_
    refine va_get (D := G.1) (ci := 3) (v := .int v_a) (C := RX3) (T := TX3) (N := 15) hx hb hts fw_X3_property_X3 hown hK.1 hP 0 rfl rfl 8 (by decide) (hts (.fieldLink RX3 37 "HalftoneScreens$Screen" "a" "I") lk_X3_property_f37) (fun _ h9 => h9) rfl dX3_property_61 ?_
    exact hret _ _ _ ⟨smi h, trivial⟩ rfl dX3_property_64
  replace h := ite_f c1 h
  by_cases c2 : a0 = 1
  · replace h := ite_t c2 h
    refine lv_tableIn (off := 64) (tgt := 65) hx hb dX3_property_1 (by rw [c2]; decide) (by rw [c2]; decide) (by rw [c2]; decide) (by decide) ?_
    refine lv_aload_n hx hb dX3_property_65 rfl (lv_at hl 0 rfl) ?_
    refine va_get (D := G.1) (ci := 3) (v := .int v_b) (C := RX3) (T := TX3) (N := 15) hx hb hts fw_X3_property_X3 hown hK.1 hP 0 rfl rfl 9 (by decide) (hts (.fieldLink RX3 41 "HalftoneScreens$Screen" "b" "I") lk_X3_property_f41) (fun _ h9 => h9) rfl dX3_property_66 ?_
    exact hret _ _ _ ⟨smi h, trivial⟩ rfl dX3_property_69
  replace h := ite_f c2 h
  by_cases c3 : a0 = 2
  · replace h := ite_t c3 h
    refine lv_tableIn (off := 69) (tgt := 70) hx hb dX3_property_1 (by rw [c3]; decide) (by rw [c3]; decide) (by rw [c3]; decide) (by decide) ?_
    refine lv_aload_n hx hb dX3_property_70 rfl (lv_at hl 0 rfl) ?_
    refine va_get (D := G.1) (ci := 3) (v := .int v_c) (C := RX3) (T := TX3) (N := 15) hx hb hts fw_X3_property_X3 hown hK.1 hP 0 rfl rfl 10 (by decide) (hts (.fieldLink RX3 44 "HalftoneScreens$Screen" "c" "I") lk_X3_property_f44) (fun _ h9 => h9) rfl dX3_property_71 ?_
    exact hret _ _ _ ⟨smi h, trivial⟩ rfl dX3_property_74
  replace h := ite_f c3 h
  by_cases c4 : a0 = 3
  · replace h := ite_t c4 h
    refine lv_tableIn (off := 74) (tgt := 75) hx hb dX3_property_1 (by rw [c4]; decide) (by rw [c4]; decide) (by rw [c4]; decide) (by decide) ?_
    refine lv_aload_n hx hb dX3_property_75 rfl (lv_at hl 0 rfl) ?_
    refine va_get (D := G.1) (ci := 3) (v := .int v_d) (C := RX3) (T := TX3) (N := 15) hx hb hts fw_X3_property_X3 hown hK.1 hP 0 rfl rfl 11 (by decide) (hts (.fieldLink RX3 47 "HalftoneScreens$Screen" "d" "I") lk_X3_property_f47) (fun _ h9 => h9) rfl dX3_property_76 ?_
    exact hret _ _ _ ⟨smi h, trivial⟩ rfl dX3_property_79
  replace h := ite_f c4 h
  by_cases c5 : a0 = 4
  · replace h := ite_t c5 h
    refine lv_tableIn (off := 102) (tgt := 103) hx hb dX3_property_1 (by rw [c5]; decide) (by rw [c5]; decide) (by rw [c5]; decide) (by decide) ?_
    refine lv_aload_n hx hb dX3_property_103 rfl (lv_at hl 0 rfl) ?_
    refine va_get (D := G.1) (ci := 3) (v := .ref v_q1) (C := RX3) (T := TX3) (N := 15) hx hb hts fw_X3_property_X3 hown hK.1 hP 0 rfl rfl 0 (by decide) (hts (.fieldLink RX3 12 "HalftoneScreens$Screen" "lattice" "LHalftoneScreens$Lattice;") lk_X3_property_f12) (fun _ h9 => h9) rfl dX3_property_104 ?_
    refine lv_iload_n hx hb dX3_property_107 rfl (lv_at hl 1 rfl) ?_
    refine lv_iconst (v := 4) hx hb dX3_property_108 (by decide) ?_
    refine lv_isub hx hb dX3_property_109 ?_
    obtain ⟨r6_0, g6, h⟩ := bnd1_e h
    refine roVi1 (rest := []) (As := [.int (a0 - 4)]) S (ctX2_property l G v_q1 v_w v_s v_h (a0 - 4) r6_0 g6) (cwV 1 hts gX3_property_X2_property rfl rfl rfl hvX2_property ⟨Nat.le_of_ble_eq_true rfl, Nat.le_of_ble_eq_true rfl⟩) hK hP [1] rfl 1 2 rfl rfl rfl rfl hl.1 rfl (Nat.le_of_ble_eq_true rfl) dX3_property_110 ⟨Nat.le_refl _, Nat.le_refl _⟩ (fun _ => ?_)
    exact hret _ _ _ ⟨smi h, trivial⟩ rfl dX3_property_113
  replace h := ite_f c5 h
  by_cases c7 : a0 = 5
  · replace h := ite_t c7 h
    refine lv_tableIn (off := 102) (tgt := 103) hx hb dX3_property_1 (by rw [c7]; decide) (by rw [c7]; decide) (by rw [c7]; decide) (by decide) ?_
    refine lv_aload_n hx hb dX3_property_103 rfl (lv_at hl 0 rfl) ?_
    refine va_get (D := G.1) (ci := 3) (v := .ref v_q1) (C := RX3) (T := TX3) (N := 15) hx hb hts fw_X3_property_X3 hown hK.1 hP 0 rfl rfl 0 (by decide) (hts (.fieldLink RX3 12 "HalftoneScreens$Screen" "lattice" "LHalftoneScreens$Lattice;") lk_X3_property_f12) (fun _ h9 => h9) rfl dX3_property_104 ?_
    refine lv_iload_n hx hb dX3_property_107 rfl (lv_at hl 1 rfl) ?_
    refine lv_iconst (v := 4) hx hb dX3_property_108 (by decide) ?_
    refine lv_isub hx hb dX3_property_109 ?_
    obtain ⟨r8_0, g8, h⟩ := bnd1_e h
    refine roVi1 (rest := []) (As := [.int (a0 - 4)]) S (ctX2_property l G v_q1 v_w v_s v_h (a0 - 4) r8_0 g8) (cwV 1 hts gX3_property_X2_property rfl rfl rfl hvX2_property ⟨Nat.le_of_ble_eq_true rfl, Nat.le_of_ble_eq_true rfl⟩) hK hP [1] rfl 1 2 rfl rfl rfl rfl hl.1 rfl (Nat.le_of_ble_eq_true rfl) dX3_property_110 ⟨Nat.le_refl _, Nat.le_refl _⟩ (fun _ => ?_)
    exact hret _ _ _ ⟨smi h, trivial⟩ rfl dX3_property_113
  replace h := ite_f c7 h
  by_cases c9 : a0 = 6
  · replace h := ite_t c9 h
    refine lv_tableIn (off := 102) (tgt := 103) hx hb dX3_property_1 (by rw [c9]; decide) (by rw [c9]; decide) (by rw [c9]; decide) (by decide) ?_
    refine lv_aload_n hx hb dX3_property_103 rfl (lv_at hl 0 rfl) ?_
    refine va_get (D := G.1) (ci := 3) (v := .ref v_q1) (C := RX3) (T := TX3) (N := 15) hx hb hts fw_X3_property_X3 hown hK.1 hP 0 rfl rfl 0 (by decide) (hts (.fieldLink RX3 12 "HalftoneScreens$Screen" "lattice" "LHalftoneScreens$Lattice;") lk_X3_property_f12) (fun _ h9 => h9) rfl dX3_property_104 ?_
    refine lv_iload_n hx hb dX3_property_107 rfl (lv_at hl 1 rfl) ?_
    refine lv_iconst (v := 4) hx hb dX3_property_108 (by decide) ?_
    refine lv_isub hx hb dX3_property_109 ?_
    obtain ⟨r10_0, g10, h⟩ := bnd1_e h
    refine roVi1 (rest := []) (As := [.int (a0 - 4)]) S (ctX2_property l G v_q1 v_w v_s v_h (a0 - 4) r10_0 g10) (cwV 1 hts gX3_property_X2_property rfl rfl rfl hvX2_property ⟨Nat.le_of_ble_eq_true rfl, Nat.le_of_ble_eq_true rfl⟩) hK hP [1] rfl 1 2 rfl rfl rfl rfl hl.1 rfl (Nat.le_of_ble_eq_true rfl) dX3_property_110 ⟨Nat.le_refl _, Nat.le_refl _⟩ (fun _ => ?_)
    exact hret _ _ _ ⟨smi h, trivial⟩ rfl dX3_property_113
  replace h := ite_f c9 h
  by_cases c11 : a0 = 7
  · replace h := ite_t c11 h
    refine lv_tableIn (off := 102) (tgt := 103) hx hb dX3_property_1 (by rw [c11]; decide) (by rw [c11]; decide) (by rw [c11]; decide) (by decide) ?_
    refine lv_aload_n hx hb dX3_property_103 rfl (lv_at hl 0 rfl) ?_
    refine va_get (D := G.1) (ci := 3) (v := .ref v_q1) (C := RX3) (T := TX3) (N := 15) hx hb hts fw_X3_property_X3 hown hK.1 hP 0 rfl rfl 0 (by decide) (hts (.fieldLink RX3 12 "HalftoneScreens$Screen" "lattice" "LHalftoneScreens$Lattice;") lk_X3_property_f12) (fun _ h9 => h9) rfl dX3_property_104 ?_
    refine lv_iload_n hx hb dX3_property_107 rfl (lv_at hl 1 rfl) ?_
    refine lv_iconst (v := 4) hx hb dX3_property_108 (by decide) ?_
    refine lv_isub hx hb dX3_property_109 ?_
    obtain ⟨r12_0, g12, h⟩ := bnd1_e h
    refine roVi1 (rest := []) (As := [.int (a0 - 4)]) S (ctX2_property l G v_q1 v_w v_s v_h (a0 - 4) r12_0 g12) (cwV 1 hts gX3_property_X2_property rfl rfl rfl hvX2_property ⟨Nat.le_of_ble_eq_true rfl, Nat.le_of_ble_eq_true rfl⟩) hK hP [1] rfl 1 2 rfl rfl rfl rfl hl.1 rfl (Nat.le_of_ble_eq_true rfl) dX3_property_110 ⟨Nat.le_refl _, Nat.le_refl _⟩ (fun _ => ?_)
    exact hret _ _ _ ⟨smi h, trivial⟩ rfl dX3_property_113
  replace h := ite_f c11 h
  by_cases c13 : a0 = 8
  · replace h := ite_t c13 h
    refine lv_tableIn (off := 79) (tgt := 80) hx hb dX3_property_1 (by rw [c13]; decide) (by rw [c13]; decide) (by rw [c13]; decide) (by decide) ?_
    refine lv_aload_n hx hb dX3_property_80 rfl (lv_at hl 0 rfl) ?_
    refine va_get (D := G.1) (ci := 3) (v := .int v_spot) (C := RX3) (T := TX3) (N := 15) hx hb hts fw_X3_property_X3 hown hK.1 hP 0 rfl rfl 12 (by decide) (hts (.fieldLink RX3 50 "HalftoneScreens$Screen" "spot" "I") lk_X3_property_f50) (fun _ h9 => h9) rfl dX3_property_81 ?_
    exact hret _ _ _ ⟨smi h, trivial⟩ rfl dX3_property_84
  replace h := ite_f c13 h
  by_cases c14 : a0 = 9
  · replace h := ite_t c14 h
    refine lv_tableIn (off := 84) (tgt := 85) hx hb dX3_property_1 (by rw [c14]; decide) (by rw [c14]; decide) (by rw [c14]; decide) (by decide) ?_
    refine lv_aload_n hx hb dX3_property_85 rfl (lv_at hl 0 rfl) ?_
    refine va_get (D := G.1) (ci := 3) (v := .int v_middle) (C := RX3) (T := TX3) (N := 15) hx hb hts fw_X3_property_X3 hown hK.1 hP 0 rfl rfl 13 (by decide) (hts (.fieldLink RX3 53 "HalftoneScreens$Screen" "middle" "Z") lk_X3_property_f53) (fun _ h9 => h9) rfl dX3_property_86 ?_
    refine lv_if_eq (tgt := 96) hx hb dX3_property_89 (by decide) (fun c15 => ?_) (fun c15 => ?_)
    · replace h := ite_t c15 h
      refine lv_iconst (v := 0) hx hb dX3_property_96 (by decide) ?_
      exact hret _ _ _ ⟨smi h, trivial⟩ rfl dX3_property_97
    · replace h := ite_f c15 h
      refine lv_iconst (v := 1) hx hb dX3_property_92 (by decide) ?_
      refine lv_goto (tgt := 97) hx hb dX3_property_93 (by decide) ?_
      exact hret _ _ _ ⟨smi h, trivial⟩ rfl dX3_property_97
  replace h := ite_f c14 h
  by_cases c16 : a0 = 10
  · replace h := ite_t c16 h
    refine lv_tableIn (off := 97) (tgt := 98) hx hb dX3_property_1 (by rw [c16]; decide) (by rw [c16]; decide) (by rw [c16]; decide) (by decide) ?_
    refine lv_aload_n hx hb dX3_property_98 rfl (lv_at hl 0 rfl) ?_
    refine va_get (D := G.1) (ci := 3) (v := .int v_tint) (C := RX3) (T := TX3) (N := 15) hx hb hts fw_X3_property_X3 hown hK.1 hP 0 rfl rfl 14 (by decide) (hts (.fieldLink RX3 57 "HalftoneScreens$Screen" "tint" "I") lk_X3_property_f57) (fun _ h9 => h9) rfl dX3_property_99 ?_
    exact hret _ _ _ ⟨smi h, trivial⟩ rfl dX3_property_102
  replace h := ite_f c16 h
  refine lv_tableOut (tgt := 103) hx hb dX3_property_1 (by have n1 := lv_neT (a := 0) c1 rfl; have n2 := lv_neT (a := 1) c2 rfl; have n3 := lv_neT (a := 2) c3 rfl; have n4 := lv_neT (a := 3) c4 rfl; have n5 := lv_neT (a := 4) c5 rfl; have n7 := lv_neT (a := 5) c7 rfl; have n9 := lv_neT (a := 6) c9 rfl; have n11 := lv_neT (a := 7) c11 rfl; have n13 := lv_neT (a := 8) c13 rfl; have n14 := lv_neT (a := 9) c14 rfl; have n16 := lv_neT (a := 10) c16 rfl; omega) (by decide) ?_
  refine lv_aload_n hx hb dX3_property_103 rfl (lv_at hl 0 rfl) ?_
  refine va_get (D := G.1) (ci := 3) (v := .ref v_q1) (C := RX3) (T := TX3) (N := 15) hx hb hts fw_X3_property_X3 hown hK.1 hP 0 rfl rfl 0 (by decide) (hts (.fieldLink RX3 12 "HalftoneScreens$Screen" "lattice" "LHalftoneScreens$Lattice;") lk_X3_property_f12) (fun _ h9 => h9) rfl dX3_property_104 ?_
  refine lv_iload_n hx hb dX3_property_107 rfl (lv_at hl 1 rfl) ?_
  refine lv_iconst (v := 4) hx hb dX3_property_108 (by decide) ?_
  refine lv_isub hx hb dX3_property_109 ?_
  obtain ⟨r17_0, g17, h⟩ := bnd1_e h
  refine roVi1 (rest := []) (As := [.int (a0 - 4)]) S (ctX2_property l G v_q1 v_w v_s v_h (a0 - 4) r17_0 g17) (cwV 1 hts gX3_property_X2_property rfl rfl rfl hvX2_property ⟨Nat.le_of_ble_eq_true rfl, Nat.le_of_ble_eq_true rfl⟩) hK hP [1] rfl 1 2 rfl rfl rfl rfl hl.1 rfl (Nat.le_of_ble_eq_true rfl) dX3_property_110 ⟨Nat.le_refl _, Nat.le_refl _⟩ (fun _ => ?_)
  exact hret _ _ _ ⟨smi h, trivial⟩ rfl dX3_property_113
theorem fw_X3_hasPlace_X3 : ∀ w ∈ wsX30, w ∈ wsX3_hasPlace := fun w h => List.mem_cons_of_mem _ (List.mem_append_left _ (List.mem_append_right _ h))
theorem lk_X3_hasPlace_f60 : Cond.fieldLink RX3 60 "HalftoneScreens$Screen" "present" "Z" ∈ wsX3_hasPlace := List.mem_of_getElem? (i := 1) rfl
theorem hsX3_area : yX3_area.cls ≠ "java/lang/invoke/MethodHandle" ∧ yX3_area.cls ≠ "java/lang/invoke/VarHandle" ∧ (parseMethodDescriptor yX3_area.desc).map (fun d => d.parameters.length) = some 0 := by decide +kernel
theorem hvX3_area : yX3_area.cls = RX3 ∧ yX3_area.cls ≠ "java/lang/invoke/MethodHandle" ∧ yX3_area.cls ≠ "java/lang/invoke/VarHandle" ∧ (parseMethodDescriptor yX3_area.desc).map (fun d => d.parameters.length) = some 0 := ⟨rfl, hsX3_area⟩
abbrev rmX3_hasPlace : Room := { frames := 2, cells := 0, slots := 0, locals := 40 }
set_option maxHeartbeats 4000000 in
set_option maxRecDepth 100000 in
theorem ctX3_hasPlace (l : Launch) (G : GG) (v_q0 : Nat) (v_q1 : Nat) (v_q2 : Nat) (v_q3 : Nat) (v_q4 : Nat) (v_q5 : Nat) (v_q6 : Nat) (v_q7 : Nat) (v_present : Int32) (v_a : Int32) (v_b : Int32) (v_c : Int32) (v_d : Int32) (v_spot : Int32) (v_middle : Int32) (v_tint : Int32) (v_w : Int32) (v_s : Int32) (v_h : Int32) (v_valuesA : (Nat → Int32)) (v_otherValuesA : (Nat → Int32)) (v_ranksA : (Nat → Int32)) (v_oldRanksA : (Nat → Int32)) (v_orderA : (Nat → Int32)) (v_neighborsA : (Nat → Int32)) (a0 : Int32) (o0 : Int32) (h : mX3_hasPlace v_present v_w v_h a0 = some (o0))  : Met l yX3_hasPlace wsX3_hasPlace rmX3_hasPlace (va_Pc [.ref v_q0, .int a0] (PreW G (wdX3 G v_q0 v_q1 v_q2 v_q3 v_q4 v_q5 v_q6 v_q7 v_present v_a v_b v_c v_d v_spot v_middle v_tint v_w v_s v_h v_valuesA v_otherValuesA v_ranksA v_oldRanksA v_orderA v_neighborsA))) (vp_Si (fun r => r = o0 ∧ isZ o0)) 0 0 (fun _ => False) := by
  refine of_ri (cc := cX3_hasPlace) (maxL := 2) (ty := .boolean) (plainFor_of_name (by decide)) rfl (Nat.le_of_ble_eq_true rfl) ?_
  intro p e s m args below meth c ls Q S hl hP hK hret
  have S : CallFix p m c cX3_hasPlace 2 s args wsX3_hasPlace RX3 := S
  obtain ⟨hx, hb, hml, hown, hts⟩ := id S
  have hl : lv_has ls 2 [(0, .ref v_q0), (1, .int a0)] := hl
  unfold mX3_hasPlace at h
  refine lv_aload_n hx hb dX3_hasPlace_0 rfl (lv_at hl 0 rfl) ?_
  refine va_get (D := G.1) (ci := 3) (v := .int v_present) (C := RX3) (T := TX3) (N := 15) hx hb hts fw_X3_hasPlace_X3 hown hK.1 hP 0 rfl rfl 7 (by decide) (hts (.fieldLink RX3 60 "HalftoneScreens$Screen" "present" "Z") lk_X3_hasPlace_f60) (fun _ h9 => h9) rfl dX3_hasPlace_1 ?_
  refine lv_if_eq (tgt := 23) hx hb dX3_hasPlace_4 (by decide) (fun c1 => ?_) (fun c1 => ?_)
  · replace h := ite_t c1 h
    refine lv_iconst (v := 0) hx hb dX3_hasPlace_23 (by decide) ?_
    exact hret _ _ _ ⟨smi h, isZ.to isZ0 (smi h)⟩ (isZ.nar isZ0) dX3_hasPlace_24
  · replace h := ite_f c1 h
    refine lv_iload_n hx hb dX3_hasPlace_7 rfl (lv_at hl 1 rfl) ?_
    refine lv_if_lt (tgt := 23) hx hb dX3_hasPlace_8 (by decide) (fun c2 => ?_) (fun c2 => ?_)
    · replace h := ite_t c2 h
      refine lv_iconst (v := 0) hx hb dX3_hasPlace_23 (by decide) ?_
      exact hret _ _ _ ⟨smi h, isZ.to isZ0 (smi h)⟩ (isZ.nar isZ0) dX3_hasPlace_24
    · replace h := ite_f c2 h
      refine lv_iload_n hx hb dX3_hasPlace_11 rfl (lv_at hl 1 rfl) ?_
      refine lv_aload_n hx hb dX3_hasPlace_12 rfl (lv_at hl 0 rfl) ?_
      obtain ⟨r3_0, g3, h⟩ := bnd1_e h
      refine roVi1 (rest := [.int a0]) (As := []) S (ctX3_area l G v_q0 v_q1 v_q2 v_q3 v_q4 v_q5 v_q6 v_q7 v_present v_a v_b v_c v_d v_spot v_middle v_tint v_w v_s v_h v_valuesA v_otherValuesA v_ranksA v_oldRanksA v_orderA v_neighborsA r3_0 g3) (cwV 0 hts gX3_hasPlace_X3_area rfl rfl rfl hvX3_area ⟨Nat.le_of_ble_eq_true rfl, Nat.le_of_ble_eq_true rfl⟩) hK hP [0, 1, 2, 3, 4, 5, 6, 7] rfl 0 3 rfl rfl rfl rfl hl.1 rfl (Nat.le_of_ble_eq_true rfl) dX3_hasPlace_13 ⟨Nat.le_refl _, Nat.le_refl _⟩ (fun _ => ?_)
      refine lv_icmp_ge (tgt := 23) hx hb dX3_hasPlace_16 (by decide) (fun c4 => ?_) (fun c4 => ?_)
      · replace h := ite_t c4 h
        refine lv_iconst (v := 0) hx hb dX3_hasPlace_23 (by decide) ?_
        exact hret _ _ _ ⟨smi h, isZ.to isZ0 (smi h)⟩ (isZ.nar isZ0) dX3_hasPlace_24
      · replace h := ite_f c4 h
        refine lv_iconst (v := 1) hx hb dX3_hasPlace_19 (by decide) ?_
        refine lv_goto (tgt := 24) hx hb dX3_hasPlace_20 (by decide) ?_
        exact hret _ _ _ ⟨smi h, isZ.to isZ1 (smi h)⟩ (isZ.nar isZ1) dX3_hasPlace_24
theorem fw_X3_inksPlace_X3 : ∀ w ∈ wsX30, w ∈ wsX3_inksPlace := fun w h => List.mem_cons_of_mem _ (List.mem_append_right _ h)
theorem lk_X3_inksPlace_f25 : Cond.fieldLink RX3 25 "HalftoneScreens$Screen" "ranks" "[I" ∈ wsX3_inksPlace := List.mem_of_getElem? (i := 1) rfl
theorem lk_X3_inksPlace_iX4 : Cond.initialized RX4 ∈ wsX3_inksPlace := List.mem_of_getElem? (i := 3) rfl
theorem lk_X3_inksPlace_s_at : Cond.static yX4_at ∈ wsX3_inksPlace := List.mem_of_getElem? (i := 2) rfl
theorem hsX4_at : yX4_at.cls ≠ "java/lang/invoke/MethodHandle" ∧ yX4_at.cls ≠ "java/lang/invoke/VarHandle" ∧ (parseMethodDescriptor yX4_at.desc).map (fun d => d.parameters.length) = some 2 := by decide +kernel
theorem hvX4_at : yX4_at.cls = RX4 ∧ yX4_at.cls ≠ "java/lang/invoke/MethodHandle" ∧ yX4_at.cls ≠ "java/lang/invoke/VarHandle" ∧ (parseMethodDescriptor yX4_at.desc).map (fun d => d.parameters.length) = some 2 := ⟨rfl, hsX4_at⟩
abbrev rmX3_inksPlace : Room := { frames := 1, cells := 0, slots := 0, locals := 21 }
set_option maxHeartbeats 4000000 in
set_option maxRecDepth 100000 in
theorem ctX3_inksPlace (l : Launch) (G : GG) (v_q0 : Nat) (v_q1 : Nat) (v_q2 : Nat) (v_q3 : Nat) (v_q4 : Nat) (v_q5 : Nat) (v_q6 : Nat) (v_q7 : Nat) (v_present : Int32) (v_a : Int32) (v_b : Int32) (v_c : Int32) (v_d : Int32) (v_spot : Int32) (v_middle : Int32) (v_tint : Int32) (v_w : Int32) (v_s : Int32) (v_h : Int32) (v_valuesA : (Nat → Int32)) (v_otherValuesA : (Nat → Int32)) (v_ranksA : (Nat → Int32)) (v_oldRanksA : (Nat → Int32)) (v_orderA : (Nat → Int32)) (v_neighborsA : (Nat → Int32)) (a0 : Int32) (a1 : Int32) (o0 : Int32) (h : mX3_inksPlace v_ranksA a0 a1 = some (o0))  : Met l yX3_inksPlace wsX3_inksPlace rmX3_inksPlace (va_Pc [.ref v_q0, .int a0, .int a1] (PreW G (wdX3 G v_q0 v_q1 v_q2 v_q3 v_q4 v_q5 v_q6 v_q7 v_present v_a v_b v_c v_d v_spot v_middle v_tint v_w v_s v_h v_valuesA v_otherValuesA v_ranksA v_oldRanksA v_orderA v_neighborsA))) (vp_Si (fun r => r = o0 ∧ isZ o0)) 0 0 (fun _ => False) := by
  refine of_ri (cc := cX3_inksPlace) (maxL := 3) (ty := .boolean) (plainFor_of_name (by decide)) rfl (Nat.le_of_ble_eq_true rfl) ?_
  intro p e s m args below meth c ls Q S hl hP hK hret
  have S : CallFix p m c cX3_inksPlace 3 s args wsX3_inksPlace RX3 := S
  obtain ⟨hx, hb, hml, hown, hts⟩ := id S
  have hl : lv_has ls 3 [(0, .ref v_q0), (1, .int a0), (2, .int a1)] := hl
  unfold mX3_inksPlace at h
  refine lv_aload_n hx hb dX3_inksPlace_0 rfl (lv_at hl 0 rfl) ?_
  refine va_get (D := G.1) (ci := 3) (v := .ref v_q4) (C := RX3) (T := TX3) (N := 15) hx hb hts fw_X3_inksPlace_X3 hown hK.1 hP 0 rfl rfl 3 (by decide) (hts (.fieldLink RX3 25 "HalftoneScreens$Screen" "ranks" "[I") lk_X3_inksPlace_f25) (fun _ h9 => h9) rfl dX3_inksPlace_1 ?_
  refine lv_iload_n hx hb dX3_inksPlace_4 rfl (lv_at hl 1 rfl) ?_
  obtain ⟨r1_0, g1, h⟩ := bnd1_e h
  refine roNi1 (rest := []) (As := [.ref v_q4, .int a0]) S (ctX4_at l G v_q4 64 v_ranksA a0 r1_0 g1) ⟨va_cnB 2 hts gX3_inksPlace_X4_at_n80 rfl rfl rfl (hK.2.1 _ (List.mem_of_getElem? (i := 8) rfl)) (hts (.initialized RX4) lk_X3_inksPlace_iX4) hsX4_at ⟨Nat.le_of_ble_eq_true rfl, Nat.le_of_ble_eq_true rfl⟩, (hts (.static yX4_at) lk_X3_inksPlace_s_at), trivial⟩ hK hP [4] rfl rfl hl.1 rfl (Nat.le_of_ble_eq_true rfl) dX3_inksPlace_5 ⟨Nat.le_refl _, Nat.le_refl _⟩ (fun _ => ?_)
  refine lv_iload_n hx hb dX3_inksPlace_8 rfl (lv_at hl 2 rfl) ?_
  refine lv_icmp_ge (tgt := 16) hx hb dX3_inksPlace_9 (by decide) (fun c2 => ?_) (fun c2 => ?_)
  · replace h := ite_t c2 h
    refine lv_iconst (v := 0) hx hb dX3_inksPlace_16 (by decide) ?_
    exact hret _ _ _ ⟨smi h, isZ.to isZ0 (smi h)⟩ (isZ.nar isZ0) dX3_inksPlace_17
  · replace h := ite_f c2 h
    refine lv_iconst (v := 1) hx hb dX3_inksPlace_12 (by decide) ?_
    refine lv_goto (tgt := 17) hx hb dX3_inksPlace_13 (by decide) ?_
    exact hret _ _ _ ⟨smi h, isZ.to isZ1 (smi h)⟩ (isZ.nar isZ1) dX3_inksPlace_17
theorem fw_X3_inks_X3 : ∀ w ∈ wsX30, w ∈ wsX3_inks := fun w h => List.mem_cons_of_mem _ (List.mem_append_left _ (List.mem_append_right _ h))
theorem lk_X3_inks_f12 : Cond.fieldLink RX3 12 "HalftoneScreens$Screen" "lattice" "LHalftoneScreens$Lattice;" ∈ wsX3_inks := List.mem_of_getElem? (i := 1) rfl
theorem lk_X3_inks_f57 : Cond.fieldLink RX3 57 "HalftoneScreens$Screen" "tint" "I" ∈ wsX3_inks := List.mem_of_getElem? (i := 2) rfl
theorem hsX2_numberOf : yX2_numberOf.cls ≠ "java/lang/invoke/MethodHandle" ∧ yX2_numberOf.cls ≠ "java/lang/invoke/VarHandle" ∧ (parseMethodDescriptor yX2_numberOf.desc).map (fun d => d.parameters.length) = some 2 := by decide +kernel
theorem hvX2_numberOf : yX2_numberOf.cls = RX2 ∧ yX2_numberOf.cls ≠ "java/lang/invoke/MethodHandle" ∧ yX2_numberOf.cls ≠ "java/lang/invoke/VarHandle" ∧ (parseMethodDescriptor yX2_numberOf.desc).map (fun d => d.parameters.length) = some 2 := ⟨rfl, hsX2_numberOf⟩
theorem hsX3_inksPlace : yX3_inksPlace.cls ≠ "java/lang/invoke/MethodHandle" ∧ yX3_inksPlace.cls ≠ "java/lang/invoke/VarHandle" ∧ (parseMethodDescriptor yX3_inksPlace.desc).map (fun d => d.parameters.length) = some 2 := by decide +kernel
theorem hvX3_inksPlace : yX3_inksPlace.cls = RX3 ∧ yX3_inksPlace.cls ≠ "java/lang/invoke/MethodHandle" ∧ yX3_inksPlace.cls ≠ "java/lang/invoke/VarHandle" ∧ (parseMethodDescriptor yX3_inksPlace.desc).map (fun d => d.parameters.length) = some 2 := ⟨rfl, hsX3_inksPlace⟩
abbrev rmX3_inks : Room := { frames := 3, cells := 0, slots := 0, locals := 66 }
set_option maxHeartbeats 4000000 in
set_option maxRecDepth 100000 in
theorem ctX3_inks (l : Launch) (G : GG) (v_q0 : Nat) (v_q1 : Nat) (v_q2 : Nat) (v_q3 : Nat) (v_q4 : Nat) (v_q5 : Nat) (v_q6 : Nat) (v_q7 : Nat) (v_present : Int32) (v_a : Int32) (v_b : Int32) (v_c : Int32) (v_d : Int32) (v_spot : Int32) (v_middle : Int32) (v_tint : Int32) (v_w : Int32) (v_s : Int32) (v_h : Int32) (v_valuesA : (Nat → Int32)) (v_otherValuesA : (Nat → Int32)) (v_ranksA : (Nat → Int32)) (v_oldRanksA : (Nat → Int32)) (v_orderA : (Nat → Int32)) (v_neighborsA : (Nat → Int32)) (a0 : Int32) (a1 : Int32) (o0 : Int32) (h : mX3_inks v_tint v_w v_s v_h v_ranksA a0 a1 = some (o0))  : Met l yX3_inks wsX3_inks rmX3_inks (va_Pc [.ref v_q0, .int a0, .int a1] (PreW G (wdX3 G v_q0 v_q1 v_q2 v_q3 v_q4 v_q5 v_q6 v_q7 v_present v_a v_b v_c v_d v_spot v_middle v_tint v_w v_s v_h v_valuesA v_otherValuesA v_ranksA v_oldRanksA v_orderA v_neighborsA))) (vp_Si (fun r => r = o0 ∧ isZ o0)) 0 0 (fun _ => False) := by
  refine of_ri (cc := cX3_inks) (maxL := 3) (ty := .boolean) (plainFor_of_name (by decide)) rfl (Nat.le_of_ble_eq_true rfl) ?_
  intro p e s m args below meth c ls Q S hl hP hK hret
  have S : CallFix p m c cX3_inks 3 s args wsX3_inks RX3 := S
  obtain ⟨hx, hb, hml, hown, hts⟩ := id S
  have hl : lv_has ls 3 [(0, .ref v_q0), (1, .int a0), (2, .int a1)] := hl
  unfold mX3_inks at h
  refine lv_aload_n hx hb dX3_inks_0 rfl (lv_at hl 0 rfl) ?_
  refine lv_aload_n hx hb dX3_inks_1 rfl (lv_at hl 0 rfl) ?_
  refine va_get (D := G.1) (ci := 3) (v := .ref v_q1) (C := RX3) (T := TX3) (N := 15) hx hb hts fw_X3_inks_X3 hown hK.1 hP 0 rfl rfl 0 (by decide) (hts (.fieldLink RX3 12 "HalftoneScreens$Screen" "lattice" "LHalftoneScreens$Lattice;") lk_X3_inks_f12) (fun _ h9 => h9) rfl dX3_inks_2 ?_
  refine lv_iload_n hx hb dX3_inks_5 rfl (lv_at hl 1 rfl) ?_
  refine lv_iload_n hx hb dX3_inks_6 rfl (lv_at hl 2 rfl) ?_
  obtain ⟨r1_0, g1, h⟩ := bnd1_e h
  refine roVi1 (rest := [.ref v_q0]) (As := [.int a0, .int a1]) S (ctX2_numberOf l G v_q1 v_w v_s v_h a0 a1 r1_0 g1) (cwV 2 hts gX3_inks_X2_numberOf rfl rfl rfl hvX2_numberOf ⟨Nat.le_of_ble_eq_true rfl, Nat.le_of_ble_eq_true rfl⟩) hK hP [1] rfl 1 2 rfl rfl rfl rfl hl.1 rfl (Nat.le_of_ble_eq_true rfl) dX3_inks_7 ⟨Nat.le_refl _, Nat.le_refl _⟩ (fun _ => ?_)
  refine lv_aload_n hx hb dX3_inks_10 rfl (lv_at hl 0 rfl) ?_
  refine va_get (D := G.1) (ci := 3) (v := .int v_tint) (C := RX3) (T := TX3) (N := 15) hx hb hts fw_X3_inks_X3 hown hK.1 hP 0 rfl rfl 14 (by decide) (hts (.fieldLink RX3 57 "HalftoneScreens$Screen" "tint" "I") lk_X3_inks_f57) (fun _ h9 => h9) rfl dX3_inks_11 ?_
  obtain ⟨r2_0, g2, h⟩ := bnd1_e h
  refine roVi1 (rest := []) (As := [.int r1_0, .int v_tint]) S (ctX3_inksPlace l G v_q0 v_q1 v_q2 v_q3 v_q4 v_q5 v_q6 v_q7 v_present v_a v_b v_c v_d v_spot v_middle v_tint v_w v_s v_h v_valuesA v_otherValuesA v_ranksA v_oldRanksA v_orderA v_neighborsA r1_0 v_tint r2_0 g2) (cwV 2 hts gX3_inks_X3_inksPlace rfl rfl rfl hvX3_inksPlace ⟨Nat.le_of_ble_eq_true rfl, Nat.le_of_ble_eq_true rfl⟩) hK hP [0, 1, 2, 3, 4, 5, 6, 7] rfl 0 3 rfl rfl rfl rfl hl.1 rfl (Nat.le_of_ble_eq_true rfl) dX3_inks_14 ⟨Nat.le_refl _, Nat.le_refl _⟩ (fun hz2 => ?_)
  exact hret _ _ _ ⟨smi h, isZ.to hz2 (smi h)⟩ (isZ.nar hz2) dX3_inks_17
theorem fw_X3_neighbor_X3 : ∀ w ∈ wsX30, w ∈ wsX3_neighbor := fun w h => List.mem_cons_of_mem _ (List.mem_append_right _ h)
theorem lk_X3_neighbor_f34 : Cond.fieldLink RX3 34 "HalftoneScreens$Screen" "neighbors" "[I" ∈ wsX3_neighbor := List.mem_of_getElem? (i := 1) rfl
theorem lk_X3_neighbor_iX4 : Cond.initialized RX4 ∈ wsX3_neighbor := List.mem_of_getElem? (i := 3) rfl
theorem lk_X3_neighbor_s_at : Cond.static yX4_at ∈ wsX3_neighbor := List.mem_of_getElem? (i := 2) rfl
abbrev rmX3_neighbor : Room := { frames := 1, cells := 0, slots := 0, locals := 21 }
set_option maxHeartbeats 4000000 in
set_option maxRecDepth 100000 in
theorem ctX3_neighbor (l : Launch) (G : GG) (v_q0 : Nat) (v_q1 : Nat) (v_q2 : Nat) (v_q3 : Nat) (v_q4 : Nat) (v_q5 : Nat) (v_q6 : Nat) (v_q7 : Nat) (v_present : Int32) (v_a : Int32) (v_b : Int32) (v_c : Int32) (v_d : Int32) (v_spot : Int32) (v_middle : Int32) (v_tint : Int32) (v_w : Int32) (v_s : Int32) (v_h : Int32) (v_valuesA : (Nat → Int32)) (v_otherValuesA : (Nat → Int32)) (v_ranksA : (Nat → Int32)) (v_oldRanksA : (Nat → Int32)) (v_orderA : (Nat → Int32)) (v_neighborsA : (Nat → Int32)) (a0 : Int32) (a1 : Int32) (o0 : Int32) (h : mX3_neighbor v_neighborsA a0 a1 = some (o0))  : Met l yX3_neighbor wsX3_neighbor rmX3_neighbor (va_Pc [.ref v_q0, .int a0, .int a1] (PreW G (wdX3 G v_q0 v_q1 v_q2 v_q3 v_q4 v_q5 v_q6 v_q7 v_present v_a v_b v_c v_d v_spot v_middle v_tint v_w v_s v_h v_valuesA v_otherValuesA v_ranksA v_oldRanksA v_orderA v_neighborsA))) (vp_Si (fun r => r = o0 ∧ True)) 0 0 (fun _ => False) := by
  refine of_ri (cc := cX3_neighbor) (maxL := 3) (ty := .int) (plainFor_of_name (by decide)) rfl (Nat.le_of_ble_eq_true rfl) ?_
  intro p e s m args below meth c ls Q S hl hP hK hret
  have S : CallFix p m c cX3_neighbor 3 s args wsX3_neighbor RX3 := S
  obtain ⟨hx, hb, hml, hown, hts⟩ := id S
  have hl : lv_has ls 3 [(0, .ref v_q0), (1, .int a0), (2, .int a1)] := hl
  unfold mX3_neighbor at h
  refine lv_aload_n hx hb dX3_neighbor_0 rfl (lv_at hl 0 rfl) ?_
  refine va_get (D := G.1) (ci := 3) (v := .ref v_q7) (C := RX3) (T := TX3) (N := 15) hx hb hts fw_X3_neighbor_X3 hown hK.1 hP 0 rfl rfl 6 (by decide) (hts (.fieldLink RX3 34 "HalftoneScreens$Screen" "neighbors" "[I") lk_X3_neighbor_f34) (fun _ h9 => h9) rfl dX3_neighbor_1 ?_
  refine lv_iconst (v := 4) hx hb dX3_neighbor_4 (by decide) ?_
  refine lv_iload_n hx hb dX3_neighbor_5 rfl (lv_at hl 1 rfl) ?_
  refine lv_imul hx hb dX3_neighbor_6 ?_
  refine lv_iload_n hx hb dX3_neighbor_7 rfl (lv_at hl 2 rfl) ?_
  refine lv_iadd hx hb dX3_neighbor_8 ?_
  obtain ⟨r1_0, g1, h⟩ := bnd1_e h
  refine roNi1 (rest := []) (As := [.ref v_q7, .int ((4 * a0) + a1)]) S (ctX4_at l G v_q7 256 v_neighborsA ((4 * a0) + a1) r1_0 g1) ⟨va_cnB 2 hts gX3_neighbor_X4_at_n80 rfl rfl rfl (hK.2.1 _ (List.mem_of_getElem? (i := 8) rfl)) (hts (.initialized RX4) lk_X3_neighbor_iX4) hsX4_at ⟨Nat.le_of_ble_eq_true rfl, Nat.le_of_ble_eq_true rfl⟩, (hts (.static yX4_at) lk_X3_neighbor_s_at), trivial⟩ hK hP [7] rfl rfl hl.1 rfl (Nat.le_of_ble_eq_true rfl) dX3_neighbor_9 ⟨Nat.le_refl _, Nat.le_refl _⟩ (fun _ => ?_)
  exact hret _ _ _ ⟨smi h, trivial⟩ rfl dX3_neighbor_12
theorem fw_X3_isBefore_X3 : ∀ w ∈ wsX30, w ∈ wsX3_isBefore := fun w h => List.mem_cons_of_mem _ (List.mem_append_right _ h)
theorem lk_X3_isBefore_f18 : Cond.fieldLink RX3 18 "HalftoneScreens$Screen" "values" "[I" ∈ wsX3_isBefore := List.mem_of_getElem? (i := 1) rfl
theorem lk_X3_isBefore_iX4 : Cond.initialized RX4 ∈ wsX3_isBefore := List.mem_of_getElem? (i := 3) rfl
theorem lk_X3_isBefore_s_at : Cond.static yX4_at ∈ wsX3_isBefore := List.mem_of_getElem? (i := 2) rfl
abbrev rmX3_isBefore : Room := { frames := 1, cells := 0, slots := 0, locals := 21 }
set_option maxHeartbeats 4000000 in
set_option maxRecDepth 100000 in
theorem ctX3_isBefore (l : Launch) (G : GG) (v_q0 : Nat) (v_q1 : Nat) (v_q2 : Nat) (v_q3 : Nat) (v_q4 : Nat) (v_q5 : Nat) (v_q6 : Nat) (v_q7 : Nat) (v_present : Int32) (v_a : Int32) (v_b : Int32) (v_c : Int32) (v_d : Int32) (v_spot : Int32) (v_middle : Int32) (v_tint : Int32) (v_w : Int32) (v_s : Int32) (v_h : Int32) (v_valuesA : (Nat → Int32)) (v_otherValuesA : (Nat → Int32)) (v_ranksA : (Nat → Int32)) (v_oldRanksA : (Nat → Int32)) (v_orderA : (Nat → Int32)) (v_neighborsA : (Nat → Int32)) (a0 : Int32) (a1 : Int32) (o0 : Int32) (h : mX3_isBefore v_valuesA a0 a1 = some (o0))  : Met l yX3_isBefore wsX3_isBefore rmX3_isBefore (va_Pc [.ref v_q0, .int a0, .int a1] (PreW G (wdX3 G v_q0 v_q1 v_q2 v_q3 v_q4 v_q5 v_q6 v_q7 v_present v_a v_b v_c v_d v_spot v_middle v_tint v_w v_s v_h v_valuesA v_otherValuesA v_ranksA v_oldRanksA v_orderA v_neighborsA))) (vp_Si (fun r => r = o0 ∧ isZ o0)) 0 0 (fun _ => False) := by
  refine of_ri (cc := cX3_isBefore) (maxL := 5) (ty := .boolean) (plainFor_of_name (by decide)) rfl (Nat.le_of_ble_eq_true rfl) ?_
  intro p e s m args below meth c ls Q S hl hP hK hret
  have S : CallFix p m c cX3_isBefore 5 s args wsX3_isBefore RX3 := S
  obtain ⟨hx, hb, hml, hown, hts⟩ := id S
  have hl : lv_has ls 5 [(0, .ref v_q0), (1, .int a0), (2, .int a1)] := hl
  unfold mX3_isBefore at h
  refine lv_aload_n hx hb dX3_isBefore_0 rfl (lv_at hl 0 rfl) ?_
  refine va_get (D := G.1) (ci := 3) (v := .ref v_q2) (C := RX3) (T := TX3) (N := 15) hx hb hts fw_X3_isBefore_X3 hown hK.1 hP 0 rfl rfl 1 (by decide) (hts (.fieldLink RX3 18 "HalftoneScreens$Screen" "values" "[I") lk_X3_isBefore_f18) (fun _ h9 => h9) rfl dX3_isBefore_1 ?_
  refine lv_iload_n hx hb dX3_isBefore_4 rfl (lv_at hl 1 rfl) ?_
  obtain ⟨r1_0, g1, h⟩ := bnd1_e h
  refine roNi1 (rest := []) (As := [.ref v_q2, .int a0]) S (ctX4_at l G v_q2 64 v_valuesA a0 r1_0 g1) ⟨va_cnB 2 hts gX3_isBefore_X4_at_n80 rfl rfl rfl (hK.2.1 _ (List.mem_of_getElem? (i := 8) rfl)) (hts (.initialized RX4) lk_X3_isBefore_iX4) hsX4_at ⟨Nat.le_of_ble_eq_true rfl, Nat.le_of_ble_eq_true rfl⟩, (hts (.static yX4_at) lk_X3_isBefore_s_at), trivial⟩ hK hP [2] rfl rfl hl.1 rfl (Nat.le_of_ble_eq_true rfl) dX3_isBefore_5 ⟨Nat.le_refl _, Nat.le_refl _⟩ (fun _ => ?_)
  refine lv_istore_n (lv' := [(3, .int r1_0), (0, .ref v_q0), (1, .int a0), (2, .int a1)]) hx hb dX3_isBefore_8 rfl hl (by decide) rfl (fun ls hl => ?_)
  refine lv_aload_n hx hb dX3_isBefore_9 rfl (lv_at hl 1 rfl) ?_
  refine va_get (D := G.1) (ci := 3) (v := .ref v_q2) (C := RX3) (T := TX3) (N := 15) hx hb hts fw_X3_isBefore_X3 hown hK.1 hP 0 rfl rfl 1 (by decide) (hts (.fieldLink RX3 18 "HalftoneScreens$Screen" "values" "[I") lk_X3_isBefore_f18) (fun _ h9 => h9) rfl dX3_isBefore_10 ?_
  refine lv_iload_n hx hb dX3_isBefore_13 rfl (lv_at hl 3 rfl) ?_
  obtain ⟨r2_0, g2, h⟩ := bnd1_e h
  refine roNi1 (rest := []) (As := [.ref v_q2, .int a1]) S (ctX4_at l G v_q2 64 v_valuesA a1 r2_0 g2) ⟨va_cnB 2 hts gX3_isBefore_X4_at_n80 rfl rfl rfl (hK.2.1 _ (List.mem_of_getElem? (i := 8) rfl)) (hts (.initialized RX4) lk_X3_isBefore_iX4) hsX4_at ⟨Nat.le_of_ble_eq_true rfl, Nat.le_of_ble_eq_true rfl⟩, (hts (.static yX4_at) lk_X3_isBefore_s_at), trivial⟩ hK hP [2] rfl rfl hl.1 rfl (Nat.le_of_ble_eq_true rfl) dX3_isBefore_14 ⟨Nat.le_refl _, Nat.le_refl _⟩ (fun _ => ?_)
  refine lv_istore (lv' := [(4, .int r2_0), (3, .int r1_0), (0, .ref v_q0), (1, .int a0), (2, .int a1)]) hx hb dX3_isBefore_17 hl (by decide) rfl (fun ls hl => ?_)
  refine lv_iload_n hx hb dX3_isBefore_19 rfl (lv_at hl 1 rfl) ?_
  refine lv_iload hx hb dX3_isBefore_20 (lv_at hl 0 rfl) ?_
  refine lv_icmp_lt (tgt := 36) hx hb dX3_isBefore_22 (by decide) (fun c3 => ?_) (fun c3 => ?_)
  · replace h := ite_t c3 h
    refine lv_iconst (v := 1) hx hb dX3_isBefore_36 (by decide) ?_
    refine lv_goto (tgt := 41) hx hb dX3_isBefore_37 (by decide) ?_
    exact hret _ _ _ ⟨smi h, isZ.to isZ1 (smi h)⟩ (isZ.nar isZ1) dX3_isBefore_41
  · replace h := ite_f c3 h
    refine lv_iload_n hx hb dX3_isBefore_25 rfl (lv_at hl 1 rfl) ?_
    refine lv_iload hx hb dX3_isBefore_26 (lv_at hl 0 rfl) ?_
    refine lv_icmp_ne (tgt := 40) hx hb dX3_isBefore_28 (by decide) (fun c4 => ?_) (fun c4 => ?_)
    · replace h := ite_f c4 h
      refine lv_iconst (v := 0) hx hb dX3_isBefore_40 (by decide) ?_
      exact hret _ _ _ ⟨smi h, isZ.to isZ0 (smi h)⟩ (isZ.nar isZ0) dX3_isBefore_41
    · replace h := ite_t c4 h
      refine lv_iload_n hx hb dX3_isBefore_31 rfl (lv_at hl 3 rfl) ?_
      refine lv_iload_n hx hb dX3_isBefore_32 rfl (lv_at hl 4 rfl) ?_
      refine lv_icmp_ge (tgt := 40) hx hb dX3_isBefore_33 (by decide) (fun c5 => ?_) (fun c5 => ?_)
      · replace h := ite_t c5 h
        refine lv_iconst (v := 0) hx hb dX3_isBefore_40 (by decide) ?_
        exact hret _ _ _ ⟨smi h, isZ.to isZ0 (smi h)⟩ (isZ.nar isZ0) dX3_isBefore_41
      · replace h := ite_f c5 h
        refine lv_iconst (v := 1) hx hb dX3_isBefore_36 (by decide) ?_
        refine lv_goto (tgt := 41) hx hb dX3_isBefore_37 (by decide) ?_
        exact hret _ _ _ ⟨smi h, isZ.to isZ1 (smi h)⟩ (isZ.nar isZ1) dX3_isBefore_41
theorem hsX3_neighbor : yX3_neighbor.cls ≠ "java/lang/invoke/MethodHandle" ∧ yX3_neighbor.cls ≠ "java/lang/invoke/VarHandle" ∧ (parseMethodDescriptor yX3_neighbor.desc).map (fun d => d.parameters.length) = some 2 := by decide +kernel
theorem hvX3_neighbor : yX3_neighbor.cls = RX3 ∧ yX3_neighbor.cls ≠ "java/lang/invoke/MethodHandle" ∧ yX3_neighbor.cls ≠ "java/lang/invoke/VarHandle" ∧ (parseMethodDescriptor yX3_neighbor.desc).map (fun d => d.parameters.length) = some 2 := ⟨rfl, hsX3_neighbor⟩
abbrev rmX3_inkedNeighbors : Room := { frames := 2, cells := 0, slots := 0, locals := 43 }
set_option maxHeartbeats 4000000 in
set_option maxRecDepth 100000 in
theorem ctX3_inkedNeighbors (l : Launch) (G : GG) (v_q0 : Nat) (v_q1 : Nat) (v_q2 : Nat) (v_q3 : Nat) (v_q4 : Nat) (v_q5 : Nat) (v_q6 : Nat) (v_q7 : Nat) (v_present : Int32) (v_a : Int32) (v_b : Int32) (v_c : Int32) (v_d : Int32) (v_spot : Int32) (v_middle : Int32) (v_tint : Int32) (v_w : Int32) (v_s : Int32) (v_h : Int32) (v_valuesA : (Nat → Int32)) (v_otherValuesA : (Nat → Int32)) (v_ranksA : (Nat → Int32)) (v_oldRanksA : (Nat → Int32)) (v_orderA : (Nat → Int32)) (v_neighborsA : (Nat → Int32)) (a0 : Int32) (a1 : Int32) (o0 : Int32) (h : mX3_inkedNeighbors v_ranksA v_neighborsA a0 a1 = some (o0))  : Met l yX3_inkedNeighbors wsX3_inkedNeighbors rmX3_inkedNeighbors (va_Pc [.ref v_q0, .int a0, .int a1] (PreW G (wdX3 G v_q0 v_q1 v_q2 v_q3 v_q4 v_q5 v_q6 v_q7 v_present v_a v_b v_c v_d v_spot v_middle v_tint v_w v_s v_h v_valuesA v_otherValuesA v_ranksA v_oldRanksA v_orderA v_neighborsA))) (vp_Si (fun r => r = o0 ∧ True)) 0 0 (fun _ => False) := by
  refine of_ri (cc := cX3_inkedNeighbors) (maxL := 5) (ty := .int) (plainFor_of_name (by decide)) rfl (Nat.le_of_ble_eq_true rfl) ?_
  intro p e s m args below meth c ls Q S hl hP hK hret
  have S : CallFix p m c cX3_inkedNeighbors 5 s args wsX3_inkedNeighbors RX3 := S
  obtain ⟨hx, hb, hml, hown, hts⟩ := id S
  have hl : lv_has ls 5 [(0, .ref v_q0), (1, .int a0), (2, .int a1)] := hl
  unfold mX3_inkedNeighbors at h
  refine lv_iconst (v := 0) hx hb dX3_inkedNeighbors_0 (by decide) ?_
  refine lv_istore_n (lv' := [(3, .int 0), (0, .ref v_q0), (1, .int a0), (2, .int a1)]) hx hb dX3_inkedNeighbors_1 rfl hl (by decide) rfl (fun ls hl => ?_)
  refine lv_iconst (v := 0) hx hb dX3_inkedNeighbors_2 (by decide) ?_
  refine lv_istore (lv' := [(4, .int 0), (3, .int 0), (0, .ref v_q0), (1, .int a0), (2, .int a1)]) hx hb dX3_inkedNeighbors_3 hl (by decide) rfl (fun ls hl => ?_)
  obtain ⟨u1_0, u1_1, g1, h⟩ := bnd2_e h
  have L1 : ∀ (fu : Nat) (v1_0 : Int32) (v1_1 : Int32) (u1_0 : Int32) (u1_1 : Int32) (ls : Array Slot), mX3_inkedNeighbors_L5 v_ranksA v_neighborsA a0 a1 fu v1_0 v1_1 = some (u1_0, u1_1) → lv_has ls 5 [(4, .int v1_0), (3, .int v1_1), (0, .ref v_q0), (1, .int a0), (2, .int a1)] → (∀ (ls : Array Slot), lv_has ls 5 [(4, .int u1_0), (3, .int u1_1), (0, .ref v_q0), (1, .int a0), (2, .int a1)] → W p l e rmX3_inkedNeighbors s m args below meth c s.heap [] 0 0 Q (F0 m 35 ls [])) → W p l e rmX3_inkedNeighbors s m args below meth c s.heap [] 0 0 Q (F0 m 5 ls []) := by
    intro fu
    induction fu with
    | zero => intro v1_0 v1_1 u1_0 u1_1 ls h; exact nomatch h
    | succ fu ih =>
      intro v1_0 v1_1 u1_0 u1_1 ls h hl kE
      rw [mX3_inkedNeighbors_L5] at h
      refine lv_iload hx hb dX3_inkedNeighbors_5 (lv_at hl 0 rfl) ?_
      refine lv_iconst (v := 4) hx hb dX3_inkedNeighbors_7 (by decide) ?_
      refine lv_icmp_ge (tgt := 35) hx hb dX3_inkedNeighbors_8 (by decide) (fun c2 => ?_) (fun c2 => ?_)
      · replace h := ite_t c2 h
        obtain ⟨rfl, rfl⟩ := sm2 h
        exact kE ls hl
      · replace h := ite_f c2 h
        refine lv_aload_n hx hb dX3_inkedNeighbors_11 rfl (lv_at hl 2 rfl) ?_
        refine lv_aload_n hx hb dX3_inkedNeighbors_12 rfl (lv_at hl 2 rfl) ?_
        refine lv_iload_n hx hb dX3_inkedNeighbors_13 rfl (lv_at hl 3 rfl) ?_
        refine lv_iload hx hb dX3_inkedNeighbors_14 (lv_at hl 0 rfl) ?_
        obtain ⟨r3_0, g3, h⟩ := bnd1_e h
        refine roVi1 (rest := [.ref v_q0]) (As := [.int a0, .int v1_0]) S (ctX3_neighbor l G v_q0 v_q1 v_q2 v_q3 v_q4 v_q5 v_q6 v_q7 v_present v_a v_b v_c v_d v_spot v_middle v_tint v_w v_s v_h v_valuesA v_otherValuesA v_ranksA v_oldRanksA v_orderA v_neighborsA a0 v1_0 r3_0 g3) (cwV 2 hts gX3_inkedNeighbors_X3_neighbor rfl rfl rfl hvX3_neighbor ⟨Nat.le_of_ble_eq_true rfl, Nat.le_of_ble_eq_true rfl⟩) hK hP [0, 1, 2, 3, 4, 5, 6, 7] rfl 0 3 rfl rfl rfl rfl hl.1 rfl (Nat.le_of_ble_eq_true rfl) dX3_inkedNeighbors_16 ⟨Nat.le_refl _, Nat.le_refl _⟩ (fun _ => ?_)
        refine lv_iload_n hx hb dX3_inkedNeighbors_19 rfl (lv_at hl 4 rfl) ?_
        obtain ⟨r4_0, g4, h⟩ := bnd1_e h
        refine roVi1 (rest := []) (As := [.int r3_0, .int a1]) S (ctX3_inksPlace l G v_q0 v_q1 v_q2 v_q3 v_q4 v_q5 v_q6 v_q7 v_present v_a v_b v_c v_d v_spot v_middle v_tint v_w v_s v_h v_valuesA v_otherValuesA v_ranksA v_oldRanksA v_orderA v_neighborsA r3_0 a1 r4_0 g4) (cwV 2 hts gX3_inkedNeighbors_X3_inksPlace rfl rfl rfl hvX3_inksPlace ⟨Nat.le_of_ble_eq_true rfl, Nat.le_of_ble_eq_true rfl⟩) hK hP [0, 1, 2, 3, 4, 5, 6, 7] rfl 0 3 rfl rfl rfl rfl hl.1 rfl (Nat.le_of_ble_eq_true rfl) dX3_inkedNeighbors_20 ⟨Nat.le_refl _, Nat.le_refl _⟩ (fun hz4 => ?_)
        refine lv_if_eq (tgt := 29) hx hb dX3_inkedNeighbors_23 (by decide) (fun c5 => ?_) (fun c5 => ?_)
        · replace h := ite_t c5 h
          obtain ⟨x6, e6⟩ : ∃ y : Int32, y = v1_0 + 1 := ⟨_, rfl⟩
          replace h := nmB_e e6 h
          refine lv_iinc (v := x6) (lv' := [(4, .int x6), (3, .int v1_1), (0, .ref v_q0), (1, .int a0), (2, .int a1)]) hx hb dX3_inkedNeighbors_29 hl (k := 0) rfl (by rw [e6]; rfl) (by decide) rfl (fun ls hl => ?_)
          refine lv_goto (tgt := 5) hx hb dX3_inkedNeighbors_32 (by decide) ?_
          exact ih x6 v1_1 u1_0 u1_1 ls h hl kE
        · replace h := ite_f c5 h
          obtain ⟨x7, e7⟩ : ∃ y : Int32, y = v1_1 + 1 := ⟨_, rfl⟩
          replace h := nmB_e e7 h
          refine lv_iinc (v := x7) (lv' := [(3, .int x7), (4, .int v1_0), (0, .ref v_q0), (1, .int a0), (2, .int a1)]) hx hb dX3_inkedNeighbors_26 hl (k := 1) rfl (by rw [e7]; rfl) (by decide) rfl (fun ls hl => ?_)
          obtain ⟨x8, e8⟩ : ∃ y : Int32, y = v1_0 + 1 := ⟨_, rfl⟩
          replace h := nmB_e e8 h
          refine lv_iinc (v := x8) (lv' := [(4, .int x8), (3, .int x7), (0, .ref v_q0), (1, .int a0), (2, .int a1)]) hx hb dX3_inkedNeighbors_29 hl (k := 1) rfl (by rw [e8]; rfl) (by decide) rfl (fun ls hl => ?_)
          refine lv_goto (tgt := 5) hx hb dX3_inkedNeighbors_32 (by decide) ?_
          exact ih x8 x7 u1_0 u1_1 ls h hl kE
  refine L1 FU 0 0 u1_0 u1_1 ls g1 hl (fun ls hl => ?_)
  refine lv_iload_n hx hb dX3_inkedNeighbors_35 rfl (lv_at hl 1 rfl) ?_
  exact hret _ _ _ ⟨smi h, trivial⟩ rfl dX3_inkedNeighbors_36
theorem lk_X3_strengthOf_m143 : Cond.methodLink RX3 143 Lib.Math.min.name ∈ wsX3_strengthOf := List.mem_of_getElem? (i := 1) rfl
theorem lk_X3_strengthOf_smin : Cond.static Lib.Math.min.name ∈ wsX3_strengthOf := List.mem_of_getElem? (i := 2) rfl
theorem lk_X3_strengthOf_iM : Cond.initialized "java/lang/Math" ∈ wsX3_strengthOf := List.mem_of_getElem? (i := 3) rfl
theorem lk_X3_strengthOf_cmin : Cond.code Lib.Math.min.name Lib.Math.min.code 2 (some .int) ∈ wsX3_strengthOf := List.mem_of_getElem? (i := 4) rfl
theorem hsX3_inkedNeighbors : yX3_inkedNeighbors.cls ≠ "java/lang/invoke/MethodHandle" ∧ yX3_inkedNeighbors.cls ≠ "java/lang/invoke/VarHandle" ∧ (parseMethodDescriptor yX3_inkedNeighbors.desc).map (fun d => d.parameters.length) = some 2 := by decide +kernel
theorem hvX3_inkedNeighbors : yX3_inkedNeighbors.cls = RX3 ∧ yX3_inkedNeighbors.cls ≠ "java/lang/invoke/MethodHandle" ∧ yX3_inkedNeighbors.cls ≠ "java/lang/invoke/VarHandle" ∧ (parseMethodDescriptor yX3_inkedNeighbors.desc).map (fun d => d.parameters.length) = some 2 := ⟨rfl, hsX3_inkedNeighbors⟩
abbrev rmX3_strengthOf : Room := { frames := 3, cells := 0, slots := 0, locals := 67 }
set_option maxHeartbeats 4000000 in
set_option maxRecDepth 100000 in
theorem ctX3_strengthOf (l : Launch) (G : GG) (v_q0 : Nat) (v_q1 : Nat) (v_q2 : Nat) (v_q3 : Nat) (v_q4 : Nat) (v_q5 : Nat) (v_q6 : Nat) (v_q7 : Nat) (v_present : Int32) (v_a : Int32) (v_b : Int32) (v_c : Int32) (v_d : Int32) (v_spot : Int32) (v_middle : Int32) (v_tint : Int32) (v_w : Int32) (v_s : Int32) (v_h : Int32) (v_valuesA : (Nat → Int32)) (v_otherValuesA : (Nat → Int32)) (v_ranksA : (Nat → Int32)) (v_oldRanksA : (Nat → Int32)) (v_orderA : (Nat → Int32)) (v_neighborsA : (Nat → Int32)) (a0 : Int32) (a1 : Int32) (o0 : Int32) (h : mX3_strengthOf v_w v_h v_ranksA v_neighborsA a0 a1 = some (o0))  : Met l yX3_strengthOf wsX3_strengthOf rmX3_strengthOf (va_Pc [.ref v_q0, .int a0, .int a1] (PreW G (wdX3 G v_q0 v_q1 v_q2 v_q3 v_q4 v_q5 v_q6 v_q7 v_present v_a v_b v_c v_d v_spot v_middle v_tint v_w v_s v_h v_valuesA v_otherValuesA v_ranksA v_oldRanksA v_orderA v_neighborsA))) (vp_Si (fun r => r = o0 ∧ True)) 0 0 (fun _ => False) := by
  refine of_ri (cc := cX3_strengthOf) (maxL := 5) (ty := .int) (plainFor_of_name (by decide)) rfl (Nat.le_of_ble_eq_true rfl) ?_
  intro p e s m args below meth c ls Q S hl hP hK hret
  have S : CallFix p m c cX3_strengthOf 5 s args wsX3_strengthOf RX3 := S
  obtain ⟨hx, hb, hml, hown, hts⟩ := id S
  have hl : lv_has ls 5 [(0, .ref v_q0), (1, .int a0), (2, .int a1)] := hl
  unfold mX3_strengthOf at h
  refine lv_iconst (v := 0) hx hb dX3_strengthOf_0 (by decide) ?_
  refine lv_istore_n (lv' := [(3, .int 0), (0, .ref v_q0), (1, .int a0), (2, .int a1)]) hx hb dX3_strengthOf_1 rfl hl (by decide) rfl (fun ls hl => ?_)
  refine lv_iconst (v := 0) hx hb dX3_strengthOf_2 (by decide) ?_
  refine lv_istore (lv' := [(4, .int 0), (3, .int 0), (0, .ref v_q0), (1, .int a0), (2, .int a1)]) hx hb dX3_strengthOf_3 hl (by decide) rfl (fun ls hl => ?_)
  obtain ⟨u1_0, u1_1, g1, h⟩ := bnd2_e h
  have L1 : ∀ (fu : Nat) (v1_0 : Int32) (v1_1 : Int32) (u1_0 : Int32) (u1_1 : Int32) (ls : Array Slot), mX3_strengthOf_L5 v_w v_h v_ranksA v_neighborsA a0 a1 fu v1_0 v1_1 = some (u1_0, u1_1) → lv_has ls 5 [(4, .int v1_0), (3, .int v1_1), (0, .ref v_q0), (1, .int a0), (2, .int a1)] → (∀ (ls : Array Slot), lv_has ls 5 [(4, .int u1_0), (3, .int u1_1), (0, .ref v_q0), (1, .int a0), (2, .int a1)] → W p l e rmX3_strengthOf s m args below meth c s.heap [] 0 0 Q (F0 m 52 ls [])) → W p l e rmX3_strengthOf s m args below meth c s.heap [] 0 0 Q (F0 m 5 ls []) := by
    intro fu
    induction fu with
    | zero => intro v1_0 v1_1 u1_0 u1_1 ls h; exact nomatch h
    | succ fu ih =>
      intro v1_0 v1_1 u1_0 u1_1 ls h hl kE
      rw [mX3_strengthOf_L5] at h
      refine lv_iload hx hb dX3_strengthOf_5 (lv_at hl 0 rfl) ?_
      refine lv_aload_n hx hb dX3_strengthOf_7 rfl (lv_at hl 2 rfl) ?_
      obtain ⟨r2_0, g2, h⟩ := bnd1_e h
      refine roVi1 (rest := [.int v1_0]) (As := []) S (ctX3_area l G v_q0 v_q1 v_q2 v_q3 v_q4 v_q5 v_q6 v_q7 v_present v_a v_b v_c v_d v_spot v_middle v_tint v_w v_s v_h v_valuesA v_otherValuesA v_ranksA v_oldRanksA v_orderA v_neighborsA r2_0 g2) (cwV 0 hts gX3_strengthOf_X3_area rfl rfl rfl hvX3_area ⟨Nat.le_of_ble_eq_true rfl, Nat.le_of_ble_eq_true rfl⟩) hK hP [0, 1, 2, 3, 4, 5, 6, 7] rfl 0 3 rfl rfl rfl rfl hl.1 rfl (Nat.le_of_ble_eq_true rfl) dX3_strengthOf_8 ⟨Nat.le_refl _, Nat.le_refl _⟩ (fun _ => ?_)
      refine lv_icmp_ge (tgt := 52) hx hb dX3_strengthOf_11 (by decide) (fun c3 => ?_) (fun c3 => ?_)
      · replace h := ite_t c3 h
        obtain ⟨rfl, rfl⟩ := sm2 h
        exact kE ls hl
      · replace h := ite_f c3 h
        refine lv_iload_n hx hb dX3_strengthOf_14 rfl (lv_at hl 1 rfl) ?_
        refine lv_aload_n hx hb dX3_strengthOf_15 rfl (lv_at hl 2 rfl) ?_
        refine lv_iload hx hb dX3_strengthOf_16 (lv_at hl 0 rfl) ?_
        refine lv_iload_n hx hb dX3_strengthOf_18 rfl (lv_at hl 3 rfl) ?_
        obtain ⟨r4_0, g4, h⟩ := bnd1_e h
        refine roVi1 (rest := [.int v1_1]) (As := [.int v1_0, .int a0]) S (ctX3_inksPlace l G v_q0 v_q1 v_q2 v_q3 v_q4 v_q5 v_q6 v_q7 v_present v_a v_b v_c v_d v_spot v_middle v_tint v_w v_s v_h v_valuesA v_otherValuesA v_ranksA v_oldRanksA v_orderA v_neighborsA v1_0 a0 r4_0 g4) (cwV 2 hts gX3_strengthOf_X3_inksPlace rfl rfl rfl hvX3_inksPlace ⟨Nat.le_of_ble_eq_true rfl, Nat.le_of_ble_eq_true rfl⟩) hK hP [0, 1, 2, 3, 4, 5, 6, 7] rfl 0 3 rfl rfl rfl rfl hl.1 rfl (Nat.le_of_ble_eq_true rfl) dX3_strengthOf_19 ⟨Nat.le_refl _, Nat.le_refl _⟩ (fun hz4 => ?_)
        refine lv_if_eq (tgt := 30) hx hb dX3_strengthOf_22 (by decide) (fun c5 => ?_) (fun c5 => ?_)
        · replace h := ite_t c5 h
          refine lv_bipush (v := 100) hx hb dX3_strengthOf_30 (by decide) ?_
          refine lv_iload_n hx hb dX3_strengthOf_32 rfl (lv_at hl 4 rfl) ?_
          refine lv_aload_n hx hb dX3_strengthOf_33 rfl (lv_at hl 2 rfl) ?_
          refine lv_iload hx hb dX3_strengthOf_34 (lv_at hl 0 rfl) ?_
          refine lv_iload_n hx hb dX3_strengthOf_36 rfl (lv_at hl 3 rfl) ?_
          obtain ⟨r6_0, g6, h⟩ := bnd1_e h
          refine roVi1 (rest := [.int a1, .int 100, .int v1_1]) (As := [.int v1_0, .int a0]) S (ctX3_inkedNeighbors l G v_q0 v_q1 v_q2 v_q3 v_q4 v_q5 v_q6 v_q7 v_present v_a v_b v_c v_d v_spot v_middle v_tint v_w v_s v_h v_valuesA v_otherValuesA v_ranksA v_oldRanksA v_orderA v_neighborsA v1_0 a0 r6_0 g6) (cwV 2 hts gX3_strengthOf_X3_inkedNeighbors rfl rfl rfl hvX3_inkedNeighbors ⟨Nat.le_of_ble_eq_true rfl, Nat.le_of_ble_eq_true rfl⟩) hK hP [0, 1, 2, 3, 4, 5, 6, 7] rfl 0 3 rfl rfl rfl rfl hl.1 rfl (Nat.le_of_ble_eq_true rfl) dX3_strengthOf_37 ⟨Nat.le_refl _, Nat.le_refl _⟩ (fun _ => ?_)
          refine lv_imul hx hb dX3_strengthOf_40 ?_
          refine va_mmin hx hb (hml.trans hl.1.symm) hown (hts (.methodLink RX3 143 Lib.Math.min.name) lk_X3_strengthOf_m143) (hts (.static Lib.Math.min.name) lk_X3_strengthOf_smin) (hts (.initialized "java/lang/Math") lk_X3_strengthOf_iM) (hts (.code Lib.Math.min.name Lib.Math.min.code 2 (some .int)) lk_X3_strengthOf_cmin) (Nat.le_of_ble_eq_true rfl) (Nat.le_of_ble_eq_true rfl) (Nat.le_refl _) (Nat.le_refl _) dX3_strengthOf_41 ?_
          refine lv_iadd hx hb dX3_strengthOf_44 ?_
          refine lv_topi (fun x7 e7 => ?_)
          replace h := nmB_e e7 h
          refine lv_istore_n (lv' := [(3, .int x7), (4, .int v1_0), (0, .ref v_q0), (1, .int a0), (2, .int a1)]) hx hb dX3_strengthOf_45 rfl hl (by decide) rfl (fun ls hl => ?_)
          obtain ⟨x8, e8⟩ : ∃ y : Int32, y = v1_0 + 1 := ⟨_, rfl⟩
          replace h := nmB_e e8 h
          refine lv_iinc (v := x8) (lv' := [(4, .int x8), (3, .int x7), (0, .ref v_q0), (1, .int a0), (2, .int a1)]) hx hb dX3_strengthOf_46 hl (k := 1) rfl (by rw [e8]; rfl) (by decide) rfl (fun ls hl => ?_)
          refine lv_goto (tgt := 5) hx hb dX3_strengthOf_49 (by decide) ?_
          exact ih x8 x7 u1_0 u1_1 ls h hl kE
        · replace h := ite_f c5 h
          refine lv_bipush (v := 100) hx hb dX3_strengthOf_25 (by decide) ?_
          refine lv_goto (tgt := 44) hx hb dX3_strengthOf_27 (by decide) ?_
          refine lv_iadd hx hb dX3_strengthOf_44 ?_
          refine lv_topi (fun x9 e9 => ?_)
          replace h := nmB_e e9 h
          refine lv_istore_n (lv' := [(3, .int x9), (4, .int v1_0), (0, .ref v_q0), (1, .int a0), (2, .int a1)]) hx hb dX3_strengthOf_45 rfl hl (by decide) rfl (fun ls hl => ?_)
          obtain ⟨x10, e10⟩ : ∃ y : Int32, y = v1_0 + 1 := ⟨_, rfl⟩
          replace h := nmB_e e10 h
          refine lv_iinc (v := x10) (lv' := [(4, .int x10), (3, .int x9), (0, .ref v_q0), (1, .int a0), (2, .int a1)]) hx hb dX3_strengthOf_46 hl (k := 1) rfl (by rw [e10]; rfl) (by decide) rfl (fun ls hl => ?_)
          refine lv_goto (tgt := 5) hx hb dX3_strengthOf_49 (by decide) ?_
          exact ih x10 x9 u1_0 u1_1 ls h hl kE
  refine L1 FU 0 0 u1_0 u1_1 ls g1 hl (fun ls hl => ?_)
  refine lv_iload_n hx hb dX3_strengthOf_52 rfl (lv_at hl 1 rfl) ?_
  exact hret _ _ _ ⟨smi h, trivial⟩ rfl dX3_strengthOf_53
theorem lk_X3_nearestRatio_m90 : Cond.methodLink RX3 90 Lib.Math.abs.name ∈ wsX3_nearestRatio := List.mem_of_getElem? (i := 1) rfl
theorem lk_X3_nearestRatio_sabs : Cond.static Lib.Math.abs.name ∈ wsX3_nearestRatio := List.mem_of_getElem? (i := 2) rfl
theorem lk_X3_nearestRatio_iM : Cond.initialized "java/lang/Math" ∈ wsX3_nearestRatio := List.mem_of_getElem? (i := 3) rfl
theorem lk_X3_nearestRatio_cabs : Cond.code Lib.Math.abs.name Lib.Math.abs.code 1 (some .int) ∈ wsX3_nearestRatio := List.mem_of_getElem? (i := 4) rfl
theorem lk_X3_nearestRatio_iX4 : Cond.initialized RX4 ∈ wsX3_nearestRatio := List.mem_of_getElem? (i := 6) rfl
theorem lk_X3_nearestRatio_s_div : Cond.static yX4_div ∈ wsX3_nearestRatio := List.mem_of_getElem? (i := 5) rfl
abbrev rmX3_nearestRatio : Room := { frames := 1, cells := 0, slots := 0, locals := 21 }
set_option maxHeartbeats 4000000 in
set_option maxRecDepth 100000 in
theorem ctX3_nearestRatio (l : Launch) (G : GG) (a0 : Int32) (a1 : Int32) (o0 : Int32) (h : mX3_nearestRatio a0 a1 = some (o0))  : Met l yX3_nearestRatio wsX3_nearestRatio rmX3_nearestRatio (va_Pc [.int a0, .int a1] (PreW G (([] : va_W)))) (vp_Si (fun r => r = o0 ∧ True)) 0 0 (fun _ => False) := by
  refine of_ri (cc := cX3_nearestRatio) (maxL := 3) (ty := .int) (plainFor_of_name (by decide)) rfl (Nat.le_of_ble_eq_true rfl) ?_
  intro p e s m args below meth c ls Q S hl hP hK hret
  have S : CallFix p m c cX3_nearestRatio 3 s args wsX3_nearestRatio RX3 := S
  obtain ⟨hx, hb, hml, hown, hts⟩ := id S
  have hl : lv_has ls 3 [(0, .int a0), (1, .int a1)] := hl
  unfold mX3_nearestRatio at h
  refine lv_iconst (v := 2) hx hb dX3_nearestRatio_0 (by decide) ?_
  refine lv_iload_n hx hb dX3_nearestRatio_1 rfl (lv_at hl 0 rfl) ?_
  refine va_mabs hx hb (hml.trans hl.1.symm) hown (hts (.methodLink RX3 90 Lib.Math.abs.name) lk_X3_nearestRatio_m90) (hts (.static Lib.Math.abs.name) lk_X3_nearestRatio_sabs) (hts (.initialized "java/lang/Math") lk_X3_nearestRatio_iM) (hts (.code Lib.Math.abs.name Lib.Math.abs.code 1 (some .int)) lk_X3_nearestRatio_cabs) (Nat.le_of_ble_eq_true rfl) (Nat.le_of_ble_eq_true rfl) (Nat.le_refl _) (Nat.le_refl _) dX3_nearestRatio_2 ?_
  refine lv_imul hx hb dX3_nearestRatio_5 ?_
  refine lv_iload_n hx hb dX3_nearestRatio_6 rfl (lv_at hl 1 rfl) ?_
  refine lv_iadd hx hb dX3_nearestRatio_7 ?_
  refine lv_iconst (v := 1) hx hb dX3_nearestRatio_8 (by decide) ?_
  refine lv_isub hx hb dX3_nearestRatio_9 ?_
  refine lv_iconst (v := 2) hx hb dX3_nearestRatio_10 (by decide) ?_
  refine lv_iload_n hx hb dX3_nearestRatio_11 rfl (lv_at hl 1 rfl) ?_
  refine lv_imul hx hb dX3_nearestRatio_12 ?_
  obtain ⟨r1_0, g1, h⟩ := bnd1_e h
  refine roNi1 (rest := []) (As := [.int (((2 * (if 0 ≤ a0 then a0 else 0 - a0)) + a1) - 1), .int (2 * a1)]) S (ctX4_div l G (((2 * (if 0 ≤ a0 then a0 else 0 - a0)) + a1) - 1) (2 * a1) r1_0 g1) ⟨va_cnB 2 hts gX3_nearestRatio_X4_div_n95 rfl rfl rfl (hK.2.1 _ (List.mem_of_getElem? (i := 9) rfl)) (hts (.initialized RX4) lk_X3_nearestRatio_iX4) hsX4_div ⟨Nat.le_of_ble_eq_true rfl, Nat.le_of_ble_eq_true rfl⟩, (hts (.static yX4_div) lk_X3_nearestRatio_s_div), trivial⟩ hK hP [] rfl rfl hl.1 rfl (Nat.le_of_ble_eq_true rfl) dX3_nearestRatio_13 ⟨Nat.le_refl _, Nat.le_refl _⟩ (fun _ => ?_)
  refine lv_istore_n (lv' := [(2, .int r1_0), (0, .int a0), (1, .int a1)]) hx hb dX3_nearestRatio_16 rfl hl (by decide) rfl (fun ls hl => ?_)
  refine lv_iload_n hx hb dX3_nearestRatio_17 rfl (lv_at hl 1 rfl) ?_
  refine lv_if_ge (tgt := 26) hx hb dX3_nearestRatio_18 (by decide) (fun c2 => ?_) (fun c2 => ?_)
  · replace h := ite_t c2 h
    refine lv_iload_n hx hb dX3_nearestRatio_26 rfl (lv_at hl 0 rfl) ?_
    exact hret _ _ _ ⟨smi h, trivial⟩ rfl dX3_nearestRatio_27
  · replace h := ite_f c2 h
    refine lv_iload_n hx hb dX3_nearestRatio_21 rfl (lv_at hl 0 rfl) ?_
    refine lv_ineg hx hb dX3_nearestRatio_22 ?_
    refine lv_goto (tgt := 27) hx hb dX3_nearestRatio_23 (by decide) ?_
    exact hret _ _ _ ⟨smi h, trivial⟩ rfl dX3_nearestRatio_27
theorem lk_X3_measured_m152 : Cond.methodLink RX3 152 Lib.Math.max.name ∈ wsX3_measured := List.mem_of_getElem? (i := 1) rfl
theorem lk_X3_measured_smax : Cond.static Lib.Math.max.name ∈ wsX3_measured := List.mem_of_getElem? (i := 2) rfl
theorem lk_X3_measured_iM : Cond.initialized "java/lang/Math" ∈ wsX3_measured := List.mem_of_getElem? (i := 3) rfl
theorem lk_X3_measured_cmax : Cond.code Lib.Math.max.name Lib.Math.max.code 2 (some .int) ∈ wsX3_measured := List.mem_of_getElem? (i := 4) rfl
abbrev rmX3_measured : Room := { frames := 1, cells := 0, slots := 0, locals := 21 }
set_option maxHeartbeats 4000000 in
set_option maxRecDepth 100000 in
theorem ctX3_measured (l : Launch) (G : GG) (a0 : Int32) (a1 : Int32) (a2 : Int32) (o0 : Int32) (h : mX3_measured a0 a1 a2 = some (o0))  : Met l yX3_measured wsX3_measured rmX3_measured (va_Pc [.int a0, .int a1, .int a2] (PreW G (([] : va_W)))) (vp_Si (fun r => r = o0 ∧ True)) 0 0 (fun _ => False) := by
  refine of_ri (cc := cX3_measured) (maxL := 3) (ty := .int) (plainFor_of_name (by decide)) rfl (Nat.le_of_ble_eq_true rfl) ?_
  intro p e s m args below meth c ls Q S hl hP hK hret
  have S : CallFix p m c cX3_measured 3 s args wsX3_measured RX3 := S
  obtain ⟨hx, hb, hml, hown, hts⟩ := id S
  have hl : lv_has ls 3 [(0, .int a0), (1, .int a1), (2, .int a2)] := hl
  unfold mX3_measured at h
  refine lv_iload_n hx hb dX3_measured_0 rfl (lv_at hl 0 rfl) ?_
  refine lv_iconst (v := 1) hx hb dX3_measured_1 (by decide) ?_
  refine lv_icmp_ne (tgt := 9) hx hb dX3_measured_2 (by decide) (fun c1 => ?_) (fun c1 => ?_)
  · replace h := ite_f c1 h
    refine lv_iload_n hx hb dX3_measured_9 rfl (lv_at hl 0 rfl) ?_
    refine lv_iconst (v := 2) hx hb dX3_measured_10 (by decide) ?_
    refine lv_icmp_ne (tgt := 22) hx hb dX3_measured_11 (by decide) (fun c2 => ?_) (fun c2 => ?_)
    · replace h := ite_f c2 h
      refine lv_iload_n hx hb dX3_measured_22 rfl (lv_at hl 1 rfl) ?_
      refine lv_iload_n hx hb dX3_measured_23 rfl (lv_at hl 1 rfl) ?_
      refine lv_imul hx hb dX3_measured_24 ?_
      refine lv_iload_n hx hb dX3_measured_25 rfl (lv_at hl 2 rfl) ?_
      refine lv_iload_n hx hb dX3_measured_26 rfl (lv_at hl 2 rfl) ?_
      refine lv_imul hx hb dX3_measured_27 ?_
      refine lv_iadd hx hb dX3_measured_28 ?_
      exact hret _ _ _ ⟨smi h, trivial⟩ rfl dX3_measured_29
    · replace h := ite_t c2 h
      refine lv_iload_n hx hb dX3_measured_14 rfl (lv_at hl 1 rfl) ?_
      refine lv_iload_n hx hb dX3_measured_15 rfl (lv_at hl 2 rfl) ?_
      refine va_mmax hx hb (hml.trans hl.1.symm) hown (hts (.methodLink RX3 152 Lib.Math.max.name) lk_X3_measured_m152) (hts (.static Lib.Math.max.name) lk_X3_measured_smax) (hts (.initialized "java/lang/Math") lk_X3_measured_iM) (hts (.code Lib.Math.max.name Lib.Math.max.code 2 (some .int)) lk_X3_measured_cmax) (Nat.le_of_ble_eq_true rfl) (Nat.le_of_ble_eq_true rfl) (Nat.le_refl _) (Nat.le_refl _) dX3_measured_16 ?_
      refine lv_goto (tgt := 29) hx hb dX3_measured_19 (by decide) ?_
      exact hret _ _ _ ⟨smi h, trivial⟩ rfl dX3_measured_29
  · replace h := ite_t c1 h
    refine lv_iload_n hx hb dX3_measured_5 rfl (lv_at hl 1 rfl) ?_
    refine lv_iload_n hx hb dX3_measured_6 rfl (lv_at hl 2 rfl) ?_
    refine lv_iadd hx hb dX3_measured_7 ?_
    exact hret _ _ _ ⟨smi h, trivial⟩ rfl dX3_measured_8
theorem fw_X3_turnVectors_X3 : ∀ w ∈ wsX30, w ∈ wsX3_turnVectors := fun w h => List.mem_cons_of_mem _ (List.mem_append_right _ h)
theorem lk_X3_turnVectors_f37 : Cond.fieldLink RX3 37 "HalftoneScreens$Screen" "a" "I" ∈ wsX3_turnVectors := List.mem_of_getElem? (i := 1) rfl
theorem lk_X3_turnVectors_f44 : Cond.fieldLink RX3 44 "HalftoneScreens$Screen" "c" "I" ∈ wsX3_turnVectors := List.mem_of_getElem? (i := 2) rfl
theorem lk_X3_turnVectors_f41 : Cond.fieldLink RX3 41 "HalftoneScreens$Screen" "b" "I" ∈ wsX3_turnVectors := List.mem_of_getElem? (i := 3) rfl
theorem lk_X3_turnVectors_f47 : Cond.fieldLink RX3 47 "HalftoneScreens$Screen" "d" "I" ∈ wsX3_turnVectors := List.mem_of_getElem? (i := 4) rfl
abbrev rmX3_turnVectors : Room := { frames := 0, cells := 0, slots := 0, locals := 0 }
set_option maxHeartbeats 4000000 in
set_option maxRecDepth 100000 in
theorem ctX3_turnVectors (l : Launch) (G : GG) (v_q0 : Nat) (v_q1 : Nat) (v_q2 : Nat) (v_q3 : Nat) (v_q4 : Nat) (v_q5 : Nat) (v_q6 : Nat) (v_q7 : Nat) (v_present : Int32) (v_a : Int32) (v_b : Int32) (v_c : Int32) (v_d : Int32) (v_spot : Int32) (v_middle : Int32) (v_tint : Int32) (v_w : Int32) (v_s : Int32) (v_h : Int32) (v_valuesA : (Nat → Int32)) (v_otherValuesA : (Nat → Int32)) (v_ranksA : (Nat → Int32)) (v_oldRanksA : (Nat → Int32)) (v_orderA : (Nat → Int32)) (v_neighborsA : (Nat → Int32)) (a0 : Int32) (o0 : Int32) (o1 : Int32) (o2 : Int32) (o3 : Int32) (h : mX3_turnVectors v_a v_b v_c v_d a0 = some (o0, o1, o2, o3))  : Met l yX3_turnVectors wsX3_turnVectors rmX3_turnVectors (va_Pc [.ref v_q0, .int a0] (PreD G (wdX3 G v_q0 v_q1 v_q2 v_q3 v_q4 v_q5 v_q6 v_q7 v_present v_a v_b v_c v_d v_spot v_middle v_tint v_w v_s v_h v_valuesA v_otherValuesA v_ranksA v_oldRanksA v_orderA v_neighborsA) (fun _ => True))) (QwA G (va_A0 (wdX3 G v_q0 v_q1 v_q2 v_q3 v_q4 v_q5 v_q6 v_q7 v_present v_a v_b v_c v_d v_spot v_middle v_tint v_w v_s v_h v_valuesA v_otherValuesA v_ranksA v_oldRanksA v_orderA v_neighborsA)) (wdX3 G v_q0 v_q1 v_q2 v_q3 v_q4 v_q5 v_q6 v_q7 v_present o0 o1 o2 o3 v_spot v_middle v_tint v_w v_s v_h v_valuesA v_otherValuesA v_ranksA v_oldRanksA v_orderA v_neighborsA) none True) 0 0 (va_A0 (wdX3 G v_q0 v_q1 v_q2 v_q3 v_q4 v_q5 v_q6 v_q7 v_present v_a v_b v_c v_d v_spot v_middle v_tint v_w v_s v_h v_valuesA v_otherValuesA v_ranksA v_oldRanksA v_orderA v_neighborsA)) := by
  refine of_wv (cc := cX3_turnVectors) (maxL := 4) (plainFor_of_name (by decide)) rfl (Nat.le_of_ble_eq_true rfl) ?_
  intro p e s m args below meth c ls Q A S hl hP hD hS hK hX hA hret
  obtain ⟨H, hH⟩ : ∃ H, H = s.heap := ⟨_, rfl⟩
  obtain ⟨locs, hlocs⟩ : ∃ L : List Loc, L = [] := ⟨_, rfl⟩
  rw [← hlocs]
  rw [← hlocs] at hS
  have hP : va_P G.1 vwCl (wdX3 G v_q0 v_q1 v_q2 v_q3 v_q4 v_q5 v_q6 v_q7 v_present v_a v_b v_c v_d v_spot v_middle v_tint v_w v_s v_h v_valuesA v_otherValuesA v_ranksA v_oldRanksA v_orderA v_neighborsA) H := by rw [hH]; exact hP
  have hS : va_S A s.heap H locs := by rw [hH]; exact hS
  suffices hgo : W p l e rmX3_turnVectors s m args below meth c H locs 0 0 Q (F0 m 0 ls []) by rw [hH] at hgo; exact hgo
  have S : CallFix p m c cX3_turnVectors 4 s args wsX3_turnVectors RX3 := S
  obtain ⟨hx, hb, hml, hown, hts⟩ := id S
  have hl : lv_has ls 4 [(0, .ref v_q0), (1, .int a0)] := hl
  unfold mX3_turnVectors at h
  refine lv_aload_n hx hb dX3_turnVectors_0 rfl (lv_at hl 0 rfl) ?_
  refine va_get (D := G.1) (ci := 3) (v := .int v_a) (C := RX3) (T := TX3) (N := 15) hx hb hts fw_X3_turnVectors_X3 hown hK.1 hP 0 rfl rfl 8 (by decide) (hts (.fieldLink RX3 37 "HalftoneScreens$Screen" "a" "I") lk_X3_turnVectors_f37) (fun _ h9 => h9) rfl dX3_turnVectors_1 ?_
  refine lv_istore_n (lv' := [(2, .int v_a), (0, .ref v_q0), (1, .int a0)]) hx hb dX3_turnVectors_4 rfl hl (by decide) rfl (fun ls hl => ?_)
  refine lv_aload_n hx hb dX3_turnVectors_5 rfl (lv_at hl 1 rfl) ?_
  refine va_get (D := G.1) (ci := 3) (v := .int v_c) (C := RX3) (T := TX3) (N := 15) hx hb hts fw_X3_turnVectors_X3 hown hK.1 hP 0 rfl rfl 10 (by decide) (hts (.fieldLink RX3 44 "HalftoneScreens$Screen" "c" "I") lk_X3_turnVectors_f44) (fun _ h9 => h9) rfl dX3_turnVectors_6 ?_
  refine lv_istore_n (lv' := [(3, .int v_c), (2, .int v_a), (0, .ref v_q0), (1, .int a0)]) hx hb dX3_turnVectors_9 rfl hl (by decide) rfl (fun ls hl => ?_)
  refine lv_iload_n hx hb dX3_turnVectors_10 rfl (lv_at hl 3 rfl) ?_
  refine lv_if_ne (tgt := 45) hx hb dX3_turnVectors_11 (by decide) (fun c1 => ?_) (fun c1 => ?_)
  · replace h := ite_f c1 h
    refine lv_iload_n hx hb dX3_turnVectors_45 rfl (lv_at hl 3 rfl) ?_
    refine lv_iconst (v := 1) hx hb dX3_turnVectors_46 (by decide) ?_
    refine lv_icmp_ne (tgt := 71) hx hb dX3_turnVectors_47 (by decide) (fun c2 => ?_) (fun c2 => ?_)
    · replace h := ite_f c2 h
      refine lv_aload_n hx hb dX3_turnVectors_71 rfl (lv_at hl 2 rfl) ?_
      refine lv_aload_n hx hb dX3_turnVectors_72 rfl (lv_at hl 2 rfl) ?_
      refine va_get (D := G.1) (ci := 3) (v := .int v_b) (C := RX3) (T := TX3) (N := 15) hx hb hts fw_X3_turnVectors_X3 hown hK.1 hP 0 rfl rfl 9 (by decide) (hts (.fieldLink RX3 41 "HalftoneScreens$Screen" "b" "I") lk_X3_turnVectors_f41) (fun _ h9 => h9) rfl dX3_turnVectors_73 ?_
      refine va_put (D := G.1) (ci := 3) (v := .int v_b) (ty := .int) (C := RX3) (T := TX3) (N := 15) hx hb hts fw_X3_turnVectors_X3 tyX3 tyX3_ok nmX3 hown hK.1 hP hD hS 0 rfl rfl 8 (by decide) (hts (.fieldLink RX3 37 "HalftoneScreens$Screen" "a" "I") lk_X3_turnVectors_f37) (fun _ h9 => h9) rfl (tyX3_ok 8 (by decide)) rfl rfl (Nat.le_of_ble_eq_true rfl) dX3_turnVectors_76 (fun H locs hP hD hS => ?_)
      have hP : va_P G.1 vwCl (wdX3 G v_q0 v_q1 v_q2 v_q3 v_q4 v_q5 v_q6 v_q7 v_present v_b v_b v_c v_d v_spot v_middle v_tint v_w v_s v_h v_valuesA v_otherValuesA v_ranksA v_oldRanksA v_orderA v_neighborsA) H := hP
      have hD : va_D A (wdX3 G v_q0 v_q1 v_q2 v_q3 v_q4 v_q5 v_q6 v_q7 v_present v_b v_b v_c v_d v_spot v_middle v_tint v_w v_s v_h v_valuesA v_otherValuesA v_ranksA v_oldRanksA v_orderA v_neighborsA) := hD
      refine lv_aload_n hx hb dX3_turnVectors_79 rfl (lv_at hl 2 rfl) ?_
      refine lv_iload_n hx hb dX3_turnVectors_80 rfl (lv_at hl 1 rfl) ?_
      refine va_put (D := G.1) (ci := 3) (v := .int v_a) (ty := .int) (C := RX3) (T := TX3) (N := 15) hx hb hts fw_X3_turnVectors_X3 tyX3 tyX3_ok nmX3 hown hK.1 hP hD hS 0 rfl rfl 9 (by decide) (hts (.fieldLink RX3 41 "HalftoneScreens$Screen" "b" "I") lk_X3_turnVectors_f41) (fun _ h9 => h9) rfl (tyX3_ok 9 (by decide)) rfl rfl (Nat.le_of_ble_eq_true rfl) dX3_turnVectors_81 (fun H locs hP hD hS => ?_)
      have hP : va_P G.1 vwCl (wdX3 G v_q0 v_q1 v_q2 v_q3 v_q4 v_q5 v_q6 v_q7 v_present v_b v_a v_c v_d v_spot v_middle v_tint v_w v_s v_h v_valuesA v_otherValuesA v_ranksA v_oldRanksA v_orderA v_neighborsA) H := hP
      have hD : va_D A (wdX3 G v_q0 v_q1 v_q2 v_q3 v_q4 v_q5 v_q6 v_q7 v_present v_b v_a v_c v_d v_spot v_middle v_tint v_w v_s v_h v_valuesA v_otherValuesA v_ranksA v_oldRanksA v_orderA v_neighborsA) := hD
      refine lv_aload_n hx hb dX3_turnVectors_84 rfl (lv_at hl 2 rfl) ?_
      refine lv_aload_n hx hb dX3_turnVectors_85 rfl (lv_at hl 2 rfl) ?_
      refine va_get (D := G.1) (ci := 3) (v := .int v_d) (C := RX3) (T := TX3) (N := 15) hx hb hts fw_X3_turnVectors_X3 hown hK.1 hP 0 rfl rfl 11 (by decide) (hts (.fieldLink RX3 47 "HalftoneScreens$Screen" "d" "I") lk_X3_turnVectors_f47) (fun _ h9 => h9) rfl dX3_turnVectors_86 ?_
      refine va_put (D := G.1) (ci := 3) (v := .int v_d) (ty := .int) (C := RX3) (T := TX3) (N := 15) hx hb hts fw_X3_turnVectors_X3 tyX3 tyX3_ok nmX3 hown hK.1 hP hD hS 0 rfl rfl 10 (by decide) (hts (.fieldLink RX3 44 "HalftoneScreens$Screen" "c" "I") lk_X3_turnVectors_f44) (fun _ h9 => h9) rfl (tyX3_ok 10 (by decide)) rfl rfl (Nat.le_of_ble_eq_true rfl) dX3_turnVectors_89 (fun H locs hP hD hS => ?_)
      have hP : va_P G.1 vwCl (wdX3 G v_q0 v_q1 v_q2 v_q3 v_q4 v_q5 v_q6 v_q7 v_present v_b v_a v_d v_d v_spot v_middle v_tint v_w v_s v_h v_valuesA v_otherValuesA v_ranksA v_oldRanksA v_orderA v_neighborsA) H := hP
      have hD : va_D A (wdX3 G v_q0 v_q1 v_q2 v_q3 v_q4 v_q5 v_q6 v_q7 v_present v_b v_a v_d v_d v_spot v_middle v_tint v_w v_s v_h v_valuesA v_otherValuesA v_ranksA v_oldRanksA v_orderA v_neighborsA) := hD
      refine lv_aload_n hx hb dX3_turnVectors_92 rfl (lv_at hl 2 rfl) ?_
      refine lv_iload_n hx hb dX3_turnVectors_93 rfl (lv_at hl 0 rfl) ?_
      refine va_put (D := G.1) (ci := 3) (v := .int v_c) (ty := .int) (C := RX3) (T := TX3) (N := 15) hx hb hts fw_X3_turnVectors_X3 tyX3 tyX3_ok nmX3 hown hK.1 hP hD hS 0 rfl rfl 11 (by decide) (hts (.fieldLink RX3 47 "HalftoneScreens$Screen" "d" "I") lk_X3_turnVectors_f47) (fun _ h9 => h9) rfl (tyX3_ok 11 (by decide)) rfl rfl (Nat.le_of_ble_eq_true rfl) dX3_turnVectors_94 (fun H locs hP hD hS => ?_)
      have hP : va_P G.1 vwCl (wdX3 G v_q0 v_q1 v_q2 v_q3 v_q4 v_q5 v_q6 v_q7 v_present v_b v_a v_d v_c v_spot v_middle v_tint v_w v_s v_h v_valuesA v_otherValuesA v_ranksA v_oldRanksA v_orderA v_neighborsA) H := hP
      have hD : va_D A (wdX3 G v_q0 v_q1 v_q2 v_q3 v_q4 v_q5 v_q6 v_q7 v_present v_b v_a v_d v_c v_spot v_middle v_tint v_w v_s v_h v_valuesA v_otherValuesA v_ranksA v_oldRanksA v_orderA v_neighborsA) := hD
      obtain ⟨rfl, rfl, rfl, rfl⟩ := sm4 h
      exact hret _ _ _ _ trivial hP hD hS dX3_turnVectors_97
    · replace h := ite_t c2 h
      refine lv_aload_n hx hb dX3_turnVectors_50 rfl (lv_at hl 2 rfl) ?_
      refine lv_aload_n hx hb dX3_turnVectors_51 rfl (lv_at hl 2 rfl) ?_
      refine va_get (D := G.1) (ci := 3) (v := .int v_a) (C := RX3) (T := TX3) (N := 15) hx hb hts fw_X3_turnVectors_X3 hown hK.1 hP 0 rfl rfl 8 (by decide) (hts (.fieldLink RX3 37 "HalftoneScreens$Screen" "a" "I") lk_X3_turnVectors_f37) (fun _ h9 => h9) rfl dX3_turnVectors_52 ?_
      refine lv_ineg hx hb dX3_turnVectors_55 ?_
      refine lv_topi (fun x3 e3 => ?_)
      replace h := nmB_e e3 h
      refine va_put (D := G.1) (ci := 3) (v := .int x3) (ty := .int) (C := RX3) (T := TX3) (N := 15) hx hb hts fw_X3_turnVectors_X3 tyX3 tyX3_ok nmX3 hown hK.1 hP hD hS 0 rfl rfl 8 (by decide) (hts (.fieldLink RX3 37 "HalftoneScreens$Screen" "a" "I") lk_X3_turnVectors_f37) (fun _ h9 => h9) rfl (tyX3_ok 8 (by decide)) rfl rfl (Nat.le_of_ble_eq_true rfl) dX3_turnVectors_56 (fun H locs hP hD hS => ?_)
      have hP : va_P G.1 vwCl (wdX3 G v_q0 v_q1 v_q2 v_q3 v_q4 v_q5 v_q6 v_q7 v_present x3 v_b v_c v_d v_spot v_middle v_tint v_w v_s v_h v_valuesA v_otherValuesA v_ranksA v_oldRanksA v_orderA v_neighborsA) H := hP
      have hD : va_D A (wdX3 G v_q0 v_q1 v_q2 v_q3 v_q4 v_q5 v_q6 v_q7 v_present x3 v_b v_c v_d v_spot v_middle v_tint v_w v_s v_h v_valuesA v_otherValuesA v_ranksA v_oldRanksA v_orderA v_neighborsA) := hD
      refine lv_aload_n hx hb dX3_turnVectors_59 rfl (lv_at hl 2 rfl) ?_
      refine lv_aload_n hx hb dX3_turnVectors_60 rfl (lv_at hl 2 rfl) ?_
      refine va_get (D := G.1) (ci := 3) (v := .int v_c) (C := RX3) (T := TX3) (N := 15) hx hb hts fw_X3_turnVectors_X3 hown hK.1 hP 0 rfl rfl 10 (by decide) (hts (.fieldLink RX3 44 "HalftoneScreens$Screen" "c" "I") lk_X3_turnVectors_f44) (fun _ h9 => h9) rfl dX3_turnVectors_61 ?_
      refine lv_ineg hx hb dX3_turnVectors_64 ?_
      refine lv_topi (fun x4 e4 => ?_)
      replace h := nmB_e e4 h
      refine va_put (D := G.1) (ci := 3) (v := .int x4) (ty := .int) (C := RX3) (T := TX3) (N := 15) hx hb hts fw_X3_turnVectors_X3 tyX3 tyX3_ok nmX3 hown hK.1 hP hD hS 0 rfl rfl 10 (by decide) (hts (.fieldLink RX3 44 "HalftoneScreens$Screen" "c" "I") lk_X3_turnVectors_f44) (fun _ h9 => h9) rfl (tyX3_ok 10 (by decide)) rfl rfl (Nat.le_of_ble_eq_true rfl) dX3_turnVectors_65 (fun H locs hP hD hS => ?_)
      have hP : va_P G.1 vwCl (wdX3 G v_q0 v_q1 v_q2 v_q3 v_q4 v_q5 v_q6 v_q7 v_present x3 v_b x4 v_d v_spot v_middle v_tint v_w v_s v_h v_valuesA v_otherValuesA v_ranksA v_oldRanksA v_orderA v_neighborsA) H := hP
      have hD : va_D A (wdX3 G v_q0 v_q1 v_q2 v_q3 v_q4 v_q5 v_q6 v_q7 v_present x3 v_b x4 v_d v_spot v_middle v_tint v_w v_s v_h v_valuesA v_otherValuesA v_ranksA v_oldRanksA v_orderA v_neighborsA) := hD
      refine lv_goto (tgt := 97) hx hb dX3_turnVectors_68 (by decide) ?_
      obtain ⟨rfl, rfl, rfl, rfl⟩ := sm4 h
      exact hret _ _ _ _ trivial hP hD hS dX3_turnVectors_97
  · replace h := ite_t c1 h
    refine lv_aload_n hx hb dX3_turnVectors_14 rfl (lv_at hl 2 rfl) ?_
    refine lv_aload_n hx hb dX3_turnVectors_15 rfl (lv_at hl 2 rfl) ?_
    refine va_get (D := G.1) (ci := 3) (v := .int v_b) (C := RX3) (T := TX3) (N := 15) hx hb hts fw_X3_turnVectors_X3 hown hK.1 hP 0 rfl rfl 9 (by decide) (hts (.fieldLink RX3 41 "HalftoneScreens$Screen" "b" "I") lk_X3_turnVectors_f41) (fun _ h9 => h9) rfl dX3_turnVectors_16 ?_
    refine lv_ineg hx hb dX3_turnVectors_19 ?_
    refine lv_topi (fun x5 e5 => ?_)
    replace h := nmB_e e5 h
    refine va_put (D := G.1) (ci := 3) (v := .int x5) (ty := .int) (C := RX3) (T := TX3) (N := 15) hx hb hts fw_X3_turnVectors_X3 tyX3 tyX3_ok nmX3 hown hK.1 hP hD hS 0 rfl rfl 8 (by decide) (hts (.fieldLink RX3 37 "HalftoneScreens$Screen" "a" "I") lk_X3_turnVectors_f37) (fun _ h9 => h9) rfl (tyX3_ok 8 (by decide)) rfl rfl (Nat.le_of_ble_eq_true rfl) dX3_turnVectors_20 (fun H locs hP hD hS => ?_)
    have hP : va_P G.1 vwCl (wdX3 G v_q0 v_q1 v_q2 v_q3 v_q4 v_q5 v_q6 v_q7 v_present x5 v_b v_c v_d v_spot v_middle v_tint v_w v_s v_h v_valuesA v_otherValuesA v_ranksA v_oldRanksA v_orderA v_neighborsA) H := hP
    have hD : va_D A (wdX3 G v_q0 v_q1 v_q2 v_q3 v_q4 v_q5 v_q6 v_q7 v_present x5 v_b v_c v_d v_spot v_middle v_tint v_w v_s v_h v_valuesA v_otherValuesA v_ranksA v_oldRanksA v_orderA v_neighborsA) := hD
    refine lv_aload_n hx hb dX3_turnVectors_23 rfl (lv_at hl 2 rfl) ?_
    refine lv_iload_n hx hb dX3_turnVectors_24 rfl (lv_at hl 1 rfl) ?_
    refine va_put (D := G.1) (ci := 3) (v := .int v_a) (ty := .int) (C := RX3) (T := TX3) (N := 15) hx hb hts fw_X3_turnVectors_X3 tyX3 tyX3_ok nmX3 hown hK.1 hP hD hS 0 rfl rfl 9 (by decide) (hts (.fieldLink RX3 41 "HalftoneScreens$Screen" "b" "I") lk_X3_turnVectors_f41) (fun _ h9 => h9) rfl (tyX3_ok 9 (by decide)) rfl rfl (Nat.le_of_ble_eq_true rfl) dX3_turnVectors_25 (fun H locs hP hD hS => ?_)
    have hP : va_P G.1 vwCl (wdX3 G v_q0 v_q1 v_q2 v_q3 v_q4 v_q5 v_q6 v_q7 v_present x5 v_a v_c v_d v_spot v_middle v_tint v_w v_s v_h v_valuesA v_otherValuesA v_ranksA v_oldRanksA v_orderA v_neighborsA) H := hP
    have hD : va_D A (wdX3 G v_q0 v_q1 v_q2 v_q3 v_q4 v_q5 v_q6 v_q7 v_present x5 v_a v_c v_d v_spot v_middle v_tint v_w v_s v_h v_valuesA v_otherValuesA v_ranksA v_oldRanksA v_orderA v_neighborsA) := hD
    refine lv_aload_n hx hb dX3_turnVectors_28 rfl (lv_at hl 2 rfl) ?_
    refine lv_aload_n hx hb dX3_turnVectors_29 rfl (lv_at hl 2 rfl) ?_
    refine va_get (D := G.1) (ci := 3) (v := .int v_d) (C := RX3) (T := TX3) (N := 15) hx hb hts fw_X3_turnVectors_X3 hown hK.1 hP 0 rfl rfl 11 (by decide) (hts (.fieldLink RX3 47 "HalftoneScreens$Screen" "d" "I") lk_X3_turnVectors_f47) (fun _ h9 => h9) rfl dX3_turnVectors_30 ?_
    refine lv_ineg hx hb dX3_turnVectors_33 ?_
    refine lv_topi (fun x6 e6 => ?_)
    replace h := nmB_e e6 h
    refine va_put (D := G.1) (ci := 3) (v := .int x6) (ty := .int) (C := RX3) (T := TX3) (N := 15) hx hb hts fw_X3_turnVectors_X3 tyX3 tyX3_ok nmX3 hown hK.1 hP hD hS 0 rfl rfl 10 (by decide) (hts (.fieldLink RX3 44 "HalftoneScreens$Screen" "c" "I") lk_X3_turnVectors_f44) (fun _ h9 => h9) rfl (tyX3_ok 10 (by decide)) rfl rfl (Nat.le_of_ble_eq_true rfl) dX3_turnVectors_34 (fun H locs hP hD hS => ?_)
    have hP : va_P G.1 vwCl (wdX3 G v_q0 v_q1 v_q2 v_q3 v_q4 v_q5 v_q6 v_q7 v_present x5 v_a x6 v_d v_spot v_middle v_tint v_w v_s v_h v_valuesA v_otherValuesA v_ranksA v_oldRanksA v_orderA v_neighborsA) H := hP
    have hD : va_D A (wdX3 G v_q0 v_q1 v_q2 v_q3 v_q4 v_q5 v_q6 v_q7 v_present x5 v_a x6 v_d v_spot v_middle v_tint v_w v_s v_h v_valuesA v_otherValuesA v_ranksA v_oldRanksA v_orderA v_neighborsA) := hD
    refine lv_aload_n hx hb dX3_turnVectors_37 rfl (lv_at hl 2 rfl) ?_
    refine lv_iload_n hx hb dX3_turnVectors_38 rfl (lv_at hl 0 rfl) ?_
    refine va_put (D := G.1) (ci := 3) (v := .int v_c) (ty := .int) (C := RX3) (T := TX3) (N := 15) hx hb hts fw_X3_turnVectors_X3 tyX3 tyX3_ok nmX3 hown hK.1 hP hD hS 0 rfl rfl 11 (by decide) (hts (.fieldLink RX3 47 "HalftoneScreens$Screen" "d" "I") lk_X3_turnVectors_f47) (fun _ h9 => h9) rfl (tyX3_ok 11 (by decide)) rfl rfl (Nat.le_of_ble_eq_true rfl) dX3_turnVectors_39 (fun H locs hP hD hS => ?_)
    have hP : va_P G.1 vwCl (wdX3 G v_q0 v_q1 v_q2 v_q3 v_q4 v_q5 v_q6 v_q7 v_present x5 v_a x6 v_c v_spot v_middle v_tint v_w v_s v_h v_valuesA v_otherValuesA v_ranksA v_oldRanksA v_orderA v_neighborsA) H := hP
    have hD : va_D A (wdX3 G v_q0 v_q1 v_q2 v_q3 v_q4 v_q5 v_q6 v_q7 v_present x5 v_a x6 v_c v_spot v_middle v_tint v_w v_s v_h v_valuesA v_otherValuesA v_ranksA v_oldRanksA v_orderA v_neighborsA) := hD
    refine lv_goto (tgt := 97) hx hb dX3_turnVectors_42 (by decide) ?_
    obtain ⟨rfl, rfl, rfl, rfl⟩ := sm4 h
    exact hret _ _ _ _ trivial hP hD hS dX3_turnVectors_97
theorem fw_X3_exchangeVectors_X3 : ∀ w ∈ wsX30, w ∈ wsX3_exchangeVectors := fun w h => List.mem_cons_of_mem _ (List.mem_append_right _ h)
theorem lk_X3_exchangeVectors_f37 : Cond.fieldLink RX3 37 "HalftoneScreens$Screen" "a" "I" ∈ wsX3_exchangeVectors := List.mem_of_getElem? (i := 1) rfl
theorem lk_X3_exchangeVectors_f41 : Cond.fieldLink RX3 41 "HalftoneScreens$Screen" "b" "I" ∈ wsX3_exchangeVectors := List.mem_of_getElem? (i := 2) rfl
theorem lk_X3_exchangeVectors_f44 : Cond.fieldLink RX3 44 "HalftoneScreens$Screen" "c" "I" ∈ wsX3_exchangeVectors := List.mem_of_getElem? (i := 3) rfl
theorem lk_X3_exchangeVectors_f47 : Cond.fieldLink RX3 47 "HalftoneScreens$Screen" "d" "I" ∈ wsX3_exchangeVectors := List.mem_of_getElem? (i := 4) rfl
abbrev rmX3_exchangeVectors : Room := { frames := 0, cells := 0, slots := 0, locals := 0 }
set_option maxHeartbeats 4000000 in
set_option maxRecDepth 100000 in
theorem ctX3_exchangeVectors (l : Launch) (G : GG) (v_q0 : Nat) (v_q1 : Nat) (v_q2 : Nat) (v_q3 : Nat) (v_q4 : Nat) (v_q5 : Nat) (v_q6 : Nat) (v_q7 : Nat) (v_present : Int32) (v_a : Int32) (v_b : Int32) (v_c : Int32) (v_d : Int32) (v_spot : Int32) (v_middle : Int32) (v_tint : Int32) (v_w : Int32) (v_s : Int32) (v_h : Int32) (v_valuesA : (Nat → Int32)) (v_otherValuesA : (Nat → Int32)) (v_ranksA : (Nat → Int32)) (v_oldRanksA : (Nat → Int32)) (v_orderA : (Nat → Int32)) (v_neighborsA : (Nat → Int32)) (o0 : Int32) (o1 : Int32) (o2 : Int32) (o3 : Int32) (h : mX3_exchangeVectors v_a v_b v_c v_d = some (o0, o1, o2, o3))  : Met l yX3_exchangeVectors wsX3_exchangeVectors rmX3_exchangeVectors (va_Pc [.ref v_q0] (PreD G (wdX3 G v_q0 v_q1 v_q2 v_q3 v_q4 v_q5 v_q6 v_q7 v_present v_a v_b v_c v_d v_spot v_middle v_tint v_w v_s v_h v_valuesA v_otherValuesA v_ranksA v_oldRanksA v_orderA v_neighborsA) (fun _ => True))) (QwA G (va_A0 (wdX3 G v_q0 v_q1 v_q2 v_q3 v_q4 v_q5 v_q6 v_q7 v_present v_a v_b v_c v_d v_spot v_middle v_tint v_w v_s v_h v_valuesA v_otherValuesA v_ranksA v_oldRanksA v_orderA v_neighborsA)) (wdX3 G v_q0 v_q1 v_q2 v_q3 v_q4 v_q5 v_q6 v_q7 v_present o0 o1 o2 o3 v_spot v_middle v_tint v_w v_s v_h v_valuesA v_otherValuesA v_ranksA v_oldRanksA v_orderA v_neighborsA) none True) 0 0 (va_A0 (wdX3 G v_q0 v_q1 v_q2 v_q3 v_q4 v_q5 v_q6 v_q7 v_present v_a v_b v_c v_d v_spot v_middle v_tint v_w v_s v_h v_valuesA v_otherValuesA v_ranksA v_oldRanksA v_orderA v_neighborsA)) := by
  refine of_wv (cc := cX3_exchangeVectors) (maxL := 3) (plainFor_of_name (by decide)) rfl (Nat.le_of_ble_eq_true rfl) ?_
  intro p e s m args below meth c ls Q A S hl hP hD hS hK hX hA hret
  obtain ⟨H, hH⟩ : ∃ H, H = s.heap := ⟨_, rfl⟩
  obtain ⟨locs, hlocs⟩ : ∃ L : List Loc, L = [] := ⟨_, rfl⟩
  rw [← hlocs]
  rw [← hlocs] at hS
  have hP : va_P G.1 vwCl (wdX3 G v_q0 v_q1 v_q2 v_q3 v_q4 v_q5 v_q6 v_q7 v_present v_a v_b v_c v_d v_spot v_middle v_tint v_w v_s v_h v_valuesA v_otherValuesA v_ranksA v_oldRanksA v_orderA v_neighborsA) H := by rw [hH]; exact hP
  have hS : va_S A s.heap H locs := by rw [hH]; exact hS
  suffices hgo : W p l e rmX3_exchangeVectors s m args below meth c H locs 0 0 Q (F0 m 0 ls []) by rw [hH] at hgo; exact hgo
  have S : CallFix p m c cX3_exchangeVectors 3 s args wsX3_exchangeVectors RX3 := S
  obtain ⟨hx, hb, hml, hown, hts⟩ := id S
  have hl : lv_has ls 3 [(0, .ref v_q0)] := hl
  unfold mX3_exchangeVectors at h
  refine lv_aload_n hx hb dX3_exchangeVectors_0 rfl (lv_at hl 0 rfl) ?_
  refine va_get (D := G.1) (ci := 3) (v := .int v_a) (C := RX3) (T := TX3) (N := 15) hx hb hts fw_X3_exchangeVectors_X3 hown hK.1 hP 0 rfl rfl 8 (by decide) (hts (.fieldLink RX3 37 "HalftoneScreens$Screen" "a" "I") lk_X3_exchangeVectors_f37) (fun _ h9 => h9) rfl dX3_exchangeVectors_1 ?_
  refine lv_istore_n (lv' := [(1, .int v_a), (0, .ref v_q0)]) hx hb dX3_exchangeVectors_4 rfl hl (by decide) rfl (fun ls hl => ?_)
  refine lv_aload_n hx hb dX3_exchangeVectors_5 rfl (lv_at hl 1 rfl) ?_
  refine va_get (D := G.1) (ci := 3) (v := .int v_b) (C := RX3) (T := TX3) (N := 15) hx hb hts fw_X3_exchangeVectors_X3 hown hK.1 hP 0 rfl rfl 9 (by decide) (hts (.fieldLink RX3 41 "HalftoneScreens$Screen" "b" "I") lk_X3_exchangeVectors_f41) (fun _ h9 => h9) rfl dX3_exchangeVectors_6 ?_
  refine lv_istore_n (lv' := [(2, .int v_b), (1, .int v_a), (0, .ref v_q0)]) hx hb dX3_exchangeVectors_9 rfl hl (by decide) rfl (fun ls hl => ?_)
  refine lv_aload_n hx hb dX3_exchangeVectors_10 rfl (lv_at hl 2 rfl) ?_
  refine lv_aload_n hx hb dX3_exchangeVectors_11 rfl (lv_at hl 2 rfl) ?_
  refine va_get (D := G.1) (ci := 3) (v := .int v_c) (C := RX3) (T := TX3) (N := 15) hx hb hts fw_X3_exchangeVectors_X3 hown hK.1 hP 0 rfl rfl 10 (by decide) (hts (.fieldLink RX3 44 "HalftoneScreens$Screen" "c" "I") lk_X3_exchangeVectors_f44) (fun _ h9 => h9) rfl dX3_exchangeVectors_12 ?_
  refine va_put (D := G.1) (ci := 3) (v := .int v_c) (ty := .int) (C := RX3) (T := TX3) (N := 15) hx hb hts fw_X3_exchangeVectors_X3 tyX3 tyX3_ok nmX3 hown hK.1 hP hD hS 0 rfl rfl 8 (by decide) (hts (.fieldLink RX3 37 "HalftoneScreens$Screen" "a" "I") lk_X3_exchangeVectors_f37) (fun _ h9 => h9) rfl (tyX3_ok 8 (by decide)) rfl rfl (Nat.le_of_ble_eq_true rfl) dX3_exchangeVectors_15 (fun H locs hP hD hS => ?_)
  have hP : va_P G.1 vwCl (wdX3 G v_q0 v_q1 v_q2 v_q3 v_q4 v_q5 v_q6 v_q7 v_present v_c v_b v_c v_d v_spot v_middle v_tint v_w v_s v_h v_valuesA v_otherValuesA v_ranksA v_oldRanksA v_orderA v_neighborsA) H := hP
  have hD : va_D A (wdX3 G v_q0 v_q1 v_q2 v_q3 v_q4 v_q5 v_q6 v_q7 v_present v_c v_b v_c v_d v_spot v_middle v_tint v_w v_s v_h v_valuesA v_otherValuesA v_ranksA v_oldRanksA v_orderA v_neighborsA) := hD
  refine lv_aload_n hx hb dX3_exchangeVectors_18 rfl (lv_at hl 2 rfl) ?_
  refine lv_aload_n hx hb dX3_exchangeVectors_19 rfl (lv_at hl 2 rfl) ?_
  refine va_get (D := G.1) (ci := 3) (v := .int v_d) (C := RX3) (T := TX3) (N := 15) hx hb hts fw_X3_exchangeVectors_X3 hown hK.1 hP 0 rfl rfl 11 (by decide) (hts (.fieldLink RX3 47 "HalftoneScreens$Screen" "d" "I") lk_X3_exchangeVectors_f47) (fun _ h9 => h9) rfl dX3_exchangeVectors_20 ?_
  refine va_put (D := G.1) (ci := 3) (v := .int v_d) (ty := .int) (C := RX3) (T := TX3) (N := 15) hx hb hts fw_X3_exchangeVectors_X3 tyX3 tyX3_ok nmX3 hown hK.1 hP hD hS 0 rfl rfl 9 (by decide) (hts (.fieldLink RX3 41 "HalftoneScreens$Screen" "b" "I") lk_X3_exchangeVectors_f41) (fun _ h9 => h9) rfl (tyX3_ok 9 (by decide)) rfl rfl (Nat.le_of_ble_eq_true rfl) dX3_exchangeVectors_23 (fun H locs hP hD hS => ?_)
  have hP : va_P G.1 vwCl (wdX3 G v_q0 v_q1 v_q2 v_q3 v_q4 v_q5 v_q6 v_q7 v_present v_c v_d v_c v_d v_spot v_middle v_tint v_w v_s v_h v_valuesA v_otherValuesA v_ranksA v_oldRanksA v_orderA v_neighborsA) H := hP
  have hD : va_D A (wdX3 G v_q0 v_q1 v_q2 v_q3 v_q4 v_q5 v_q6 v_q7 v_present v_c v_d v_c v_d v_spot v_middle v_tint v_w v_s v_h v_valuesA v_otherValuesA v_ranksA v_oldRanksA v_orderA v_neighborsA) := hD
  refine lv_aload_n hx hb dX3_exchangeVectors_26 rfl (lv_at hl 2 rfl) ?_
  refine lv_iload_n hx hb dX3_exchangeVectors_27 rfl (lv_at hl 1 rfl) ?_
  refine va_put (D := G.1) (ci := 3) (v := .int v_a) (ty := .int) (C := RX3) (T := TX3) (N := 15) hx hb hts fw_X3_exchangeVectors_X3 tyX3 tyX3_ok nmX3 hown hK.1 hP hD hS 0 rfl rfl 10 (by decide) (hts (.fieldLink RX3 44 "HalftoneScreens$Screen" "c" "I") lk_X3_exchangeVectors_f44) (fun _ h9 => h9) rfl (tyX3_ok 10 (by decide)) rfl rfl (Nat.le_of_ble_eq_true rfl) dX3_exchangeVectors_28 (fun H locs hP hD hS => ?_)
  have hP : va_P G.1 vwCl (wdX3 G v_q0 v_q1 v_q2 v_q3 v_q4 v_q5 v_q6 v_q7 v_present v_c v_d v_a v_d v_spot v_middle v_tint v_w v_s v_h v_valuesA v_otherValuesA v_ranksA v_oldRanksA v_orderA v_neighborsA) H := hP
  have hD : va_D A (wdX3 G v_q0 v_q1 v_q2 v_q3 v_q4 v_q5 v_q6 v_q7 v_present v_c v_d v_a v_d v_spot v_middle v_tint v_w v_s v_h v_valuesA v_otherValuesA v_ranksA v_oldRanksA v_orderA v_neighborsA) := hD
  refine lv_aload_n hx hb dX3_exchangeVectors_31 rfl (lv_at hl 2 rfl) ?_
  refine lv_iload_n hx hb dX3_exchangeVectors_32 rfl (lv_at hl 0 rfl) ?_
  refine va_put (D := G.1) (ci := 3) (v := .int v_b) (ty := .int) (C := RX3) (T := TX3) (N := 15) hx hb hts fw_X3_exchangeVectors_X3 tyX3 tyX3_ok nmX3 hown hK.1 hP hD hS 0 rfl rfl 11 (by decide) (hts (.fieldLink RX3 47 "HalftoneScreens$Screen" "d" "I") lk_X3_exchangeVectors_f47) (fun _ h9 => h9) rfl (tyX3_ok 11 (by decide)) rfl rfl (Nat.le_of_ble_eq_true rfl) dX3_exchangeVectors_33 (fun H locs hP hD hS => ?_)
  have hP : va_P G.1 vwCl (wdX3 G v_q0 v_q1 v_q2 v_q3 v_q4 v_q5 v_q6 v_q7 v_present v_c v_d v_a v_b v_spot v_middle v_tint v_w v_s v_h v_valuesA v_otherValuesA v_ranksA v_oldRanksA v_orderA v_neighborsA) H := hP
  have hD : va_D A (wdX3 G v_q0 v_q1 v_q2 v_q3 v_q4 v_q5 v_q6 v_q7 v_present v_c v_d v_a v_b v_spot v_middle v_tint v_w v_s v_h v_valuesA v_otherValuesA v_ranksA v_oldRanksA v_orderA v_neighborsA) := hD
  obtain ⟨rfl, rfl, rfl, rfl⟩ := sm4 h
  exact hret _ _ _ _ trivial hP hD hS dX3_exchangeVectors_36
theorem fw_X3_shortenVectors_X3 : ∀ w ∈ wsX30, w ∈ wsX3_shortenVectors := fun w h => List.mem_cons_of_mem _ (List.mem_append_right _ h)
theorem lk_X3_shortenVectors_f44 : Cond.fieldLink RX3 44 "HalftoneScreens$Screen" "c" "I" ∈ wsX3_shortenVectors := List.mem_of_getElem? (i := 1) rfl
theorem lk_X3_shortenVectors_f47 : Cond.fieldLink RX3 47 "HalftoneScreens$Screen" "d" "I" ∈ wsX3_shortenVectors := List.mem_of_getElem? (i := 2) rfl
theorem lk_X3_shortenVectors_f37 : Cond.fieldLink RX3 37 "HalftoneScreens$Screen" "a" "I" ∈ wsX3_shortenVectors := List.mem_of_getElem? (i := 3) rfl
theorem lk_X3_shortenVectors_f41 : Cond.fieldLink RX3 41 "HalftoneScreens$Screen" "b" "I" ∈ wsX3_shortenVectors := List.mem_of_getElem? (i := 4) rfl
theorem hsX3_exchangeVectors : yX3_exchangeVectors.cls ≠ "java/lang/invoke/MethodHandle" ∧ yX3_exchangeVectors.cls ≠ "java/lang/invoke/VarHandle" ∧ (parseMethodDescriptor yX3_exchangeVectors.desc).map (fun d => d.parameters.length) = some 0 := by decide +kernel
theorem hvX3_exchangeVectors : yX3_exchangeVectors.cls = RX3 ∧ yX3_exchangeVectors.cls ≠ "java/lang/invoke/MethodHandle" ∧ yX3_exchangeVectors.cls ≠ "java/lang/invoke/VarHandle" ∧ (parseMethodDescriptor yX3_exchangeVectors.desc).map (fun d => d.parameters.length) = some 0 := ⟨rfl, hsX3_exchangeVectors⟩
theorem hsX3_nearestRatio : yX3_nearestRatio.cls ≠ "java/lang/invoke/MethodHandle" ∧ yX3_nearestRatio.cls ≠ "java/lang/invoke/VarHandle" ∧ (parseMethodDescriptor yX3_nearestRatio.desc).map (fun d => d.parameters.length) = some 2 := by decide +kernel
theorem hvX3_nearestRatio : yX3_nearestRatio.cls = RX3 ∧ yX3_nearestRatio.cls ≠ "java/lang/invoke/MethodHandle" ∧ yX3_nearestRatio.cls ≠ "java/lang/invoke/VarHandle" ∧ (parseMethodDescriptor yX3_nearestRatio.desc).map (fun d => d.parameters.length) = some 2 := ⟨rfl, hsX3_nearestRatio⟩
abbrev rmX3_shortenVectors : Room := { frames := 2, cells := 0, slots := 0, locals := 43 }
set_option maxHeartbeats 4000000 in
set_option maxRecDepth 100000 in
theorem ctX3_shortenVectors (l : Launch) (G : GG) (v_q0 : Nat) (v_q1 : Nat) (v_q2 : Nat) (v_q3 : Nat) (v_q4 : Nat) (v_q5 : Nat) (v_q6 : Nat) (v_q7 : Nat) (v_present : Int32) (v_a : Int32) (v_b : Int32) (v_c : Int32) (v_d : Int32) (v_spot : Int32) (v_middle : Int32) (v_tint : Int32) (v_w : Int32) (v_s : Int32) (v_h : Int32) (v_valuesA : (Nat → Int32)) (v_otherValuesA : (Nat → Int32)) (v_ranksA : (Nat → Int32)) (v_oldRanksA : (Nat → Int32)) (v_orderA : (Nat → Int32)) (v_neighborsA : (Nat → Int32)) (o0 : Int32) (o1 : Int32) (o2 : Int32) (o3 : Int32) (o4 : Int32) (h : mX3_shortenVectors v_a v_b v_c v_d = some (o0, o1, o2, o3, o4))  : Met l yX3_shortenVectors wsX3_shortenVectors rmX3_shortenVectors (va_Pc [.ref v_q0] (PreD G (wdX3 G v_q0 v_q1 v_q2 v_q3 v_q4 v_q5 v_q6 v_q7 v_present v_a v_b v_c v_d v_spot v_middle v_tint v_w v_s v_h v_valuesA v_otherValuesA v_ranksA v_oldRanksA v_orderA v_neighborsA) (fun _ => True))) (QwA G (va_A0 (wdX3 G v_q0 v_q1 v_q2 v_q3 v_q4 v_q5 v_q6 v_q7 v_present v_a v_b v_c v_d v_spot v_middle v_tint v_w v_s v_h v_valuesA v_otherValuesA v_ranksA v_oldRanksA v_orderA v_neighborsA)) (wdX3 G v_q0 v_q1 v_q2 v_q3 v_q4 v_q5 v_q6 v_q7 v_present o1 o2 o3 o4 v_spot v_middle v_tint v_w v_s v_h v_valuesA v_otherValuesA v_ranksA v_oldRanksA v_orderA v_neighborsA) (some (.int o0)) True) 0 0 (va_A0 (wdX3 G v_q0 v_q1 v_q2 v_q3 v_q4 v_q5 v_q6 v_q7 v_present v_a v_b v_c v_d v_spot v_middle v_tint v_w v_s v_h v_valuesA v_otherValuesA v_ranksA v_oldRanksA v_orderA v_neighborsA)) := by
  refine of_wi (cc := cX3_shortenVectors) (maxL := 4) (ty := .int) (plainFor_of_name (by decide)) rfl (Nat.le_of_ble_eq_true rfl) ?_
  intro p e s m args below meth c ls Q A S hl hP hD hS hK hX hA hret
  obtain ⟨H, hH⟩ : ∃ H, H = s.heap := ⟨_, rfl⟩
  obtain ⟨locs, hlocs⟩ : ∃ L : List Loc, L = [] := ⟨_, rfl⟩
  rw [← hlocs]
  rw [← hlocs] at hS
  have hP : va_P G.1 vwCl (wdX3 G v_q0 v_q1 v_q2 v_q3 v_q4 v_q5 v_q6 v_q7 v_present v_a v_b v_c v_d v_spot v_middle v_tint v_w v_s v_h v_valuesA v_otherValuesA v_ranksA v_oldRanksA v_orderA v_neighborsA) H := by rw [hH]; exact hP
  have hS : va_S A s.heap H locs := by rw [hH]; exact hS
  suffices hgo : W p l e rmX3_shortenVectors s m args below meth c H locs 0 0 Q (F0 m 0 ls []) by rw [hH] at hgo; exact hgo
  have S : CallFix p m c cX3_shortenVectors 4 s args wsX3_shortenVectors RX3 := S
  obtain ⟨hx, hb, hml, hown, hts⟩ := id S
  have hl : lv_has ls 4 [(0, .ref v_q0)] := hl
  unfold mX3_shortenVectors at h
  refine lv_iconst (v := 0) hx hb dX3_shortenVectors_0 (by decide) ?_
  refine lv_istore_n (lv' := [(1, .int 0), (0, .ref v_q0)]) hx hb dX3_shortenVectors_1 rfl hl (by decide) rfl (fun ls hl => ?_)
  refine lv_iconst (v := 0) hx hb dX3_shortenVectors_2 (by decide) ?_
  refine lv_istore_n (lv' := [(2, .int 0), (1, .int 0), (0, .ref v_q0)]) hx hb dX3_shortenVectors_3 rfl hl (by decide) rfl (fun ls hl => ?_)
  have L1 : ∀ (fu : Nat) (v1_0 : Int32) (v1_1 : Int32) (v1_2 : Int32) (v1_3 : Int32) (v1_4 : Int32) (v1_5 : Int32) (H : Heap) (locs : List Loc) (ls : Array Slot), mX3_shortenVectors_L4  fu v1_0 v1_1 v1_2 v1_3 v1_4 v1_5 = some (o0, o1, o2, o3, o4) → lv_has ls 4 [(2, .int v1_0), (1, .int v1_1), (0, .ref v_q0)] → va_P G.1 vwCl (wdX3 G v_q0 v_q1 v_q2 v_q3 v_q4 v_q5 v_q6 v_q7 v_present v1_2 v1_3 v1_4 v1_5 v_spot v_middle v_tint v_w v_s v_h v_valuesA v_otherValuesA v_ranksA v_oldRanksA v_orderA v_neighborsA) H → va_D A (wdX3 G v_q0 v_q1 v_q2 v_q3 v_q4 v_q5 v_q6 v_q7 v_present v1_2 v1_3 v1_4 v1_5 v_spot v_middle v_tint v_w v_s v_h v_valuesA v_otherValuesA v_ranksA v_oldRanksA v_orderA v_neighborsA) → va_S A s.heap H locs → W p l e rmX3_shortenVectors s m args below meth c H locs 0 0 Q (F0 m 4 ls []) := by
    intro fu
    induction fu with
    | zero => intro v1_0 v1_1 v1_2 v1_3 v1_4 v1_5 H locs ls h; exact nomatch h
    | succ fu ih =>
      intro v1_0 v1_1 v1_2 v1_3 v1_4 v1_5 H locs ls h hl hP hD hS
      rw [mX3_shortenVectors_L4] at h
      refine lv_iload_n hx hb dX3_shortenVectors_4 rfl (lv_at hl 0 rfl) ?_
      refine lv_sipush (v := 1000) hx hb dX3_shortenVectors_5 (by decide) ?_
      refine lv_icmp_ge (tgt := 143) hx hb dX3_shortenVectors_8 (by decide) (fun c2 => ?_) (fun c2 => ?_)
      · replace h := ite_t c2 h
        refine lv_iload_n hx hb dX3_shortenVectors_143 rfl (lv_at hl 1 rfl) ?_
        obtain ⟨rfl, rfl, rfl, rfl, rfl⟩ := sm5 h
        exact hret _ _ _ _ _ rfl trivial rfl hP hD hS dX3_shortenVectors_144
      · replace h := ite_f c2 h
        refine lv_aload_n hx hb dX3_shortenVectors_11 rfl (lv_at hl 2 rfl) ?_
        refine va_get (D := G.1) (ci := 3) (v := .int v1_4) (C := RX3) (T := TX3) (N := 15) hx hb hts fw_X3_shortenVectors_X3 hown hK.1 hP 0 rfl rfl 10 (by decide) (hts (.fieldLink RX3 44 "HalftoneScreens$Screen" "c" "I") lk_X3_shortenVectors_f44) (fun _ h9 => h9) rfl dX3_shortenVectors_12 ?_
        refine lv_aload_n hx hb dX3_shortenVectors_15 rfl (lv_at hl 2 rfl) ?_
        refine va_get (D := G.1) (ci := 3) (v := .int v1_4) (C := RX3) (T := TX3) (N := 15) hx hb hts fw_X3_shortenVectors_X3 hown hK.1 hP 0 rfl rfl 10 (by decide) (hts (.fieldLink RX3 44 "HalftoneScreens$Screen" "c" "I") lk_X3_shortenVectors_f44) (fun _ h9 => h9) rfl dX3_shortenVectors_16 ?_
        refine lv_imul hx hb dX3_shortenVectors_19 ?_
        refine lv_aload_n hx hb dX3_shortenVectors_20 rfl (lv_at hl 2 rfl) ?_
        refine va_get (D := G.1) (ci := 3) (v := .int v1_5) (C := RX3) (T := TX3) (N := 15) hx hb hts fw_X3_shortenVectors_X3 hown hK.1 hP 0 rfl rfl 11 (by decide) (hts (.fieldLink RX3 47 "HalftoneScreens$Screen" "d" "I") lk_X3_shortenVectors_f47) (fun _ h9 => h9) rfl dX3_shortenVectors_21 ?_
        refine lv_aload_n hx hb dX3_shortenVectors_24 rfl (lv_at hl 2 rfl) ?_
        refine va_get (D := G.1) (ci := 3) (v := .int v1_5) (C := RX3) (T := TX3) (N := 15) hx hb hts fw_X3_shortenVectors_X3 hown hK.1 hP 0 rfl rfl 11 (by decide) (hts (.fieldLink RX3 47 "HalftoneScreens$Screen" "d" "I") lk_X3_shortenVectors_f47) (fun _ h9 => h9) rfl dX3_shortenVectors_25 ?_
        refine lv_imul hx hb dX3_shortenVectors_28 ?_
        refine lv_iadd hx hb dX3_shortenVectors_29 ?_
        refine lv_aload_n hx hb dX3_shortenVectors_30 rfl (lv_at hl 2 rfl) ?_
        refine va_get (D := G.1) (ci := 3) (v := .int v1_2) (C := RX3) (T := TX3) (N := 15) hx hb hts fw_X3_shortenVectors_X3 hown hK.1 hP 0 rfl rfl 8 (by decide) (hts (.fieldLink RX3 37 "HalftoneScreens$Screen" "a" "I") lk_X3_shortenVectors_f37) (fun _ h9 => h9) rfl dX3_shortenVectors_31 ?_
        refine lv_aload_n hx hb dX3_shortenVectors_34 rfl (lv_at hl 2 rfl) ?_
        refine va_get (D := G.1) (ci := 3) (v := .int v1_2) (C := RX3) (T := TX3) (N := 15) hx hb hts fw_X3_shortenVectors_X3 hown hK.1 hP 0 rfl rfl 8 (by decide) (hts (.fieldLink RX3 37 "HalftoneScreens$Screen" "a" "I") lk_X3_shortenVectors_f37) (fun _ h9 => h9) rfl dX3_shortenVectors_35 ?_
        refine lv_imul hx hb dX3_shortenVectors_38 ?_
        refine lv_aload_n hx hb dX3_shortenVectors_39 rfl (lv_at hl 2 rfl) ?_
        refine va_get (D := G.1) (ci := 3) (v := .int v1_3) (C := RX3) (T := TX3) (N := 15) hx hb hts fw_X3_shortenVectors_X3 hown hK.1 hP 0 rfl rfl 9 (by decide) (hts (.fieldLink RX3 41 "HalftoneScreens$Screen" "b" "I") lk_X3_shortenVectors_f41) (fun _ h9 => h9) rfl dX3_shortenVectors_40 ?_
        refine lv_aload_n hx hb dX3_shortenVectors_43 rfl (lv_at hl 2 rfl) ?_
        refine va_get (D := G.1) (ci := 3) (v := .int v1_3) (C := RX3) (T := TX3) (N := 15) hx hb hts fw_X3_shortenVectors_X3 hown hK.1 hP 0 rfl rfl 9 (by decide) (hts (.fieldLink RX3 41 "HalftoneScreens$Screen" "b" "I") lk_X3_shortenVectors_f41) (fun _ h9 => h9) rfl dX3_shortenVectors_44 ?_
        refine lv_imul hx hb dX3_shortenVectors_47 ?_
        refine lv_iadd hx hb dX3_shortenVectors_48 ?_
        obtain ⟨K3, hK3, h⟩ := jB4_e h
        have J3 : ∀ (j3_0 : Int32) (j3_1 : Int32) (j3_2 : Int32) (j3_3 : Int32) (H : Heap) (locs : List Loc) (ls : Array Slot), K3 j3_0 j3_1 j3_2 j3_3 = some (o0, o1, o2, o3, o4) → lv_has ls 4 [(2, .int v1_0), (1, .int v1_1), (0, .ref v_q0)] → va_P G.1 vwCl (wdX3 G v_q0 v_q1 v_q2 v_q3 v_q4 v_q5 v_q6 v_q7 v_present j3_0 j3_1 j3_2 j3_3 v_spot v_middle v_tint v_w v_s v_h v_valuesA v_otherValuesA v_ranksA v_oldRanksA v_orderA v_neighborsA) H → va_D A (wdX3 G v_q0 v_q1 v_q2 v_q3 v_q4 v_q5 v_q6 v_q7 v_present j3_0 j3_1 j3_2 j3_3 v_spot v_middle v_tint v_w v_s v_h v_valuesA v_otherValuesA v_ranksA v_oldRanksA v_orderA v_neighborsA) → va_S A s.heap H locs → W p l e rmX3_shortenVectors s m args below meth c H locs 0 0 Q (F0 m 56 ls []) := by
          intro j3_0 j3_1 j3_2 j3_3 H locs ls h hl hP hD hS
          replace h := (hK3 j3_0 j3_1 j3_2 j3_3).symm.trans h
          refine lv_aload_n hx hb dX3_shortenVectors_56 rfl (lv_at hl 2 rfl) ?_
          refine va_get (D := G.1) (ci := 3) (v := .int j3_0) (C := RX3) (T := TX3) (N := 15) hx hb hts fw_X3_shortenVectors_X3 hown hK.1 hP 0 rfl rfl 8 (by decide) (hts (.fieldLink RX3 37 "HalftoneScreens$Screen" "a" "I") lk_X3_shortenVectors_f37) (fun _ h9 => h9) rfl dX3_shortenVectors_57 ?_
          refine lv_aload_n hx hb dX3_shortenVectors_60 rfl (lv_at hl 2 rfl) ?_
          refine va_get (D := G.1) (ci := 3) (v := .int j3_2) (C := RX3) (T := TX3) (N := 15) hx hb hts fw_X3_shortenVectors_X3 hown hK.1 hP 0 rfl rfl 10 (by decide) (hts (.fieldLink RX3 44 "HalftoneScreens$Screen" "c" "I") lk_X3_shortenVectors_f44) (fun _ h9 => h9) rfl dX3_shortenVectors_61 ?_
          refine lv_imul hx hb dX3_shortenVectors_64 ?_
          refine lv_aload_n hx hb dX3_shortenVectors_65 rfl (lv_at hl 2 rfl) ?_
          refine va_get (D := G.1) (ci := 3) (v := .int j3_1) (C := RX3) (T := TX3) (N := 15) hx hb hts fw_X3_shortenVectors_X3 hown hK.1 hP 0 rfl rfl 9 (by decide) (hts (.fieldLink RX3 41 "HalftoneScreens$Screen" "b" "I") lk_X3_shortenVectors_f41) (fun _ h9 => h9) rfl dX3_shortenVectors_66 ?_
          refine lv_aload_n hx hb dX3_shortenVectors_69 rfl (lv_at hl 2 rfl) ?_
          refine va_get (D := G.1) (ci := 3) (v := .int j3_3) (C := RX3) (T := TX3) (N := 15) hx hb hts fw_X3_shortenVectors_X3 hown hK.1 hP 0 rfl rfl 11 (by decide) (hts (.fieldLink RX3 47 "HalftoneScreens$Screen" "d" "I") lk_X3_shortenVectors_f47) (fun _ h9 => h9) rfl dX3_shortenVectors_70 ?_
          refine lv_imul hx hb dX3_shortenVectors_73 ?_
          refine lv_iadd hx hb dX3_shortenVectors_74 ?_
          refine lv_aload_n hx hb dX3_shortenVectors_75 rfl (lv_at hl 2 rfl) ?_
          refine va_get (D := G.1) (ci := 3) (v := .int j3_0) (C := RX3) (T := TX3) (N := 15) hx hb hts fw_X3_shortenVectors_X3 hown hK.1 hP 0 rfl rfl 8 (by decide) (hts (.fieldLink RX3 37 "HalftoneScreens$Screen" "a" "I") lk_X3_shortenVectors_f37) (fun _ h9 => h9) rfl dX3_shortenVectors_76 ?_
          refine lv_aload_n hx hb dX3_shortenVectors_79 rfl (lv_at hl 2 rfl) ?_
          refine va_get (D := G.1) (ci := 3) (v := .int j3_0) (C := RX3) (T := TX3) (N := 15) hx hb hts fw_X3_shortenVectors_X3 hown hK.1 hP 0 rfl rfl 8 (by decide) (hts (.fieldLink RX3 37 "HalftoneScreens$Screen" "a" "I") lk_X3_shortenVectors_f37) (fun _ h9 => h9) rfl dX3_shortenVectors_80 ?_
          refine lv_imul hx hb dX3_shortenVectors_83 ?_
          refine lv_aload_n hx hb dX3_shortenVectors_84 rfl (lv_at hl 2 rfl) ?_
          refine va_get (D := G.1) (ci := 3) (v := .int j3_1) (C := RX3) (T := TX3) (N := 15) hx hb hts fw_X3_shortenVectors_X3 hown hK.1 hP 0 rfl rfl 9 (by decide) (hts (.fieldLink RX3 41 "HalftoneScreens$Screen" "b" "I") lk_X3_shortenVectors_f41) (fun _ h9 => h9) rfl dX3_shortenVectors_85 ?_
          refine lv_aload_n hx hb dX3_shortenVectors_88 rfl (lv_at hl 2 rfl) ?_
          refine va_get (D := G.1) (ci := 3) (v := .int j3_1) (C := RX3) (T := TX3) (N := 15) hx hb hts fw_X3_shortenVectors_X3 hown hK.1 hP 0 rfl rfl 9 (by decide) (hts (.fieldLink RX3 41 "HalftoneScreens$Screen" "b" "I") lk_X3_shortenVectors_f41) (fun _ h9 => h9) rfl dX3_shortenVectors_89 ?_
          refine lv_imul hx hb dX3_shortenVectors_92 ?_
          refine lv_iadd hx hb dX3_shortenVectors_93 ?_
          obtain ⟨r6_0, g6, h⟩ := bnd1_e h
          refine roSi1 (rest := []) (As := [.int ((j3_0 * j3_2) + (j3_1 * j3_3)), .int ((j3_0 * j3_0) + (j3_1 * j3_1))]) S (ctX3_nearestRatio l G ((j3_0 * j3_2) + (j3_1 * j3_3)) ((j3_0 * j3_0) + (j3_1 * j3_1)) r6_0 g6) (va_cwS 2 hts gX3_shortenVectors_X3_nearestRatio rfl rfl rfl hsX3_nearestRatio ⟨Nat.le_of_ble_eq_true rfl, Nat.le_of_ble_eq_true rfl⟩) hK hP [] rfl rfl hl.1 rfl (Nat.le_of_ble_eq_true rfl) dX3_shortenVectors_94 ⟨Nat.le_refl _, Nat.le_refl _⟩ (fun _ => ?_)
          refine lv_istore_n (lv' := [(3, .int r6_0), (2, .int v1_0), (1, .int v1_1), (0, .ref v_q0)]) hx hb dX3_shortenVectors_97 rfl hl (by decide) rfl (fun ls hl => ?_)
          refine lv_iload_n hx hb dX3_shortenVectors_98 rfl (lv_at hl 0 rfl) ?_
          refine lv_if_ne (tgt := 104) hx hb dX3_shortenVectors_99 (by decide) (fun c7 => ?_) (fun c7 => ?_)
          · replace h := ite_f c7 h
            refine lv_aload_n hx hb dX3_shortenVectors_104 rfl (lv_at hl 3 rfl) ?_
            refine lv_dup hx hb dX3_shortenVectors_105 rfl ?_
            refine va_get (D := G.1) (ci := 3) (v := .int j3_2) (C := RX3) (T := TX3) (N := 15) hx hb hts fw_X3_shortenVectors_X3 hown hK.1 hP 0 rfl rfl 10 (by decide) (hts (.fieldLink RX3 44 "HalftoneScreens$Screen" "c" "I") lk_X3_shortenVectors_f44) (fun _ h9 => h9) rfl dX3_shortenVectors_106 ?_
            refine lv_iload_n hx hb dX3_shortenVectors_109 rfl (lv_at hl 0 rfl) ?_
            refine lv_aload_n hx hb dX3_shortenVectors_110 rfl (lv_at hl 3 rfl) ?_
            refine va_get (D := G.1) (ci := 3) (v := .int j3_0) (C := RX3) (T := TX3) (N := 15) hx hb hts fw_X3_shortenVectors_X3 hown hK.1 hP 0 rfl rfl 8 (by decide) (hts (.fieldLink RX3 37 "HalftoneScreens$Screen" "a" "I") lk_X3_shortenVectors_f37) (fun _ h9 => h9) rfl dX3_shortenVectors_111 ?_
            refine lv_imul hx hb dX3_shortenVectors_114 ?_
            refine lv_isub hx hb dX3_shortenVectors_115 ?_
            refine lv_topi (fun x8 e8 => ?_)
            replace h := nmB_e e8 h
            refine va_put (D := G.1) (ci := 3) (v := .int x8) (ty := .int) (C := RX3) (T := TX3) (N := 15) hx hb hts fw_X3_shortenVectors_X3 tyX3 tyX3_ok nmX3 hown hK.1 hP hD hS 0 rfl rfl 10 (by decide) (hts (.fieldLink RX3 44 "HalftoneScreens$Screen" "c" "I") lk_X3_shortenVectors_f44) (fun _ h9 => h9) rfl (tyX3_ok 10 (by decide)) rfl rfl (Nat.le_of_ble_eq_true rfl) dX3_shortenVectors_116 (fun H locs hP hD hS => ?_)
            have hP : va_P G.1 vwCl (wdX3 G v_q0 v_q1 v_q2 v_q3 v_q4 v_q5 v_q6 v_q7 v_present j3_0 j3_1 x8 j3_3 v_spot v_middle v_tint v_w v_s v_h v_valuesA v_otherValuesA v_ranksA v_oldRanksA v_orderA v_neighborsA) H := hP
            have hD : va_D A (wdX3 G v_q0 v_q1 v_q2 v_q3 v_q4 v_q5 v_q6 v_q7 v_present j3_0 j3_1 x8 j3_3 v_spot v_middle v_tint v_w v_s v_h v_valuesA v_otherValuesA v_ranksA v_oldRanksA v_orderA v_neighborsA) := hD
            refine lv_aload_n hx hb dX3_shortenVectors_119 rfl (lv_at hl 3 rfl) ?_
            refine lv_dup hx hb dX3_shortenVectors_120 rfl ?_
            refine va_get (D := G.1) (ci := 3) (v := .int j3_3) (C := RX3) (T := TX3) (N := 15) hx hb hts fw_X3_shortenVectors_X3 hown hK.1 hP 0 rfl rfl 11 (by decide) (hts (.fieldLink RX3 47 "HalftoneScreens$Screen" "d" "I") lk_X3_shortenVectors_f47) (fun _ h9 => h9) rfl dX3_shortenVectors_121 ?_
            refine lv_iload_n hx hb dX3_shortenVectors_124 rfl (lv_at hl 0 rfl) ?_
            refine lv_aload_n hx hb dX3_shortenVectors_125 rfl (lv_at hl 3 rfl) ?_
            refine va_get (D := G.1) (ci := 3) (v := .int j3_1) (C := RX3) (T := TX3) (N := 15) hx hb hts fw_X3_shortenVectors_X3 hown hK.1 hP 0 rfl rfl 9 (by decide) (hts (.fieldLink RX3 41 "HalftoneScreens$Screen" "b" "I") lk_X3_shortenVectors_f41) (fun _ h9 => h9) rfl dX3_shortenVectors_126 ?_
            refine lv_imul hx hb dX3_shortenVectors_129 ?_
            refine lv_isub hx hb dX3_shortenVectors_130 ?_
            refine lv_topi (fun x9 e9 => ?_)
            replace h := nmB_e e9 h
            refine va_put (D := G.1) (ci := 3) (v := .int x9) (ty := .int) (C := RX3) (T := TX3) (N := 15) hx hb hts fw_X3_shortenVectors_X3 tyX3 tyX3_ok nmX3 hown hK.1 hP hD hS 0 rfl rfl 11 (by decide) (hts (.fieldLink RX3 47 "HalftoneScreens$Screen" "d" "I") lk_X3_shortenVectors_f47) (fun _ h9 => h9) rfl (tyX3_ok 11 (by decide)) rfl rfl (Nat.le_of_ble_eq_true rfl) dX3_shortenVectors_131 (fun H locs hP hD hS => ?_)
            have hP : va_P G.1 vwCl (wdX3 G v_q0 v_q1 v_q2 v_q3 v_q4 v_q5 v_q6 v_q7 v_present j3_0 j3_1 x8 x9 v_spot v_middle v_tint v_w v_s v_h v_valuesA v_otherValuesA v_ranksA v_oldRanksA v_orderA v_neighborsA) H := hP
            have hD : va_D A (wdX3 G v_q0 v_q1 v_q2 v_q3 v_q4 v_q5 v_q6 v_q7 v_present j3_0 j3_1 x8 x9 v_spot v_middle v_tint v_w v_s v_h v_valuesA v_otherValuesA v_ranksA v_oldRanksA v_orderA v_neighborsA) := hD
            obtain ⟨x10, e10⟩ : ∃ y : Int32, y = v1_1 + 1 := ⟨_, rfl⟩
            replace h := nmB_e e10 h
            refine lv_iinc (v := x10) (lv' := [(1, .int x10), (3, .int r6_0), (2, .int v1_0), (0, .ref v_q0)]) hx hb dX3_shortenVectors_134 hl (k := 2) rfl (by rw [e10]; rfl) (by decide) rfl (fun ls hl => ?_)
            obtain ⟨x11, e11⟩ : ∃ y : Int32, y = v1_0 + 1 := ⟨_, rfl⟩
            replace h := nmB_e e11 h
            refine lv_iinc (v := x11) (lv' := [(2, .int x11), (1, .int x10), (3, .int r6_0), (0, .ref v_q0)]) hx hb dX3_shortenVectors_137 hl (k := 2) rfl (by rw [e11]; rfl) (by decide) rfl (fun ls hl => ?_)
            refine lv_goto (tgt := 4) hx hb dX3_shortenVectors_140 (by decide) ?_
            exact ih x11 x10 j3_0 j3_1 x8 x9 H locs ls h (lv_sub hl [0, 1, 3] rfl) hP hD hS
          · replace h := ite_t c7 h
            refine lv_iload_n hx hb dX3_shortenVectors_102 rfl (lv_at hl 2 rfl) ?_
            obtain ⟨rfl, rfl, rfl, rfl, rfl⟩ := sm5 h
            exact hret _ _ _ _ _ rfl trivial rfl hP hD hS dX3_shortenVectors_103
        refine lv_icmp_ge (tgt := 56) hx hb dX3_shortenVectors_49 (by decide) (fun c4 => ?_) (fun c4 => ?_)
        · replace h := ite_t c4 h
          exact J3 v1_2 v1_3 v1_4 v1_5 H locs ls h hl hP hD hS
        · replace h := ite_f c4 h
          refine lv_aload_n hx hb dX3_shortenVectors_52 rfl (lv_at hl 2 rfl) ?_
          obtain ⟨r5_0, r5_1, r5_2, r5_3, g5, h⟩ := bnd4_e h
          refine rwV_same (rest := []) (As := []) S (ctX3_exchangeVectors l G v_q0 v_q1 v_q2 v_q3 v_q4 v_q5 v_q6 v_q7 v_present v1_2 v1_3 v1_4 v1_5 v_spot v_middle v_tint v_w v_s v_h v_valuesA v_otherValuesA v_ranksA v_oldRanksA v_orderA v_neighborsA r5_0 r5_1 r5_2 r5_3 g5) (cwV 0 hts gX3_shortenVectors_X3_exchangeVectors rfl rfl rfl hvX3_exchangeVectors ⟨Nat.le_of_ble_eq_true rfl, Nat.le_of_ble_eq_true rfl⟩) hK hP hD hS xb_triv (fun _ _ _ => trivial) 0 3 rfl rfl rfl rfl hl.1 rfl (Nat.le_of_ble_eq_true rfl) dX3_shortenVectors_53 ⟨Nat.le_refl _, Nat.le_refl _⟩ (fun _ H locs hP hD hS => ?_)
          have hP : va_P G.1 vwCl (wdX3 G v_q0 v_q1 v_q2 v_q3 v_q4 v_q5 v_q6 v_q7 v_present r5_0 r5_1 r5_2 r5_3 v_spot v_middle v_tint v_w v_s v_h v_valuesA v_otherValuesA v_ranksA v_oldRanksA v_orderA v_neighborsA) H := hP
          have hD : va_D A (wdX3 G v_q0 v_q1 v_q2 v_q3 v_q4 v_q5 v_q6 v_q7 v_present r5_0 r5_1 r5_2 r5_3 v_spot v_middle v_tint v_w v_s v_h v_valuesA v_otherValuesA v_ranksA v_oldRanksA v_orderA v_neighborsA) := hD
          exact J3 r5_0 r5_1 r5_2 r5_3 H locs ls h hl hP hD hS
  exact L1 FU 0 0 v_a v_b v_c v_d H locs ls h hl hP hD hS
theorem fw_X3_become_X3 : ∀ w ∈ wsX30, w ∈ wsX3_become := fun w h => List.mem_cons_of_mem _ (List.mem_append_right _ h)
theorem lk_X3_become_f37 : Cond.fieldLink RX3 37 "HalftoneScreens$Screen" "a" "I" ∈ wsX3_become := List.mem_of_getElem? (i := 1) rfl
theorem lk_X3_become_f41 : Cond.fieldLink RX3 41 "HalftoneScreens$Screen" "b" "I" ∈ wsX3_become := List.mem_of_getElem? (i := 2) rfl
theorem lk_X3_become_f44 : Cond.fieldLink RX3 44 "HalftoneScreens$Screen" "c" "I" ∈ wsX3_become := List.mem_of_getElem? (i := 3) rfl
theorem lk_X3_become_f47 : Cond.fieldLink RX3 47 "HalftoneScreens$Screen" "d" "I" ∈ wsX3_become := List.mem_of_getElem? (i := 4) rfl
theorem lk_X3_become_f50 : Cond.fieldLink RX3 50 "HalftoneScreens$Screen" "spot" "I" ∈ wsX3_become := List.mem_of_getElem? (i := 5) rfl
theorem lk_X3_become_f53 : Cond.fieldLink RX3 53 "HalftoneScreens$Screen" "middle" "Z" ∈ wsX3_become := List.mem_of_getElem? (i := 6) rfl
theorem lk_X3_become_f57 : Cond.fieldLink RX3 57 "HalftoneScreens$Screen" "tint" "I" ∈ wsX3_become := List.mem_of_getElem? (i := 7) rfl
theorem lk_X3_become_f60 : Cond.fieldLink RX3 60 "HalftoneScreens$Screen" "present" "Z" ∈ wsX3_become := List.mem_of_getElem? (i := 8) rfl
abbrev rmX3_become : Room := { frames := 0, cells := 0, slots := 0, locals := 0 }
set_option maxHeartbeats 4000000 in
set_option maxRecDepth 100000 in
theorem ctX3_become (l : Launch) (G : GG) (v_q0 : Nat) (v_q1 : Nat) (v_q2 : Nat) (v_q3 : Nat) (v_q4 : Nat) (v_q5 : Nat) (v_q6 : Nat) (v_q7 : Nat) (v_present : Int32) (v_a : Int32) (v_b : Int32) (v_c : Int32) (v_d : Int32) (v_spot : Int32) (v_middle : Int32) (v_tint : Int32) (v_w : Int32) (v_s : Int32) (v_h : Int32) (v_valuesA : (Nat → Int32)) (v_otherValuesA : (Nat → Int32)) (v_ranksA : (Nat → Int32)) (v_oldRanksA : (Nat → Int32)) (v_orderA : (Nat → Int32)) (v_neighborsA : (Nat → Int32)) (a0 : Int32) (a1 : Int32) (a2 : Int32) (a3 : Int32) (a4 : Int32) (a5 : Int32) (o0 : Int32) (o1 : Int32) (o2 : Int32) (o3 : Int32) (o4 : Int32) (o5 : Int32) (o6 : Int32) (o7 : Int32) (h : mX3_become a0 a1 a2 a3 a4 a5 = some (o0, o1, o2, o3, o4, o5, o6, o7)) (z_a5 : isZ a5)  : Met l yX3_become wsX3_become rmX3_become (va_Pc [.ref v_q0, .int a0, .int a1, .int a2, .int a3, .int a4, .int a5] (PreD G (wdX3 G v_q0 v_q1 v_q2 v_q3 v_q4 v_q5 v_q6 v_q7 v_present v_a v_b v_c v_d v_spot v_middle v_tint v_w v_s v_h v_valuesA v_otherValuesA v_ranksA v_oldRanksA v_orderA v_neighborsA) (fun _ => True))) (QwA G (va_A0 (wdX3 G v_q0 v_q1 v_q2 v_q3 v_q4 v_q5 v_q6 v_q7 v_present v_a v_b v_c v_d v_spot v_middle v_tint v_w v_s v_h v_valuesA v_otherValuesA v_ranksA v_oldRanksA v_orderA v_neighborsA)) (wdX3 G v_q0 v_q1 v_q2 v_q3 v_q4 v_q5 v_q6 v_q7 o0 o1 o2 o3 o4 o5 o6 o7 v_w v_s v_h v_valuesA v_otherValuesA v_ranksA v_oldRanksA v_orderA v_neighborsA) none True) 0 0 (va_A0 (wdX3 G v_q0 v_q1 v_q2 v_q3 v_q4 v_q5 v_q6 v_q7 v_present v_a v_b v_c v_d v_spot v_middle v_tint v_w v_s v_h v_valuesA v_otherValuesA v_ranksA v_oldRanksA v_orderA v_neighborsA)) := by
  refine of_wv (cc := cX3_become) (maxL := 7) (plainFor_of_name (by decide)) rfl (Nat.le_of_ble_eq_true rfl) ?_
  intro p e s m args below meth c ls Q A S hl hP hD hS hK hX hA hret
  obtain ⟨H, hH⟩ : ∃ H, H = s.heap := ⟨_, rfl⟩
  obtain ⟨locs, hlocs⟩ : ∃ L : List Loc, L = [] := ⟨_, rfl⟩
  rw [← hlocs]
  rw [← hlocs] at hS
  have hP : va_P G.1 vwCl (wdX3 G v_q0 v_q1 v_q2 v_q3 v_q4 v_q5 v_q6 v_q7 v_present v_a v_b v_c v_d v_spot v_middle v_tint v_w v_s v_h v_valuesA v_otherValuesA v_ranksA v_oldRanksA v_orderA v_neighborsA) H := by rw [hH]; exact hP
  have hS : va_S A s.heap H locs := by rw [hH]; exact hS
  suffices hgo : W p l e rmX3_become s m args below meth c H locs 0 0 Q (F0 m 0 ls []) by rw [hH] at hgo; exact hgo
  have S : CallFix p m c cX3_become 7 s args wsX3_become RX3 := S
  obtain ⟨hx, hb, hml, hown, hts⟩ := id S
  have hl : lv_has ls 7 [(0, .ref v_q0), (1, .int a0), (2, .int a1), (3, .int a2), (4, .int a3), (5, .int a4), (6, .int a5)] := hl
  unfold mX3_become at h
  refine lv_aload_n hx hb dX3_become_0 rfl (lv_at hl 0 rfl) ?_
  refine lv_iload_n hx hb dX3_become_1 rfl (lv_at hl 1 rfl) ?_
  refine va_put (D := G.1) (ci := 3) (v := .int a0) (ty := .int) (C := RX3) (T := TX3) (N := 15) hx hb hts fw_X3_become_X3 tyX3 tyX3_ok nmX3 hown hK.1 hP hD hS 0 rfl rfl 8 (by decide) (hts (.fieldLink RX3 37 "HalftoneScreens$Screen" "a" "I") lk_X3_become_f37) (fun _ h9 => h9) rfl (tyX3_ok 8 (by decide)) rfl rfl (Nat.le_of_ble_eq_true rfl) dX3_become_2 (fun H locs hP hD hS => ?_)
  have hP : va_P G.1 vwCl (wdX3 G v_q0 v_q1 v_q2 v_q3 v_q4 v_q5 v_q6 v_q7 v_present a0 v_b v_c v_d v_spot v_middle v_tint v_w v_s v_h v_valuesA v_otherValuesA v_ranksA v_oldRanksA v_orderA v_neighborsA) H := hP
  have hD : va_D A (wdX3 G v_q0 v_q1 v_q2 v_q3 v_q4 v_q5 v_q6 v_q7 v_present a0 v_b v_c v_d v_spot v_middle v_tint v_w v_s v_h v_valuesA v_otherValuesA v_ranksA v_oldRanksA v_orderA v_neighborsA) := hD
  refine lv_aload_n hx hb dX3_become_5 rfl (lv_at hl 0 rfl) ?_
  refine lv_iload_n hx hb dX3_become_6 rfl (lv_at hl 2 rfl) ?_
  refine va_put (D := G.1) (ci := 3) (v := .int a1) (ty := .int) (C := RX3) (T := TX3) (N := 15) hx hb hts fw_X3_become_X3 tyX3 tyX3_ok nmX3 hown hK.1 hP hD hS 0 rfl rfl 9 (by decide) (hts (.fieldLink RX3 41 "HalftoneScreens$Screen" "b" "I") lk_X3_become_f41) (fun _ h9 => h9) rfl (tyX3_ok 9 (by decide)) rfl rfl (Nat.le_of_ble_eq_true rfl) dX3_become_7 (fun H locs hP hD hS => ?_)
  have hP : va_P G.1 vwCl (wdX3 G v_q0 v_q1 v_q2 v_q3 v_q4 v_q5 v_q6 v_q7 v_present a0 a1 v_c v_d v_spot v_middle v_tint v_w v_s v_h v_valuesA v_otherValuesA v_ranksA v_oldRanksA v_orderA v_neighborsA) H := hP
  have hD : va_D A (wdX3 G v_q0 v_q1 v_q2 v_q3 v_q4 v_q5 v_q6 v_q7 v_present a0 a1 v_c v_d v_spot v_middle v_tint v_w v_s v_h v_valuesA v_otherValuesA v_ranksA v_oldRanksA v_orderA v_neighborsA) := hD
  refine lv_aload_n hx hb dX3_become_10 rfl (lv_at hl 0 rfl) ?_
  refine lv_iload_n hx hb dX3_become_11 rfl (lv_at hl 3 rfl) ?_
  refine va_put (D := G.1) (ci := 3) (v := .int a2) (ty := .int) (C := RX3) (T := TX3) (N := 15) hx hb hts fw_X3_become_X3 tyX3 tyX3_ok nmX3 hown hK.1 hP hD hS 0 rfl rfl 10 (by decide) (hts (.fieldLink RX3 44 "HalftoneScreens$Screen" "c" "I") lk_X3_become_f44) (fun _ h9 => h9) rfl (tyX3_ok 10 (by decide)) rfl rfl (Nat.le_of_ble_eq_true rfl) dX3_become_12 (fun H locs hP hD hS => ?_)
  have hP : va_P G.1 vwCl (wdX3 G v_q0 v_q1 v_q2 v_q3 v_q4 v_q5 v_q6 v_q7 v_present a0 a1 a2 v_d v_spot v_middle v_tint v_w v_s v_h v_valuesA v_otherValuesA v_ranksA v_oldRanksA v_orderA v_neighborsA) H := hP
  have hD : va_D A (wdX3 G v_q0 v_q1 v_q2 v_q3 v_q4 v_q5 v_q6 v_q7 v_present a0 a1 a2 v_d v_spot v_middle v_tint v_w v_s v_h v_valuesA v_otherValuesA v_ranksA v_oldRanksA v_orderA v_neighborsA) := hD
  refine lv_aload_n hx hb dX3_become_15 rfl (lv_at hl 0 rfl) ?_
  refine lv_iload hx hb dX3_become_16 (lv_at hl 4 rfl) ?_
  refine va_put (D := G.1) (ci := 3) (v := .int a3) (ty := .int) (C := RX3) (T := TX3) (N := 15) hx hb hts fw_X3_become_X3 tyX3 tyX3_ok nmX3 hown hK.1 hP hD hS 0 rfl rfl 11 (by decide) (hts (.fieldLink RX3 47 "HalftoneScreens$Screen" "d" "I") lk_X3_become_f47) (fun _ h9 => h9) rfl (tyX3_ok 11 (by decide)) rfl rfl (Nat.le_of_ble_eq_true rfl) dX3_become_18 (fun H locs hP hD hS => ?_)
  have hP : va_P G.1 vwCl (wdX3 G v_q0 v_q1 v_q2 v_q3 v_q4 v_q5 v_q6 v_q7 v_present a0 a1 a2 a3 v_spot v_middle v_tint v_w v_s v_h v_valuesA v_otherValuesA v_ranksA v_oldRanksA v_orderA v_neighborsA) H := hP
  have hD : va_D A (wdX3 G v_q0 v_q1 v_q2 v_q3 v_q4 v_q5 v_q6 v_q7 v_present a0 a1 a2 a3 v_spot v_middle v_tint v_w v_s v_h v_valuesA v_otherValuesA v_ranksA v_oldRanksA v_orderA v_neighborsA) := hD
  refine lv_aload_n hx hb dX3_become_21 rfl (lv_at hl 0 rfl) ?_
  refine lv_iload hx hb dX3_become_22 (lv_at hl 5 rfl) ?_
  refine va_put (D := G.1) (ci := 3) (v := .int a4) (ty := .int) (C := RX3) (T := TX3) (N := 15) hx hb hts fw_X3_become_X3 tyX3 tyX3_ok nmX3 hown hK.1 hP hD hS 0 rfl rfl 12 (by decide) (hts (.fieldLink RX3 50 "HalftoneScreens$Screen" "spot" "I") lk_X3_become_f50) (fun _ h9 => h9) rfl (tyX3_ok 12 (by decide)) rfl rfl (Nat.le_of_ble_eq_true rfl) dX3_become_24 (fun H locs hP hD hS => ?_)
  have hP : va_P G.1 vwCl (wdX3 G v_q0 v_q1 v_q2 v_q3 v_q4 v_q5 v_q6 v_q7 v_present a0 a1 a2 a3 a4 v_middle v_tint v_w v_s v_h v_valuesA v_otherValuesA v_ranksA v_oldRanksA v_orderA v_neighborsA) H := hP
  have hD : va_D A (wdX3 G v_q0 v_q1 v_q2 v_q3 v_q4 v_q5 v_q6 v_q7 v_present a0 a1 a2 a3 a4 v_middle v_tint v_w v_s v_h v_valuesA v_otherValuesA v_ranksA v_oldRanksA v_orderA v_neighborsA) := hD
  refine lv_aload_n hx hb dX3_become_27 rfl (lv_at hl 0 rfl) ?_
  refine lv_iload hx hb dX3_become_28 (lv_at hl 6 rfl) ?_
  refine va_put (D := G.1) (ci := 3) (v := .int a5) (ty := .boolean) (C := RX3) (T := TX3) (N := 15) hx hb hts fw_X3_become_X3 tyX3 tyX3_ok nmX3 hown hK.1 hP hD hS 0 rfl rfl 13 (by decide) (hts (.fieldLink RX3 53 "HalftoneScreens$Screen" "middle" "Z") lk_X3_become_f53) (fun _ h9 => h9) rfl (tyX3_ok 13 (by decide)) (isZ.nar z_a5) (isZ.fit z_a5) (Nat.le_of_ble_eq_true rfl) dX3_become_30 (fun H locs hP hD hS => ?_)
  have hP : va_P G.1 vwCl (wdX3 G v_q0 v_q1 v_q2 v_q3 v_q4 v_q5 v_q6 v_q7 v_present a0 a1 a2 a3 a4 a5 v_tint v_w v_s v_h v_valuesA v_otherValuesA v_ranksA v_oldRanksA v_orderA v_neighborsA) H := hP
  have hD : va_D A (wdX3 G v_q0 v_q1 v_q2 v_q3 v_q4 v_q5 v_q6 v_q7 v_present a0 a1 a2 a3 a4 a5 v_tint v_w v_s v_h v_valuesA v_otherValuesA v_ranksA v_oldRanksA v_orderA v_neighborsA) := hD
  refine lv_aload_n hx hb dX3_become_33 rfl (lv_at hl 0 rfl) ?_
  refine lv_iconst (v := 0) hx hb dX3_become_34 (by decide) ?_
  refine va_put (D := G.1) (ci := 3) (v := .int 0) (ty := .int) (C := RX3) (T := TX3) (N := 15) hx hb hts fw_X3_become_X3 tyX3 tyX3_ok nmX3 hown hK.1 hP hD hS 0 rfl rfl 14 (by decide) (hts (.fieldLink RX3 57 "HalftoneScreens$Screen" "tint" "I") lk_X3_become_f57) (fun _ h9 => h9) rfl (tyX3_ok 14 (by decide)) rfl rfl (Nat.le_of_ble_eq_true rfl) dX3_become_35 (fun H locs hP hD hS => ?_)
  have hP : va_P G.1 vwCl (wdX3 G v_q0 v_q1 v_q2 v_q3 v_q4 v_q5 v_q6 v_q7 v_present a0 a1 a2 a3 a4 a5 0 v_w v_s v_h v_valuesA v_otherValuesA v_ranksA v_oldRanksA v_orderA v_neighborsA) H := hP
  have hD : va_D A (wdX3 G v_q0 v_q1 v_q2 v_q3 v_q4 v_q5 v_q6 v_q7 v_present a0 a1 a2 a3 a4 a5 0 v_w v_s v_h v_valuesA v_otherValuesA v_ranksA v_oldRanksA v_orderA v_neighborsA) := hD
  refine lv_aload_n hx hb dX3_become_38 rfl (lv_at hl 0 rfl) ?_
  refine lv_iconst (v := 1) hx hb dX3_become_39 (by decide) ?_
  refine va_put (D := G.1) (ci := 3) (v := .int 1) (ty := .boolean) (C := RX3) (T := TX3) (N := 15) hx hb hts fw_X3_become_X3 tyX3 tyX3_ok nmX3 hown hK.1 hP hD hS 0 rfl rfl 7 (by decide) (hts (.fieldLink RX3 60 "HalftoneScreens$Screen" "present" "Z") lk_X3_become_f60) (fun _ h9 => h9) rfl (tyX3_ok 7 (by decide)) (isZ.nar isZ1) (isZ.fit isZ1) (Nat.le_of_ble_eq_true rfl) dX3_become_40 (fun H locs hP hD hS => ?_)
  have hP : va_P G.1 vwCl (wdX3 G v_q0 v_q1 v_q2 v_q3 v_q4 v_q5 v_q6 v_q7 1 a0 a1 a2 a3 a4 a5 0 v_w v_s v_h v_valuesA v_otherValuesA v_ranksA v_oldRanksA v_orderA v_neighborsA) H := hP
  have hD : va_D A (wdX3 G v_q0 v_q1 v_q2 v_q3 v_q4 v_q5 v_q6 v_q7 1 a0 a1 a2 a3 a4 a5 0 v_w v_s v_h v_valuesA v_otherValuesA v_ranksA v_oldRanksA v_orderA v_neighborsA) := hD
  obtain ⟨rfl, rfl, rfl, rfl, rfl, rfl, rfl, rfl⟩ := sm8 h
  exact hret _ _ _ _ trivial hP hD hS dX3_become_43
theorem fw_X3_findNeighbors_X3 : ∀ w ∈ wsX30, w ∈ wsX3_findNeighbors := fun w h => List.mem_cons_of_mem _ (List.mem_append_left _ (List.mem_append_right _ h))
theorem lk_X3_findNeighbors_f12 : Cond.fieldLink RX3 12 "HalftoneScreens$Screen" "lattice" "LHalftoneScreens$Lattice;" ∈ wsX3_findNeighbors := List.mem_of_getElem? (i := 1) rfl
theorem fw_X3_findNeighbors_X2 : ∀ w ∈ wsX20, w ∈ wsX3_findNeighbors := fun w h => List.mem_cons_of_mem _ (List.mem_append_right _ h)
theorem lk_X3_findNeighbors_f117 : Cond.fieldLink RX3 117 "HalftoneScreens$Lattice" "w" "I" ∈ wsX3_findNeighbors := List.mem_of_getElem? (i := 2) rfl
theorem lk_X3_findNeighbors_iX4 : Cond.initialized RX4 ∈ wsX3_findNeighbors := List.mem_of_getElem? (i := 17) rfl
theorem lk_X3_findNeighbors_s_floorDiv : Cond.static yX4_floorDiv ∈ wsX3_findNeighbors := List.mem_of_getElem? (i := 16) rfl
theorem lk_X3_findNeighbors_s_at : Cond.static yX4_at ∈ wsX3_findNeighbors := List.mem_of_getElem? (i := 23) rfl
theorem lk_X3_findNeighbors_f34 : Cond.fieldLink RX3 34 "HalftoneScreens$Screen" "neighbors" "[I" ∈ wsX3_findNeighbors := List.mem_of_getElem? (i := 3) rfl
theorem lk_X3_findNeighbors_s_put : Cond.static yX4_put ∈ wsX3_findNeighbors := List.mem_of_getElem? (i := 35) rfl
theorem hsX4_put : yX4_put.cls ≠ "java/lang/invoke/MethodHandle" ∧ yX4_put.cls ≠ "java/lang/invoke/VarHandle" ∧ (parseMethodDescriptor yX4_put.desc).map (fun d => d.parameters.length) = some 3 := by decide +kernel
theorem hvX4_put : yX4_put.cls = RX4 ∧ yX4_put.cls ≠ "java/lang/invoke/MethodHandle" ∧ yX4_put.cls ≠ "java/lang/invoke/VarHandle" ∧ (parseMethodDescriptor yX4_put.desc).map (fun d => d.parameters.length) = some 3 := ⟨rfl, hsX4_put⟩
abbrev rmX3_findNeighbors : Room := { frames := 3, cells := 0, slots := 0, locals := 66 }
set_option maxHeartbeats 4000000 in
set_option maxRecDepth 100000 in
theorem ctX3_findNeighbors (l : Launch) (G : GG) (v_q0 : Nat) (v_q1 : Nat) (v_q2 : Nat) (v_q3 : Nat) (v_q4 : Nat) (v_q5 : Nat) (v_q6 : Nat) (v_q7 : Nat) (v_present : Int32) (v_a : Int32) (v_b : Int32) (v_c : Int32) (v_d : Int32) (v_spot : Int32) (v_middle : Int32) (v_tint : Int32) (v_w : Int32) (v_s : Int32) (v_h : Int32) (v_valuesA : (Nat → Int32)) (v_otherValuesA : (Nat → Int32)) (v_ranksA : (Nat → Int32)) (v_oldRanksA : (Nat → Int32)) (v_orderA : (Nat → Int32)) (v_neighborsA : (Nat → Int32)) (o0 : (Nat → Int32)) (h : mX3_findNeighbors v_w v_s v_h v_neighborsA = some (o0))  : Met l yX3_findNeighbors wsX3_findNeighbors rmX3_findNeighbors (va_Pc [.ref v_q0] (PreD G (wdX3 G v_q0 v_q1 v_q2 v_q3 v_q4 v_q5 v_q6 v_q7 v_present v_a v_b v_c v_d v_spot v_middle v_tint v_w v_s v_h v_valuesA v_otherValuesA v_ranksA v_oldRanksA v_orderA v_neighborsA) (fun U => SK (va_A0 (wdX3 G v_q0 v_q1 v_q2 v_q3 v_q4 v_q5 v_q6 v_q7 v_present v_a v_b v_c v_d v_spot v_middle v_tint v_w v_s v_h v_valuesA v_otherValuesA v_ranksA v_oldRanksA v_orderA v_neighborsA)) U U.heap))) (QwA G (va_A0 (wdX3 G v_q0 v_q1 v_q2 v_q3 v_q4 v_q5 v_q6 v_q7 v_present v_a v_b v_c v_d v_spot v_middle v_tint v_w v_s v_h v_valuesA v_otherValuesA v_ranksA v_oldRanksA v_orderA v_neighborsA)) (wdX3 G v_q0 v_q1 v_q2 v_q3 v_q4 v_q5 v_q6 v_q7 v_present v_a v_b v_c v_d v_spot v_middle v_tint v_w v_s v_h v_valuesA v_otherValuesA v_ranksA v_oldRanksA v_orderA o0) none True) 0 0 (va_A0 (wdX3 G v_q0 v_q1 v_q2 v_q3 v_q4 v_q5 v_q6 v_q7 v_present v_a v_b v_c v_d v_spot v_middle v_tint v_w v_s v_h v_valuesA v_otherValuesA v_ranksA v_oldRanksA v_orderA v_neighborsA)) := by
  refine of_wv (cc := cX3_findNeighbors) (maxL := 6) (plainFor_of_name (by decide)) rfl (Nat.le_of_ble_eq_true rfl) ?_
  intro p e s m args below meth c ls Q A S hl hP hD hS hK hX hA hret
  obtain ⟨H, hH⟩ : ∃ H, H = s.heap := ⟨_, rfl⟩
  obtain ⟨locs, hlocs⟩ : ∃ L : List Loc, L = [] := ⟨_, rfl⟩
  rw [← hlocs]
  rw [← hlocs] at hS
  have hP : va_P G.1 vwCl (wdX3 G v_q0 v_q1 v_q2 v_q3 v_q4 v_q5 v_q6 v_q7 v_present v_a v_b v_c v_d v_spot v_middle v_tint v_w v_s v_h v_valuesA v_otherValuesA v_ranksA v_oldRanksA v_orderA v_neighborsA) H := by rw [hH]; exact hP
  have hS : va_S A s.heap H locs := by rw [hH]; exact hS
  suffices hgo : W p l e rmX3_findNeighbors s m args below meth c H locs 0 0 Q (F0 m 0 ls []) by rw [hH] at hgo; exact hgo
  have S : CallFix p m c cX3_findNeighbors 6 s args wsX3_findNeighbors RX3 := S
  obtain ⟨hx, hb, hml, hown, hts⟩ := id S
  have hl : lv_has ls 6 [(0, .ref v_q0)] := hl
  unfold mX3_findNeighbors at h
  obtain ⟨tX, tY, hX1⟩ : SK A s s.heap := by rw [hA]; exact hX
  refine lv_iconst (v := 0) hx hb dX3_findNeighbors_0 (by decide) ?_
  refine lv_istore_n (lv' := [(1, .int 0), (0, .ref v_q0)]) hx hb dX3_findNeighbors_1 rfl hl (by decide) rfl (fun ls hl => ?_)
  obtain ⟨u1_0, u1_1, g1, h⟩ := bnd2_e h
  have L1 : ∀ (fu : Nat) (v1_0 : Int32) (v1_1 : (Nat → Int32)) (u1_0 : Int32) (u1_1 : (Nat → Int32)) (H : Heap) (locs : List Loc) (ls : Array Slot), mX3_findNeighbors_L2 v_w v_s v_h fu v1_0 v1_1 = some (u1_0, u1_1) → lv_has ls 6 [(1, .int v1_0), (0, .ref v_q0)] → va_P G.1 vwCl (wdX3 G v_q0 v_q1 v_q2 v_q3 v_q4 v_q5 v_q6 v_q7 v_present v_a v_b v_c v_d v_spot v_middle v_tint v_w v_s v_h v_valuesA v_otherValuesA v_ranksA v_oldRanksA v_orderA v1_1) H → va_D A (wdX3 G v_q0 v_q1 v_q2 v_q3 v_q4 v_q5 v_q6 v_q7 v_present v_a v_b v_c v_d v_spot v_middle v_tint v_w v_s v_h v_valuesA v_otherValuesA v_ranksA v_oldRanksA v_orderA v1_1) → va_S A s.heap H locs → (∀ (H : Heap) (locs : List Loc) (ls : Array Slot), lv_has ls 6 [(1, .int u1_0), (0, .ref v_q0)] → va_P G.1 vwCl (wdX3 G v_q0 v_q1 v_q2 v_q3 v_q4 v_q5 v_q6 v_q7 v_present v_a v_b v_c v_d v_spot v_middle v_tint v_w v_s v_h v_valuesA v_otherValuesA v_ranksA v_oldRanksA v_orderA u1_1) H → va_D A (wdX3 G v_q0 v_q1 v_q2 v_q3 v_q4 v_q5 v_q6 v_q7 v_present v_a v_b v_c v_d v_spot v_middle v_tint v_w v_s v_h v_valuesA v_otherValuesA v_ranksA v_oldRanksA v_orderA u1_1) → va_S A s.heap H locs → W p l e rmX3_findNeighbors s m args below meth c H locs 0 0 Q (F0 m 99 ls [])) → W p l e rmX3_findNeighbors s m args below meth c H locs 0 0 Q (F0 m 2 ls []) := by
    intro fu
    induction fu with
    | zero => intro v1_0 v1_1 u1_0 u1_1 H locs ls h; exact nomatch h
    | succ fu ih =>
      intro v1_0 v1_1 u1_0 u1_1 H locs ls h hl hP hD hS kE
      rw [mX3_findNeighbors_L2] at h
      refine lv_iload_n hx hb dX3_findNeighbors_2 rfl (lv_at hl 0 rfl) ?_
      refine lv_aload_n hx hb dX3_findNeighbors_3 rfl (lv_at hl 1 rfl) ?_
      obtain ⟨r2_0, g2, h⟩ := bnd1_e h
      refine roVi1 (rest := [.int v1_0]) (As := []) S (ctX3_area l G v_q0 v_q1 v_q2 v_q3 v_q4 v_q5 v_q6 v_q7 v_present v_a v_b v_c v_d v_spot v_middle v_tint v_w v_s v_h v_valuesA v_otherValuesA v_ranksA v_oldRanksA v_orderA v1_1 r2_0 g2) (cwV 0 hts gX3_findNeighbors_X3_area rfl rfl rfl hvX3_area ⟨Nat.le_of_ble_eq_true rfl, Nat.le_of_ble_eq_true rfl⟩) hK hP [0, 1, 2, 3, 4, 5, 6, 7] rfl 0 3 rfl rfl rfl rfl hl.1 rfl (Nat.le_of_ble_eq_true rfl) dX3_findNeighbors_4 ⟨Nat.le_refl _, Nat.le_refl _⟩ (fun _ => ?_)
      refine lv_icmp_ge (tgt := 99) hx hb dX3_findNeighbors_7 (by decide) (fun c3 => ?_) (fun c3 => ?_)
      · replace h := ite_t c3 h
        obtain ⟨rfl, rfl⟩ := sm2 h
        exact kE H locs ls hl hP hD hS
      · replace h := ite_f c3 h
        refine lv_iload_n hx hb dX3_findNeighbors_10 rfl (lv_at hl 0 rfl) ?_
        refine lv_aload_n hx hb dX3_findNeighbors_11 rfl (lv_at hl 1 rfl) ?_
        refine va_get (D := G.1) (ci := 3) (v := .ref v_q1) (C := RX3) (T := TX3) (N := 15) hx hb hts fw_X3_findNeighbors_X3 hown hK.1 hP 0 rfl rfl 0 (by decide) (hts (.fieldLink RX3 12 "HalftoneScreens$Screen" "lattice" "LHalftoneScreens$Lattice;") lk_X3_findNeighbors_f12) (fun _ h9 => h9) rfl dX3_findNeighbors_12 ?_
        refine va_get (D := G.1) (ci := 2) (v := .int v_w) (C := RX2) (T := TX2) (N := 3) hx hb hts fw_X3_findNeighbors_X2 hown hK.1 hP 1 rfl rfl 0 (by decide) (hts (.fieldLink RX3 117 "HalftoneScreens$Lattice" "w" "I") lk_X3_findNeighbors_f117) (fun _ h9 => h9) rfl dX3_findNeighbors_15 ?_
        obtain ⟨r4_0, g4, h⟩ := bnd1_e h
        refine roNi1 (rest := []) (As := [.int v1_0, .int v_w]) S (ctX4_floorDiv l G v1_0 v_w r4_0 g4) ⟨va_cnB 2 hts gX3_findNeighbors_X4_floorDiv_n120 rfl rfl rfl (hK.2.1 _ (List.mem_of_getElem? (i := 10) rfl)) (hts (.initialized RX4) lk_X3_findNeighbors_iX4) hsX4_floorDiv ⟨Nat.le_of_ble_eq_true rfl, Nat.le_of_ble_eq_true rfl⟩, (hts (.static yX4_floorDiv) lk_X3_findNeighbors_s_floorDiv), trivial⟩ hK hP [] rfl rfl hl.1 rfl (Nat.le_of_ble_eq_true rfl) dX3_findNeighbors_18 ⟨Nat.le_refl _, Nat.le_refl _⟩ (fun _ => ?_)
        refine lv_istore_n (lv' := [(2, .int r4_0), (1, .int v1_0), (0, .ref v_q0)]) hx hb dX3_findNeighbors_21 rfl hl (by decide) rfl (fun ls hl => ?_)
        refine lv_iload_n hx hb dX3_findNeighbors_22 rfl (lv_at hl 1 rfl) ?_
        refine lv_iload_n hx hb dX3_findNeighbors_23 rfl (lv_at hl 0 rfl) ?_
        refine lv_aload_n hx hb dX3_findNeighbors_24 rfl (lv_at hl 2 rfl) ?_
        refine va_get (D := G.1) (ci := 3) (v := .ref v_q1) (C := RX3) (T := TX3) (N := 15) hx hb hts fw_X3_findNeighbors_X3 hown hK.1 hP 0 rfl rfl 0 (by decide) (hts (.fieldLink RX3 12 "HalftoneScreens$Screen" "lattice" "LHalftoneScreens$Lattice;") lk_X3_findNeighbors_f12) (fun _ h9 => h9) rfl dX3_findNeighbors_25 ?_
        refine va_get (D := G.1) (ci := 2) (v := .int v_w) (C := RX2) (T := TX2) (N := 3) hx hb hts fw_X3_findNeighbors_X2 hown hK.1 hP 1 rfl rfl 0 (by decide) (hts (.fieldLink RX3 117 "HalftoneScreens$Lattice" "w" "I") lk_X3_findNeighbors_f117) (fun _ h9 => h9) rfl dX3_findNeighbors_28 ?_
        refine lv_imul hx hb dX3_findNeighbors_31 ?_
        refine lv_isub hx hb dX3_findNeighbors_32 ?_
        refine lv_topi (fun x5 e5 => ?_)
        replace h := nmB_e e5 h
        refine lv_istore_n (lv' := [(3, .int x5), (2, .int r4_0), (1, .int v1_0), (0, .ref v_q0)]) hx hb dX3_findNeighbors_33 rfl hl (by decide) rfl (fun ls hl => ?_)
        refine lv_iconst (v := 0) hx hb dX3_findNeighbors_34 (by decide) ?_
        refine lv_istore (lv' := [(4, .int 0), (3, .int x5), (2, .int r4_0), (1, .int v1_0), (0, .ref v_q0)]) hx hb dX3_findNeighbors_35 hl (by decide) rfl (fun ls hl => ?_)
        obtain ⟨u6_0, u6_1, g6, h⟩ := bnd2_e h
        have L6 : ∀ (fu : Nat) (v6_0 : Int32) (v6_1 : (Nat → Int32)) (u6_0 : Int32) (u6_1 : (Nat → Int32)) (H : Heap) (locs : List Loc) (ls : Array Slot), mX3_findNeighbors_L37 v_w v_s v_h v1_0 r4_0 x5 fu v6_0 v6_1 = some (u6_0, u6_1) → lv_has ls 6 [(4, .int v6_0), (3, .int x5), (2, .int r4_0), (1, .int v1_0), (0, .ref v_q0)] → va_P G.1 vwCl (wdX3 G v_q0 v_q1 v_q2 v_q3 v_q4 v_q5 v_q6 v_q7 v_present v_a v_b v_c v_d v_spot v_middle v_tint v_w v_s v_h v_valuesA v_otherValuesA v_ranksA v_oldRanksA v_orderA v6_1) H → va_D A (wdX3 G v_q0 v_q1 v_q2 v_q3 v_q4 v_q5 v_q6 v_q7 v_present v_a v_b v_c v_d v_spot v_middle v_tint v_w v_s v_h v_valuesA v_otherValuesA v_ranksA v_oldRanksA v_orderA v6_1) → va_S A s.heap H locs → (∀ (H : Heap) (locs : List Loc) (ls : Array Slot), lv_has ls 6 [(4, .int u6_0), (3, .int x5), (2, .int r4_0), (1, .int v1_0), (0, .ref v_q0)] → va_P G.1 vwCl (wdX3 G v_q0 v_q1 v_q2 v_q3 v_q4 v_q5 v_q6 v_q7 v_present v_a v_b v_c v_d v_spot v_middle v_tint v_w v_s v_h v_valuesA v_otherValuesA v_ranksA v_oldRanksA v_orderA u6_1) H → va_D A (wdX3 G v_q0 v_q1 v_q2 v_q3 v_q4 v_q5 v_q6 v_q7 v_present v_a v_b v_c v_d v_spot v_middle v_tint v_w v_s v_h v_valuesA v_otherValuesA v_ranksA v_oldRanksA v_orderA u6_1) → va_S A s.heap H locs → W p l e rmX3_findNeighbors s m args below meth c H locs 0 0 Q (F0 m 93 ls [])) → W p l e rmX3_findNeighbors s m args below meth c H locs 0 0 Q (F0 m 37 ls []) := by
          intro fu
          induction fu with
          | zero => intro v6_0 v6_1 u6_0 u6_1 H locs ls h; exact nomatch h
          | succ fu ih =>
            intro v6_0 v6_1 u6_0 u6_1 H locs ls h hl hP hD hS kE
            rw [mX3_findNeighbors_L37] at h
            refine lv_iload hx hb dX3_findNeighbors_37 (lv_at hl 0 rfl) ?_
            refine lv_iconst (v := 4) hx hb dX3_findNeighbors_39 (by decide) ?_
            refine lv_icmp_ge (tgt := 93) hx hb dX3_findNeighbors_40 (by decide) (fun c7 => ?_) (fun c7 => ?_)
            · replace h := ite_t c7 h
              obtain ⟨rfl, rfl⟩ := sm2 h
              exact kE H locs ls hl hP hD hS
            · replace h := ite_f c7 h
              refine lv_aload_n hx hb dX3_findNeighbors_43 rfl (lv_at hl 4 rfl) ?_
              refine va_get (D := G.1) (ci := 3) (v := .ref v_q1) (C := RX3) (T := TX3) (N := 15) hx hb hts fw_X3_findNeighbors_X3 hown hK.1 hP 0 rfl rfl 0 (by decide) (hts (.fieldLink RX3 12 "HalftoneScreens$Screen" "lattice" "LHalftoneScreens$Lattice;") lk_X3_findNeighbors_f12) (fun _ h9 => h9) rfl dX3_findNeighbors_44 ?_
              refine lv_iload_n hx hb dX3_findNeighbors_47 rfl (lv_at hl 1 rfl) ?_
              refine va_getsN (v := .ref tX) (C := RX4) (n := "STEP_X") (d := "[I") (host := RH) hx hb hX1.1 hS hown (va_Nw.use rfl (hK.2.2 _ (List.mem_of_getElem? (i := 2) rfl))) (fun _ h9 => h9) dX3_findNeighbors_48 ?_
              refine lv_iload hx hb dX3_findNeighbors_51 (lv_at hl 0 rfl) ?_
              obtain ⟨r8_0, g8, h⟩ := bnd1_e h
              refine roT1 (rest := [.int x5, .ref v_q1]) (As := [.ref tX, .int v6_0]) S (ctX4_at_T l tX stX v6_0 r8_0 g8) ⟨va_cnB 2 hts gX3_findNeighbors_X4_at_n80 rfl rfl rfl (hK.2.1 _ (List.mem_of_getElem? (i := 8) rfl)) (hts (.initialized RX4) lk_X3_findNeighbors_iX4) hsX4_at ⟨Nat.le_of_ble_eq_true rfl, Nat.le_of_ble_eq_true rfl⟩, (hts (.static yX4_at) lk_X3_findNeighbors_s_at), trivial⟩ (va_T.out0 hX1.2.2.1 hS) rfl hl.1 rfl (Nat.le_of_ble_eq_true rfl) dX3_findNeighbors_53 ⟨Nat.le_refl _, Nat.le_refl _⟩ ?_
              refine lv_iadd hx hb dX3_findNeighbors_56 ?_
              refine lv_iload_n hx hb dX3_findNeighbors_57 rfl (lv_at hl 2 rfl) ?_
              refine va_getsN (v := .ref tY) (C := RX4) (n := "STEP_Y") (d := "[I") (host := RH) hx hb hX1.2.1 hS hown (va_Nw.use rfl (hK.2.2 _ (List.mem_of_getElem? (i := 3) rfl))) (fun _ h9 => h9) dX3_findNeighbors_58 ?_
              refine lv_iload hx hb dX3_findNeighbors_61 (lv_at hl 0 rfl) ?_
              obtain ⟨r9_0, g9, h⟩ := bnd1_e h
              refine roT1 (rest := [.int r4_0, .int (x5 + r8_0), .ref v_q1]) (As := [.ref tY, .int v6_0]) S (ctX4_at_T l tY stY v6_0 r9_0 g9) ⟨va_cnB 2 hts gX3_findNeighbors_X4_at_n80 rfl rfl rfl (hK.2.1 _ (List.mem_of_getElem? (i := 8) rfl)) (hts (.initialized RX4) lk_X3_findNeighbors_iX4) hsX4_at ⟨Nat.le_of_ble_eq_true rfl, Nat.le_of_ble_eq_true rfl⟩, (hts (.static yX4_at) lk_X3_findNeighbors_s_at), trivial⟩ (va_T.out0 hX1.2.2.2 hS) rfl hl.1 rfl (Nat.le_of_ble_eq_true rfl) dX3_findNeighbors_63 ⟨Nat.le_refl _, Nat.le_refl _⟩ ?_
              refine lv_iadd hx hb dX3_findNeighbors_66 ?_
              obtain ⟨r10_0, g10, h⟩ := bnd1_e h
              refine roVi1 (rest := []) (As := [.int (x5 + r8_0), .int (r4_0 + r9_0)]) S (ctX2_numberOf l G v_q1 v_w v_s v_h (x5 + r8_0) (r4_0 + r9_0) r10_0 g10) (cwV 2 hts gX3_findNeighbors_X2_numberOf rfl rfl rfl hvX2_numberOf ⟨Nat.le_of_ble_eq_true rfl, Nat.le_of_ble_eq_true rfl⟩) hK hP [1] rfl 1 2 rfl rfl rfl rfl hl.1 rfl (Nat.le_of_ble_eq_true rfl) dX3_findNeighbors_67 ⟨Nat.le_refl _, Nat.le_refl _⟩ (fun _ => ?_)
              refine lv_istore (lv' := [(5, .int r10_0), (4, .int v6_0), (3, .int x5), (2, .int r4_0), (1, .int v1_0), (0, .ref v_q0)]) hx hb dX3_findNeighbors_70 hl (by decide) rfl (fun ls hl => ?_)
              refine lv_aload_n hx hb dX3_findNeighbors_72 rfl (lv_at hl 5 rfl) ?_
              refine va_get (D := G.1) (ci := 3) (v := .ref v_q7) (C := RX3) (T := TX3) (N := 15) hx hb hts fw_X3_findNeighbors_X3 hown hK.1 hP 0 rfl rfl 6 (by decide) (hts (.fieldLink RX3 34 "HalftoneScreens$Screen" "neighbors" "[I") lk_X3_findNeighbors_f34) (fun _ h9 => h9) rfl dX3_findNeighbors_73 ?_
              refine lv_iconst (v := 4) hx hb dX3_findNeighbors_76 (by decide) ?_
              refine lv_iload_n hx hb dX3_findNeighbors_77 rfl (lv_at hl 4 rfl) ?_
              refine lv_imul hx hb dX3_findNeighbors_78 ?_
              refine lv_iload hx hb dX3_findNeighbors_79 (lv_at hl 1 rfl) ?_
              refine lv_iadd hx hb dX3_findNeighbors_81 ?_
              refine lv_iload hx hb dX3_findNeighbors_82 (lv_at hl 0 rfl) ?_
              obtain ⟨r11_0, g11, h⟩ := bnd1_e h
              refine rwN_back (rest := []) (As := [.ref v_q7, .int ((4 * v1_0) + v6_0), .int r10_0]) (wr := [(v_q0, .inr (3, [.ref v_q1, .ref v_q2, .ref v_q3, .ref v_q4, .ref v_q5, .ref v_q6, .ref v_q7, .int v_present, .int v_a, .int v_b, .int v_c, .int v_d, .int v_spot, .int v_middle, .int v_tint])), (v_q1, .inr (2, [.int v_w, .int v_s, .int v_h])), (v_q2, .inl (G.2 0, 64, .inl v_valuesA)), (v_q3, .inl (G.2 0, 64, .inl v_otherValuesA)), (v_q4, .inl (G.2 0, 64, .inl v_ranksA)), (v_q5, .inl (G.2 0, 64, .inl v_oldRanksA)), (v_q6, .inl (G.2 0, 64, .inl v_orderA))]) (wf := wdX3 G v_q0 v_q1 v_q2 v_q3 v_q4 v_q5 v_q6 v_q7 v_present v_a v_b v_c v_d v_spot v_middle v_tint v_w v_s v_h v_valuesA v_otherValuesA v_ranksA v_oldRanksA v_orderA r11_0) S (ctX4_put l G v_q7 256 v6_1 ((4 * v1_0) + v6_0) r10_0 r11_0 g11) ⟨va_cnB 3 hts gX3_findNeighbors_X4_put_n129 rfl rfl rfl (hK.2.1 _ (List.mem_of_getElem? (i := 11) rfl)) (hts (.initialized RX4) lk_X3_findNeighbors_iX4) hsX4_put ⟨Nat.le_of_ble_eq_true rfl, Nat.le_of_ble_eq_true rfl⟩, (hts (.static yX4_put) lk_X3_findNeighbors_s_put), trivial⟩ hK hP hD hS xb_triv (fun _ _ _ => trivial) [7] [0, 1, 2, 3, 4, 5, 6] [0, 1, 2, 3, 4, 5, 6, 7] rfl rfl rfl rfl rfl rfl rfl rfl hl.1 rfl (Nat.le_of_ble_eq_true rfl) dX3_findNeighbors_84 ⟨Nat.le_refl _, Nat.le_refl _⟩ (fun _ H locs hP hD hS => ?_)
              have hP : va_P G.1 vwCl (wdX3 G v_q0 v_q1 v_q2 v_q3 v_q4 v_q5 v_q6 v_q7 v_present v_a v_b v_c v_d v_spot v_middle v_tint v_w v_s v_h v_valuesA v_otherValuesA v_ranksA v_oldRanksA v_orderA r11_0) H := hP
              have hD : va_D A (wdX3 G v_q0 v_q1 v_q2 v_q3 v_q4 v_q5 v_q6 v_q7 v_present v_a v_b v_c v_d v_spot v_middle v_tint v_w v_s v_h v_valuesA v_otherValuesA v_ranksA v_oldRanksA v_orderA r11_0) := hD
              obtain ⟨x12, e12⟩ : ∃ y : Int32, y = v6_0 + 1 := ⟨_, rfl⟩
              replace h := nmB_e e12 h
              refine lv_iinc (v := x12) (lv' := [(4, .int x12), (5, .int r10_0), (3, .int x5), (2, .int r4_0), (1, .int v1_0), (0, .ref v_q0)]) hx hb dX3_findNeighbors_87 hl (k := 1) rfl (by rw [e12]; rfl) (by decide) rfl (fun ls hl => ?_)
              refine lv_goto (tgt := 37) hx hb dX3_findNeighbors_90 (by decide) ?_
              exact ih x12 r11_0 u6_0 u6_1 H locs ls h (lv_sub hl [0, 2, 3, 4, 5] rfl) hP hD hS kE
        refine L6 FU 0 v1_1 u6_0 u6_1 H locs ls g6 hl hP hD hS (fun H locs ls hl hP hD hS => ?_)
        obtain ⟨x13, e13⟩ : ∃ y : Int32, y = v1_0 + 1 := ⟨_, rfl⟩
        replace h := nmB_e e13 h
        refine lv_iinc (v := x13) (lv' := [(1, .int x13), (4, .int u6_0), (3, .int x5), (2, .int r4_0), (0, .ref v_q0)]) hx hb dX3_findNeighbors_93 hl (k := 3) rfl (by rw [e13]; rfl) (by decide) rfl (fun ls hl => ?_)
        refine lv_goto (tgt := 2) hx hb dX3_findNeighbors_96 (by decide) ?_
        exact ih x13 u6_1 u1_0 u1_1 H locs ls h (lv_sub hl [0, 4] rfl) hP hD hS kE
  refine L1 FU 0 v_neighborsA u1_0 u1_1 H locs ls g1 hl hP hD hS (fun H locs ls hl hP hD hS => ?_)
  obtain rfl := sm1 h
  exact hret _ _ _ _ trivial hP hD hS dX3_findNeighbors_99
theorem fw_X3_findLineValues_X3 : ∀ w ∈ wsX30, w ∈ wsX3_findLineValues := fun w h => List.mem_cons_of_mem _ (List.mem_append_left _ (List.mem_append_right _ h))
theorem lk_X3_findLineValues_f37 : Cond.fieldLink RX3 37 "HalftoneScreens$Screen" "a" "I" ∈ wsX3_findLineValues := List.mem_of_getElem? (i := 1) rfl
theorem lk_X3_findLineValues_f47 : Cond.fieldLink RX3 47 "HalftoneScreens$Screen" "d" "I" ∈ wsX3_findLineValues := List.mem_of_getElem? (i := 2) rfl
theorem lk_X3_findLineValues_f41 : Cond.fieldLink RX3 41 "HalftoneScreens$Screen" "b" "I" ∈ wsX3_findLineValues := List.mem_of_getElem? (i := 3) rfl
theorem lk_X3_findLineValues_f44 : Cond.fieldLink RX3 44 "HalftoneScreens$Screen" "c" "I" ∈ wsX3_findLineValues := List.mem_of_getElem? (i := 4) rfl
theorem lk_X3_findLineValues_f12 : Cond.fieldLink RX3 12 "HalftoneScreens$Screen" "lattice" "LHalftoneScreens$Lattice;" ∈ wsX3_findLineValues := List.mem_of_getElem? (i := 5) rfl
theorem fw_X3_findLineValues_X2 : ∀ w ∈ wsX20, w ∈ wsX3_findLineValues := fun w h => List.mem_cons_of_mem _ (List.mem_append_right _ h)
theorem lk_X3_findLineValues_f117 : Cond.fieldLink RX3 117 "HalftoneScreens$Lattice" "w" "I" ∈ wsX3_findLineValues := List.mem_of_getElem? (i := 6) rfl
theorem lk_X3_findLineValues_iX4 : Cond.initialized RX4 ∈ wsX3_findLineValues := List.mem_of_getElem? (i := 26) rfl
theorem lk_X3_findLineValues_s_floorDiv : Cond.static yX4_floorDiv ∈ wsX3_findLineValues := List.mem_of_getElem? (i := 25) rfl
theorem lk_X3_findLineValues_f53 : Cond.fieldLink RX3 53 "HalftoneScreens$Screen" "middle" "Z" ∈ wsX3_findLineValues := List.mem_of_getElem? (i := 7) rfl
theorem lk_X3_findLineValues_s_mod : Cond.static yX4_mod ∈ wsX3_findLineValues := List.mem_of_getElem? (i := 32) rfl
theorem lk_X3_findLineValues_f18 : Cond.fieldLink RX3 18 "HalftoneScreens$Screen" "values" "[I" ∈ wsX3_findLineValues := List.mem_of_getElem? (i := 8) rfl
theorem lk_X3_findLineValues_m143 : Cond.methodLink RX3 143 Lib.Math.min.name ∈ wsX3_findLineValues := List.mem_of_getElem? (i := 9) rfl
theorem lk_X3_findLineValues_smin : Cond.static Lib.Math.min.name ∈ wsX3_findLineValues := List.mem_of_getElem? (i := 10) rfl
theorem lk_X3_findLineValues_iM : Cond.initialized "java/lang/Math" ∈ wsX3_findLineValues := List.mem_of_getElem? (i := 11) rfl
theorem lk_X3_findLineValues_cmin : Cond.code Lib.Math.min.name Lib.Math.min.code 2 (some .int) ∈ wsX3_findLineValues := List.mem_of_getElem? (i := 12) rfl
theorem lk_X3_findLineValues_s_put : Cond.static yX4_put ∈ wsX3_findLineValues := List.mem_of_getElem? (i := 37) rfl
abbrev rmX3_findLineValues : Room := { frames := 2, cells := 0, slots := 0, locals := 43 }
set_option maxHeartbeats 4000000 in
set_option maxRecDepth 100000 in
theorem ctX3_findLineValues (l : Launch) (G : GG) (v_q0 : Nat) (v_q1 : Nat) (v_q2 : Nat) (v_q3 : Nat) (v_q4 : Nat) (v_q5 : Nat) (v_q6 : Nat) (v_q7 : Nat) (v_present : Int32) (v_a : Int32) (v_b : Int32) (v_c : Int32) (v_d : Int32) (v_spot : Int32) (v_middle : Int32) (v_tint : Int32) (v_w : Int32) (v_s : Int32) (v_h : Int32) (v_valuesA : (Nat → Int32)) (v_otherValuesA : (Nat → Int32)) (v_ranksA : (Nat → Int32)) (v_oldRanksA : (Nat → Int32)) (v_orderA : (Nat → Int32)) (v_neighborsA : (Nat → Int32)) (o0 : (Nat → Int32)) (h : mX3_findLineValues v_a v_b v_c v_d v_middle v_w v_h v_valuesA = some (o0))  : Met l yX3_findLineValues wsX3_findLineValues rmX3_findLineValues (va_Pc [.ref v_q0] (PreD G (wdX3 G v_q0 v_q1 v_q2 v_q3 v_q4 v_q5 v_q6 v_q7 v_present v_a v_b v_c v_d v_spot v_middle v_tint v_w v_s v_h v_valuesA v_otherValuesA v_ranksA v_oldRanksA v_orderA v_neighborsA) (fun _ => True))) (QwA G (va_A0 (wdX3 G v_q0 v_q1 v_q2 v_q3 v_q4 v_q5 v_q6 v_q7 v_present v_a v_b v_c v_d v_spot v_middle v_tint v_w v_s v_h v_valuesA v_otherValuesA v_ranksA v_oldRanksA v_orderA v_neighborsA)) (wdX3 G v_q0 v_q1 v_q2 v_q3 v_q4 v_q5 v_q6 v_q7 v_present v_a v_b v_c v_d v_spot v_middle v_tint v_w v_s v_h o0 v_otherValuesA v_ranksA v_oldRanksA v_orderA v_neighborsA) none True) 0 0 (va_A0 (wdX3 G v_q0 v_q1 v_q2 v_q3 v_q4 v_q5 v_q6 v_q7 v_present v_a v_b v_c v_d v_spot v_middle v_tint v_w v_s v_h v_valuesA v_otherValuesA v_ranksA v_oldRanksA v_orderA v_neighborsA)) := by
  refine of_wv (cc := cX3_findLineValues) (maxL := 7) (plainFor_of_name (by decide)) rfl (Nat.le_of_ble_eq_true rfl) ?_
  intro p e s m args below meth c ls Q A S hl hP hD hS hK hX hA hret
  obtain ⟨H, hH⟩ : ∃ H, H = s.heap := ⟨_, rfl⟩
  obtain ⟨locs, hlocs⟩ : ∃ L : List Loc, L = [] := ⟨_, rfl⟩
  rw [← hlocs]
  rw [← hlocs] at hS
  have hP : va_P G.1 vwCl (wdX3 G v_q0 v_q1 v_q2 v_q3 v_q4 v_q5 v_q6 v_q7 v_present v_a v_b v_c v_d v_spot v_middle v_tint v_w v_s v_h v_valuesA v_otherValuesA v_ranksA v_oldRanksA v_orderA v_neighborsA) H := by rw [hH]; exact hP
  have hS : va_S A s.heap H locs := by rw [hH]; exact hS
  suffices hgo : W p l e rmX3_findLineValues s m args below meth c H locs 0 0 Q (F0 m 0 ls []) by rw [hH] at hgo; exact hgo
  have S : CallFix p m c cX3_findLineValues 7 s args wsX3_findLineValues RX3 := S
  obtain ⟨hx, hb, hml, hown, hts⟩ := id S
  have hl : lv_has ls 7 [(0, .ref v_q0)] := hl
  unfold mX3_findLineValues at h
  refine lv_aload_n hx hb dX3_findLineValues_0 rfl (lv_at hl 0 rfl) ?_
  refine va_get (D := G.1) (ci := 3) (v := .int v_a) (C := RX3) (T := TX3) (N := 15) hx hb hts fw_X3_findLineValues_X3 hown hK.1 hP 0 rfl rfl 8 (by decide) (hts (.fieldLink RX3 37 "HalftoneScreens$Screen" "a" "I") lk_X3_findLineValues_f37) (fun _ h9 => h9) rfl dX3_findLineValues_1 ?_
  refine lv_aload_n hx hb dX3_findLineValues_4 rfl (lv_at hl 0 rfl) ?_
  refine va_get (D := G.1) (ci := 3) (v := .int v_d) (C := RX3) (T := TX3) (N := 15) hx hb hts fw_X3_findLineValues_X3 hown hK.1 hP 0 rfl rfl 11 (by decide) (hts (.fieldLink RX3 47 "HalftoneScreens$Screen" "d" "I") lk_X3_findLineValues_f47) (fun _ h9 => h9) rfl dX3_findLineValues_5 ?_
  refine lv_imul hx hb dX3_findLineValues_8 ?_
  refine lv_aload_n hx hb dX3_findLineValues_9 rfl (lv_at hl 0 rfl) ?_
  refine va_get (D := G.1) (ci := 3) (v := .int v_b) (C := RX3) (T := TX3) (N := 15) hx hb hts fw_X3_findLineValues_X3 hown hK.1 hP 0 rfl rfl 9 (by decide) (hts (.fieldLink RX3 41 "HalftoneScreens$Screen" "b" "I") lk_X3_findLineValues_f41) (fun _ h9 => h9) rfl dX3_findLineValues_10 ?_
  refine lv_aload_n hx hb dX3_findLineValues_13 rfl (lv_at hl 0 rfl) ?_
  refine va_get (D := G.1) (ci := 3) (v := .int v_c) (C := RX3) (T := TX3) (N := 15) hx hb hts fw_X3_findLineValues_X3 hown hK.1 hP 0 rfl rfl 10 (by decide) (hts (.fieldLink RX3 44 "HalftoneScreens$Screen" "c" "I") lk_X3_findLineValues_f44) (fun _ h9 => h9) rfl dX3_findLineValues_14 ?_
  refine lv_imul hx hb dX3_findLineValues_17 ?_
  refine lv_isub hx hb dX3_findLineValues_18 ?_
  refine lv_topi (fun x1 e1 => ?_)
  replace h := nmB_e e1 h
  refine lv_istore_n (lv' := [(1, .int x1), (0, .ref v_q0)]) hx hb dX3_findLineValues_19 rfl hl (by decide) rfl (fun ls hl => ?_)
  refine lv_iconst (v := 2) hx hb dX3_findLineValues_20 (by decide) ?_
  refine lv_aload_n hx hb dX3_findLineValues_21 rfl (lv_at hl 1 rfl) ?_
  obtain ⟨r2_0, g2, h⟩ := bnd1_e h
  refine roVi1 (rest := [.int 2]) (As := []) S (ctX3_area l G v_q0 v_q1 v_q2 v_q3 v_q4 v_q5 v_q6 v_q7 v_present v_a v_b v_c v_d v_spot v_middle v_tint v_w v_s v_h v_valuesA v_otherValuesA v_ranksA v_oldRanksA v_orderA v_neighborsA r2_0 g2) (cwV 0 hts gX3_findLineValues_X3_area rfl rfl rfl hvX3_area ⟨Nat.le_of_ble_eq_true rfl, Nat.le_of_ble_eq_true rfl⟩) hK hP [0, 1, 2, 3, 4, 5, 6, 7] rfl 0 3 rfl rfl rfl rfl hl.1 rfl (Nat.le_of_ble_eq_true rfl) dX3_findLineValues_22 ⟨Nat.le_refl _, Nat.le_refl _⟩ (fun _ => ?_)
  refine lv_imul hx hb dX3_findLineValues_25 ?_
  refine lv_topi (fun x3 e3 => ?_)
  replace h := nmB_e e3 h
  refine lv_istore_n (lv' := [(2, .int x3), (1, .int x1), (0, .ref v_q0)]) hx hb dX3_findLineValues_26 rfl hl (by decide) rfl (fun ls hl => ?_)
  refine lv_iconst (v := 0) hx hb dX3_findLineValues_27 (by decide) ?_
  refine lv_istore_n (lv' := [(3, .int 0), (2, .int x3), (1, .int x1), (0, .ref v_q0)]) hx hb dX3_findLineValues_28 rfl hl (by decide) rfl (fun ls hl => ?_)
  obtain ⟨u4_0, u4_1, g4, h⟩ := bnd2_e h
  have L4 : ∀ (fu : Nat) (v4_0 : Int32) (v4_1 : (Nat → Int32)) (u4_0 : Int32) (u4_1 : (Nat → Int32)) (H : Heap) (locs : List Loc) (ls : Array Slot), mX3_findLineValues_L29 v_a v_b v_middle v_w v_h x1 x3 fu v4_0 v4_1 = some (u4_0, u4_1) → lv_has ls 7 [(3, .int v4_0), (2, .int x3), (1, .int x1), (0, .ref v_q0)] → va_P G.1 vwCl (wdX3 G v_q0 v_q1 v_q2 v_q3 v_q4 v_q5 v_q6 v_q7 v_present v_a v_b v_c v_d v_spot v_middle v_tint v_w v_s v_h v4_1 v_otherValuesA v_ranksA v_oldRanksA v_orderA v_neighborsA) H → va_D A (wdX3 G v_q0 v_q1 v_q2 v_q3 v_q4 v_q5 v_q6 v_q7 v_present v_a v_b v_c v_d v_spot v_middle v_tint v_w v_s v_h v4_1 v_otherValuesA v_ranksA v_oldRanksA v_orderA v_neighborsA) → va_S A s.heap H locs → (∀ (H : Heap) (locs : List Loc) (ls : Array Slot), lv_has ls 7 [(3, .int u4_0), (2, .int x3), (1, .int x1), (0, .ref v_q0)] → va_P G.1 vwCl (wdX3 G v_q0 v_q1 v_q2 v_q3 v_q4 v_q5 v_q6 v_q7 v_present v_a v_b v_c v_d v_spot v_middle v_tint v_w v_s v_h u4_1 v_otherValuesA v_ranksA v_oldRanksA v_orderA v_neighborsA) H → va_D A (wdX3 G v_q0 v_q1 v_q2 v_q3 v_q4 v_q5 v_q6 v_q7 v_present v_a v_b v_c v_d v_spot v_middle v_tint v_w v_s v_h u4_1 v_otherValuesA v_ranksA v_oldRanksA v_orderA v_neighborsA) → va_S A s.heap H locs → W p l e rmX3_findLineValues s m args below meth c H locs 0 0 Q (F0 m 123 ls [])) → W p l e rmX3_findLineValues s m args below meth c H locs 0 0 Q (F0 m 29 ls []) := by
    intro fu
    induction fu with
    | zero => intro v4_0 v4_1 u4_0 u4_1 H locs ls h; exact nomatch h
    | succ fu ih =>
      intro v4_0 v4_1 u4_0 u4_1 H locs ls h hl hP hD hS kE
      rw [mX3_findLineValues_L29] at h
      refine lv_iload_n hx hb dX3_findLineValues_29 rfl (lv_at hl 0 rfl) ?_
      refine lv_aload_n hx hb dX3_findLineValues_30 rfl (lv_at hl 3 rfl) ?_
      obtain ⟨r5_0, g5, h⟩ := bnd1_e h
      refine roVi1 (rest := [.int v4_0]) (As := []) S (ctX3_area l G v_q0 v_q1 v_q2 v_q3 v_q4 v_q5 v_q6 v_q7 v_present v_a v_b v_c v_d v_spot v_middle v_tint v_w v_s v_h v4_1 v_otherValuesA v_ranksA v_oldRanksA v_orderA v_neighborsA r5_0 g5) (cwV 0 hts gX3_findLineValues_X3_area rfl rfl rfl hvX3_area ⟨Nat.le_of_ble_eq_true rfl, Nat.le_of_ble_eq_true rfl⟩) hK hP [0, 1, 2, 3, 4, 5, 6, 7] rfl 0 3 rfl rfl rfl rfl hl.1 rfl (Nat.le_of_ble_eq_true rfl) dX3_findLineValues_31 ⟨Nat.le_refl _, Nat.le_refl _⟩ (fun _ => ?_)
      refine lv_icmp_ge (tgt := 123) hx hb dX3_findLineValues_34 (by decide) (fun c6 => ?_) (fun c6 => ?_)
      · replace h := ite_t c6 h
        obtain ⟨rfl, rfl⟩ := sm2 h
        exact kE H locs ls hl hP hD hS
      · replace h := ite_f c6 h
        refine lv_iload_n hx hb dX3_findLineValues_37 rfl (lv_at hl 0 rfl) ?_
        refine lv_aload_n hx hb dX3_findLineValues_38 rfl (lv_at hl 3 rfl) ?_
        refine va_get (D := G.1) (ci := 3) (v := .ref v_q1) (C := RX3) (T := TX3) (N := 15) hx hb hts fw_X3_findLineValues_X3 hown hK.1 hP 0 rfl rfl 0 (by decide) (hts (.fieldLink RX3 12 "HalftoneScreens$Screen" "lattice" "LHalftoneScreens$Lattice;") lk_X3_findLineValues_f12) (fun _ h9 => h9) rfl dX3_findLineValues_39 ?_
        refine va_get (D := G.1) (ci := 2) (v := .int v_w) (C := RX2) (T := TX2) (N := 3) hx hb hts fw_X3_findLineValues_X2 hown hK.1 hP 1 rfl rfl 0 (by decide) (hts (.fieldLink RX3 117 "HalftoneScreens$Lattice" "w" "I") lk_X3_findLineValues_f117) (fun _ h9 => h9) rfl dX3_findLineValues_42 ?_
        obtain ⟨r7_0, g7, h⟩ := bnd1_e h
        refine roNi1 (rest := []) (As := [.int v4_0, .int v_w]) S (ctX4_floorDiv l G v4_0 v_w r7_0 g7) ⟨va_cnB 2 hts gX3_findLineValues_X4_floorDiv_n120 rfl rfl rfl (hK.2.1 _ (List.mem_of_getElem? (i := 10) rfl)) (hts (.initialized RX4) lk_X3_findLineValues_iX4) hsX4_floorDiv ⟨Nat.le_of_ble_eq_true rfl, Nat.le_of_ble_eq_true rfl⟩, (hts (.static yX4_floorDiv) lk_X3_findLineValues_s_floorDiv), trivial⟩ hK hP [] rfl rfl hl.1 rfl (Nat.le_of_ble_eq_true rfl) dX3_findLineValues_45 ⟨Nat.le_refl _, Nat.le_refl _⟩ (fun _ => ?_)
        refine lv_istore (lv' := [(4, .int r7_0), (3, .int v4_0), (2, .int x3), (1, .int x1), (0, .ref v_q0)]) hx hb dX3_findLineValues_48 hl (by decide) rfl (fun ls hl => ?_)
        refine lv_iload_n hx hb dX3_findLineValues_50 rfl (lv_at hl 1 rfl) ?_
        refine lv_iload hx hb dX3_findLineValues_51 (lv_at hl 0 rfl) ?_
        refine lv_aload_n hx hb dX3_findLineValues_53 rfl (lv_at hl 4 rfl) ?_
        refine va_get (D := G.1) (ci := 3) (v := .ref v_q1) (C := RX3) (T := TX3) (N := 15) hx hb hts fw_X3_findLineValues_X3 hown hK.1 hP 0 rfl rfl 0 (by decide) (hts (.fieldLink RX3 12 "HalftoneScreens$Screen" "lattice" "LHalftoneScreens$Lattice;") lk_X3_findLineValues_f12) (fun _ h9 => h9) rfl dX3_findLineValues_54 ?_
        refine va_get (D := G.1) (ci := 2) (v := .int v_w) (C := RX2) (T := TX2) (N := 3) hx hb hts fw_X3_findLineValues_X2 hown hK.1 hP 1 rfl rfl 0 (by decide) (hts (.fieldLink RX3 117 "HalftoneScreens$Lattice" "w" "I") lk_X3_findLineValues_f117) (fun _ h9 => h9) rfl dX3_findLineValues_57 ?_
        refine lv_imul hx hb dX3_findLineValues_60 ?_
        refine lv_isub hx hb dX3_findLineValues_61 ?_
        refine lv_topi (fun x8 e8 => ?_)
        replace h := nmB_e e8 h
        refine lv_istore (lv' := [(5, .int x8), (4, .int r7_0), (3, .int v4_0), (2, .int x3), (1, .int x1), (0, .ref v_q0)]) hx hb dX3_findLineValues_62 hl (by decide) rfl (fun ls hl => ?_)
        refine lv_iconst (v := 2) hx hb dX3_findLineValues_64 (by decide) ?_
        refine lv_iload hx hb dX3_findLineValues_65 (lv_at hl 0 rfl) ?_
        refine lv_aload_n hx hb dX3_findLineValues_67 rfl (lv_at hl 5 rfl) ?_
        refine va_get (D := G.1) (ci := 3) (v := .int v_b) (C := RX3) (T := TX3) (N := 15) hx hb hts fw_X3_findLineValues_X3 hown hK.1 hP 0 rfl rfl 9 (by decide) (hts (.fieldLink RX3 41 "HalftoneScreens$Screen" "b" "I") lk_X3_findLineValues_f41) (fun _ h9 => h9) rfl dX3_findLineValues_68 ?_
        refine lv_imul hx hb dX3_findLineValues_71 ?_
        refine lv_iload hx hb dX3_findLineValues_72 (lv_at hl 1 rfl) ?_
        refine lv_aload_n hx hb dX3_findLineValues_74 rfl (lv_at hl 5 rfl) ?_
        refine va_get (D := G.1) (ci := 3) (v := .int v_a) (C := RX3) (T := TX3) (N := 15) hx hb hts fw_X3_findLineValues_X3 hown hK.1 hP 0 rfl rfl 8 (by decide) (hts (.fieldLink RX3 37 "HalftoneScreens$Screen" "a" "I") lk_X3_findLineValues_f37) (fun _ h9 => h9) rfl dX3_findLineValues_75 ?_
        refine lv_imul hx hb dX3_findLineValues_78 ?_
        refine lv_isub hx hb dX3_findLineValues_79 ?_
        refine lv_imul hx hb dX3_findLineValues_80 ?_
        refine lv_aload_n hx hb dX3_findLineValues_81 rfl (lv_at hl 5 rfl) ?_
        refine va_get (D := G.1) (ci := 3) (v := .int v_middle) (C := RX3) (T := TX3) (N := 15) hx hb hts fw_X3_findLineValues_X3 hown hK.1 hP 0 rfl rfl 13 (by decide) (hts (.fieldLink RX3 53 "HalftoneScreens$Screen" "middle" "Z") lk_X3_findLineValues_f53) (fun _ h9 => h9) rfl dX3_findLineValues_82 ?_
        obtain ⟨K9, hK9, h⟩ := jB1_e h
        have J9 : ∀ (j9_0 : Int32) (H : Heap) (locs : List Loc) (ls : Array Slot), K9 j9_0 = some (u4_0, u4_1) → lv_has ls 7 [(5, .int x8), (4, .int r7_0), (3, .int v4_0), (2, .int x3), (1, .int x1), (0, .ref v_q0)] → va_P G.1 vwCl (wdX3 G v_q0 v_q1 v_q2 v_q3 v_q4 v_q5 v_q6 v_q7 v_present v_a v_b v_c v_d v_spot v_middle v_tint v_w v_s v_h v4_1 v_otherValuesA v_ranksA v_oldRanksA v_orderA v_neighborsA) H → va_D A (wdX3 G v_q0 v_q1 v_q2 v_q3 v_q4 v_q5 v_q6 v_q7 v_present v_a v_b v_c v_d v_spot v_middle v_tint v_w v_s v_h v4_1 v_otherValuesA v_ranksA v_oldRanksA v_orderA v_neighborsA) → va_S A s.heap H locs → W p l e rmX3_findLineValues s m args below meth c H locs 0 0 Q (F0 m 93 ls [.int j9_0, .int (2 * ((x8 * v_b) - (r7_0 * v_a)))]) := by
          intro j9_0 H locs ls h hl hP hD hS
          replace h := (hK9 j9_0).symm.trans h
          refine lv_iadd hx hb dX3_findLineValues_93 ?_
          refine lv_iload_n hx hb dX3_findLineValues_94 rfl (lv_at hl 3 rfl) ?_
          obtain ⟨r11_0, g11, h⟩ := bnd1_e h
          refine roNi1 (rest := []) (As := [.int ((2 * ((x8 * v_b) - (r7_0 * v_a))) + j9_0), .int x3]) S (ctX4_mod l G ((2 * ((x8 * v_b) - (r7_0 * v_a))) + j9_0) x3 r11_0 g11) ⟨va_cnB 2 hts gX3_findLineValues_X4_mod_n140 rfl rfl rfl (hK.2.1 _ (List.mem_of_getElem? (i := 12) rfl)) (hts (.initialized RX4) lk_X3_findLineValues_iX4) hsX4_mod ⟨Nat.le_of_ble_eq_true rfl, Nat.le_of_ble_eq_true rfl⟩, (hts (.static yX4_mod) lk_X3_findLineValues_s_mod), trivial⟩ hK hP [] rfl rfl hl.1 rfl (Nat.le_of_ble_eq_true rfl) dX3_findLineValues_95 ⟨Nat.le_refl _, Nat.le_refl _⟩ (fun _ => ?_)
          refine lv_istore (lv' := [(6, .int r11_0), (5, .int x8), (4, .int r7_0), (3, .int v4_0), (2, .int x3), (1, .int x1), (0, .ref v_q0)]) hx hb dX3_findLineValues_98 hl (by decide) rfl (fun ls hl => ?_)
          refine lv_aload_n hx hb dX3_findLineValues_100 rfl (lv_at hl 6 rfl) ?_
          refine va_get (D := G.1) (ci := 3) (v := .ref v_q2) (C := RX3) (T := TX3) (N := 15) hx hb hts fw_X3_findLineValues_X3 hown hK.1 hP 0 rfl rfl 1 (by decide) (hts (.fieldLink RX3 18 "HalftoneScreens$Screen" "values" "[I") lk_X3_findLineValues_f18) (fun _ h9 => h9) rfl dX3_findLineValues_101 ?_
          refine lv_iload_n hx hb dX3_findLineValues_104 rfl (lv_at hl 3 rfl) ?_
          refine lv_iload hx hb dX3_findLineValues_105 (lv_at hl 0 rfl) ?_
          refine lv_iload_n hx hb dX3_findLineValues_107 rfl (lv_at hl 4 rfl) ?_
          refine lv_iload hx hb dX3_findLineValues_108 (lv_at hl 0 rfl) ?_
          refine lv_isub hx hb dX3_findLineValues_110 ?_
          refine va_mmin hx hb (hml.trans hl.1.symm) hown (hts (.methodLink RX3 143 Lib.Math.min.name) lk_X3_findLineValues_m143) (hts (.static Lib.Math.min.name) lk_X3_findLineValues_smin) (hts (.initialized "java/lang/Math") lk_X3_findLineValues_iM) (hts (.code Lib.Math.min.name Lib.Math.min.code 2 (some .int)) lk_X3_findLineValues_cmin) (Nat.le_of_ble_eq_true rfl) (Nat.le_of_ble_eq_true rfl) (Nat.le_refl _) (Nat.le_refl _) dX3_findLineValues_111 ?_
          obtain ⟨r12_0, g12, h⟩ := bnd1_e h
          refine rwN_back (rest := []) (As := [.ref v_q2, .int v4_0, .int (if (x3 - r11_0) < r11_0 then (x3 - r11_0) else r11_0)]) (wr := [(v_q0, .inr (3, [.ref v_q1, .ref v_q2, .ref v_q3, .ref v_q4, .ref v_q5, .ref v_q6, .ref v_q7, .int v_present, .int v_a, .int v_b, .int v_c, .int v_d, .int v_spot, .int v_middle, .int v_tint])), (v_q1, .inr (2, [.int v_w, .int v_s, .int v_h])), (v_q3, .inl (G.2 0, 64, .inl v_otherValuesA)), (v_q4, .inl (G.2 0, 64, .inl v_ranksA)), (v_q5, .inl (G.2 0, 64, .inl v_oldRanksA)), (v_q6, .inl (G.2 0, 64, .inl v_orderA)), (v_q7, .inl (G.2 0, 256, .inl v_neighborsA))]) (wf := wdX3 G v_q0 v_q1 v_q2 v_q3 v_q4 v_q5 v_q6 v_q7 v_present v_a v_b v_c v_d v_spot v_middle v_tint v_w v_s v_h r12_0 v_otherValuesA v_ranksA v_oldRanksA v_orderA v_neighborsA) S (ctX4_put l G v_q2 64 v4_1 v4_0 (if (x3 - r11_0) < r11_0 then (x3 - r11_0) else r11_0) r12_0 g12) ⟨va_cnB 3 hts gX3_findLineValues_X4_put_n129 rfl rfl rfl (hK.2.1 _ (List.mem_of_getElem? (i := 11) rfl)) (hts (.initialized RX4) lk_X3_findLineValues_iX4) hsX4_put ⟨Nat.le_of_ble_eq_true rfl, Nat.le_of_ble_eq_true rfl⟩, (hts (.static yX4_put) lk_X3_findLineValues_s_put), trivial⟩ hK hP hD hS xb_triv (fun _ _ _ => trivial) [2] [0, 1, 3, 4, 5, 6, 7] [0, 1, 7, 2, 3, 4, 5, 6] rfl rfl rfl rfl rfl rfl rfl rfl hl.1 rfl (Nat.le_of_ble_eq_true rfl) dX3_findLineValues_114 ⟨Nat.le_refl _, Nat.le_refl _⟩ (fun _ H locs hP hD hS => ?_)
          have hP : va_P G.1 vwCl (wdX3 G v_q0 v_q1 v_q2 v_q3 v_q4 v_q5 v_q6 v_q7 v_present v_a v_b v_c v_d v_spot v_middle v_tint v_w v_s v_h r12_0 v_otherValuesA v_ranksA v_oldRanksA v_orderA v_neighborsA) H := hP
          have hD : va_D A (wdX3 G v_q0 v_q1 v_q2 v_q3 v_q4 v_q5 v_q6 v_q7 v_present v_a v_b v_c v_d v_spot v_middle v_tint v_w v_s v_h r12_0 v_otherValuesA v_ranksA v_oldRanksA v_orderA v_neighborsA) := hD
          obtain ⟨x13, e13⟩ : ∃ y : Int32, y = v4_0 + 1 := ⟨_, rfl⟩
          replace h := nmB_e e13 h
          refine lv_iinc (v := x13) (lv' := [(3, .int x13), (6, .int r11_0), (5, .int x8), (4, .int r7_0), (2, .int x3), (1, .int x1), (0, .ref v_q0)]) hx hb dX3_findLineValues_117 hl (k := 3) rfl (by rw [e13]; rfl) (by decide) rfl (fun ls hl => ?_)
          refine lv_goto (tgt := 29) hx hb dX3_findLineValues_120 (by decide) ?_
          exact ih x13 r12_0 u4_0 u4_1 H locs ls h (lv_sub hl [0, 4, 5, 6] rfl) hP hD hS kE
        refine lv_if_eq (tgt := 92) hx hb dX3_findLineValues_85 (by decide) (fun c10 => ?_) (fun c10 => ?_)
        · replace h := ite_t c10 h
          refine lv_iconst (v := 0) hx hb dX3_findLineValues_92 (by decide) ?_
          exact J9 0 H locs ls h hl hP hD hS
        · replace h := ite_f c10 h
          refine lv_iload_n hx hb dX3_findLineValues_88 rfl (lv_at hl 4 rfl) ?_
          refine lv_goto (tgt := 93) hx hb dX3_findLineValues_89 (by decide) ?_
          exact J9 x1 H locs ls h hl hP hD hS
  refine L4 FU 0 v_valuesA u4_0 u4_1 H locs ls g4 hl hP hD hS (fun H locs ls hl hP hD hS => ?_)
  obtain rfl := sm1 h
  exact hret _ _ _ _ trivial hP hD hS dX3_findLineValues_123
theorem lk_X3_findLeast_k146 : Cond.constant RX3 146 (1073741824) ∈ wsX3_findLeast := List.mem_of_getElem? (i := 1) rfl
theorem lk_X3_findLeast_iX4 : Cond.initialized RX4 ∈ wsX3_findLeast := List.mem_of_getElem? (i := 27) rfl
theorem lk_X3_findLeast_s_put : Cond.static yX4_put ∈ wsX3_findLeast := List.mem_of_getElem? (i := 26) rfl
theorem fw_X3_findLeast_X3 : ∀ w ∈ wsX30, w ∈ wsX3_findLeast := fun w h => List.mem_cons_of_mem _ (List.mem_append_left _ (List.mem_append_right _ h))
theorem lk_X3_findLeast_f37 : Cond.fieldLink RX3 37 "HalftoneScreens$Screen" "a" "I" ∈ wsX3_findLeast := List.mem_of_getElem? (i := 2) rfl
theorem lk_X3_findLeast_f44 : Cond.fieldLink RX3 44 "HalftoneScreens$Screen" "c" "I" ∈ wsX3_findLeast := List.mem_of_getElem? (i := 3) rfl
theorem lk_X3_findLeast_f41 : Cond.fieldLink RX3 41 "HalftoneScreens$Screen" "b" "I" ∈ wsX3_findLeast := List.mem_of_getElem? (i := 4) rfl
theorem lk_X3_findLeast_f47 : Cond.fieldLink RX3 47 "HalftoneScreens$Screen" "d" "I" ∈ wsX3_findLeast := List.mem_of_getElem? (i := 5) rfl
theorem lk_X3_findLeast_f12 : Cond.fieldLink RX3 12 "HalftoneScreens$Screen" "lattice" "LHalftoneScreens$Lattice;" ∈ wsX3_findLeast := List.mem_of_getElem? (i := 6) rfl
theorem lk_X3_findLeast_m90 : Cond.methodLink RX3 90 Lib.Math.abs.name ∈ wsX3_findLeast := List.mem_of_getElem? (i := 7) rfl
theorem lk_X3_findLeast_sabs : Cond.static Lib.Math.abs.name ∈ wsX3_findLeast := List.mem_of_getElem? (i := 8) rfl
theorem lk_X3_findLeast_iM : Cond.initialized "java/lang/Math" ∈ wsX3_findLeast := List.mem_of_getElem? (i := 9) rfl
theorem lk_X3_findLeast_cabs : Cond.code Lib.Math.abs.name Lib.Math.abs.code 1 (some .int) ∈ wsX3_findLeast := List.mem_of_getElem? (i := 10) rfl
theorem lk_X3_findLeast_s_at : Cond.static yX4_at ∈ wsX3_findLeast := List.mem_of_getElem? (i := 52) rfl
theorem lk_X3_findLeast_m143 : Cond.methodLink RX3 143 Lib.Math.min.name ∈ wsX3_findLeast := List.mem_of_getElem? (i := 11) rfl
theorem lk_X3_findLeast_smin : Cond.static Lib.Math.min.name ∈ wsX3_findLeast := List.mem_of_getElem? (i := 12) rfl
theorem lk_X3_findLeast_cmin : Cond.code Lib.Math.min.name Lib.Math.min.code 2 (some .int) ∈ wsX3_findLeast := List.mem_of_getElem? (i := 13) rfl
theorem hsX3_measured : yX3_measured.cls ≠ "java/lang/invoke/MethodHandle" ∧ yX3_measured.cls ≠ "java/lang/invoke/VarHandle" ∧ (parseMethodDescriptor yX3_measured.desc).map (fun d => d.parameters.length) = some 3 := by decide +kernel
theorem hvX3_measured : yX3_measured.cls = RX3 ∧ yX3_measured.cls ≠ "java/lang/invoke/MethodHandle" ∧ yX3_measured.cls ≠ "java/lang/invoke/VarHandle" ∧ (parseMethodDescriptor yX3_measured.desc).map (fun d => d.parameters.length) = some 3 := ⟨rfl, hsX3_measured⟩
abbrev rmX3_findLeast : Room := { frames := 3, cells := 0, slots := 0, locals := 66 }
set_option maxHeartbeats 4000000 in
set_option maxRecDepth 100000 in
theorem ctX3_findLeast (l : Launch) (G : GG) (v_q0 : Nat) (v_q1 : Nat) (v_q2 : Nat) (v_q3 : Nat) (v_q4 : Nat) (v_q5 : Nat) (v_q6 : Nat) (v_q7 : Nat) (v_present : Int32) (v_a : Int32) (v_b : Int32) (v_c : Int32) (v_d : Int32) (v_spot : Int32) (v_middle : Int32) (v_tint : Int32) (v_w : Int32) (v_s : Int32) (v_h : Int32) (v_valuesA : (Nat → Int32)) (v_otherValuesA : (Nat → Int32)) (v_ranksA : (Nat → Int32)) (v_oldRanksA : (Nat → Int32)) (v_orderA : (Nat → Int32)) (v_neighborsA : (Nat → Int32)) (a1 : Int32) (a2 : Int32) (o0 : (Nat → Int32)) (h : mX3_findLeast v_a v_b v_c v_d v_w v_s v_h v_valuesA a1 a2 = some (o0))  : Met l yX3_findLeast wsX3_findLeast rmX3_findLeast (va_Pc [.ref v_q0, .ref v_q2, .int a1, .int a2] (PreD G (wdX3 G v_q0 v_q1 v_q2 v_q3 v_q4 v_q5 v_q6 v_q7 v_present v_a v_b v_c v_d v_spot v_middle v_tint v_w v_s v_h v_valuesA v_otherValuesA v_ranksA v_oldRanksA v_orderA v_neighborsA) (fun _ => True))) (QwA G (va_A0 (wdX3 G v_q0 v_q1 v_q2 v_q3 v_q4 v_q5 v_q6 v_q7 v_present v_a v_b v_c v_d v_spot v_middle v_tint v_w v_s v_h v_valuesA v_otherValuesA v_ranksA v_oldRanksA v_orderA v_neighborsA)) (wdX3 G v_q0 v_q1 v_q2 v_q3 v_q4 v_q5 v_q6 v_q7 v_present v_a v_b v_c v_d v_spot v_middle v_tint v_w v_s v_h o0 v_otherValuesA v_ranksA v_oldRanksA v_orderA v_neighborsA) none True) 0 0 (va_A0 (wdX3 G v_q0 v_q1 v_q2 v_q3 v_q4 v_q5 v_q6 v_q7 v_present v_a v_b v_c v_d v_spot v_middle v_tint v_w v_s v_h v_valuesA v_otherValuesA v_ranksA v_oldRanksA v_orderA v_neighborsA)) := by
  refine of_wv (cc := cX3_findLeast) (maxL := 12) (plainFor_of_name (by decide)) rfl (Nat.le_of_ble_eq_true rfl) ?_
  intro p e s m args below meth c ls Q A S hl hP hD hS hK hX hA hret
  obtain ⟨H, hH⟩ : ∃ H, H = s.heap := ⟨_, rfl⟩
  obtain ⟨locs, hlocs⟩ : ∃ L : List Loc, L = [] := ⟨_, rfl⟩
  rw [← hlocs]
  rw [← hlocs] at hS
  have hP : va_P G.1 vwCl (wdX3 G v_q0 v_q1 v_q2 v_q3 v_q4 v_q5 v_q6 v_q7 v_present v_a v_b v_c v_d v_spot v_middle v_tint v_w v_s v_h v_valuesA v_otherValuesA v_ranksA v_oldRanksA v_orderA v_neighborsA) H := by rw [hH]; exact hP
  have hS : va_S A s.heap H locs := by rw [hH]; exact hS
  suffices hgo : W p l e rmX3_findLeast s m args below meth c H locs 0 0 Q (F0 m 0 ls []) by rw [hH] at hgo; exact hgo
  have S : CallFix p m c cX3_findLeast 12 s args wsX3_findLeast RX3 := S
  obtain ⟨hx, hb, hml, hown, hts⟩ := id S
  have hl : lv_has ls 12 [(0, .ref v_q0), (1, .ref v_q2), (2, .int a1), (3, .int a2)] := hl
  unfold mX3_findLeast at h
  refine lv_iconst (v := 0) hx hb dX3_findLeast_0 (by decide) ?_
  refine lv_istore (lv' := [(4, .int 0), (0, .ref v_q0), (1, .ref v_q2), (2, .int a1), (3, .int a2)]) hx hb dX3_findLeast_1 hl (by decide) rfl (fun ls hl => ?_)
  obtain ⟨u1_0, u1_1, g1, h⟩ := bnd2_e h
  have L1 : ∀ (fu : Nat) (v1_0 : Int32) (v1_1 : (Nat → Int32)) (u1_0 : Int32) (u1_1 : (Nat → Int32)) (H : Heap) (locs : List Loc) (ls : Array Slot), mX3_findLeast_L3 v_w v_h fu v1_0 v1_1 = some (u1_0, u1_1) → lv_has ls 12 [(4, .int v1_0), (0, .ref v_q0), (1, .ref v_q2), (2, .int a1), (3, .int a2)] → va_P G.1 vwCl (wdX3 G v_q0 v_q1 v_q2 v_q3 v_q4 v_q5 v_q6 v_q7 v_present v_a v_b v_c v_d v_spot v_middle v_tint v_w v_s v_h v1_1 v_otherValuesA v_ranksA v_oldRanksA v_orderA v_neighborsA) H → va_D A (wdX3 G v_q0 v_q1 v_q2 v_q3 v_q4 v_q5 v_q6 v_q7 v_present v_a v_b v_c v_d v_spot v_middle v_tint v_w v_s v_h v1_1 v_otherValuesA v_ranksA v_oldRanksA v_orderA v_neighborsA) → va_S A s.heap H locs → (∀ (H : Heap) (locs : List Loc) (ls : Array Slot), lv_has ls 12 [(4, .int u1_0), (0, .ref v_q0), (1, .ref v_q2), (2, .int a1), (3, .int a2)] → va_P G.1 vwCl (wdX3 G v_q0 v_q1 v_q2 v_q3 v_q4 v_q5 v_q6 v_q7 v_present v_a v_b v_c v_d v_spot v_middle v_tint v_w v_s v_h u1_1 v_otherValuesA v_ranksA v_oldRanksA v_orderA v_neighborsA) H → va_D A (wdX3 G v_q0 v_q1 v_q2 v_q3 v_q4 v_q5 v_q6 v_q7 v_present v_a v_b v_c v_d v_spot v_middle v_tint v_w v_s v_h u1_1 v_otherValuesA v_ranksA v_oldRanksA v_orderA v_neighborsA) → va_S A s.heap H locs → W p l e rmX3_findLeast s m args below meth c H locs 0 0 Q (F0 m 26 ls [])) → W p l e rmX3_findLeast s m args below meth c H locs 0 0 Q (F0 m 3 ls []) := by
    intro fu
    induction fu with
    | zero => intro v1_0 v1_1 u1_0 u1_1 H locs ls h; exact nomatch h
    | succ fu ih =>
      intro v1_0 v1_1 u1_0 u1_1 H locs ls h hl hP hD hS kE
      rw [mX3_findLeast_L3] at h
      refine lv_iload hx hb dX3_findLeast_3 (lv_at hl 0 rfl) ?_
      refine lv_aload_n hx hb dX3_findLeast_5 rfl (lv_at hl 1 rfl) ?_
      obtain ⟨r2_0, g2, h⟩ := bnd1_e h
      refine roVi1 (rest := [.int v1_0]) (As := []) S (ctX3_area l G v_q0 v_q1 v_q2 v_q3 v_q4 v_q5 v_q6 v_q7 v_present v_a v_b v_c v_d v_spot v_middle v_tint v_w v_s v_h v1_1 v_otherValuesA v_ranksA v_oldRanksA v_orderA v_neighborsA r2_0 g2) (cwV 0 hts gX3_findLeast_X3_area rfl rfl rfl hvX3_area ⟨Nat.le_of_ble_eq_true rfl, Nat.le_of_ble_eq_true rfl⟩) hK hP [0, 1, 2, 3, 4, 5, 6, 7] rfl 0 3 rfl rfl rfl rfl hl.1 rfl (Nat.le_of_ble_eq_true rfl) dX3_findLeast_6 ⟨Nat.le_refl _, Nat.le_refl _⟩ (fun _ => ?_)
      refine lv_icmp_ge (tgt := 26) hx hb dX3_findLeast_9 (by decide) (fun c3 => ?_) (fun c3 => ?_)
      · replace h := ite_t c3 h
        obtain ⟨rfl, rfl⟩ := sm2 h
        exact kE H locs ls hl hP hD hS
      · replace h := ite_f c3 h
        refine lv_aload_n hx hb dX3_findLeast_12 rfl (lv_at hl 2 rfl) ?_
        refine lv_iload hx hb dX3_findLeast_13 (lv_at hl 0 rfl) ?_
        refine lv_ldc (v := 1073741824) hx hb hown (hts (.constant RX3 146 (1073741824)) lk_X3_findLeast_k146) dX3_findLeast_15 ?_
        obtain ⟨r4_0, g4, h⟩ := bnd1_e h
        refine rwN_back (rest := []) (As := [.ref v_q2, .int v1_0, .int 1073741824]) (wr := [(v_q0, .inr (3, [.ref v_q1, .ref v_q2, .ref v_q3, .ref v_q4, .ref v_q5, .ref v_q6, .ref v_q7, .int v_present, .int v_a, .int v_b, .int v_c, .int v_d, .int v_spot, .int v_middle, .int v_tint])), (v_q1, .inr (2, [.int v_w, .int v_s, .int v_h])), (v_q3, .inl (G.2 0, 64, .inl v_otherValuesA)), (v_q4, .inl (G.2 0, 64, .inl v_ranksA)), (v_q5, .inl (G.2 0, 64, .inl v_oldRanksA)), (v_q6, .inl (G.2 0, 64, .inl v_orderA)), (v_q7, .inl (G.2 0, 256, .inl v_neighborsA))]) (wf := wdX3 G v_q0 v_q1 v_q2 v_q3 v_q4 v_q5 v_q6 v_q7 v_present v_a v_b v_c v_d v_spot v_middle v_tint v_w v_s v_h r4_0 v_otherValuesA v_ranksA v_oldRanksA v_orderA v_neighborsA) S (ctX4_put l G v_q2 64 v1_1 v1_0 1073741824 r4_0 g4) ⟨va_cnB 3 hts gX3_findLeast_X4_put_n129 rfl rfl rfl (hK.2.1 _ (List.mem_of_getElem? (i := 11) rfl)) (hts (.initialized RX4) lk_X3_findLeast_iX4) hsX4_put ⟨Nat.le_of_ble_eq_true rfl, Nat.le_of_ble_eq_true rfl⟩, (hts (.static yX4_put) lk_X3_findLeast_s_put), trivial⟩ hK hP hD hS xb_triv (fun _ _ _ => trivial) [2] [0, 1, 3, 4, 5, 6, 7] [0, 1, 7, 2, 3, 4, 5, 6] rfl rfl rfl rfl rfl rfl rfl rfl hl.1 rfl (Nat.le_of_ble_eq_true rfl) dX3_findLeast_17 ⟨Nat.le_refl _, Nat.le_refl _⟩ (fun _ H locs hP hD hS => ?_)
        have hP : va_P G.1 vwCl (wdX3 G v_q0 v_q1 v_q2 v_q3 v_q4 v_q5 v_q6 v_q7 v_present v_a v_b v_c v_d v_spot v_middle v_tint v_w v_s v_h r4_0 v_otherValuesA v_ranksA v_oldRanksA v_orderA v_neighborsA) H := hP
        have hD : va_D A (wdX3 G v_q0 v_q1 v_q2 v_q3 v_q4 v_q5 v_q6 v_q7 v_present v_a v_b v_c v_d v_spot v_middle v_tint v_w v_s v_h r4_0 v_otherValuesA v_ranksA v_oldRanksA v_orderA v_neighborsA) := hD
        obtain ⟨x5, e5⟩ : ∃ y : Int32, y = v1_0 + 1 := ⟨_, rfl⟩
        replace h := nmB_e e5 h
        refine lv_iinc (v := x5) (lv' := [(4, .int x5), (0, .ref v_q0), (1, .ref v_q2), (2, .int a1), (3, .int a2)]) hx hb dX3_findLeast_20 hl (k := 0) rfl (by rw [e5]; rfl) (by decide) rfl (fun ls hl => ?_)
        refine lv_goto (tgt := 3) hx hb dX3_findLeast_23 (by decide) ?_
        exact ih x5 r4_0 u1_0 u1_1 H locs ls h hl hP hD hS kE
  refine L1 FU 0 v_valuesA u1_0 u1_1 H locs ls g1 hl hP hD hS (fun H locs ls hl hP hD hS => ?_)
  refine lv_iload_n hx hb dX3_findLeast_26 rfl (lv_at hl 4 rfl) ?_
  obtain ⟨K6, hK6, h⟩ := jB1_e h
  have J6 : ∀ (j6_0 : Int32) (H : Heap) (locs : List Loc) (ls : Array Slot), K6 j6_0 = some (o0) → lv_has ls 12 [(4, .int u1_0), (0, .ref v_q0), (1, .ref v_q2), (2, .int a1), (3, .int a2)] → va_P G.1 vwCl (wdX3 G v_q0 v_q1 v_q2 v_q3 v_q4 v_q5 v_q6 v_q7 v_present v_a v_b v_c v_d v_spot v_middle v_tint v_w v_s v_h u1_1 v_otherValuesA v_ranksA v_oldRanksA v_orderA v_neighborsA) H → va_D A (wdX3 G v_q0 v_q1 v_q2 v_q3 v_q4 v_q5 v_q6 v_q7 v_present v_a v_b v_c v_d v_spot v_middle v_tint v_w v_s v_h u1_1 v_otherValuesA v_ranksA v_oldRanksA v_orderA v_neighborsA) → va_S A s.heap H locs → W p l e rmX3_findLeast s m args below meth c H locs 0 0 Q (F0 m 43 ls [.int j6_0]) := by
    intro j6_0 H locs ls h hl hP hD hS
    replace h := (hK6 j6_0).symm.trans h
    refine lv_istore (lv' := [(4, .int j6_0), (0, .ref v_q0), (1, .ref v_q2), (2, .int a1), (3, .int a2)]) hx hb dX3_findLeast_43 hl (by decide) rfl (fun ls hl => ?_)
    refine lv_iload_n hx hb dX3_findLeast_45 rfl (lv_at hl 4 rfl) ?_
    obtain ⟨K8, hK8, h⟩ := jB1_e h
    have J8 : ∀ (j8_0 : Int32) (H : Heap) (locs : List Loc) (ls : Array Slot), K8 j8_0 = some (o0) → lv_has ls 12 [(4, .int j6_0), (0, .ref v_q0), (1, .ref v_q2), (2, .int a1), (3, .int a2)] → va_P G.1 vwCl (wdX3 G v_q0 v_q1 v_q2 v_q3 v_q4 v_q5 v_q6 v_q7 v_present v_a v_b v_c v_d v_spot v_middle v_tint v_w v_s v_h u1_1 v_otherValuesA v_ranksA v_oldRanksA v_orderA v_neighborsA) H → va_D A (wdX3 G v_q0 v_q1 v_q2 v_q3 v_q4 v_q5 v_q6 v_q7 v_present v_a v_b v_c v_d v_spot v_middle v_tint v_w v_s v_h u1_1 v_otherValuesA v_ranksA v_oldRanksA v_orderA v_neighborsA) → va_S A s.heap H locs → W p l e rmX3_findLeast s m args below meth c H locs 0 0 Q (F0 m 62 ls [.int j8_0]) := by
      intro j8_0 H locs ls h hl hP hD hS
      replace h := (hK8 j8_0).symm.trans h
      refine lv_istore (lv' := [(5, .int j8_0), (4, .int j6_0), (0, .ref v_q0), (1, .ref v_q2), (2, .int a1), (3, .int a2)]) hx hb dX3_findLeast_62 hl (by decide) rfl (fun ls hl => ?_)
      refine lv_iload hx hb dX3_findLeast_64 (lv_at hl 1 rfl) ?_
      refine lv_iconst (v := 2) hx hb dX3_findLeast_66 (by decide) ?_
      obtain ⟨r10_0, g10, h⟩ := bnd1_e h
      refine roSi1 (rest := []) (As := [.int j6_0, .int 2]) S (ctJ9_floorDiv_7cf53 l G j6_0 2 r10_0 g10) (va_cwS 2 hts gX3_findLeast_J9_floorDiv_7cf53 rfl rfl rfl hsJ9_floorDiv_7cf53 ⟨Nat.le_of_ble_eq_true rfl, Nat.le_of_ble_eq_true rfl⟩) hK hP [] rfl rfl hl.1 rfl (Nat.le_of_ble_eq_true rfl) dX3_findLeast_67 ⟨Nat.le_refl _, Nat.le_refl _⟩ (fun _ => ?_)
      refine lv_istore (lv' := [(6, .int r10_0), (5, .int j8_0), (4, .int j6_0), (0, .ref v_q0), (1, .ref v_q2), (2, .int a1), (3, .int a2)]) hx hb dX3_findLeast_70 hl (by decide) rfl (fun ls hl => ?_)
      refine lv_iload hx hb dX3_findLeast_72 (lv_at hl 1 rfl) ?_
      refine lv_iconst (v := 2) hx hb dX3_findLeast_74 (by decide) ?_
      obtain ⟨r11_0, g11, h⟩ := bnd1_e h
      refine roSi1 (rest := []) (As := [.int j8_0, .int 2]) S (ctJ9_floorDiv_7cf53 l G j8_0 2 r11_0 g11) (va_cwS 2 hts gX3_findLeast_J9_floorDiv_7cf53 rfl rfl rfl hsJ9_floorDiv_7cf53 ⟨Nat.le_of_ble_eq_true rfl, Nat.le_of_ble_eq_true rfl⟩) hK hP [] rfl rfl hl.1 rfl (Nat.le_of_ble_eq_true rfl) dX3_findLeast_75 ⟨Nat.le_refl _, Nat.le_refl _⟩ (fun _ => ?_)
      refine lv_istore (lv' := [(7, .int r11_0), (6, .int r10_0), (5, .int j8_0), (4, .int j6_0), (0, .ref v_q0), (1, .ref v_q2), (2, .int a1), (3, .int a2)]) hx hb dX3_findLeast_78 hl (by decide) rfl (fun ls hl => ?_)
      refine lv_iload hx hb dX3_findLeast_80 (lv_at hl 0 rfl) ?_
      refine lv_bipush (v := 12) hx hb dX3_findLeast_82 (by decide) ?_
      refine lv_isub hx hb dX3_findLeast_84 ?_
      refine lv_topi (fun x12 e12 => ?_)
      replace h := nmB_e e12 h
      refine lv_istore (lv' := [(8, .int x12), (7, .int r11_0), (6, .int r10_0), (5, .int j8_0), (4, .int j6_0), (0, .ref v_q0), (1, .ref v_q2), (2, .int a1), (3, .int a2)]) hx hb dX3_findLeast_85 hl (by decide) rfl (fun ls hl => ?_)
      obtain ⟨u13_0, u13_1, g13, h⟩ := bnd2_e h
      have L13 : ∀ (fu : Nat) (v13_0 : Int32) (v13_1 : (Nat → Int32)) (u13_0 : Int32) (u13_1 : (Nat → Int32)) (H : Heap) (locs : List Loc) (ls : Array Slot), mX3_findLeast_L87 v_w v_s v_h a1 j6_0 j8_0 r10_0 r11_0 fu v13_0 v13_1 = some (u13_0, u13_1) → lv_has ls 12 [(8, .int v13_0), (7, .int r11_0), (6, .int r10_0), (5, .int j8_0), (4, .int j6_0), (0, .ref v_q0), (1, .ref v_q2), (2, .int a1), (3, .int a2)] → va_P G.1 vwCl (wdX3 G v_q0 v_q1 v_q2 v_q3 v_q4 v_q5 v_q6 v_q7 v_present v_a v_b v_c v_d v_spot v_middle v_tint v_w v_s v_h v13_1 v_otherValuesA v_ranksA v_oldRanksA v_orderA v_neighborsA) H → va_D A (wdX3 G v_q0 v_q1 v_q2 v_q3 v_q4 v_q5 v_q6 v_q7 v_present v_a v_b v_c v_d v_spot v_middle v_tint v_w v_s v_h v13_1 v_otherValuesA v_ranksA v_oldRanksA v_orderA v_neighborsA) → va_S A s.heap H locs → (∀ (H : Heap) (locs : List Loc) (ls : Array Slot), lv_has ls 12 [(8, .int u13_0), (7, .int r11_0), (6, .int r10_0), (5, .int j8_0), (4, .int j6_0), (0, .ref v_q0), (1, .ref v_q2), (2, .int a1), (3, .int a2)] → va_P G.1 vwCl (wdX3 G v_q0 v_q1 v_q2 v_q3 v_q4 v_q5 v_q6 v_q7 v_present v_a v_b v_c v_d v_spot v_middle v_tint v_w v_s v_h u13_1 v_otherValuesA v_ranksA v_oldRanksA v_orderA v_neighborsA) H → va_D A (wdX3 G v_q0 v_q1 v_q2 v_q3 v_q4 v_q5 v_q6 v_q7 v_present v_a v_b v_c v_d v_spot v_middle v_tint v_w v_s v_h u13_1 v_otherValuesA v_ranksA v_oldRanksA v_orderA v_neighborsA) → va_S A s.heap H locs → W p l e rmX3_findLeast s m args below meth c H locs 0 0 Q (F0 m 182 ls [])) → W p l e rmX3_findLeast s m args below meth c H locs 0 0 Q (F0 m 87 ls []) := by
        intro fu
        induction fu with
        | zero => intro v13_0 v13_1 u13_0 u13_1 H locs ls h; exact nomatch h
        | succ fu ih =>
          intro v13_0 v13_1 u13_0 u13_1 H locs ls h hl hP hD hS kE
          rw [mX3_findLeast_L87] at h
          refine lv_iload hx hb dX3_findLeast_87 (lv_at hl 0 rfl) ?_
          refine lv_iload hx hb dX3_findLeast_89 (lv_at hl 1 rfl) ?_
          refine lv_bipush (v := 12) hx hb dX3_findLeast_91 (by decide) ?_
          refine lv_iadd hx hb dX3_findLeast_93 ?_
          refine lv_icmp_gt (tgt := 182) hx hb dX3_findLeast_94 (by decide) (fun c14 => ?_) (fun c14 => ?_)
          · replace h := ite_t c14 h
            obtain ⟨rfl, rfl⟩ := sm2 h
            exact kE H locs ls hl hP hD hS
          · replace h := ite_f c14 h
            refine lv_iload hx hb dX3_findLeast_97 (lv_at hl 2 rfl) ?_
            refine lv_bipush (v := 12) hx hb dX3_findLeast_99 (by decide) ?_
            refine lv_isub hx hb dX3_findLeast_101 ?_
            refine lv_topi (fun x15 e15 => ?_)
            replace h := nmB_e e15 h
            refine lv_istore (lv' := [(9, .int x15), (8, .int v13_0), (7, .int r11_0), (6, .int r10_0), (5, .int j8_0), (4, .int j6_0), (0, .ref v_q0), (1, .ref v_q2), (2, .int a1), (3, .int a2)]) hx hb dX3_findLeast_102 hl (by decide) rfl (fun ls hl => ?_)
            obtain ⟨u16_0, u16_1, g16, h⟩ := bnd2_e h
            have L16 : ∀ (fu : Nat) (v16_0 : Int32) (v16_1 : (Nat → Int32)) (u16_0 : Int32) (u16_1 : (Nat → Int32)) (H : Heap) (locs : List Loc) (ls : Array Slot), mX3_findLeast_L104 v_w v_s v_h a1 j6_0 j8_0 r10_0 v13_0 fu v16_0 v16_1 = some (u16_0, u16_1) → lv_has ls 12 [(9, .int v16_0), (8, .int v13_0), (7, .int r11_0), (6, .int r10_0), (5, .int j8_0), (4, .int j6_0), (0, .ref v_q0), (1, .ref v_q2), (2, .int a1), (3, .int a2)] → va_P G.1 vwCl (wdX3 G v_q0 v_q1 v_q2 v_q3 v_q4 v_q5 v_q6 v_q7 v_present v_a v_b v_c v_d v_spot v_middle v_tint v_w v_s v_h v16_1 v_otherValuesA v_ranksA v_oldRanksA v_orderA v_neighborsA) H → va_D A (wdX3 G v_q0 v_q1 v_q2 v_q3 v_q4 v_q5 v_q6 v_q7 v_present v_a v_b v_c v_d v_spot v_middle v_tint v_w v_s v_h v16_1 v_otherValuesA v_ranksA v_oldRanksA v_orderA v_neighborsA) → va_S A s.heap H locs → (∀ (H : Heap) (locs : List Loc) (ls : Array Slot), lv_has ls 12 [(9, .int u16_0), (8, .int v13_0), (7, .int r11_0), (6, .int r10_0), (5, .int j8_0), (4, .int j6_0), (0, .ref v_q0), (1, .ref v_q2), (2, .int a1), (3, .int a2)] → va_P G.1 vwCl (wdX3 G v_q0 v_q1 v_q2 v_q3 v_q4 v_q5 v_q6 v_q7 v_present v_a v_b v_c v_d v_spot v_middle v_tint v_w v_s v_h u16_1 v_otherValuesA v_ranksA v_oldRanksA v_orderA v_neighborsA) H → va_D A (wdX3 G v_q0 v_q1 v_q2 v_q3 v_q4 v_q5 v_q6 v_q7 v_present v_a v_b v_c v_d v_spot v_middle v_tint v_w v_s v_h u16_1 v_otherValuesA v_ranksA v_oldRanksA v_orderA v_neighborsA) → va_S A s.heap H locs → W p l e rmX3_findLeast s m args below meth c H locs 0 0 Q (F0 m 176 ls [])) → W p l e rmX3_findLeast s m args below meth c H locs 0 0 Q (F0 m 104 ls []) := by
              intro fu
              induction fu with
              | zero => intro v16_0 v16_1 u16_0 u16_1 H locs ls h; exact nomatch h
              | succ fu ih =>
                intro v16_0 v16_1 u16_0 u16_1 H locs ls h hl hP hD hS kE
                rw [mX3_findLeast_L104] at h
                refine lv_iload hx hb dX3_findLeast_104 (lv_at hl 0 rfl) ?_
                refine lv_iload hx hb dX3_findLeast_106 (lv_at hl 3 rfl) ?_
                refine lv_bipush (v := 12) hx hb dX3_findLeast_108 (by decide) ?_
                refine lv_iadd hx hb dX3_findLeast_110 ?_
                refine lv_icmp_gt (tgt := 176) hx hb dX3_findLeast_111 (by decide) (fun c17 => ?_) (fun c17 => ?_)
                · replace h := ite_t c17 h
                  obtain ⟨rfl, rfl⟩ := sm2 h
                  exact kE H locs ls hl hP hD hS
                · replace h := ite_f c17 h
                  refine lv_aload_n hx hb dX3_findLeast_114 rfl (lv_at hl 6 rfl) ?_
                  refine va_get (D := G.1) (ci := 3) (v := .ref v_q1) (C := RX3) (T := TX3) (N := 15) hx hb hts fw_X3_findLeast_X3 hown hK.1 hP 0 rfl rfl 0 (by decide) (hts (.fieldLink RX3 12 "HalftoneScreens$Screen" "lattice" "LHalftoneScreens$Lattice;") lk_X3_findLeast_f12) (fun _ h9 => h9) rfl dX3_findLeast_115 ?_
                  refine lv_iload hx hb dX3_findLeast_118 (lv_at hl 0 rfl) ?_
                  refine lv_iload hx hb dX3_findLeast_120 (lv_at hl 1 rfl) ?_
                  obtain ⟨r18_0, g18, h⟩ := bnd1_e h
                  refine roVi1 (rest := []) (As := [.int v16_0, .int v13_0]) S (ctX2_numberOf l G v_q1 v_w v_s v_h v16_0 v13_0 r18_0 g18) (cwV 2 hts gX3_findLeast_X2_numberOf rfl rfl rfl hvX2_numberOf ⟨Nat.le_of_ble_eq_true rfl, Nat.le_of_ble_eq_true rfl⟩) hK hP [1] rfl 1 2 rfl rfl rfl rfl hl.1 rfl (Nat.le_of_ble_eq_true rfl) dX3_findLeast_122 ⟨Nat.le_refl _, Nat.le_refl _⟩ (fun _ => ?_)
                  refine lv_istore (lv' := [(10, .int r18_0), (9, .int v16_0), (8, .int v13_0), (7, .int r11_0), (6, .int r10_0), (5, .int j8_0), (4, .int j6_0), (0, .ref v_q0), (1, .ref v_q2), (2, .int a1), (3, .int a2)]) hx hb dX3_findLeast_125 hl (by decide) rfl (fun ls hl => ?_)
                  refine lv_iload_n hx hb dX3_findLeast_127 rfl (lv_at hl 9 rfl) ?_
                  refine lv_iconst (v := 2) hx hb dX3_findLeast_128 (by decide) ?_
                  refine lv_iload hx hb dX3_findLeast_129 (lv_at hl 1 rfl) ?_
                  refine lv_imul hx hb dX3_findLeast_131 ?_
                  refine lv_iload hx hb dX3_findLeast_132 (lv_at hl 6 rfl) ?_
                  refine lv_isub hx hb dX3_findLeast_134 ?_
                  refine va_mabs hx hb (hml.trans hl.1.symm) hown (hts (.methodLink RX3 90 Lib.Math.abs.name) lk_X3_findLeast_m90) (hts (.static Lib.Math.abs.name) lk_X3_findLeast_sabs) (hts (.initialized "java/lang/Math") lk_X3_findLeast_iM) (hts (.code Lib.Math.abs.name Lib.Math.abs.code 1 (some .int)) lk_X3_findLeast_cabs) (Nat.le_of_ble_eq_true rfl) (Nat.le_of_ble_eq_true rfl) (Nat.le_refl _) (Nat.le_refl _) dX3_findLeast_135 ?_
                  refine lv_iconst (v := 2) hx hb dX3_findLeast_138 (by decide) ?_
                  refine lv_iload hx hb dX3_findLeast_139 (lv_at hl 2 rfl) ?_
                  refine lv_imul hx hb dX3_findLeast_141 ?_
                  refine lv_iload hx hb dX3_findLeast_142 (lv_at hl 5 rfl) ?_
                  refine lv_isub hx hb dX3_findLeast_144 ?_
                  refine va_mabs hx hb (hml.trans hl.1.symm) hown (hts (.methodLink RX3 90 Lib.Math.abs.name) lk_X3_findLeast_m90) (hts (.static Lib.Math.abs.name) lk_X3_findLeast_sabs) (hts (.initialized "java/lang/Math") lk_X3_findLeast_iM) (hts (.code Lib.Math.abs.name Lib.Math.abs.code 1 (some .int)) lk_X3_findLeast_cabs) (Nat.le_of_ble_eq_true rfl) (Nat.le_of_ble_eq_true rfl) (Nat.le_refl _) (Nat.le_refl _) dX3_findLeast_145 ?_
                  obtain ⟨r19_0, g19, h⟩ := bnd1_e h
                  refine roSi1 (rest := []) (As := [.int a1, .int (if 0 ≤ ((2 * v16_0) - j6_0) then ((2 * v16_0) - j6_0) else 0 - ((2 * v16_0) - j6_0)), .int (if 0 ≤ ((2 * v13_0) - j8_0) then ((2 * v13_0) - j8_0) else 0 - ((2 * v13_0) - j8_0))]) S (ctX3_measured l G a1 (if 0 ≤ ((2 * v16_0) - j6_0) then ((2 * v16_0) - j6_0) else 0 - ((2 * v16_0) - j6_0)) (if 0 ≤ ((2 * v13_0) - j8_0) then ((2 * v13_0) - j8_0) else 0 - ((2 * v13_0) - j8_0)) r19_0 g19) (va_cwS 3 hts gX3_findLeast_X3_measured rfl rfl rfl hsX3_measured ⟨Nat.le_of_ble_eq_true rfl, Nat.le_of_ble_eq_true rfl⟩) hK hP [] rfl rfl hl.1 rfl (Nat.le_of_ble_eq_true rfl) dX3_findLeast_148 ⟨Nat.le_refl _, Nat.le_refl _⟩ (fun _ => ?_)
                  refine lv_istore (lv' := [(11, .int r19_0), (10, .int r18_0), (9, .int v16_0), (8, .int v13_0), (7, .int r11_0), (6, .int r10_0), (5, .int j8_0), (4, .int j6_0), (0, .ref v_q0), (1, .ref v_q2), (2, .int a1), (3, .int a2)]) hx hb dX3_findLeast_151 hl (by decide) rfl (fun ls hl => ?_)
                  refine lv_aload_n hx hb dX3_findLeast_153 rfl (lv_at hl 9 rfl) ?_
                  refine lv_iload hx hb dX3_findLeast_154 (lv_at hl 1 rfl) ?_
                  refine lv_iload hx hb dX3_findLeast_156 (lv_at hl 0 rfl) ?_
                  refine lv_aload_n hx hb dX3_findLeast_158 rfl (lv_at hl 9 rfl) ?_
                  refine lv_iload hx hb dX3_findLeast_159 (lv_at hl 1 rfl) ?_
                  obtain ⟨r20_0, g20, h⟩ := bnd1_e h
                  refine roNi1 (rest := [.int r19_0, .int r18_0, .ref v_q2]) (As := [.ref v_q2, .int r18_0]) S (ctX4_at l G v_q2 64 v16_1 r18_0 r20_0 g20) ⟨va_cnB 2 hts gX3_findLeast_X4_at_n80 rfl rfl rfl (hK.2.1 _ (List.mem_of_getElem? (i := 8) rfl)) (hts (.initialized RX4) lk_X3_findLeast_iX4) hsX4_at ⟨Nat.le_of_ble_eq_true rfl, Nat.le_of_ble_eq_true rfl⟩, (hts (.static yX4_at) lk_X3_findLeast_s_at), trivial⟩ hK hP [2] rfl rfl hl.1 rfl (Nat.le_of_ble_eq_true rfl) dX3_findLeast_161 ⟨Nat.le_refl _, Nat.le_refl _⟩ (fun _ => ?_)
                  refine va_mmin hx hb (hml.trans hl.1.symm) hown (hts (.methodLink RX3 143 Lib.Math.min.name) lk_X3_findLeast_m143) (hts (.static Lib.Math.min.name) lk_X3_findLeast_smin) (hts (.initialized "java/lang/Math") lk_X3_findLeast_iM) (hts (.code Lib.Math.min.name Lib.Math.min.code 2 (some .int)) lk_X3_findLeast_cmin) (Nat.le_of_ble_eq_true rfl) (Nat.le_of_ble_eq_true rfl) (Nat.le_refl _) (Nat.le_refl _) dX3_findLeast_164 ?_
                  obtain ⟨r21_0, g21, h⟩ := bnd1_e h
                  refine rwN_back (rest := []) (As := [.ref v_q2, .int r18_0, .int (if r20_0 < r19_0 then r20_0 else r19_0)]) (wr := [(v_q0, .inr (3, [.ref v_q1, .ref v_q2, .ref v_q3, .ref v_q4, .ref v_q5, .ref v_q6, .ref v_q7, .int v_present, .int v_a, .int v_b, .int v_c, .int v_d, .int v_spot, .int v_middle, .int v_tint])), (v_q1, .inr (2, [.int v_w, .int v_s, .int v_h])), (v_q3, .inl (G.2 0, 64, .inl v_otherValuesA)), (v_q4, .inl (G.2 0, 64, .inl v_ranksA)), (v_q5, .inl (G.2 0, 64, .inl v_oldRanksA)), (v_q6, .inl (G.2 0, 64, .inl v_orderA)), (v_q7, .inl (G.2 0, 256, .inl v_neighborsA))]) (wf := wdX3 G v_q0 v_q1 v_q2 v_q3 v_q4 v_q5 v_q6 v_q7 v_present v_a v_b v_c v_d v_spot v_middle v_tint v_w v_s v_h r21_0 v_otherValuesA v_ranksA v_oldRanksA v_orderA v_neighborsA) S (ctX4_put l G v_q2 64 v16_1 r18_0 (if r20_0 < r19_0 then r20_0 else r19_0) r21_0 g21) ⟨va_cnB 3 hts gX3_findLeast_X4_put_n129 rfl rfl rfl (hK.2.1 _ (List.mem_of_getElem? (i := 11) rfl)) (hts (.initialized RX4) lk_X3_findLeast_iX4) hsX4_put ⟨Nat.le_of_ble_eq_true rfl, Nat.le_of_ble_eq_true rfl⟩, (hts (.static yX4_put) lk_X3_findLeast_s_put), trivial⟩ hK hP hD hS xb_triv (fun _ _ _ => trivial) [2] [0, 1, 3, 4, 5, 6, 7] [0, 1, 7, 2, 3, 4, 5, 6] rfl rfl rfl rfl rfl rfl rfl rfl hl.1 rfl (Nat.le_of_ble_eq_true rfl) dX3_findLeast_167 ⟨Nat.le_refl _, Nat.le_refl _⟩ (fun _ H locs hP hD hS => ?_)
                  have hP : va_P G.1 vwCl (wdX3 G v_q0 v_q1 v_q2 v_q3 v_q4 v_q5 v_q6 v_q7 v_present v_a v_b v_c v_d v_spot v_middle v_tint v_w v_s v_h r21_0 v_otherValuesA v_ranksA v_oldRanksA v_orderA v_neighborsA) H := hP
                  have hD : va_D A (wdX3 G v_q0 v_q1 v_q2 v_q3 v_q4 v_q5 v_q6 v_q7 v_present v_a v_b v_c v_d v_spot v_middle v_tint v_w v_s v_h r21_0 v_otherValuesA v_ranksA v_oldRanksA v_orderA v_neighborsA) := hD
                  obtain ⟨x22, e22⟩ : ∃ y : Int32, y = v16_0 + 1 := ⟨_, rfl⟩
                  replace h := nmB_e e22 h
                  refine lv_iinc (v := x22) (lv' := [(9, .int x22), (11, .int r19_0), (10, .int r18_0), (8, .int v13_0), (7, .int r11_0), (6, .int r10_0), (5, .int j8_0), (4, .int j6_0), (0, .ref v_q0), (1, .ref v_q2), (2, .int a1), (3, .int a2)]) hx hb dX3_findLeast_170 hl (k := 2) rfl (by rw [e22]; rfl) (by decide) rfl (fun ls hl => ?_)
                  refine lv_goto (tgt := 104) hx hb dX3_findLeast_173 (by decide) ?_
                  exact ih x22 r21_0 u16_0 u16_1 H locs ls h (lv_sub hl [0, 3, 4, 5, 6, 7, 8, 9, 10, 11] rfl) hP hD hS kE
            refine L16 FU x15 v13_1 u16_0 u16_1 H locs ls g16 hl hP hD hS (fun H locs ls hl hP hD hS => ?_)
            obtain ⟨x23, e23⟩ : ∃ y : Int32, y = v13_0 + 1 := ⟨_, rfl⟩
            replace h := nmB_e e23 h
            refine lv_iinc (v := x23) (lv' := [(8, .int x23), (9, .int u16_0), (7, .int r11_0), (6, .int r10_0), (5, .int j8_0), (4, .int j6_0), (0, .ref v_q0), (1, .ref v_q2), (2, .int a1), (3, .int a2)]) hx hb dX3_findLeast_176 hl (k := 1) rfl (by rw [e23]; rfl) (by decide) rfl (fun ls hl => ?_)
            refine lv_goto (tgt := 87) hx hb dX3_findLeast_179 (by decide) ?_
            exact ih x23 u16_1 u13_0 u13_1 H locs ls h (lv_sub hl [0, 2, 3, 4, 5, 6, 7, 8, 9] rfl) hP hD hS kE
      refine L13 FU x12 u1_1 u13_0 u13_1 H locs ls g13 hl hP hD hS (fun H locs ls hl hP hD hS => ?_)
      obtain rfl := sm1 h
      exact hret _ _ _ _ trivial hP hD hS dX3_findLeast_182
    refine lv_if_eq (tgt := 61) hx hb dX3_findLeast_46 (by decide) (fun c9 => ?_) (fun c9 => ?_)
    · replace h := ite_t c9 h
      refine lv_iconst (v := 0) hx hb dX3_findLeast_61 (by decide) ?_
      exact J8 0 H locs ls h hl hP hD hS
    · replace h := ite_f c9 h
      refine lv_aload_n hx hb dX3_findLeast_49 rfl (lv_at hl 1 rfl) ?_
      refine va_get (D := G.1) (ci := 3) (v := .int v_b) (C := RX3) (T := TX3) (N := 15) hx hb hts fw_X3_findLeast_X3 hown hK.1 hP 0 rfl rfl 9 (by decide) (hts (.fieldLink RX3 41 "HalftoneScreens$Screen" "b" "I") lk_X3_findLeast_f41) (fun _ h9 => h9) rfl dX3_findLeast_50 ?_
      refine lv_aload_n hx hb dX3_findLeast_53 rfl (lv_at hl 1 rfl) ?_
      refine va_get (D := G.1) (ci := 3) (v := .int v_d) (C := RX3) (T := TX3) (N := 15) hx hb hts fw_X3_findLeast_X3 hown hK.1 hP 0 rfl rfl 11 (by decide) (hts (.fieldLink RX3 47 "HalftoneScreens$Screen" "d" "I") lk_X3_findLeast_f47) (fun _ h9 => h9) rfl dX3_findLeast_54 ?_
      refine lv_iadd hx hb dX3_findLeast_57 ?_
      refine lv_goto (tgt := 62) hx hb dX3_findLeast_58 (by decide) ?_
      exact J8 (v_b + v_d) H locs ls h hl hP hD hS
  refine lv_if_eq (tgt := 42) hx hb dX3_findLeast_27 (by decide) (fun c7 => ?_) (fun c7 => ?_)
  · replace h := ite_t c7 h
    refine lv_iconst (v := 0) hx hb dX3_findLeast_42 (by decide) ?_
    exact J6 0 H locs ls h hl hP hD hS
  · replace h := ite_f c7 h
    refine lv_aload_n hx hb dX3_findLeast_30 rfl (lv_at hl 1 rfl) ?_
    refine va_get (D := G.1) (ci := 3) (v := .int v_a) (C := RX3) (T := TX3) (N := 15) hx hb hts fw_X3_findLeast_X3 hown hK.1 hP 0 rfl rfl 8 (by decide) (hts (.fieldLink RX3 37 "HalftoneScreens$Screen" "a" "I") lk_X3_findLeast_f37) (fun _ h9 => h9) rfl dX3_findLeast_31 ?_
    refine lv_aload_n hx hb dX3_findLeast_34 rfl (lv_at hl 1 rfl) ?_
    refine va_get (D := G.1) (ci := 3) (v := .int v_c) (C := RX3) (T := TX3) (N := 15) hx hb hts fw_X3_findLeast_X3 hown hK.1 hP 0 rfl rfl 10 (by decide) (hts (.fieldLink RX3 44 "HalftoneScreens$Screen" "c" "I") lk_X3_findLeast_f44) (fun _ h9 => h9) rfl dX3_findLeast_35 ?_
    refine lv_iadd hx hb dX3_findLeast_38 ?_
    refine lv_goto (tgt := 43) hx hb dX3_findLeast_39 (by decide) ?_
    exact J6 (v_a + v_c) H locs ls h hl hP hD hS
theorem lk_X3_findLeastb_k146 : Cond.constant RX3 146 (1073741824) ∈ wsX3_findLeast := List.mem_of_getElem? (i := 1) rfl
theorem lk_X3_findLeastb_iX4 : Cond.initialized RX4 ∈ wsX3_findLeast := List.mem_of_getElem? (i := 27) rfl
theorem lk_X3_findLeastb_s_put : Cond.static yX4_put ∈ wsX3_findLeast := List.mem_of_getElem? (i := 26) rfl
theorem fw_X3_findLeastb_X3 : ∀ w ∈ wsX30, w ∈ wsX3_findLeast := fun w h => List.mem_cons_of_mem _ (List.mem_append_left _ (List.mem_append_right _ h))
theorem lk_X3_findLeastb_f37 : Cond.fieldLink RX3 37 "HalftoneScreens$Screen" "a" "I" ∈ wsX3_findLeast := List.mem_of_getElem? (i := 2) rfl
theorem lk_X3_findLeastb_f44 : Cond.fieldLink RX3 44 "HalftoneScreens$Screen" "c" "I" ∈ wsX3_findLeast := List.mem_of_getElem? (i := 3) rfl
theorem lk_X3_findLeastb_f41 : Cond.fieldLink RX3 41 "HalftoneScreens$Screen" "b" "I" ∈ wsX3_findLeast := List.mem_of_getElem? (i := 4) rfl
theorem lk_X3_findLeastb_f47 : Cond.fieldLink RX3 47 "HalftoneScreens$Screen" "d" "I" ∈ wsX3_findLeast := List.mem_of_getElem? (i := 5) rfl
theorem lk_X3_findLeastb_f12 : Cond.fieldLink RX3 12 "HalftoneScreens$Screen" "lattice" "LHalftoneScreens$Lattice;" ∈ wsX3_findLeast := List.mem_of_getElem? (i := 6) rfl
theorem lk_X3_findLeastb_m90 : Cond.methodLink RX3 90 Lib.Math.abs.name ∈ wsX3_findLeast := List.mem_of_getElem? (i := 7) rfl
theorem lk_X3_findLeastb_sabs : Cond.static Lib.Math.abs.name ∈ wsX3_findLeast := List.mem_of_getElem? (i := 8) rfl
theorem lk_X3_findLeastb_iM : Cond.initialized "java/lang/Math" ∈ wsX3_findLeast := List.mem_of_getElem? (i := 9) rfl
theorem lk_X3_findLeastb_cabs : Cond.code Lib.Math.abs.name Lib.Math.abs.code 1 (some .int) ∈ wsX3_findLeast := List.mem_of_getElem? (i := 10) rfl
theorem lk_X3_findLeastb_s_at : Cond.static yX4_at ∈ wsX3_findLeast := List.mem_of_getElem? (i := 52) rfl
theorem lk_X3_findLeastb_m143 : Cond.methodLink RX3 143 Lib.Math.min.name ∈ wsX3_findLeast := List.mem_of_getElem? (i := 11) rfl
theorem lk_X3_findLeastb_smin : Cond.static Lib.Math.min.name ∈ wsX3_findLeast := List.mem_of_getElem? (i := 12) rfl
theorem lk_X3_findLeastb_cmin : Cond.code Lib.Math.min.name Lib.Math.min.code 2 (some .int) ∈ wsX3_findLeast := List.mem_of_getElem? (i := 13) rfl
set_option maxHeartbeats 4000000 in
set_option maxRecDepth 100000 in
theorem ctX3_findLeastb (l : Launch) (G : GG) (v_q0 : Nat) (v_q1 : Nat) (v_q2 : Nat) (v_q3 : Nat) (v_q4 : Nat) (v_q5 : Nat) (v_q6 : Nat) (v_q7 : Nat) (v_present : Int32) (v_a : Int32) (v_b : Int32) (v_c : Int32) (v_d : Int32) (v_spot : Int32) (v_middle : Int32) (v_tint : Int32) (v_w : Int32) (v_s : Int32) (v_h : Int32) (v_valuesA : (Nat → Int32)) (v_otherValuesA : (Nat → Int32)) (v_ranksA : (Nat → Int32)) (v_oldRanksA : (Nat → Int32)) (v_orderA : (Nat → Int32)) (v_neighborsA : (Nat → Int32)) (a1 : Int32) (a2 : Int32) (o0 : (Nat → Int32)) (h : mX3_findLeastb v_a v_b v_c v_d v_w v_s v_h v_otherValuesA a1 a2 = some (o0))  : Met l yX3_findLeast wsX3_findLeast rmX3_findLeast (va_Pc [.ref v_q0, .ref v_q3, .int a1, .int a2] (PreD G (wdX3 G v_q0 v_q1 v_q2 v_q3 v_q4 v_q5 v_q6 v_q7 v_present v_a v_b v_c v_d v_spot v_middle v_tint v_w v_s v_h v_valuesA v_otherValuesA v_ranksA v_oldRanksA v_orderA v_neighborsA) (fun _ => True))) (QwA G (va_A0 (wdX3 G v_q0 v_q1 v_q2 v_q3 v_q4 v_q5 v_q6 v_q7 v_present v_a v_b v_c v_d v_spot v_middle v_tint v_w v_s v_h v_valuesA v_otherValuesA v_ranksA v_oldRanksA v_orderA v_neighborsA)) (wdX3 G v_q0 v_q1 v_q2 v_q3 v_q4 v_q5 v_q6 v_q7 v_present v_a v_b v_c v_d v_spot v_middle v_tint v_w v_s v_h v_valuesA o0 v_ranksA v_oldRanksA v_orderA v_neighborsA) none True) 0 0 (va_A0 (wdX3 G v_q0 v_q1 v_q2 v_q3 v_q4 v_q5 v_q6 v_q7 v_present v_a v_b v_c v_d v_spot v_middle v_tint v_w v_s v_h v_valuesA v_otherValuesA v_ranksA v_oldRanksA v_orderA v_neighborsA)) := by
  refine of_wv (cc := cX3_findLeast) (maxL := 12) (plainFor_of_name (by decide)) rfl (Nat.le_of_ble_eq_true rfl) ?_
  intro p e s m args below meth c ls Q A S hl hP hD hS hK hX hA hret
  obtain ⟨H, hH⟩ : ∃ H, H = s.heap := ⟨_, rfl⟩
  obtain ⟨locs, hlocs⟩ : ∃ L : List Loc, L = [] := ⟨_, rfl⟩
  rw [← hlocs]
  rw [← hlocs] at hS
  have hP : va_P G.1 vwCl (wdX3 G v_q0 v_q1 v_q2 v_q3 v_q4 v_q5 v_q6 v_q7 v_present v_a v_b v_c v_d v_spot v_middle v_tint v_w v_s v_h v_valuesA v_otherValuesA v_ranksA v_oldRanksA v_orderA v_neighborsA) H := by rw [hH]; exact hP
  have hS : va_S A s.heap H locs := by rw [hH]; exact hS
  suffices hgo : W p l e rmX3_findLeast s m args below meth c H locs 0 0 Q (F0 m 0 ls []) by rw [hH] at hgo; exact hgo
  have S : CallFix p m c cX3_findLeast 12 s args wsX3_findLeast RX3 := S
  obtain ⟨hx, hb, hml, hown, hts⟩ := id S
  have hl : lv_has ls 12 [(0, .ref v_q0), (1, .ref v_q3), (2, .int a1), (3, .int a2)] := hl
  unfold mX3_findLeastb at h
  refine lv_iconst (v := 0) hx hb dX3_findLeast_0 (by decide) ?_
  refine lv_istore (lv' := [(4, .int 0), (0, .ref v_q0), (1, .ref v_q3), (2, .int a1), (3, .int a2)]) hx hb dX3_findLeast_1 hl (by decide) rfl (fun ls hl => ?_)
  obtain ⟨u1_0, u1_1, g1, h⟩ := bnd2_e h
  have L1 : ∀ (fu : Nat) (v1_0 : Int32) (v1_1 : (Nat → Int32)) (u1_0 : Int32) (u1_1 : (Nat → Int32)) (H : Heap) (locs : List Loc) (ls : Array Slot), mX3_findLeastb_L3 v_w v_h fu v1_0 v1_1 = some (u1_0, u1_1) → lv_has ls 12 [(4, .int v1_0), (0, .ref v_q0), (1, .ref v_q3), (2, .int a1), (3, .int a2)] → va_P G.1 vwCl (wdX3 G v_q0 v_q1 v_q2 v_q3 v_q4 v_q5 v_q6 v_q7 v_present v_a v_b v_c v_d v_spot v_middle v_tint v_w v_s v_h v_valuesA v1_1 v_ranksA v_oldRanksA v_orderA v_neighborsA) H → va_D A (wdX3 G v_q0 v_q1 v_q2 v_q3 v_q4 v_q5 v_q6 v_q7 v_present v_a v_b v_c v_d v_spot v_middle v_tint v_w v_s v_h v_valuesA v1_1 v_ranksA v_oldRanksA v_orderA v_neighborsA) → va_S A s.heap H locs → (∀ (H : Heap) (locs : List Loc) (ls : Array Slot), lv_has ls 12 [(4, .int u1_0), (0, .ref v_q0), (1, .ref v_q3), (2, .int a1), (3, .int a2)] → va_P G.1 vwCl (wdX3 G v_q0 v_q1 v_q2 v_q3 v_q4 v_q5 v_q6 v_q7 v_present v_a v_b v_c v_d v_spot v_middle v_tint v_w v_s v_h v_valuesA u1_1 v_ranksA v_oldRanksA v_orderA v_neighborsA) H → va_D A (wdX3 G v_q0 v_q1 v_q2 v_q3 v_q4 v_q5 v_q6 v_q7 v_present v_a v_b v_c v_d v_spot v_middle v_tint v_w v_s v_h v_valuesA u1_1 v_ranksA v_oldRanksA v_orderA v_neighborsA) → va_S A s.heap H locs → W p l e rmX3_findLeast s m args below meth c H locs 0 0 Q (F0 m 26 ls [])) → W p l e rmX3_findLeast s m args below meth c H locs 0 0 Q (F0 m 3 ls []) := by
    intro fu
    induction fu with
    | zero => intro v1_0 v1_1 u1_0 u1_1 H locs ls h; exact nomatch h
    | succ fu ih =>
      intro v1_0 v1_1 u1_0 u1_1 H locs ls h hl hP hD hS kE
      rw [mX3_findLeastb_L3] at h
      refine lv_iload hx hb dX3_findLeast_3 (lv_at hl 0 rfl) ?_
      refine lv_aload_n hx hb dX3_findLeast_5 rfl (lv_at hl 1 rfl) ?_
      obtain ⟨r2_0, g2, h⟩ := bnd1_e h
      refine roVi1 (rest := [.int v1_0]) (As := []) S (ctX3_area l G v_q0 v_q1 v_q2 v_q3 v_q4 v_q5 v_q6 v_q7 v_present v_a v_b v_c v_d v_spot v_middle v_tint v_w v_s v_h v_valuesA v1_1 v_ranksA v_oldRanksA v_orderA v_neighborsA r2_0 g2) (cwV 0 hts gX3_findLeast_X3_area rfl rfl rfl hvX3_area ⟨Nat.le_of_ble_eq_true rfl, Nat.le_of_ble_eq_true rfl⟩) hK hP [0, 1, 2, 3, 4, 5, 6, 7] rfl 0 3 rfl rfl rfl rfl hl.1 rfl (Nat.le_of_ble_eq_true rfl) dX3_findLeast_6 ⟨Nat.le_refl _, Nat.le_refl _⟩ (fun _ => ?_)
      refine lv_icmp_ge (tgt := 26) hx hb dX3_findLeast_9 (by decide) (fun c3 => ?_) (fun c3 => ?_)
      · replace h := ite_t c3 h
        obtain ⟨rfl, rfl⟩ := sm2 h
        exact kE H locs ls hl hP hD hS
      · replace h := ite_f c3 h
        refine lv_aload_n hx hb dX3_findLeast_12 rfl (lv_at hl 2 rfl) ?_
        refine lv_iload hx hb dX3_findLeast_13 (lv_at hl 0 rfl) ?_
        refine lv_ldc (v := 1073741824) hx hb hown (hts (.constant RX3 146 (1073741824)) lk_X3_findLeastb_k146) dX3_findLeast_15 ?_
        obtain ⟨r4_0, g4, h⟩ := bnd1_e h
        refine rwN_back (rest := []) (As := [.ref v_q3, .int v1_0, .int 1073741824]) (wr := [(v_q0, .inr (3, [.ref v_q1, .ref v_q2, .ref v_q3, .ref v_q4, .ref v_q5, .ref v_q6, .ref v_q7, .int v_present, .int v_a, .int v_b, .int v_c, .int v_d, .int v_spot, .int v_middle, .int v_tint])), (v_q1, .inr (2, [.int v_w, .int v_s, .int v_h])), (v_q2, .inl (G.2 0, 64, .inl v_valuesA)), (v_q4, .inl (G.2 0, 64, .inl v_ranksA)), (v_q5, .inl (G.2 0, 64, .inl v_oldRanksA)), (v_q6, .inl (G.2 0, 64, .inl v_orderA)), (v_q7, .inl (G.2 0, 256, .inl v_neighborsA))]) (wf := wdX3 G v_q0 v_q1 v_q2 v_q3 v_q4 v_q5 v_q6 v_q7 v_present v_a v_b v_c v_d v_spot v_middle v_tint v_w v_s v_h v_valuesA r4_0 v_ranksA v_oldRanksA v_orderA v_neighborsA) S (ctX4_put l G v_q3 64 v1_1 v1_0 1073741824 r4_0 g4) ⟨va_cnB 3 hts gX3_findLeast_X4_put_n129 rfl rfl rfl (hK.2.1 _ (List.mem_of_getElem? (i := 11) rfl)) (hts (.initialized RX4) lk_X3_findLeastb_iX4) hsX4_put ⟨Nat.le_of_ble_eq_true rfl, Nat.le_of_ble_eq_true rfl⟩, (hts (.static yX4_put) lk_X3_findLeastb_s_put), trivial⟩ hK hP hD hS xb_triv (fun _ _ _ => trivial) [3] [0, 1, 2, 4, 5, 6, 7] [0, 1, 2, 7, 3, 4, 5, 6] rfl rfl rfl rfl rfl rfl rfl rfl hl.1 rfl (Nat.le_of_ble_eq_true rfl) dX3_findLeast_17 ⟨Nat.le_refl _, Nat.le_refl _⟩ (fun _ H locs hP hD hS => ?_)
        have hP : va_P G.1 vwCl (wdX3 G v_q0 v_q1 v_q2 v_q3 v_q4 v_q5 v_q6 v_q7 v_present v_a v_b v_c v_d v_spot v_middle v_tint v_w v_s v_h v_valuesA r4_0 v_ranksA v_oldRanksA v_orderA v_neighborsA) H := hP
        have hD : va_D A (wdX3 G v_q0 v_q1 v_q2 v_q3 v_q4 v_q5 v_q6 v_q7 v_present v_a v_b v_c v_d v_spot v_middle v_tint v_w v_s v_h v_valuesA r4_0 v_ranksA v_oldRanksA v_orderA v_neighborsA) := hD
        obtain ⟨x5, e5⟩ : ∃ y : Int32, y = v1_0 + 1 := ⟨_, rfl⟩
        replace h := nmB_e e5 h
        refine lv_iinc (v := x5) (lv' := [(4, .int x5), (0, .ref v_q0), (1, .ref v_q3), (2, .int a1), (3, .int a2)]) hx hb dX3_findLeast_20 hl (k := 0) rfl (by rw [e5]; rfl) (by decide) rfl (fun ls hl => ?_)
        refine lv_goto (tgt := 3) hx hb dX3_findLeast_23 (by decide) ?_
        exact ih x5 r4_0 u1_0 u1_1 H locs ls h hl hP hD hS kE
  refine L1 FU 0 v_otherValuesA u1_0 u1_1 H locs ls g1 hl hP hD hS (fun H locs ls hl hP hD hS => ?_)
  refine lv_iload_n hx hb dX3_findLeast_26 rfl (lv_at hl 4 rfl) ?_
  obtain ⟨K6, hK6, h⟩ := jB1_e h
  have J6 : ∀ (j6_0 : Int32) (H : Heap) (locs : List Loc) (ls : Array Slot), K6 j6_0 = some (o0) → lv_has ls 12 [(4, .int u1_0), (0, .ref v_q0), (1, .ref v_q3), (2, .int a1), (3, .int a2)] → va_P G.1 vwCl (wdX3 G v_q0 v_q1 v_q2 v_q3 v_q4 v_q5 v_q6 v_q7 v_present v_a v_b v_c v_d v_spot v_middle v_tint v_w v_s v_h v_valuesA u1_1 v_ranksA v_oldRanksA v_orderA v_neighborsA) H → va_D A (wdX3 G v_q0 v_q1 v_q2 v_q3 v_q4 v_q5 v_q6 v_q7 v_present v_a v_b v_c v_d v_spot v_middle v_tint v_w v_s v_h v_valuesA u1_1 v_ranksA v_oldRanksA v_orderA v_neighborsA) → va_S A s.heap H locs → W p l e rmX3_findLeast s m args below meth c H locs 0 0 Q (F0 m 43 ls [.int j6_0]) := by
    intro j6_0 H locs ls h hl hP hD hS
    replace h := (hK6 j6_0).symm.trans h
    refine lv_istore (lv' := [(4, .int j6_0), (0, .ref v_q0), (1, .ref v_q3), (2, .int a1), (3, .int a2)]) hx hb dX3_findLeast_43 hl (by decide) rfl (fun ls hl => ?_)
    refine lv_iload_n hx hb dX3_findLeast_45 rfl (lv_at hl 4 rfl) ?_
    obtain ⟨K8, hK8, h⟩ := jB1_e h
    have J8 : ∀ (j8_0 : Int32) (H : Heap) (locs : List Loc) (ls : Array Slot), K8 j8_0 = some (o0) → lv_has ls 12 [(4, .int j6_0), (0, .ref v_q0), (1, .ref v_q3), (2, .int a1), (3, .int a2)] → va_P G.1 vwCl (wdX3 G v_q0 v_q1 v_q2 v_q3 v_q4 v_q5 v_q6 v_q7 v_present v_a v_b v_c v_d v_spot v_middle v_tint v_w v_s v_h v_valuesA u1_1 v_ranksA v_oldRanksA v_orderA v_neighborsA) H → va_D A (wdX3 G v_q0 v_q1 v_q2 v_q3 v_q4 v_q5 v_q6 v_q7 v_present v_a v_b v_c v_d v_spot v_middle v_tint v_w v_s v_h v_valuesA u1_1 v_ranksA v_oldRanksA v_orderA v_neighborsA) → va_S A s.heap H locs → W p l e rmX3_findLeast s m args below meth c H locs 0 0 Q (F0 m 62 ls [.int j8_0]) := by
      intro j8_0 H locs ls h hl hP hD hS
      replace h := (hK8 j8_0).symm.trans h
      refine lv_istore (lv' := [(5, .int j8_0), (4, .int j6_0), (0, .ref v_q0), (1, .ref v_q3), (2, .int a1), (3, .int a2)]) hx hb dX3_findLeast_62 hl (by decide) rfl (fun ls hl => ?_)
      refine lv_iload hx hb dX3_findLeast_64 (lv_at hl 1 rfl) ?_
      refine lv_iconst (v := 2) hx hb dX3_findLeast_66 (by decide) ?_
      obtain ⟨r10_0, g10, h⟩ := bnd1_e h
      refine roSi1 (rest := []) (As := [.int j6_0, .int 2]) S (ctJ9_floorDiv_7cf53 l G j6_0 2 r10_0 g10) (va_cwS 2 hts gX3_findLeast_J9_floorDiv_7cf53 rfl rfl rfl hsJ9_floorDiv_7cf53 ⟨Nat.le_of_ble_eq_true rfl, Nat.le_of_ble_eq_true rfl⟩) hK hP [] rfl rfl hl.1 rfl (Nat.le_of_ble_eq_true rfl) dX3_findLeast_67 ⟨Nat.le_refl _, Nat.le_refl _⟩ (fun _ => ?_)
      refine lv_istore (lv' := [(6, .int r10_0), (5, .int j8_0), (4, .int j6_0), (0, .ref v_q0), (1, .ref v_q3), (2, .int a1), (3, .int a2)]) hx hb dX3_findLeast_70 hl (by decide) rfl (fun ls hl => ?_)
      refine lv_iload hx hb dX3_findLeast_72 (lv_at hl 1 rfl) ?_
      refine lv_iconst (v := 2) hx hb dX3_findLeast_74 (by decide) ?_
      obtain ⟨r11_0, g11, h⟩ := bnd1_e h
      refine roSi1 (rest := []) (As := [.int j8_0, .int 2]) S (ctJ9_floorDiv_7cf53 l G j8_0 2 r11_0 g11) (va_cwS 2 hts gX3_findLeast_J9_floorDiv_7cf53 rfl rfl rfl hsJ9_floorDiv_7cf53 ⟨Nat.le_of_ble_eq_true rfl, Nat.le_of_ble_eq_true rfl⟩) hK hP [] rfl rfl hl.1 rfl (Nat.le_of_ble_eq_true rfl) dX3_findLeast_75 ⟨Nat.le_refl _, Nat.le_refl _⟩ (fun _ => ?_)
      refine lv_istore (lv' := [(7, .int r11_0), (6, .int r10_0), (5, .int j8_0), (4, .int j6_0), (0, .ref v_q0), (1, .ref v_q3), (2, .int a1), (3, .int a2)]) hx hb dX3_findLeast_78 hl (by decide) rfl (fun ls hl => ?_)
      refine lv_iload hx hb dX3_findLeast_80 (lv_at hl 0 rfl) ?_
      refine lv_bipush (v := 12) hx hb dX3_findLeast_82 (by decide) ?_
      refine lv_isub hx hb dX3_findLeast_84 ?_
      refine lv_topi (fun x12 e12 => ?_)
      replace h := nmB_e e12 h
      refine lv_istore (lv' := [(8, .int x12), (7, .int r11_0), (6, .int r10_0), (5, .int j8_0), (4, .int j6_0), (0, .ref v_q0), (1, .ref v_q3), (2, .int a1), (3, .int a2)]) hx hb dX3_findLeast_85 hl (by decide) rfl (fun ls hl => ?_)
      obtain ⟨u13_0, u13_1, g13, h⟩ := bnd2_e h
      have L13 : ∀ (fu : Nat) (v13_0 : Int32) (v13_1 : (Nat → Int32)) (u13_0 : Int32) (u13_1 : (Nat → Int32)) (H : Heap) (locs : List Loc) (ls : Array Slot), mX3_findLeastb_L87 v_w v_s v_h a1 j6_0 j8_0 r10_0 r11_0 fu v13_0 v13_1 = some (u13_0, u13_1) → lv_has ls 12 [(8, .int v13_0), (7, .int r11_0), (6, .int r10_0), (5, .int j8_0), (4, .int j6_0), (0, .ref v_q0), (1, .ref v_q3), (2, .int a1), (3, .int a2)] → va_P G.1 vwCl (wdX3 G v_q0 v_q1 v_q2 v_q3 v_q4 v_q5 v_q6 v_q7 v_present v_a v_b v_c v_d v_spot v_middle v_tint v_w v_s v_h v_valuesA v13_1 v_ranksA v_oldRanksA v_orderA v_neighborsA) H → va_D A (wdX3 G v_q0 v_q1 v_q2 v_q3 v_q4 v_q5 v_q6 v_q7 v_present v_a v_b v_c v_d v_spot v_middle v_tint v_w v_s v_h v_valuesA v13_1 v_ranksA v_oldRanksA v_orderA v_neighborsA) → va_S A s.heap H locs → (∀ (H : Heap) (locs : List Loc) (ls : Array Slot), lv_has ls 12 [(8, .int u13_0), (7, .int r11_0), (6, .int r10_0), (5, .int j8_0), (4, .int j6_0), (0, .ref v_q0), (1, .ref v_q3), (2, .int a1), (3, .int a2)] → va_P G.1 vwCl (wdX3 G v_q0 v_q1 v_q2 v_q3 v_q4 v_q5 v_q6 v_q7 v_present v_a v_b v_c v_d v_spot v_middle v_tint v_w v_s v_h v_valuesA u13_1 v_ranksA v_oldRanksA v_orderA v_neighborsA) H → va_D A (wdX3 G v_q0 v_q1 v_q2 v_q3 v_q4 v_q5 v_q6 v_q7 v_present v_a v_b v_c v_d v_spot v_middle v_tint v_w v_s v_h v_valuesA u13_1 v_ranksA v_oldRanksA v_orderA v_neighborsA) → va_S A s.heap H locs → W p l e rmX3_findLeast s m args below meth c H locs 0 0 Q (F0 m 182 ls [])) → W p l e rmX3_findLeast s m args below meth c H locs 0 0 Q (F0 m 87 ls []) := by
        intro fu
        induction fu with
        | zero => intro v13_0 v13_1 u13_0 u13_1 H locs ls h; exact nomatch h
        | succ fu ih =>
          intro v13_0 v13_1 u13_0 u13_1 H locs ls h hl hP hD hS kE
          rw [mX3_findLeastb_L87] at h
          refine lv_iload hx hb dX3_findLeast_87 (lv_at hl 0 rfl) ?_
          refine lv_iload hx hb dX3_findLeast_89 (lv_at hl 1 rfl) ?_
          refine lv_bipush (v := 12) hx hb dX3_findLeast_91 (by decide) ?_
          refine lv_iadd hx hb dX3_findLeast_93 ?_
          refine lv_icmp_gt (tgt := 182) hx hb dX3_findLeast_94 (by decide) (fun c14 => ?_) (fun c14 => ?_)
          · replace h := ite_t c14 h
            obtain ⟨rfl, rfl⟩ := sm2 h
            exact kE H locs ls hl hP hD hS
          · replace h := ite_f c14 h
            refine lv_iload hx hb dX3_findLeast_97 (lv_at hl 2 rfl) ?_
            refine lv_bipush (v := 12) hx hb dX3_findLeast_99 (by decide) ?_
            refine lv_isub hx hb dX3_findLeast_101 ?_
            refine lv_topi (fun x15 e15 => ?_)
            replace h := nmB_e e15 h
            refine lv_istore (lv' := [(9, .int x15), (8, .int v13_0), (7, .int r11_0), (6, .int r10_0), (5, .int j8_0), (4, .int j6_0), (0, .ref v_q0), (1, .ref v_q3), (2, .int a1), (3, .int a2)]) hx hb dX3_findLeast_102 hl (by decide) rfl (fun ls hl => ?_)
            obtain ⟨u16_0, u16_1, g16, h⟩ := bnd2_e h
            have L16 : ∀ (fu : Nat) (v16_0 : Int32) (v16_1 : (Nat → Int32)) (u16_0 : Int32) (u16_1 : (Nat → Int32)) (H : Heap) (locs : List Loc) (ls : Array Slot), mX3_findLeastb_L104 v_w v_s v_h a1 j6_0 j8_0 r10_0 v13_0 fu v16_0 v16_1 = some (u16_0, u16_1) → lv_has ls 12 [(9, .int v16_0), (8, .int v13_0), (7, .int r11_0), (6, .int r10_0), (5, .int j8_0), (4, .int j6_0), (0, .ref v_q0), (1, .ref v_q3), (2, .int a1), (3, .int a2)] → va_P G.1 vwCl (wdX3 G v_q0 v_q1 v_q2 v_q3 v_q4 v_q5 v_q6 v_q7 v_present v_a v_b v_c v_d v_spot v_middle v_tint v_w v_s v_h v_valuesA v16_1 v_ranksA v_oldRanksA v_orderA v_neighborsA) H → va_D A (wdX3 G v_q0 v_q1 v_q2 v_q3 v_q4 v_q5 v_q6 v_q7 v_present v_a v_b v_c v_d v_spot v_middle v_tint v_w v_s v_h v_valuesA v16_1 v_ranksA v_oldRanksA v_orderA v_neighborsA) → va_S A s.heap H locs → (∀ (H : Heap) (locs : List Loc) (ls : Array Slot), lv_has ls 12 [(9, .int u16_0), (8, .int v13_0), (7, .int r11_0), (6, .int r10_0), (5, .int j8_0), (4, .int j6_0), (0, .ref v_q0), (1, .ref v_q3), (2, .int a1), (3, .int a2)] → va_P G.1 vwCl (wdX3 G v_q0 v_q1 v_q2 v_q3 v_q4 v_q5 v_q6 v_q7 v_present v_a v_b v_c v_d v_spot v_middle v_tint v_w v_s v_h v_valuesA u16_1 v_ranksA v_oldRanksA v_orderA v_neighborsA) H → va_D A (wdX3 G v_q0 v_q1 v_q2 v_q3 v_q4 v_q5 v_q6 v_q7 v_present v_a v_b v_c v_d v_spot v_middle v_tint v_w v_s v_h v_valuesA u16_1 v_ranksA v_oldRanksA v_orderA v_neighborsA) → va_S A s.heap H locs → W p l e rmX3_findLeast s m args below meth c H locs 0 0 Q (F0 m 176 ls [])) → W p l e rmX3_findLeast s m args below meth c H locs 0 0 Q (F0 m 104 ls []) := by
              intro fu
              induction fu with
              | zero => intro v16_0 v16_1 u16_0 u16_1 H locs ls h; exact nomatch h
              | succ fu ih =>
                intro v16_0 v16_1 u16_0 u16_1 H locs ls h hl hP hD hS kE
                rw [mX3_findLeastb_L104] at h
                refine lv_iload hx hb dX3_findLeast_104 (lv_at hl 0 rfl) ?_
                refine lv_iload hx hb dX3_findLeast_106 (lv_at hl 3 rfl) ?_
                refine lv_bipush (v := 12) hx hb dX3_findLeast_108 (by decide) ?_
                refine lv_iadd hx hb dX3_findLeast_110 ?_
                refine lv_icmp_gt (tgt := 176) hx hb dX3_findLeast_111 (by decide) (fun c17 => ?_) (fun c17 => ?_)
                · replace h := ite_t c17 h
                  obtain ⟨rfl, rfl⟩ := sm2 h
                  exact kE H locs ls hl hP hD hS
                · replace h := ite_f c17 h
                  refine lv_aload_n hx hb dX3_findLeast_114 rfl (lv_at hl 6 rfl) ?_
                  refine va_get (D := G.1) (ci := 3) (v := .ref v_q1) (C := RX3) (T := TX3) (N := 15) hx hb hts fw_X3_findLeastb_X3 hown hK.1 hP 0 rfl rfl 0 (by decide) (hts (.fieldLink RX3 12 "HalftoneScreens$Screen" "lattice" "LHalftoneScreens$Lattice;") lk_X3_findLeastb_f12) (fun _ h9 => h9) rfl dX3_findLeast_115 ?_
                  refine lv_iload hx hb dX3_findLeast_118 (lv_at hl 0 rfl) ?_
                  refine lv_iload hx hb dX3_findLeast_120 (lv_at hl 1 rfl) ?_
                  obtain ⟨r18_0, g18, h⟩ := bnd1_e h
                  refine roVi1 (rest := []) (As := [.int v16_0, .int v13_0]) S (ctX2_numberOf l G v_q1 v_w v_s v_h v16_0 v13_0 r18_0 g18) (cwV 2 hts gX3_findLeast_X2_numberOf rfl rfl rfl hvX2_numberOf ⟨Nat.le_of_ble_eq_true rfl, Nat.le_of_ble_eq_true rfl⟩) hK hP [1] rfl 1 2 rfl rfl rfl rfl hl.1 rfl (Nat.le_of_ble_eq_true rfl) dX3_findLeast_122 ⟨Nat.le_refl _, Nat.le_refl _⟩ (fun _ => ?_)
                  refine lv_istore (lv' := [(10, .int r18_0), (9, .int v16_0), (8, .int v13_0), (7, .int r11_0), (6, .int r10_0), (5, .int j8_0), (4, .int j6_0), (0, .ref v_q0), (1, .ref v_q3), (2, .int a1), (3, .int a2)]) hx hb dX3_findLeast_125 hl (by decide) rfl (fun ls hl => ?_)
                  refine lv_iload_n hx hb dX3_findLeast_127 rfl (lv_at hl 9 rfl) ?_
                  refine lv_iconst (v := 2) hx hb dX3_findLeast_128 (by decide) ?_
                  refine lv_iload hx hb dX3_findLeast_129 (lv_at hl 1 rfl) ?_
                  refine lv_imul hx hb dX3_findLeast_131 ?_
                  refine lv_iload hx hb dX3_findLeast_132 (lv_at hl 6 rfl) ?_
                  refine lv_isub hx hb dX3_findLeast_134 ?_
                  refine va_mabs hx hb (hml.trans hl.1.symm) hown (hts (.methodLink RX3 90 Lib.Math.abs.name) lk_X3_findLeastb_m90) (hts (.static Lib.Math.abs.name) lk_X3_findLeastb_sabs) (hts (.initialized "java/lang/Math") lk_X3_findLeastb_iM) (hts (.code Lib.Math.abs.name Lib.Math.abs.code 1 (some .int)) lk_X3_findLeastb_cabs) (Nat.le_of_ble_eq_true rfl) (Nat.le_of_ble_eq_true rfl) (Nat.le_refl _) (Nat.le_refl _) dX3_findLeast_135 ?_
                  refine lv_iconst (v := 2) hx hb dX3_findLeast_138 (by decide) ?_
                  refine lv_iload hx hb dX3_findLeast_139 (lv_at hl 2 rfl) ?_
                  refine lv_imul hx hb dX3_findLeast_141 ?_
                  refine lv_iload hx hb dX3_findLeast_142 (lv_at hl 5 rfl) ?_
                  refine lv_isub hx hb dX3_findLeast_144 ?_
                  refine va_mabs hx hb (hml.trans hl.1.symm) hown (hts (.methodLink RX3 90 Lib.Math.abs.name) lk_X3_findLeastb_m90) (hts (.static Lib.Math.abs.name) lk_X3_findLeastb_sabs) (hts (.initialized "java/lang/Math") lk_X3_findLeastb_iM) (hts (.code Lib.Math.abs.name Lib.Math.abs.code 1 (some .int)) lk_X3_findLeastb_cabs) (Nat.le_of_ble_eq_true rfl) (Nat.le_of_ble_eq_true rfl) (Nat.le_refl _) (Nat.le_refl _) dX3_findLeast_145 ?_
                  obtain ⟨r19_0, g19, h⟩ := bnd1_e h
                  refine roSi1 (rest := []) (As := [.int a1, .int (if 0 ≤ ((2 * v16_0) - j6_0) then ((2 * v16_0) - j6_0) else 0 - ((2 * v16_0) - j6_0)), .int (if 0 ≤ ((2 * v13_0) - j8_0) then ((2 * v13_0) - j8_0) else 0 - ((2 * v13_0) - j8_0))]) S (ctX3_measured l G a1 (if 0 ≤ ((2 * v16_0) - j6_0) then ((2 * v16_0) - j6_0) else 0 - ((2 * v16_0) - j6_0)) (if 0 ≤ ((2 * v13_0) - j8_0) then ((2 * v13_0) - j8_0) else 0 - ((2 * v13_0) - j8_0)) r19_0 g19) (va_cwS 3 hts gX3_findLeast_X3_measured rfl rfl rfl hsX3_measured ⟨Nat.le_of_ble_eq_true rfl, Nat.le_of_ble_eq_true rfl⟩) hK hP [] rfl rfl hl.1 rfl (Nat.le_of_ble_eq_true rfl) dX3_findLeast_148 ⟨Nat.le_refl _, Nat.le_refl _⟩ (fun _ => ?_)
                  refine lv_istore (lv' := [(11, .int r19_0), (10, .int r18_0), (9, .int v16_0), (8, .int v13_0), (7, .int r11_0), (6, .int r10_0), (5, .int j8_0), (4, .int j6_0), (0, .ref v_q0), (1, .ref v_q3), (2, .int a1), (3, .int a2)]) hx hb dX3_findLeast_151 hl (by decide) rfl (fun ls hl => ?_)
                  refine lv_aload_n hx hb dX3_findLeast_153 rfl (lv_at hl 9 rfl) ?_
                  refine lv_iload hx hb dX3_findLeast_154 (lv_at hl 1 rfl) ?_
                  refine lv_iload hx hb dX3_findLeast_156 (lv_at hl 0 rfl) ?_
                  refine lv_aload_n hx hb dX3_findLeast_158 rfl (lv_at hl 9 rfl) ?_
                  refine lv_iload hx hb dX3_findLeast_159 (lv_at hl 1 rfl) ?_
                  obtain ⟨r20_0, g20, h⟩ := bnd1_e h
                  refine roNi1 (rest := [.int r19_0, .int r18_0, .ref v_q3]) (As := [.ref v_q3, .int r18_0]) S (ctX4_at l G v_q3 64 v16_1 r18_0 r20_0 g20) ⟨va_cnB 2 hts gX3_findLeast_X4_at_n80 rfl rfl rfl (hK.2.1 _ (List.mem_of_getElem? (i := 8) rfl)) (hts (.initialized RX4) lk_X3_findLeastb_iX4) hsX4_at ⟨Nat.le_of_ble_eq_true rfl, Nat.le_of_ble_eq_true rfl⟩, (hts (.static yX4_at) lk_X3_findLeastb_s_at), trivial⟩ hK hP [3] rfl rfl hl.1 rfl (Nat.le_of_ble_eq_true rfl) dX3_findLeast_161 ⟨Nat.le_refl _, Nat.le_refl _⟩ (fun _ => ?_)
                  refine va_mmin hx hb (hml.trans hl.1.symm) hown (hts (.methodLink RX3 143 Lib.Math.min.name) lk_X3_findLeastb_m143) (hts (.static Lib.Math.min.name) lk_X3_findLeastb_smin) (hts (.initialized "java/lang/Math") lk_X3_findLeastb_iM) (hts (.code Lib.Math.min.name Lib.Math.min.code 2 (some .int)) lk_X3_findLeastb_cmin) (Nat.le_of_ble_eq_true rfl) (Nat.le_of_ble_eq_true rfl) (Nat.le_refl _) (Nat.le_refl _) dX3_findLeast_164 ?_
                  obtain ⟨r21_0, g21, h⟩ := bnd1_e h
                  refine rwN_back (rest := []) (As := [.ref v_q3, .int r18_0, .int (if r20_0 < r19_0 then r20_0 else r19_0)]) (wr := [(v_q0, .inr (3, [.ref v_q1, .ref v_q2, .ref v_q3, .ref v_q4, .ref v_q5, .ref v_q6, .ref v_q7, .int v_present, .int v_a, .int v_b, .int v_c, .int v_d, .int v_spot, .int v_middle, .int v_tint])), (v_q1, .inr (2, [.int v_w, .int v_s, .int v_h])), (v_q2, .inl (G.2 0, 64, .inl v_valuesA)), (v_q4, .inl (G.2 0, 64, .inl v_ranksA)), (v_q5, .inl (G.2 0, 64, .inl v_oldRanksA)), (v_q6, .inl (G.2 0, 64, .inl v_orderA)), (v_q7, .inl (G.2 0, 256, .inl v_neighborsA))]) (wf := wdX3 G v_q0 v_q1 v_q2 v_q3 v_q4 v_q5 v_q6 v_q7 v_present v_a v_b v_c v_d v_spot v_middle v_tint v_w v_s v_h v_valuesA r21_0 v_ranksA v_oldRanksA v_orderA v_neighborsA) S (ctX4_put l G v_q3 64 v16_1 r18_0 (if r20_0 < r19_0 then r20_0 else r19_0) r21_0 g21) ⟨va_cnB 3 hts gX3_findLeast_X4_put_n129 rfl rfl rfl (hK.2.1 _ (List.mem_of_getElem? (i := 11) rfl)) (hts (.initialized RX4) lk_X3_findLeastb_iX4) hsX4_put ⟨Nat.le_of_ble_eq_true rfl, Nat.le_of_ble_eq_true rfl⟩, (hts (.static yX4_put) lk_X3_findLeastb_s_put), trivial⟩ hK hP hD hS xb_triv (fun _ _ _ => trivial) [3] [0, 1, 2, 4, 5, 6, 7] [0, 1, 2, 7, 3, 4, 5, 6] rfl rfl rfl rfl rfl rfl rfl rfl hl.1 rfl (Nat.le_of_ble_eq_true rfl) dX3_findLeast_167 ⟨Nat.le_refl _, Nat.le_refl _⟩ (fun _ H locs hP hD hS => ?_)
                  have hP : va_P G.1 vwCl (wdX3 G v_q0 v_q1 v_q2 v_q3 v_q4 v_q5 v_q6 v_q7 v_present v_a v_b v_c v_d v_spot v_middle v_tint v_w v_s v_h v_valuesA r21_0 v_ranksA v_oldRanksA v_orderA v_neighborsA) H := hP
                  have hD : va_D A (wdX3 G v_q0 v_q1 v_q2 v_q3 v_q4 v_q5 v_q6 v_q7 v_present v_a v_b v_c v_d v_spot v_middle v_tint v_w v_s v_h v_valuesA r21_0 v_ranksA v_oldRanksA v_orderA v_neighborsA) := hD
                  obtain ⟨x22, e22⟩ : ∃ y : Int32, y = v16_0 + 1 := ⟨_, rfl⟩
                  replace h := nmB_e e22 h
                  refine lv_iinc (v := x22) (lv' := [(9, .int x22), (11, .int r19_0), (10, .int r18_0), (8, .int v13_0), (7, .int r11_0), (6, .int r10_0), (5, .int j8_0), (4, .int j6_0), (0, .ref v_q0), (1, .ref v_q3), (2, .int a1), (3, .int a2)]) hx hb dX3_findLeast_170 hl (k := 2) rfl (by rw [e22]; rfl) (by decide) rfl (fun ls hl => ?_)
                  refine lv_goto (tgt := 104) hx hb dX3_findLeast_173 (by decide) ?_
                  exact ih x22 r21_0 u16_0 u16_1 H locs ls h (lv_sub hl [0, 3, 4, 5, 6, 7, 8, 9, 10, 11] rfl) hP hD hS kE
            refine L16 FU x15 v13_1 u16_0 u16_1 H locs ls g16 hl hP hD hS (fun H locs ls hl hP hD hS => ?_)
            obtain ⟨x23, e23⟩ : ∃ y : Int32, y = v13_0 + 1 := ⟨_, rfl⟩
            replace h := nmB_e e23 h
            refine lv_iinc (v := x23) (lv' := [(8, .int x23), (9, .int u16_0), (7, .int r11_0), (6, .int r10_0), (5, .int j8_0), (4, .int j6_0), (0, .ref v_q0), (1, .ref v_q3), (2, .int a1), (3, .int a2)]) hx hb dX3_findLeast_176 hl (k := 1) rfl (by rw [e23]; rfl) (by decide) rfl (fun ls hl => ?_)
            refine lv_goto (tgt := 87) hx hb dX3_findLeast_179 (by decide) ?_
            exact ih x23 u16_1 u13_0 u13_1 H locs ls h (lv_sub hl [0, 2, 3, 4, 5, 6, 7, 8, 9] rfl) hP hD hS kE
      refine L13 FU x12 u1_1 u13_0 u13_1 H locs ls g13 hl hP hD hS (fun H locs ls hl hP hD hS => ?_)
      obtain rfl := sm1 h
      exact hret _ _ _ _ trivial hP hD hS dX3_findLeast_182
    refine lv_if_eq (tgt := 61) hx hb dX3_findLeast_46 (by decide) (fun c9 => ?_) (fun c9 => ?_)
    · replace h := ite_t c9 h
      refine lv_iconst (v := 0) hx hb dX3_findLeast_61 (by decide) ?_
      exact J8 0 H locs ls h hl hP hD hS
    · replace h := ite_f c9 h
      refine lv_aload_n hx hb dX3_findLeast_49 rfl (lv_at hl 1 rfl) ?_
      refine va_get (D := G.1) (ci := 3) (v := .int v_b) (C := RX3) (T := TX3) (N := 15) hx hb hts fw_X3_findLeastb_X3 hown hK.1 hP 0 rfl rfl 9 (by decide) (hts (.fieldLink RX3 41 "HalftoneScreens$Screen" "b" "I") lk_X3_findLeastb_f41) (fun _ h9 => h9) rfl dX3_findLeast_50 ?_
      refine lv_aload_n hx hb dX3_findLeast_53 rfl (lv_at hl 1 rfl) ?_
      refine va_get (D := G.1) (ci := 3) (v := .int v_d) (C := RX3) (T := TX3) (N := 15) hx hb hts fw_X3_findLeastb_X3 hown hK.1 hP 0 rfl rfl 11 (by decide) (hts (.fieldLink RX3 47 "HalftoneScreens$Screen" "d" "I") lk_X3_findLeastb_f47) (fun _ h9 => h9) rfl dX3_findLeast_54 ?_
      refine lv_iadd hx hb dX3_findLeast_57 ?_
      refine lv_goto (tgt := 62) hx hb dX3_findLeast_58 (by decide) ?_
      exact J8 (v_b + v_d) H locs ls h hl hP hD hS
  refine lv_if_eq (tgt := 42) hx hb dX3_findLeast_27 (by decide) (fun c7 => ?_) (fun c7 => ?_)
  · replace h := ite_t c7 h
    refine lv_iconst (v := 0) hx hb dX3_findLeast_42 (by decide) ?_
    exact J6 0 H locs ls h hl hP hD hS
  · replace h := ite_f c7 h
    refine lv_aload_n hx hb dX3_findLeast_30 rfl (lv_at hl 1 rfl) ?_
    refine va_get (D := G.1) (ci := 3) (v := .int v_a) (C := RX3) (T := TX3) (N := 15) hx hb hts fw_X3_findLeastb_X3 hown hK.1 hP 0 rfl rfl 8 (by decide) (hts (.fieldLink RX3 37 "HalftoneScreens$Screen" "a" "I") lk_X3_findLeastb_f37) (fun _ h9 => h9) rfl dX3_findLeast_31 ?_
    refine lv_aload_n hx hb dX3_findLeast_34 rfl (lv_at hl 1 rfl) ?_
    refine va_get (D := G.1) (ci := 3) (v := .int v_c) (C := RX3) (T := TX3) (N := 15) hx hb hts fw_X3_findLeastb_X3 hown hK.1 hP 0 rfl rfl 10 (by decide) (hts (.fieldLink RX3 44 "HalftoneScreens$Screen" "c" "I") lk_X3_findLeastb_f44) (fun _ h9 => h9) rfl dX3_findLeast_35 ?_
    refine lv_iadd hx hb dX3_findLeast_38 ?_
    refine lv_goto (tgt := 43) hx hb dX3_findLeast_39 (by decide) ?_
    exact J6 (v_a + v_c) H locs ls h hl hP hD hS
theorem fw_X3_findValues_X3 : ∀ w ∈ wsX30, w ∈ wsX3_findValues := fun w h => List.mem_cons_of_mem _ (List.mem_append_left _ (List.mem_append_right _ h))
theorem lk_X3_findValues_f50 : Cond.fieldLink RX3 50 "HalftoneScreens$Screen" "spot" "I" ∈ wsX3_findValues := List.mem_of_getElem? (i := 1) rfl
theorem lk_X3_findValues_f18 : Cond.fieldLink RX3 18 "HalftoneScreens$Screen" "values" "[I" ∈ wsX3_findValues := List.mem_of_getElem? (i := 2) rfl
theorem lk_X3_findValues_f53 : Cond.fieldLink RX3 53 "HalftoneScreens$Screen" "middle" "Z" ∈ wsX3_findValues := List.mem_of_getElem? (i := 3) rfl
theorem lk_X3_findValues_f22 : Cond.fieldLink RX3 22 "HalftoneScreens$Screen" "otherValues" "[I" ∈ wsX3_findValues := List.mem_of_getElem? (i := 4) rfl
theorem lk_X3_findValues_iX4 : Cond.initialized RX4 ∈ wsX3_findValues := List.mem_of_getElem? (i := 32) rfl
theorem lk_X3_findValues_s_at : Cond.static yX4_at ∈ wsX3_findValues := List.mem_of_getElem? (i := 65) rfl
theorem lk_X3_findValues_s_put : Cond.static yX4_put ∈ wsX3_findValues := List.mem_of_getElem? (i := 43) rfl
theorem hsX3_findLeast : yX3_findLeast.cls ≠ "java/lang/invoke/MethodHandle" ∧ yX3_findLeast.cls ≠ "java/lang/invoke/VarHandle" ∧ (parseMethodDescriptor yX3_findLeast.desc).map (fun d => d.parameters.length) = some 3 := by decide +kernel
theorem hvX3_findLeast : yX3_findLeast.cls = RX3 ∧ yX3_findLeast.cls ≠ "java/lang/invoke/MethodHandle" ∧ yX3_findLeast.cls ≠ "java/lang/invoke/VarHandle" ∧ (parseMethodDescriptor yX3_findLeast.desc).map (fun d => d.parameters.length) = some 3 := ⟨rfl, hsX3_findLeast⟩
theorem hsX3_findLineValues : yX3_findLineValues.cls ≠ "java/lang/invoke/MethodHandle" ∧ yX3_findLineValues.cls ≠ "java/lang/invoke/VarHandle" ∧ (parseMethodDescriptor yX3_findLineValues.desc).map (fun d => d.parameters.length) = some 0 := by decide +kernel
theorem hvX3_findLineValues : yX3_findLineValues.cls = RX3 ∧ yX3_findLineValues.cls ≠ "java/lang/invoke/MethodHandle" ∧ yX3_findLineValues.cls ≠ "java/lang/invoke/VarHandle" ∧ (parseMethodDescriptor yX3_findLineValues.desc).map (fun d => d.parameters.length) = some 0 := ⟨rfl, hsX3_findLineValues⟩
abbrev rmX3_findValues : Room := { frames := 4, cells := 0, slots := 0, locals := 97 }
set_option maxHeartbeats 4000000 in
set_option maxRecDepth 100000 in
theorem ctX3_findValues (l : Launch) (G : GG) (v_q0 : Nat) (v_q1 : Nat) (v_q2 : Nat) (v_q3 : Nat) (v_q4 : Nat) (v_q5 : Nat) (v_q6 : Nat) (v_q7 : Nat) (v_present : Int32) (v_a : Int32) (v_b : Int32) (v_c : Int32) (v_d : Int32) (v_spot : Int32) (v_middle : Int32) (v_tint : Int32) (v_w : Int32) (v_s : Int32) (v_h : Int32) (v_valuesA : (Nat → Int32)) (v_otherValuesA : (Nat → Int32)) (v_ranksA : (Nat → Int32)) (v_oldRanksA : (Nat → Int32)) (v_orderA : (Nat → Int32)) (v_neighborsA : (Nat → Int32)) (o0 : (Nat → Int32)) (o1 : (Nat → Int32)) (h : mX3_findValues v_a v_b v_c v_d v_spot v_middle v_w v_s v_h v_valuesA v_otherValuesA = some (o0, o1))  : Met l yX3_findValues wsX3_findValues rmX3_findValues (va_Pc [.ref v_q0] (PreD G (wdX3 G v_q0 v_q1 v_q2 v_q3 v_q4 v_q5 v_q6 v_q7 v_present v_a v_b v_c v_d v_spot v_middle v_tint v_w v_s v_h v_valuesA v_otherValuesA v_ranksA v_oldRanksA v_orderA v_neighborsA) (fun _ => True))) (QwA G (va_A0 (wdX3 G v_q0 v_q1 v_q2 v_q3 v_q4 v_q5 v_q6 v_q7 v_present v_a v_b v_c v_d v_spot v_middle v_tint v_w v_s v_h v_valuesA v_otherValuesA v_ranksA v_oldRanksA v_orderA v_neighborsA)) (wdX3 G v_q0 v_q1 v_q2 v_q3 v_q4 v_q5 v_q6 v_q7 v_present v_a v_b v_c v_d v_spot v_middle v_tint v_w v_s v_h o0 o1 v_ranksA v_oldRanksA v_orderA v_neighborsA) none True) 0 0 (va_A0 (wdX3 G v_q0 v_q1 v_q2 v_q3 v_q4 v_q5 v_q6 v_q7 v_present v_a v_b v_c v_d v_spot v_middle v_tint v_w v_s v_h v_valuesA v_otherValuesA v_ranksA v_oldRanksA v_orderA v_neighborsA)) := by
  refine of_wv (cc := cX3_findValues) (maxL := 2) (plainFor_of_name (by decide)) rfl (Nat.le_of_ble_eq_true rfl) ?_
  intro p e s m args below meth c ls Q A S hl hP hD hS hK hX hA hret
  obtain ⟨H, hH⟩ : ∃ H, H = s.heap := ⟨_, rfl⟩
  obtain ⟨locs, hlocs⟩ : ∃ L : List Loc, L = [] := ⟨_, rfl⟩
  rw [← hlocs]
  rw [← hlocs] at hS
  have hP : va_P G.1 vwCl (wdX3 G v_q0 v_q1 v_q2 v_q3 v_q4 v_q5 v_q6 v_q7 v_present v_a v_b v_c v_d v_spot v_middle v_tint v_w v_s v_h v_valuesA v_otherValuesA v_ranksA v_oldRanksA v_orderA v_neighborsA) H := by rw [hH]; exact hP
  have hS : va_S A s.heap H locs := by rw [hH]; exact hS
  suffices hgo : W p l e rmX3_findValues s m args below meth c H locs 0 0 Q (F0 m 0 ls []) by rw [hH] at hgo; exact hgo
  have S : CallFix p m c cX3_findValues 2 s args wsX3_findValues RX3 := S
  obtain ⟨hx, hb, hml, hown, hts⟩ := id S
  have hl : lv_has ls 2 [(0, .ref v_q0)] := hl
  unfold mX3_findValues at h
  refine lv_aload_n hx hb dX3_findValues_0 rfl (lv_at hl 0 rfl) ?_
  refine va_get (D := G.1) (ci := 3) (v := .int v_spot) (C := RX3) (T := TX3) (N := 15) hx hb hts fw_X3_findValues_X3 hown hK.1 hP 0 rfl rfl 12 (by decide) (hts (.fieldLink RX3 50 "HalftoneScreens$Screen" "spot" "I") lk_X3_findValues_f50) (fun _ h9 => h9) rfl dX3_findValues_1 ?_
  refine lv_iconst (v := 3) hx hb dX3_findValues_4 (by decide) ?_
  refine lv_icmp_ne (tgt := 13) hx hb dX3_findValues_5 (by decide) (fun c1 => ?_) (fun c1 => ?_)
  · replace h := ite_f c1 h
    refine lv_aload_n hx hb dX3_findValues_13 rfl (lv_at hl 0 rfl) ?_
    refine va_get (D := G.1) (ci := 3) (v := .int v_spot) (C := RX3) (T := TX3) (N := 15) hx hb hts fw_X3_findValues_X3 hown hK.1 hP 0 rfl rfl 12 (by decide) (hts (.fieldLink RX3 50 "HalftoneScreens$Screen" "spot" "I") lk_X3_findValues_f50) (fun _ h9 => h9) rfl dX3_findValues_14 ?_
    refine lv_iconst (v := 4) hx hb dX3_findValues_17 (by decide) ?_
    refine lv_icmp_eq (tgt := 38) hx hb dX3_findValues_18 (by decide) (fun c2 => ?_) (fun c2 => ?_)
    · replace h := ite_t c2 h
      refine lv_aload_n hx hb dX3_findValues_38 rfl (lv_at hl 0 rfl) ?_
      refine lv_aload_n hx hb dX3_findValues_39 rfl (lv_at hl 0 rfl) ?_
      refine va_get (D := G.1) (ci := 3) (v := .ref v_q2) (C := RX3) (T := TX3) (N := 15) hx hb hts fw_X3_findValues_X3 hown hK.1 hP 0 rfl rfl 1 (by decide) (hts (.fieldLink RX3 18 "HalftoneScreens$Screen" "values" "[I") lk_X3_findValues_f18) (fun _ h9 => h9) rfl dX3_findValues_40 ?_
      refine lv_iconst (v := 0) hx hb dX3_findValues_43 (by decide) ?_
      refine lv_aload_n hx hb dX3_findValues_44 rfl (lv_at hl 0 rfl) ?_
      refine va_get (D := G.1) (ci := 3) (v := .int v_middle) (C := RX3) (T := TX3) (N := 15) hx hb hts fw_X3_findValues_X3 hown hK.1 hP 0 rfl rfl 13 (by decide) (hts (.fieldLink RX3 53 "HalftoneScreens$Screen" "middle" "Z") lk_X3_findValues_f53) (fun _ h9 => h9) rfl dX3_findValues_45 ?_
      obtain ⟨r3_0, g3, h⟩ := bnd1_e h
      refine rwV_same (rest := []) (As := [.ref v_q2, .int 0, .int v_middle]) S (ctX3_findLeast l G v_q0 v_q1 v_q2 v_q3 v_q4 v_q5 v_q6 v_q7 v_present v_a v_b v_c v_d v_spot v_middle v_tint v_w v_s v_h v_valuesA v_otherValuesA v_ranksA v_oldRanksA v_orderA v_neighborsA 0 v_middle r3_0 g3) (cwV 3 hts gX3_findValues_X3_findLeast rfl rfl rfl hvX3_findLeast ⟨Nat.le_of_ble_eq_true rfl, Nat.le_of_ble_eq_true rfl⟩) hK hP hD hS xb_triv (fun _ _ _ => trivial) 0 3 rfl rfl rfl rfl hl.1 rfl (Nat.le_of_ble_eq_true rfl) dX3_findValues_48 ⟨Nat.le_refl _, Nat.le_refl _⟩ (fun _ H locs hP hD hS => ?_)
      have hP : va_P G.1 vwCl (wdX3 G v_q0 v_q1 v_q2 v_q3 v_q4 v_q5 v_q6 v_q7 v_present v_a v_b v_c v_d v_spot v_middle v_tint v_w v_s v_h r3_0 v_otherValuesA v_ranksA v_oldRanksA v_orderA v_neighborsA) H := hP
      have hD : va_D A (wdX3 G v_q0 v_q1 v_q2 v_q3 v_q4 v_q5 v_q6 v_q7 v_present v_a v_b v_c v_d v_spot v_middle v_tint v_w v_s v_h r3_0 v_otherValuesA v_ranksA v_oldRanksA v_orderA v_neighborsA) := hD
      refine lv_aload_n hx hb dX3_findValues_51 rfl (lv_at hl 0 rfl) ?_
      refine lv_aload_n hx hb dX3_findValues_52 rfl (lv_at hl 0 rfl) ?_
      refine va_get (D := G.1) (ci := 3) (v := .ref v_q3) (C := RX3) (T := TX3) (N := 15) hx hb hts fw_X3_findValues_X3 hown hK.1 hP 0 rfl rfl 2 (by decide) (hts (.fieldLink RX3 22 "HalftoneScreens$Screen" "otherValues" "[I") lk_X3_findValues_f22) (fun _ h9 => h9) rfl dX3_findValues_53 ?_
      refine lv_iconst (v := 0) hx hb dX3_findValues_56 (by decide) ?_
      refine lv_aload_n hx hb dX3_findValues_57 rfl (lv_at hl 0 rfl) ?_
      refine va_get (D := G.1) (ci := 3) (v := .int v_middle) (C := RX3) (T := TX3) (N := 15) hx hb hts fw_X3_findValues_X3 hown hK.1 hP 0 rfl rfl 13 (by decide) (hts (.fieldLink RX3 53 "HalftoneScreens$Screen" "middle" "Z") lk_X3_findValues_f53) (fun _ h9 => h9) rfl dX3_findValues_58 ?_
      obtain ⟨K4, hK4, h⟩ := jB1_e h
      have J4 : ∀ (j4_0 : Int32) (jz4_0 : isZ j4_0) (H : Heap) (locs : List Loc) (ls : Array Slot), K4 j4_0 = some (o0, o1) → lv_has ls 2 [(0, .ref v_q0)] → va_P G.1 vwCl (wdX3 G v_q0 v_q1 v_q2 v_q3 v_q4 v_q5 v_q6 v_q7 v_present v_a v_b v_c v_d v_spot v_middle v_tint v_w v_s v_h r3_0 v_otherValuesA v_ranksA v_oldRanksA v_orderA v_neighborsA) H → va_D A (wdX3 G v_q0 v_q1 v_q2 v_q3 v_q4 v_q5 v_q6 v_q7 v_present v_a v_b v_c v_d v_spot v_middle v_tint v_w v_s v_h r3_0 v_otherValuesA v_ranksA v_oldRanksA v_orderA v_neighborsA) → va_S A s.heap H locs → W p l e rmX3_findValues s m args below meth c H locs 0 0 Q (F0 m 69 ls [.int j4_0, .int 0, .ref v_q3, .ref v_q0]) := by
        intro j4_0 jz4_0 H locs ls h hl hP hD hS
        replace h := (hK4 j4_0).symm.trans h
        obtain ⟨r6_0, g6, h⟩ := bnd1_e h
        refine rwV_same (rest := []) (As := [.ref v_q3, .int 0, .int j4_0]) S (ctX3_findLeastb l G v_q0 v_q1 v_q2 v_q3 v_q4 v_q5 v_q6 v_q7 v_present v_a v_b v_c v_d v_spot v_middle v_tint v_w v_s v_h r3_0 v_otherValuesA v_ranksA v_oldRanksA v_orderA v_neighborsA 0 j4_0 r6_0 g6) (cwV 3 hts gX3_findValues_X3_findLeast rfl rfl rfl hvX3_findLeast ⟨Nat.le_of_ble_eq_true rfl, Nat.le_of_ble_eq_true rfl⟩) hK hP hD hS xb_triv (fun _ _ _ => trivial) 0 3 rfl rfl rfl rfl hl.1 rfl (Nat.le_of_ble_eq_true rfl) dX3_findValues_69 ⟨Nat.le_refl _, Nat.le_refl _⟩ (fun _ H locs hP hD hS => ?_)
        have hP : va_P G.1 vwCl (wdX3 G v_q0 v_q1 v_q2 v_q3 v_q4 v_q5 v_q6 v_q7 v_present v_a v_b v_c v_d v_spot v_middle v_tint v_w v_s v_h r3_0 r6_0 v_ranksA v_oldRanksA v_orderA v_neighborsA) H := hP
        have hD : va_D A (wdX3 G v_q0 v_q1 v_q2 v_q3 v_q4 v_q5 v_q6 v_q7 v_present v_a v_b v_c v_d v_spot v_middle v_tint v_w v_s v_h r3_0 r6_0 v_ranksA v_oldRanksA v_orderA v_neighborsA) := hD
        refine lv_iconst (v := 0) hx hb dX3_findValues_72 (by decide) ?_
        refine lv_istore_n (lv' := [(1, .int 0), (0, .ref v_q0)]) hx hb dX3_findValues_73 rfl hl (by decide) rfl (fun ls hl => ?_)
        obtain ⟨u7_0, u7_1, g7, h⟩ := bnd2_e h
        have L7 : ∀ (fu : Nat) (v7_0 : Int32) (v7_1 : (Nat → Int32)) (u7_0 : Int32) (u7_1 : (Nat → Int32)) (H : Heap) (locs : List Loc) (ls : Array Slot), mX3_findValues_L74 v_w v_h r6_0 fu v7_0 v7_1 = some (u7_0, u7_1) → lv_has ls 2 [(1, .int v7_0), (0, .ref v_q0)] → va_P G.1 vwCl (wdX3 G v_q0 v_q1 v_q2 v_q3 v_q4 v_q5 v_q6 v_q7 v_present v_a v_b v_c v_d v_spot v_middle v_tint v_w v_s v_h v7_1 r6_0 v_ranksA v_oldRanksA v_orderA v_neighborsA) H → va_D A (wdX3 G v_q0 v_q1 v_q2 v_q3 v_q4 v_q5 v_q6 v_q7 v_present v_a v_b v_c v_d v_spot v_middle v_tint v_w v_s v_h v7_1 r6_0 v_ranksA v_oldRanksA v_orderA v_neighborsA) → va_S A s.heap H locs → (∀ (H : Heap) (locs : List Loc) (ls : Array Slot), lv_has ls 2 [(1, .int u7_0), (0, .ref v_q0)] → va_P G.1 vwCl (wdX3 G v_q0 v_q1 v_q2 v_q3 v_q4 v_q5 v_q6 v_q7 v_present v_a v_b v_c v_d v_spot v_middle v_tint v_w v_s v_h u7_1 r6_0 v_ranksA v_oldRanksA v_orderA v_neighborsA) H → va_D A (wdX3 G v_q0 v_q1 v_q2 v_q3 v_q4 v_q5 v_q6 v_q7 v_present v_a v_b v_c v_d v_spot v_middle v_tint v_w v_s v_h u7_1 r6_0 v_ranksA v_oldRanksA v_orderA v_neighborsA) → va_S A s.heap H locs → W p l e rmX3_findValues s m args below meth c H locs 0 0 Q (F0 m 113 ls [])) → W p l e rmX3_findValues s m args below meth c H locs 0 0 Q (F0 m 74 ls []) := by
          intro fu
          induction fu with
          | zero => intro v7_0 v7_1 u7_0 u7_1 H locs ls h; exact nomatch h
          | succ fu ih =>
            intro v7_0 v7_1 u7_0 u7_1 H locs ls h hl hP hD hS kE
            rw [mX3_findValues_L74] at h
            refine lv_iload_n hx hb dX3_findValues_74 rfl (lv_at hl 0 rfl) ?_
            refine lv_aload_n hx hb dX3_findValues_75 rfl (lv_at hl 1 rfl) ?_
            obtain ⟨r8_0, g8, h⟩ := bnd1_e h
            refine roVi1 (rest := [.int v7_0]) (As := []) S (ctX3_area l G v_q0 v_q1 v_q2 v_q3 v_q4 v_q5 v_q6 v_q7 v_present v_a v_b v_c v_d v_spot v_middle v_tint v_w v_s v_h v7_1 r6_0 v_ranksA v_oldRanksA v_orderA v_neighborsA r8_0 g8) (cwV 0 hts gX3_findValues_X3_area rfl rfl rfl hvX3_area ⟨Nat.le_of_ble_eq_true rfl, Nat.le_of_ble_eq_true rfl⟩) hK hP [0, 1, 2, 3, 4, 5, 6, 7] rfl 0 3 rfl rfl rfl rfl hl.1 rfl (Nat.le_of_ble_eq_true rfl) dX3_findValues_76 ⟨Nat.le_refl _, Nat.le_refl _⟩ (fun _ => ?_)
            refine lv_icmp_ge (tgt := 113) hx hb dX3_findValues_79 (by decide) (fun c9 => ?_) (fun c9 => ?_)
            · replace h := ite_t c9 h
              obtain ⟨rfl, rfl⟩ := sm2 h
              exact kE H locs ls hl hP hD hS
            · replace h := ite_f c9 h
              refine lv_aload_n hx hb dX3_findValues_82 rfl (lv_at hl 1 rfl) ?_
              refine va_get (D := G.1) (ci := 3) (v := .ref v_q2) (C := RX3) (T := TX3) (N := 15) hx hb hts fw_X3_findValues_X3 hown hK.1 hP 0 rfl rfl 1 (by decide) (hts (.fieldLink RX3 18 "HalftoneScreens$Screen" "values" "[I") lk_X3_findValues_f18) (fun _ h9 => h9) rfl dX3_findValues_83 ?_
              refine lv_iload_n hx hb dX3_findValues_86 rfl (lv_at hl 0 rfl) ?_
              refine lv_aload_n hx hb dX3_findValues_87 rfl (lv_at hl 1 rfl) ?_
              refine va_get (D := G.1) (ci := 3) (v := .ref v_q2) (C := RX3) (T := TX3) (N := 15) hx hb hts fw_X3_findValues_X3 hown hK.1 hP 0 rfl rfl 1 (by decide) (hts (.fieldLink RX3 18 "HalftoneScreens$Screen" "values" "[I") lk_X3_findValues_f18) (fun _ h9 => h9) rfl dX3_findValues_88 ?_
              refine lv_iload_n hx hb dX3_findValues_91 rfl (lv_at hl 0 rfl) ?_
              obtain ⟨r10_0, g10, h⟩ := bnd1_e h
              refine roNi1 (rest := [.int v7_0, .ref v_q2]) (As := [.ref v_q2, .int v7_0]) S (ctX4_at l G v_q2 64 v7_1 v7_0 r10_0 g10) ⟨va_cnB 2 hts gX3_findValues_X4_at_n80 rfl rfl rfl (hK.2.1 _ (List.mem_of_getElem? (i := 8) rfl)) (hts (.initialized RX4) lk_X3_findValues_iX4) hsX4_at ⟨Nat.le_of_ble_eq_true rfl, Nat.le_of_ble_eq_true rfl⟩, (hts (.static yX4_at) lk_X3_findValues_s_at), trivial⟩ hK hP [2] rfl rfl hl.1 rfl (Nat.le_of_ble_eq_true rfl) dX3_findValues_92 ⟨Nat.le_refl _, Nat.le_refl _⟩ (fun _ => ?_)
              refine lv_aload_n hx hb dX3_findValues_95 rfl (lv_at hl 1 rfl) ?_
              refine va_get (D := G.1) (ci := 3) (v := .ref v_q3) (C := RX3) (T := TX3) (N := 15) hx hb hts fw_X3_findValues_X3 hown hK.1 hP 0 rfl rfl 2 (by decide) (hts (.fieldLink RX3 22 "HalftoneScreens$Screen" "otherValues" "[I") lk_X3_findValues_f22) (fun _ h9 => h9) rfl dX3_findValues_96 ?_
              refine lv_iload_n hx hb dX3_findValues_99 rfl (lv_at hl 0 rfl) ?_
              obtain ⟨r11_0, g11, h⟩ := bnd1_e h
              refine roNi1 (rest := [.int r10_0, .int v7_0, .ref v_q2]) (As := [.ref v_q3, .int v7_0]) S (ctX4_at l G v_q3 64 r6_0 v7_0 r11_0 g11) ⟨va_cnB 2 hts gX3_findValues_X4_at_n80 rfl rfl rfl (hK.2.1 _ (List.mem_of_getElem? (i := 8) rfl)) (hts (.initialized RX4) lk_X3_findValues_iX4) hsX4_at ⟨Nat.le_of_ble_eq_true rfl, Nat.le_of_ble_eq_true rfl⟩, (hts (.static yX4_at) lk_X3_findValues_s_at), trivial⟩ hK hP [3] rfl rfl hl.1 rfl (Nat.le_of_ble_eq_true rfl) dX3_findValues_100 ⟨Nat.le_refl _, Nat.le_refl _⟩ (fun _ => ?_)
              refine lv_isub hx hb dX3_findValues_103 ?_
              obtain ⟨r12_0, g12, h⟩ := bnd1_e h
              refine rwN_back (rest := []) (As := [.ref v_q2, .int v7_0, .int (r10_0 - r11_0)]) (wr := [(v_q0, .inr (3, [.ref v_q1, .ref v_q2, .ref v_q3, .ref v_q4, .ref v_q5, .ref v_q6, .ref v_q7, .int v_present, .int v_a, .int v_b, .int v_c, .int v_d, .int v_spot, .int v_middle, .int v_tint])), (v_q1, .inr (2, [.int v_w, .int v_s, .int v_h])), (v_q3, .inl (G.2 0, 64, .inl r6_0)), (v_q4, .inl (G.2 0, 64, .inl v_ranksA)), (v_q5, .inl (G.2 0, 64, .inl v_oldRanksA)), (v_q6, .inl (G.2 0, 64, .inl v_orderA)), (v_q7, .inl (G.2 0, 256, .inl v_neighborsA))]) (wf := wdX3 G v_q0 v_q1 v_q2 v_q3 v_q4 v_q5 v_q6 v_q7 v_present v_a v_b v_c v_d v_spot v_middle v_tint v_w v_s v_h r12_0 r6_0 v_ranksA v_oldRanksA v_orderA v_neighborsA) S (ctX4_put l G v_q2 64 v7_1 v7_0 (r10_0 - r11_0) r12_0 g12) ⟨va_cnB 3 hts gX3_findValues_X4_put_n129 rfl rfl rfl (hK.2.1 _ (List.mem_of_getElem? (i := 11) rfl)) (hts (.initialized RX4) lk_X3_findValues_iX4) hsX4_put ⟨Nat.le_of_ble_eq_true rfl, Nat.le_of_ble_eq_true rfl⟩, (hts (.static yX4_put) lk_X3_findValues_s_put), trivial⟩ hK hP hD hS xb_triv (fun _ _ _ => trivial) [2] [0, 1, 3, 4, 5, 6, 7] [0, 1, 7, 2, 3, 4, 5, 6] rfl rfl rfl rfl rfl rfl rfl rfl hl.1 rfl (Nat.le_of_ble_eq_true rfl) dX3_findValues_104 ⟨Nat.le_refl _, Nat.le_refl _⟩ (fun _ H locs hP hD hS => ?_)
              have hP : va_P G.1 vwCl (wdX3 G v_q0 v_q1 v_q2 v_q3 v_q4 v_q5 v_q6 v_q7 v_present v_a v_b v_c v_d v_spot v_middle v_tint v_w v_s v_h r12_0 r6_0 v_ranksA v_oldRanksA v_orderA v_neighborsA) H := hP
              have hD : va_D A (wdX3 G v_q0 v_q1 v_q2 v_q3 v_q4 v_q5 v_q6 v_q7 v_present v_a v_b v_c v_d v_spot v_middle v_tint v_w v_s v_h r12_0 r6_0 v_ranksA v_oldRanksA v_orderA v_neighborsA) := hD
              obtain ⟨x13, e13⟩ : ∃ y : Int32, y = v7_0 + 1 := ⟨_, rfl⟩
              replace h := nmB_e e13 h
              refine lv_iinc (v := x13) (lv' := [(1, .int x13), (0, .ref v_q0)]) hx hb dX3_findValues_107 hl (k := 0) rfl (by rw [e13]; rfl) (by decide) rfl (fun ls hl => ?_)
              refine lv_goto (tgt := 74) hx hb dX3_findValues_110 (by decide) ?_
              exact ih x13 r12_0 u7_0 u7_1 H locs ls h hl hP hD hS kE
        refine L7 FU 0 r3_0 u7_0 u7_1 H locs ls g7 hl hP hD hS (fun H locs ls hl hP hD hS => ?_)
        obtain ⟨rfl, rfl⟩ := sm2 h
        exact hret _ _ _ _ trivial hP hD hS dX3_findValues_113
      refine lv_if_ne (tgt := 68) hx hb dX3_findValues_61 (by decide) (fun c5 => ?_) (fun c5 => ?_)
      · replace h := ite_f c5 h
        refine lv_iconst (v := 0) hx hb dX3_findValues_68 (by decide) ?_
        exact J4 0 isZ0 H locs ls h hl hP hD hS
      · replace h := ite_t c5 h
        refine lv_iconst (v := 1) hx hb dX3_findValues_64 (by decide) ?_
        refine lv_goto (tgt := 69) hx hb dX3_findValues_65 (by decide) ?_
        exact J4 1 isZ1 H locs ls h hl hP hD hS
    · replace h := ite_f c2 h
      refine lv_aload_n hx hb dX3_findValues_21 rfl (lv_at hl 0 rfl) ?_
      refine lv_aload_n hx hb dX3_findValues_22 rfl (lv_at hl 0 rfl) ?_
      refine va_get (D := G.1) (ci := 3) (v := .ref v_q2) (C := RX3) (T := TX3) (N := 15) hx hb hts fw_X3_findValues_X3 hown hK.1 hP 0 rfl rfl 1 (by decide) (hts (.fieldLink RX3 18 "HalftoneScreens$Screen" "values" "[I") lk_X3_findValues_f18) (fun _ h9 => h9) rfl dX3_findValues_23 ?_
      refine lv_aload_n hx hb dX3_findValues_26 rfl (lv_at hl 0 rfl) ?_
      refine va_get (D := G.1) (ci := 3) (v := .int v_spot) (C := RX3) (T := TX3) (N := 15) hx hb hts fw_X3_findValues_X3 hown hK.1 hP 0 rfl rfl 12 (by decide) (hts (.fieldLink RX3 50 "HalftoneScreens$Screen" "spot" "I") lk_X3_findValues_f50) (fun _ h9 => h9) rfl dX3_findValues_27 ?_
      refine lv_aload_n hx hb dX3_findValues_30 rfl (lv_at hl 0 rfl) ?_
      refine va_get (D := G.1) (ci := 3) (v := .int v_middle) (C := RX3) (T := TX3) (N := 15) hx hb hts fw_X3_findValues_X3 hown hK.1 hP 0 rfl rfl 13 (by decide) (hts (.fieldLink RX3 53 "HalftoneScreens$Screen" "middle" "Z") lk_X3_findValues_f53) (fun _ h9 => h9) rfl dX3_findValues_31 ?_
      obtain ⟨r14_0, g14, h⟩ := bnd1_e h
      refine rwV_same (rest := []) (As := [.ref v_q2, .int v_spot, .int v_middle]) S (ctX3_findLeast l G v_q0 v_q1 v_q2 v_q3 v_q4 v_q5 v_q6 v_q7 v_present v_a v_b v_c v_d v_spot v_middle v_tint v_w v_s v_h v_valuesA v_otherValuesA v_ranksA v_oldRanksA v_orderA v_neighborsA v_spot v_middle r14_0 g14) (cwV 3 hts gX3_findValues_X3_findLeast rfl rfl rfl hvX3_findLeast ⟨Nat.le_of_ble_eq_true rfl, Nat.le_of_ble_eq_true rfl⟩) hK hP hD hS xb_triv (fun _ _ _ => trivial) 0 3 rfl rfl rfl rfl hl.1 rfl (Nat.le_of_ble_eq_true rfl) dX3_findValues_34 ⟨Nat.le_refl _, Nat.le_refl _⟩ (fun _ H locs hP hD hS => ?_)
      have hP : va_P G.1 vwCl (wdX3 G v_q0 v_q1 v_q2 v_q3 v_q4 v_q5 v_q6 v_q7 v_present v_a v_b v_c v_d v_spot v_middle v_tint v_w v_s v_h r14_0 v_otherValuesA v_ranksA v_oldRanksA v_orderA v_neighborsA) H := hP
      have hD : va_D A (wdX3 G v_q0 v_q1 v_q2 v_q3 v_q4 v_q5 v_q6 v_q7 v_present v_a v_b v_c v_d v_spot v_middle v_tint v_w v_s v_h r14_0 v_otherValuesA v_ranksA v_oldRanksA v_orderA v_neighborsA) := hD
      obtain ⟨rfl, rfl⟩ := sm2 h
      exact hret _ _ _ _ trivial hP hD hS dX3_findValues_37
  · replace h := ite_t c1 h
    refine lv_aload_n hx hb dX3_findValues_8 rfl (lv_at hl 0 rfl) ?_
    obtain ⟨r15_0, g15, h⟩ := bnd1_e h
    refine rwV_same (rest := []) (As := []) S (ctX3_findLineValues l G v_q0 v_q1 v_q2 v_q3 v_q4 v_q5 v_q6 v_q7 v_present v_a v_b v_c v_d v_spot v_middle v_tint v_w v_s v_h v_valuesA v_otherValuesA v_ranksA v_oldRanksA v_orderA v_neighborsA r15_0 g15) (cwV 0 hts gX3_findValues_X3_findLineValues rfl rfl rfl hvX3_findLineValues ⟨Nat.le_of_ble_eq_true rfl, Nat.le_of_ble_eq_true rfl⟩) hK hP hD hS xb_triv (fun _ _ _ => trivial) 0 3 rfl rfl rfl rfl hl.1 rfl (Nat.le_of_ble_eq_true rfl) dX3_findValues_9 ⟨Nat.le_refl _, Nat.le_refl _⟩ (fun _ H locs hP hD hS => ?_)
    have hP : va_P G.1 vwCl (wdX3 G v_q0 v_q1 v_q2 v_q3 v_q4 v_q5 v_q6 v_q7 v_present v_a v_b v_c v_d v_spot v_middle v_tint v_w v_s v_h r15_0 v_otherValuesA v_ranksA v_oldRanksA v_orderA v_neighborsA) H := hP
    have hD : va_D A (wdX3 G v_q0 v_q1 v_q2 v_q3 v_q4 v_q5 v_q6 v_q7 v_present v_a v_b v_c v_d v_spot v_middle v_tint v_w v_s v_h r15_0 v_otherValuesA v_ranksA v_oldRanksA v_orderA v_neighborsA) := hD
    obtain ⟨rfl, rfl⟩ := sm2 h
    exact hret _ _ _ _ trivial hP hD hS dX3_findValues_12
theorem fw_X3_findRanks_X3 : ∀ w ∈ wsX30, w ∈ wsX3_findRanks := fun w h => List.mem_cons_of_mem _ (List.mem_append_left _ (List.mem_append_right _ h))
theorem lk_X3_findRanks_f25 : Cond.fieldLink RX3 25 "HalftoneScreens$Screen" "ranks" "[I" ∈ wsX3_findRanks := List.mem_of_getElem? (i := 1) rfl
theorem lk_X3_findRanks_iX4 : Cond.initialized RX4 ∈ wsX3_findRanks := List.mem_of_getElem? (i := 22) rfl
theorem lk_X3_findRanks_s_put : Cond.static yX4_put ∈ wsX3_findRanks := List.mem_of_getElem? (i := 24) rfl
theorem lk_X3_findRanks_f31 : Cond.fieldLink RX3 31 "HalftoneScreens$Screen" "order" "[I" ∈ wsX3_findRanks := List.mem_of_getElem? (i := 2) rfl
theorem hsX3_isBefore : yX3_isBefore.cls ≠ "java/lang/invoke/MethodHandle" ∧ yX3_isBefore.cls ≠ "java/lang/invoke/VarHandle" ∧ (parseMethodDescriptor yX3_isBefore.desc).map (fun d => d.parameters.length) = some 2 := by decide +kernel
theorem hvX3_isBefore : yX3_isBefore.cls = RX3 ∧ yX3_isBefore.cls ≠ "java/lang/invoke/MethodHandle" ∧ yX3_isBefore.cls ≠ "java/lang/invoke/VarHandle" ∧ (parseMethodDescriptor yX3_isBefore.desc).map (fun d => d.parameters.length) = some 2 := ⟨rfl, hsX3_isBefore⟩
abbrev rmX3_findRanks : Room := { frames := 2, cells := 0, slots := 0, locals := 45 }
set_option maxHeartbeats 4000000 in
set_option maxRecDepth 100000 in
theorem ctX3_findRanks (l : Launch) (G : GG) (v_q0 : Nat) (v_q1 : Nat) (v_q2 : Nat) (v_q3 : Nat) (v_q4 : Nat) (v_q5 : Nat) (v_q6 : Nat) (v_q7 : Nat) (v_present : Int32) (v_a : Int32) (v_b : Int32) (v_c : Int32) (v_d : Int32) (v_spot : Int32) (v_middle : Int32) (v_tint : Int32) (v_w : Int32) (v_s : Int32) (v_h : Int32) (v_valuesA : (Nat → Int32)) (v_otherValuesA : (Nat → Int32)) (v_ranksA : (Nat → Int32)) (v_oldRanksA : (Nat → Int32)) (v_orderA : (Nat → Int32)) (v_neighborsA : (Nat → Int32)) (o0 : (Nat → Int32)) (o1 : (Nat → Int32)) (h : mX3_findRanks v_w v_h v_valuesA v_ranksA v_orderA = some (o0, o1))  : Met l yX3_findRanks wsX3_findRanks rmX3_findRanks (va_Pc [.ref v_q0] (PreD G (wdX3 G v_q0 v_q1 v_q2 v_q3 v_q4 v_q5 v_q6 v_q7 v_present v_a v_b v_c v_d v_spot v_middle v_tint v_w v_s v_h v_valuesA v_otherValuesA v_ranksA v_oldRanksA v_orderA v_neighborsA) (fun _ => True))) (QwA G (va_A0 (wdX3 G v_q0 v_q1 v_q2 v_q3 v_q4 v_q5 v_q6 v_q7 v_present v_a v_b v_c v_d v_spot v_middle v_tint v_w v_s v_h v_valuesA v_otherValuesA v_ranksA v_oldRanksA v_orderA v_neighborsA)) (wdX3 G v_q0 v_q1 v_q2 v_q3 v_q4 v_q5 v_q6 v_q7 v_present v_a v_b v_c v_d v_spot v_middle v_tint v_w v_s v_h v_valuesA v_otherValuesA o0 v_oldRanksA o1 v_neighborsA) none True) 0 0 (va_A0 (wdX3 G v_q0 v_q1 v_q2 v_q3 v_q4 v_q5 v_q6 v_q7 v_present v_a v_b v_c v_d v_spot v_middle v_tint v_w v_s v_h v_valuesA v_otherValuesA v_ranksA v_oldRanksA v_orderA v_neighborsA)) := by
  refine of_wv (cc := cX3_findRanks) (maxL := 4) (plainFor_of_name (by decide)) rfl (Nat.le_of_ble_eq_true rfl) ?_
  intro p e s m args below meth c ls Q A S hl hP hD hS hK hX hA hret
  obtain ⟨H, hH⟩ : ∃ H, H = s.heap := ⟨_, rfl⟩
  obtain ⟨locs, hlocs⟩ : ∃ L : List Loc, L = [] := ⟨_, rfl⟩
  rw [← hlocs]
  rw [← hlocs] at hS
  have hP : va_P G.1 vwCl (wdX3 G v_q0 v_q1 v_q2 v_q3 v_q4 v_q5 v_q6 v_q7 v_present v_a v_b v_c v_d v_spot v_middle v_tint v_w v_s v_h v_valuesA v_otherValuesA v_ranksA v_oldRanksA v_orderA v_neighborsA) H := by rw [hH]; exact hP
  have hS : va_S A s.heap H locs := by rw [hH]; exact hS
  suffices hgo : W p l e rmX3_findRanks s m args below meth c H locs 0 0 Q (F0 m 0 ls []) by rw [hH] at hgo; exact hgo
  have S : CallFix p m c cX3_findRanks 4 s args wsX3_findRanks RX3 := S
  obtain ⟨hx, hb, hml, hown, hts⟩ := id S
  have hl : lv_has ls 4 [(0, .ref v_q0)] := hl
  unfold mX3_findRanks at h
  refine lv_iconst (v := 0) hx hb dX3_findRanks_0 (by decide) ?_
  refine lv_istore_n (lv' := [(1, .int 0), (0, .ref v_q0)]) hx hb dX3_findRanks_1 rfl hl (by decide) rfl (fun ls hl => ?_)
  obtain ⟨u1_0, u1_1, u1_2, g1, h⟩ := bnd3_e h
  have L1 : ∀ (fu : Nat) (v1_0 : Int32) (v1_1 : (Nat → Int32)) (v1_2 : (Nat → Int32)) (u1_0 : Int32) (u1_1 : (Nat → Int32)) (u1_2 : (Nat → Int32)) (H : Heap) (locs : List Loc) (ls : Array Slot), mX3_findRanks_L2 v_w v_h v_valuesA fu v1_0 v1_1 v1_2 = some (u1_0, u1_1, u1_2) → lv_has ls 4 [(1, .int v1_0), (0, .ref v_q0)] → va_P G.1 vwCl (wdX3 G v_q0 v_q1 v_q2 v_q3 v_q4 v_q5 v_q6 v_q7 v_present v_a v_b v_c v_d v_spot v_middle v_tint v_w v_s v_h v_valuesA v_otherValuesA v1_1 v_oldRanksA v1_2 v_neighborsA) H → va_D A (wdX3 G v_q0 v_q1 v_q2 v_q3 v_q4 v_q5 v_q6 v_q7 v_present v_a v_b v_c v_d v_spot v_middle v_tint v_w v_s v_h v_valuesA v_otherValuesA v1_1 v_oldRanksA v1_2 v_neighborsA) → va_S A s.heap H locs → (∀ (H : Heap) (locs : List Loc) (ls : Array Slot), lv_has ls 4 [(1, .int u1_0), (0, .ref v_q0)] → va_P G.1 vwCl (wdX3 G v_q0 v_q1 v_q2 v_q3 v_q4 v_q5 v_q6 v_q7 v_present v_a v_b v_c v_d v_spot v_middle v_tint v_w v_s v_h v_valuesA v_otherValuesA u1_1 v_oldRanksA u1_2 v_neighborsA) H → va_D A (wdX3 G v_q0 v_q1 v_q2 v_q3 v_q4 v_q5 v_q6 v_q7 v_present v_a v_b v_c v_d v_spot v_middle v_tint v_w v_s v_h v_valuesA v_otherValuesA u1_1 v_oldRanksA u1_2 v_neighborsA) → va_S A s.heap H locs → W p l e rmX3_findRanks s m args below meth c H locs 0 0 Q (F0 m 64 ls [])) → W p l e rmX3_findRanks s m args below meth c H locs 0 0 Q (F0 m 2 ls []) := by
    intro fu
    induction fu with
    | zero => intro v1_0 v1_1 v1_2 u1_0 u1_1 u1_2 H locs ls h; exact nomatch h
    | succ fu ih =>
      intro v1_0 v1_1 v1_2 u1_0 u1_1 u1_2 H locs ls h hl hP hD hS kE
      rw [mX3_findRanks_L2] at h
      refine lv_iload_n hx hb dX3_findRanks_2 rfl (lv_at hl 0 rfl) ?_
      refine lv_aload_n hx hb dX3_findRanks_3 rfl (lv_at hl 1 rfl) ?_
      obtain ⟨r2_0, g2, h⟩ := bnd1_e h
      refine roVi1 (rest := [.int v1_0]) (As := []) S (ctX3_area l G v_q0 v_q1 v_q2 v_q3 v_q4 v_q5 v_q6 v_q7 v_present v_a v_b v_c v_d v_spot v_middle v_tint v_w v_s v_h v_valuesA v_otherValuesA v1_1 v_oldRanksA v1_2 v_neighborsA r2_0 g2) (cwV 0 hts gX3_findRanks_X3_area rfl rfl rfl hvX3_area ⟨Nat.le_of_ble_eq_true rfl, Nat.le_of_ble_eq_true rfl⟩) hK hP [0, 1, 2, 3, 4, 5, 6, 7] rfl 0 3 rfl rfl rfl rfl hl.1 rfl (Nat.le_of_ble_eq_true rfl) dX3_findRanks_4 ⟨Nat.le_refl _, Nat.le_refl _⟩ (fun _ => ?_)
      refine lv_icmp_ge (tgt := 64) hx hb dX3_findRanks_7 (by decide) (fun c3 => ?_) (fun c3 => ?_)
      · replace h := ite_t c3 h
        obtain ⟨rfl, rfl, rfl⟩ := sm3 h
        exact kE H locs ls hl hP hD hS
      · replace h := ite_f c3 h
        refine lv_iconst (v := 0) hx hb dX3_findRanks_10 (by decide) ?_
        refine lv_istore_n (lv' := [(2, .int 0), (1, .int v1_0), (0, .ref v_q0)]) hx hb dX3_findRanks_11 rfl hl (by decide) rfl (fun ls hl => ?_)
        refine lv_iconst (v := 0) hx hb dX3_findRanks_12 (by decide) ?_
        refine lv_istore_n (lv' := [(3, .int 0), (2, .int 0), (1, .int v1_0), (0, .ref v_q0)]) hx hb dX3_findRanks_13 rfl hl (by decide) rfl (fun ls hl => ?_)
        obtain ⟨u4_0, u4_1, g4, h⟩ := bnd2_e h
        have L4 : ∀ (fu : Nat) (v4_0 : Int32) (v4_1 : Int32) (u4_0 : Int32) (u4_1 : Int32) (H : Heap) (locs : List Loc) (ls : Array Slot), mX3_findRanks_L14 v_w v_h v_valuesA v1_0 fu v4_0 v4_1 = some (u4_0, u4_1) → lv_has ls 4 [(3, .int v4_0), (2, .int v4_1), (1, .int v1_0), (0, .ref v_q0)] → va_P G.1 vwCl (wdX3 G v_q0 v_q1 v_q2 v_q3 v_q4 v_q5 v_q6 v_q7 v_present v_a v_b v_c v_d v_spot v_middle v_tint v_w v_s v_h v_valuesA v_otherValuesA v1_1 v_oldRanksA v1_2 v_neighborsA) H → va_D A (wdX3 G v_q0 v_q1 v_q2 v_q3 v_q4 v_q5 v_q6 v_q7 v_present v_a v_b v_c v_d v_spot v_middle v_tint v_w v_s v_h v_valuesA v_otherValuesA v1_1 v_oldRanksA v1_2 v_neighborsA) → va_S A s.heap H locs → (∀ (H : Heap) (locs : List Loc) (ls : Array Slot), lv_has ls 4 [(3, .int u4_0), (2, .int u4_1), (1, .int v1_0), (0, .ref v_q0)] → va_P G.1 vwCl (wdX3 G v_q0 v_q1 v_q2 v_q3 v_q4 v_q5 v_q6 v_q7 v_present v_a v_b v_c v_d v_spot v_middle v_tint v_w v_s v_h v_valuesA v_otherValuesA v1_1 v_oldRanksA v1_2 v_neighborsA) H → va_D A (wdX3 G v_q0 v_q1 v_q2 v_q3 v_q4 v_q5 v_q6 v_q7 v_present v_a v_b v_c v_d v_spot v_middle v_tint v_w v_s v_h v_valuesA v_otherValuesA v1_1 v_oldRanksA v1_2 v_neighborsA) → va_S A s.heap H locs → W p l e rmX3_findRanks s m args below meth c H locs 0 0 Q (F0 m 40 ls [])) → W p l e rmX3_findRanks s m args below meth c H locs 0 0 Q (F0 m 14 ls []) := by
          intro fu
          induction fu with
          | zero => intro v4_0 v4_1 u4_0 u4_1 H locs ls h; exact nomatch h
          | succ fu ih =>
            intro v4_0 v4_1 u4_0 u4_1 H locs ls h hl hP hD hS kE
            rw [mX3_findRanks_L14] at h
            refine lv_iload_n hx hb dX3_findRanks_14 rfl (lv_at hl 0 rfl) ?_
            refine lv_aload_n hx hb dX3_findRanks_15 rfl (lv_at hl 3 rfl) ?_
            obtain ⟨r5_0, g5, h⟩ := bnd1_e h
            refine roVi1 (rest := [.int v4_0]) (As := []) S (ctX3_area l G v_q0 v_q1 v_q2 v_q3 v_q4 v_q5 v_q6 v_q7 v_present v_a v_b v_c v_d v_spot v_middle v_tint v_w v_s v_h v_valuesA v_otherValuesA v1_1 v_oldRanksA v1_2 v_neighborsA r5_0 g5) (cwV 0 hts gX3_findRanks_X3_area rfl rfl rfl hvX3_area ⟨Nat.le_of_ble_eq_true rfl, Nat.le_of_ble_eq_true rfl⟩) hK hP [0, 1, 2, 3, 4, 5, 6, 7] rfl 0 3 rfl rfl rfl rfl hl.1 rfl (Nat.le_of_ble_eq_true rfl) dX3_findRanks_16 ⟨Nat.le_refl _, Nat.le_refl _⟩ (fun _ => ?_)
            refine lv_icmp_ge (tgt := 40) hx hb dX3_findRanks_19 (by decide) (fun c6 => ?_) (fun c6 => ?_)
            · replace h := ite_t c6 h
              obtain ⟨rfl, rfl⟩ := sm2 h
              exact kE H locs ls hl hP hD hS
            · replace h := ite_f c6 h
              refine lv_aload_n hx hb dX3_findRanks_22 rfl (lv_at hl 3 rfl) ?_
              refine lv_iload_n hx hb dX3_findRanks_23 rfl (lv_at hl 0 rfl) ?_
              refine lv_iload_n hx hb dX3_findRanks_24 rfl (lv_at hl 2 rfl) ?_
              obtain ⟨r7_0, g7, h⟩ := bnd1_e h
              refine roVi1 (rest := []) (As := [.int v4_0, .int v1_0]) S (ctX3_isBefore l G v_q0 v_q1 v_q2 v_q3 v_q4 v_q5 v_q6 v_q7 v_present v_a v_b v_c v_d v_spot v_middle v_tint v_w v_s v_h v_valuesA v_otherValuesA v1_1 v_oldRanksA v1_2 v_neighborsA v4_0 v1_0 r7_0 g7) (cwV 2 hts gX3_findRanks_X3_isBefore rfl rfl rfl hvX3_isBefore ⟨Nat.le_of_ble_eq_true rfl, Nat.le_of_ble_eq_true rfl⟩) hK hP [0, 1, 2, 3, 4, 5, 6, 7] rfl 0 3 rfl rfl rfl rfl hl.1 rfl (Nat.le_of_ble_eq_true rfl) dX3_findRanks_25 ⟨Nat.le_refl _, Nat.le_refl _⟩ (fun hz7 => ?_)
              refine lv_if_eq (tgt := 34) hx hb dX3_findRanks_28 (by decide) (fun c8 => ?_) (fun c8 => ?_)
              · replace h := ite_t c8 h
                obtain ⟨x9, e9⟩ : ∃ y : Int32, y = v4_0 + 1 := ⟨_, rfl⟩
                replace h := nmB_e e9 h
                refine lv_iinc (v := x9) (lv' := [(3, .int x9), (2, .int v4_1), (1, .int v1_0), (0, .ref v_q0)]) hx hb dX3_findRanks_34 hl (k := 0) rfl (by rw [e9]; rfl) (by decide) rfl (fun ls hl => ?_)
                refine lv_goto (tgt := 14) hx hb dX3_findRanks_37 (by decide) ?_
                exact ih x9 v4_1 u4_0 u4_1 H locs ls h hl hP hD hS kE
              · replace h := ite_f c8 h
                obtain ⟨x10, e10⟩ : ∃ y : Int32, y = v4_1 + 1 := ⟨_, rfl⟩
                replace h := nmB_e e10 h
                refine lv_iinc (v := x10) (lv' := [(2, .int x10), (3, .int v4_0), (1, .int v1_0), (0, .ref v_q0)]) hx hb dX3_findRanks_31 hl (k := 1) rfl (by rw [e10]; rfl) (by decide) rfl (fun ls hl => ?_)
                obtain ⟨x11, e11⟩ : ∃ y : Int32, y = v4_0 + 1 := ⟨_, rfl⟩
                replace h := nmB_e e11 h
                refine lv_iinc (v := x11) (lv' := [(3, .int x11), (2, .int x10), (1, .int v1_0), (0, .ref v_q0)]) hx hb dX3_findRanks_34 hl (k := 1) rfl (by rw [e11]; rfl) (by decide) rfl (fun ls hl => ?_)
                refine lv_goto (tgt := 14) hx hb dX3_findRanks_37 (by decide) ?_
                exact ih x11 x10 u4_0 u4_1 H locs ls h hl hP hD hS kE
        refine L4 FU 0 0 u4_0 u4_1 H locs ls g4 hl hP hD hS (fun H locs ls hl hP hD hS => ?_)
        refine lv_aload_n hx hb dX3_findRanks_40 rfl (lv_at hl 3 rfl) ?_
        refine va_get (D := G.1) (ci := 3) (v := .ref v_q4) (C := RX3) (T := TX3) (N := 15) hx hb hts fw_X3_findRanks_X3 hown hK.1 hP 0 rfl rfl 3 (by decide) (hts (.fieldLink RX3 25 "HalftoneScreens$Screen" "ranks" "[I") lk_X3_findRanks_f25) (fun _ h9 => h9) rfl dX3_findRanks_41 ?_
        refine lv_iload_n hx hb dX3_findRanks_44 rfl (lv_at hl 2 rfl) ?_
        refine lv_iload_n hx hb dX3_findRanks_45 rfl (lv_at hl 1 rfl) ?_
        obtain ⟨r12_0, g12, h⟩ := bnd1_e h
        refine rwN_back (rest := []) (As := [.ref v_q4, .int v1_0, .int u4_1]) (wr := [(v_q0, .inr (3, [.ref v_q1, .ref v_q2, .ref v_q3, .ref v_q4, .ref v_q5, .ref v_q6, .ref v_q7, .int v_present, .int v_a, .int v_b, .int v_c, .int v_d, .int v_spot, .int v_middle, .int v_tint])), (v_q1, .inr (2, [.int v_w, .int v_s, .int v_h])), (v_q2, .inl (G.2 0, 64, .inl v_valuesA)), (v_q3, .inl (G.2 0, 64, .inl v_otherValuesA)), (v_q5, .inl (G.2 0, 64, .inl v_oldRanksA)), (v_q6, .inl (G.2 0, 64, .inl v1_2)), (v_q7, .inl (G.2 0, 256, .inl v_neighborsA))]) (wf := wdX3 G v_q0 v_q1 v_q2 v_q3 v_q4 v_q5 v_q6 v_q7 v_present v_a v_b v_c v_d v_spot v_middle v_tint v_w v_s v_h v_valuesA v_otherValuesA r12_0 v_oldRanksA v1_2 v_neighborsA) S (ctX4_put l G v_q4 64 v1_1 v1_0 u4_1 r12_0 g12) ⟨va_cnB 3 hts gX3_findRanks_X4_put_n129 rfl rfl rfl (hK.2.1 _ (List.mem_of_getElem? (i := 11) rfl)) (hts (.initialized RX4) lk_X3_findRanks_iX4) hsX4_put ⟨Nat.le_of_ble_eq_true rfl, Nat.le_of_ble_eq_true rfl⟩, (hts (.static yX4_put) lk_X3_findRanks_s_put), trivial⟩ hK hP hD hS xb_triv (fun _ _ _ => trivial) [4] [0, 1, 2, 3, 5, 6, 7] [0, 1, 2, 3, 7, 4, 5, 6] rfl rfl rfl rfl rfl rfl rfl rfl hl.1 rfl (Nat.le_of_ble_eq_true rfl) dX3_findRanks_46 ⟨Nat.le_refl _, Nat.le_refl _⟩ (fun _ H locs hP hD hS => ?_)
        have hP : va_P G.1 vwCl (wdX3 G v_q0 v_q1 v_q2 v_q3 v_q4 v_q5 v_q6 v_q7 v_present v_a v_b v_c v_d v_spot v_middle v_tint v_w v_s v_h v_valuesA v_otherValuesA r12_0 v_oldRanksA v1_2 v_neighborsA) H := hP
        have hD : va_D A (wdX3 G v_q0 v_q1 v_q2 v_q3 v_q4 v_q5 v_q6 v_q7 v_present v_a v_b v_c v_d v_spot v_middle v_tint v_w v_s v_h v_valuesA v_otherValuesA r12_0 v_oldRanksA v1_2 v_neighborsA) := hD
        refine lv_aload_n hx hb dX3_findRanks_49 rfl (lv_at hl 3 rfl) ?_
        refine va_get (D := G.1) (ci := 3) (v := .ref v_q6) (C := RX3) (T := TX3) (N := 15) hx hb hts fw_X3_findRanks_X3 hown hK.1 hP 0 rfl rfl 5 (by decide) (hts (.fieldLink RX3 31 "HalftoneScreens$Screen" "order" "[I") lk_X3_findRanks_f31) (fun _ h9 => h9) rfl dX3_findRanks_50 ?_
        refine lv_iload_n hx hb dX3_findRanks_53 rfl (lv_at hl 1 rfl) ?_
        refine lv_iload_n hx hb dX3_findRanks_54 rfl (lv_at hl 2 rfl) ?_
        obtain ⟨r13_0, g13, h⟩ := bnd1_e h
        refine rwN_back (rest := []) (As := [.ref v_q6, .int u4_1, .int v1_0]) (wr := [(v_q0, .inr (3, [.ref v_q1, .ref v_q2, .ref v_q3, .ref v_q4, .ref v_q5, .ref v_q6, .ref v_q7, .int v_present, .int v_a, .int v_b, .int v_c, .int v_d, .int v_spot, .int v_middle, .int v_tint])), (v_q1, .inr (2, [.int v_w, .int v_s, .int v_h])), (v_q2, .inl (G.2 0, 64, .inl v_valuesA)), (v_q3, .inl (G.2 0, 64, .inl v_otherValuesA)), (v_q4, .inl (G.2 0, 64, .inl r12_0)), (v_q5, .inl (G.2 0, 64, .inl v_oldRanksA)), (v_q7, .inl (G.2 0, 256, .inl v_neighborsA))]) (wf := wdX3 G v_q0 v_q1 v_q2 v_q3 v_q4 v_q5 v_q6 v_q7 v_present v_a v_b v_c v_d v_spot v_middle v_tint v_w v_s v_h v_valuesA v_otherValuesA r12_0 v_oldRanksA r13_0 v_neighborsA) S (ctX4_put l G v_q6 64 v1_2 u4_1 v1_0 r13_0 g13) ⟨va_cnB 3 hts gX3_findRanks_X4_put_n129 rfl rfl rfl (hK.2.1 _ (List.mem_of_getElem? (i := 11) rfl)) (hts (.initialized RX4) lk_X3_findRanks_iX4) hsX4_put ⟨Nat.le_of_ble_eq_true rfl, Nat.le_of_ble_eq_true rfl⟩, (hts (.static yX4_put) lk_X3_findRanks_s_put), trivial⟩ hK hP hD hS xb_triv (fun _ _ _ => trivial) [6] [0, 1, 2, 3, 4, 5, 7] [0, 1, 2, 3, 4, 5, 7, 6] rfl rfl rfl rfl rfl rfl rfl rfl hl.1 rfl (Nat.le_of_ble_eq_true rfl) dX3_findRanks_55 ⟨Nat.le_refl _, Nat.le_refl _⟩ (fun _ H locs hP hD hS => ?_)
        have hP : va_P G.1 vwCl (wdX3 G v_q0 v_q1 v_q2 v_q3 v_q4 v_q5 v_q6 v_q7 v_present v_a v_b v_c v_d v_spot v_middle v_tint v_w v_s v_h v_valuesA v_otherValuesA r12_0 v_oldRanksA r13_0 v_neighborsA) H := hP
        have hD : va_D A (wdX3 G v_q0 v_q1 v_q2 v_q3 v_q4 v_q5 v_q6 v_q7 v_present v_a v_b v_c v_d v_spot v_middle v_tint v_w v_s v_h v_valuesA v_otherValuesA r12_0 v_oldRanksA r13_0 v_neighborsA) := hD
        obtain ⟨x14, e14⟩ : ∃ y : Int32, y = v1_0 + 1 := ⟨_, rfl⟩
        replace h := nmB_e e14 h
        refine lv_iinc (v := x14) (lv' := [(1, .int x14), (3, .int u4_0), (2, .int u4_1), (0, .ref v_q0)]) hx hb dX3_findRanks_58 hl (k := 2) rfl (by rw [e14]; rfl) (by decide) rfl (fun ls hl => ?_)
        refine lv_goto (tgt := 2) hx hb dX3_findRanks_61 (by decide) ?_
        exact ih x14 r12_0 r13_0 u1_0 u1_1 u1_2 H locs ls h (lv_sub hl [0, 3] rfl) hP hD hS kE
  refine L1 FU 0 v_ranksA v_orderA u1_0 u1_1 u1_2 H locs ls g1 hl hP hD hS (fun H locs ls hl hP hD hS => ?_)
  obtain ⟨rfl, rfl⟩ := sm2 h
  exact hret _ _ _ _ trivial hP hD hS dX3_findRanks_64
theorem fw_X3_regrow_X3 : ∀ w ∈ wsX30, w ∈ wsX3_regrow := fun w h => List.mem_cons_of_mem _ (List.mem_append_left _ (List.mem_append_right _ h))
theorem lk_X3_regrow_f25 : Cond.fieldLink RX3 25 "HalftoneScreens$Screen" "ranks" "[I" ∈ wsX3_regrow := List.mem_of_getElem? (i := 1) rfl
theorem lk_X3_regrow_f28 : Cond.fieldLink RX3 28 "HalftoneScreens$Screen" "oldRanks" "[I" ∈ wsX3_regrow := List.mem_of_getElem? (i := 2) rfl
theorem lk_X3_regrow_ac1 : Cond.methodLink RX3 98 arraycopyName ∈ wsX3_regrow := List.mem_of_getElem? (i := 3) rfl
theorem lk_X3_regrow_ac2 : Cond.native arraycopyName ∈ wsX3_regrow := List.mem_of_getElem? (i := 4) rfl
theorem lk_X3_regrow_ac3 : Cond.static arraycopyName ∈ wsX3_regrow := List.mem_of_getElem? (i := 5) rfl
theorem lk_X3_regrow_ac4 : Cond.initialized "java/lang/System" ∈ wsX3_regrow := List.mem_of_getElem? (i := 6) rfl
theorem lk_X3_regrow_f12 : Cond.fieldLink RX3 12 "HalftoneScreens$Screen" "lattice" "LHalftoneScreens$Lattice;" ∈ wsX3_regrow := List.mem_of_getElem? (i := 7) rfl
theorem lk_X3_regrow_f37 : Cond.fieldLink RX3 37 "HalftoneScreens$Screen" "a" "I" ∈ wsX3_regrow := List.mem_of_getElem? (i := 8) rfl
theorem lk_X3_regrow_f41 : Cond.fieldLink RX3 41 "HalftoneScreens$Screen" "b" "I" ∈ wsX3_regrow := List.mem_of_getElem? (i := 9) rfl
theorem lk_X3_regrow_f44 : Cond.fieldLink RX3 44 "HalftoneScreens$Screen" "c" "I" ∈ wsX3_regrow := List.mem_of_getElem? (i := 10) rfl
theorem lk_X3_regrow_f47 : Cond.fieldLink RX3 47 "HalftoneScreens$Screen" "d" "I" ∈ wsX3_regrow := List.mem_of_getElem? (i := 11) rfl
theorem lk_X3_regrow_iX4 : Cond.initialized RX4 ∈ wsX3_regrow := List.mem_of_getElem? (i := 25) rfl
theorem lk_X3_regrow_s_at : Cond.static yX4_at ∈ wsX3_regrow := List.mem_of_getElem? (i := 56) rfl
theorem hsX3_findNeighbors : yX3_findNeighbors.cls ≠ "java/lang/invoke/MethodHandle" ∧ yX3_findNeighbors.cls ≠ "java/lang/invoke/VarHandle" ∧ (parseMethodDescriptor yX3_findNeighbors.desc).map (fun d => d.parameters.length) = some 0 := by decide +kernel
theorem hvX3_findNeighbors : yX3_findNeighbors.cls = RX3 ∧ yX3_findNeighbors.cls ≠ "java/lang/invoke/MethodHandle" ∧ yX3_findNeighbors.cls ≠ "java/lang/invoke/VarHandle" ∧ (parseMethodDescriptor yX3_findNeighbors.desc).map (fun d => d.parameters.length) = some 0 := ⟨rfl, hsX3_findNeighbors⟩
theorem hsX3_findRanks : yX3_findRanks.cls ≠ "java/lang/invoke/MethodHandle" ∧ yX3_findRanks.cls ≠ "java/lang/invoke/VarHandle" ∧ (parseMethodDescriptor yX3_findRanks.desc).map (fun d => d.parameters.length) = some 0 := by decide +kernel
theorem hvX3_findRanks : yX3_findRanks.cls = RX3 ∧ yX3_findRanks.cls ≠ "java/lang/invoke/MethodHandle" ∧ yX3_findRanks.cls ≠ "java/lang/invoke/VarHandle" ∧ (parseMethodDescriptor yX3_findRanks.desc).map (fun d => d.parameters.length) = some 0 := ⟨rfl, hsX3_findRanks⟩
theorem hsX3_findValues : yX3_findValues.cls ≠ "java/lang/invoke/MethodHandle" ∧ yX3_findValues.cls ≠ "java/lang/invoke/VarHandle" ∧ (parseMethodDescriptor yX3_findValues.desc).map (fun d => d.parameters.length) = some 0 := by decide +kernel
theorem hvX3_findValues : yX3_findValues.cls = RX3 ∧ yX3_findValues.cls ≠ "java/lang/invoke/MethodHandle" ∧ yX3_findValues.cls ≠ "java/lang/invoke/VarHandle" ∧ (parseMethodDescriptor yX3_findValues.desc).map (fun d => d.parameters.length) = some 0 := ⟨rfl, hsX3_findValues⟩
abbrev rmX3_regrow : Room := { frames := 5, cells := 0, slots := 0, locals := 118 }
set_option maxHeartbeats 4000000 in
set_option maxRecDepth 100000 in
theorem ctX3_regrow (l : Launch) (G : GG) (v_q0 : Nat) (v_q1 : Nat) (v_q2 : Nat) (v_q3 : Nat) (v_q4 : Nat) (v_q5 : Nat) (v_q6 : Nat) (v_q7 : Nat) (v_present : Int32) (v_a : Int32) (v_b : Int32) (v_c : Int32) (v_d : Int32) (v_spot : Int32) (v_middle : Int32) (v_tint : Int32) (v_w : Int32) (v_s : Int32) (v_h : Int32) (v_valuesA : (Nat → Int32)) (v_otherValuesA : (Nat → Int32)) (v_ranksA : (Nat → Int32)) (v_oldRanksA : (Nat → Int32)) (v_orderA : (Nat → Int32)) (v_neighborsA : (Nat → Int32)) (o0 : Int32) (o1 : Int32) (o2 : Int32) (o3 : Int32) (o4 : (Nat → Int32)) (o5 : (Nat → Int32)) (o6 : (Nat → Int32)) (o7 : (Nat → Int32)) (o8 : (Nat → Int32)) (o9 : (Nat → Int32)) (h : mX3_regrow v_a v_b v_c v_d v_spot v_middle v_valuesA v_otherValuesA v_ranksA v_oldRanksA v_orderA v_neighborsA = some (o0, o1, o2, o3, o4, o5, o6, o7, o8, o9))  : Met l yX3_regrow wsX3_regrow rmX3_regrow (va_Pc [.ref v_q0] (PreD G (wdX3 G v_q0 v_q1 v_q2 v_q3 v_q4 v_q5 v_q6 v_q7 v_present v_a v_b v_c v_d v_spot v_middle v_tint v_w v_s v_h v_valuesA v_otherValuesA v_ranksA v_oldRanksA v_orderA v_neighborsA) (fun U => SK (va_A0 (wdX3 G v_q0 v_q1 v_q2 v_q3 v_q4 v_q5 v_q6 v_q7 v_present v_a v_b v_c v_d v_spot v_middle v_tint v_w v_s v_h v_valuesA v_otherValuesA v_ranksA v_oldRanksA v_orderA v_neighborsA)) U U.heap))) (QwA G (va_A0 (wdX3 G v_q0 v_q1 v_q2 v_q3 v_q4 v_q5 v_q6 v_q7 v_present v_a v_b v_c v_d v_spot v_middle v_tint v_w v_s v_h v_valuesA v_otherValuesA v_ranksA v_oldRanksA v_orderA v_neighborsA)) (wdX3 G v_q0 v_q1 v_q2 v_q3 v_q4 v_q5 v_q6 v_q7 v_present v_a v_b v_c v_d v_spot v_middle v_tint o1 o2 o3 o4 o5 o6 o7 o8 o9) (some (.int o0)) True) 0 0 (va_A0 (wdX3 G v_q0 v_q1 v_q2 v_q3 v_q4 v_q5 v_q6 v_q7 v_present v_a v_b v_c v_d v_spot v_middle v_tint v_w v_s v_h v_valuesA v_otherValuesA v_ranksA v_oldRanksA v_orderA v_neighborsA)) := by
  refine of_wi (cc := cX3_regrow) (maxL := 3) (ty := .int) (plainFor_of_name (by decide)) rfl (Nat.le_of_ble_eq_true rfl) ?_
  intro p e s m args below meth c ls Q A S hl hP hD hS hK hX hA hret
  obtain ⟨H, hH⟩ : ∃ H, H = s.heap := ⟨_, rfl⟩
  obtain ⟨locs, hlocs⟩ : ∃ L : List Loc, L = [] := ⟨_, rfl⟩
  rw [← hlocs]
  rw [← hlocs] at hS
  have hP : va_P G.1 vwCl (wdX3 G v_q0 v_q1 v_q2 v_q3 v_q4 v_q5 v_q6 v_q7 v_present v_a v_b v_c v_d v_spot v_middle v_tint v_w v_s v_h v_valuesA v_otherValuesA v_ranksA v_oldRanksA v_orderA v_neighborsA) H := by rw [hH]; exact hP
  have hS : va_S A s.heap H locs := by rw [hH]; exact hS
  suffices hgo : W p l e rmX3_regrow s m args below meth c H locs 0 0 Q (F0 m 0 ls []) by rw [hH] at hgo; exact hgo
  have S : CallFix p m c cX3_regrow 3 s args wsX3_regrow RX3 := S
  obtain ⟨hx, hb, hml, hown, hts⟩ := id S
  have hl : lv_has ls 3 [(0, .ref v_q0)] := hl
  unfold mX3_regrow at h
  refine lv_aload_n hx hb dX3_regrow_0 rfl (lv_at hl 0 rfl) ?_
  refine va_get (D := G.1) (ci := 3) (v := .ref v_q4) (C := RX3) (T := TX3) (N := 15) hx hb hts fw_X3_regrow_X3 hown hK.1 hP 0 rfl rfl 3 (by decide) (hts (.fieldLink RX3 25 "HalftoneScreens$Screen" "ranks" "[I") lk_X3_regrow_f25) (fun _ h9 => h9) rfl dX3_regrow_1 ?_
  refine lv_iconst (v := 0) hx hb dX3_regrow_4 (by decide) ?_
  refine lv_aload_n hx hb dX3_regrow_5 rfl (lv_at hl 0 rfl) ?_
  refine va_get (D := G.1) (ci := 3) (v := .ref v_q5) (C := RX3) (T := TX3) (N := 15) hx hb hts fw_X3_regrow_X3 hown hK.1 hP 0 rfl rfl 4 (by decide) (hts (.fieldLink RX3 28 "HalftoneScreens$Screen" "oldRanks" "[I") lk_X3_regrow_f28) (fun _ h9 => h9) rfl dX3_regrow_6 ?_
  refine lv_iconst (v := 0) hx hb dX3_regrow_9 (by decide) ?_
  refine lv_bipush (v := 64) hx hb dX3_regrow_10 (by decide) ?_
  refine va_copyi (ty := .int) hx hb (hml.trans hl.1.symm) hown (hts (.methodLink RX3 98 arraycopyName) lk_X3_regrow_ac1) (hts (.native arraycopyName) lk_X3_regrow_ac2) (hts (.static arraycopyName) lk_X3_regrow_ac3) (hts (.initialized "java/lang/System") lk_X3_regrow_ac4) hK.1 hP hD hS 4 5 0 0 rfl rfl rfl rfl rfl (by decide) (by decide) (by decide) (by decide) (by decide) (fun _ _ => rfl) (Nat.le_of_ble_eq_true rfl) (Nat.le_of_ble_eq_true rfl) dX3_regrow_12 (fun H locs hP hD hS => ?_)
  have hP : va_P G.1 vwCl (wdX3 G v_q0 v_q1 v_q2 v_q3 v_q4 v_q5 v_q6 v_q7 v_present v_a v_b v_c v_d v_spot v_middle v_tint v_w v_s v_h v_valuesA v_otherValuesA v_ranksA (va_cpy v_ranksA v_oldRanksA 0 0 64) v_orderA v_neighborsA) H := hP
  have hD : va_D A (wdX3 G v_q0 v_q1 v_q2 v_q3 v_q4 v_q5 v_q6 v_q7 v_present v_a v_b v_c v_d v_spot v_middle v_tint v_w v_s v_h v_valuesA v_otherValuesA v_ranksA (va_cpy v_ranksA v_oldRanksA 0 0 64) v_orderA v_neighborsA) := hD
  refine lv_aload_n hx hb dX3_regrow_15 rfl (lv_at hl 0 rfl) ?_
  refine va_get (D := G.1) (ci := 3) (v := .ref v_q1) (C := RX3) (T := TX3) (N := 15) hx hb hts fw_X3_regrow_X3 hown hK.1 hP 0 rfl rfl 0 (by decide) (hts (.fieldLink RX3 12 "HalftoneScreens$Screen" "lattice" "LHalftoneScreens$Lattice;") lk_X3_regrow_f12) (fun _ h9 => h9) rfl dX3_regrow_16 ?_
  refine lv_aload_n hx hb dX3_regrow_19 rfl (lv_at hl 0 rfl) ?_
  refine va_get (D := G.1) (ci := 3) (v := .int v_a) (C := RX3) (T := TX3) (N := 15) hx hb hts fw_X3_regrow_X3 hown hK.1 hP 0 rfl rfl 8 (by decide) (hts (.fieldLink RX3 37 "HalftoneScreens$Screen" "a" "I") lk_X3_regrow_f37) (fun _ h9 => h9) rfl dX3_regrow_20 ?_
  refine lv_aload_n hx hb dX3_regrow_23 rfl (lv_at hl 0 rfl) ?_
  refine va_get (D := G.1) (ci := 3) (v := .int v_b) (C := RX3) (T := TX3) (N := 15) hx hb hts fw_X3_regrow_X3 hown hK.1 hP 0 rfl rfl 9 (by decide) (hts (.fieldLink RX3 41 "HalftoneScreens$Screen" "b" "I") lk_X3_regrow_f41) (fun _ h9 => h9) rfl dX3_regrow_24 ?_
  refine lv_aload_n hx hb dX3_regrow_27 rfl (lv_at hl 0 rfl) ?_
  refine va_get (D := G.1) (ci := 3) (v := .int v_c) (C := RX3) (T := TX3) (N := 15) hx hb hts fw_X3_regrow_X3 hown hK.1 hP 0 rfl rfl 10 (by decide) (hts (.fieldLink RX3 44 "HalftoneScreens$Screen" "c" "I") lk_X3_regrow_f44) (fun _ h9 => h9) rfl dX3_regrow_28 ?_
  refine lv_aload_n hx hb dX3_regrow_31 rfl (lv_at hl 0 rfl) ?_
  refine va_get (D := G.1) (ci := 3) (v := .int v_d) (C := RX3) (T := TX3) (N := 15) hx hb hts fw_X3_regrow_X3 hown hK.1 hP 0 rfl rfl 11 (by decide) (hts (.fieldLink RX3 47 "HalftoneScreens$Screen" "d" "I") lk_X3_regrow_f47) (fun _ h9 => h9) rfl dX3_regrow_32 ?_
  refine lv_iconst (v := 0) hx hb dX3_regrow_35 (by decide) ?_
  obtain ⟨r1_0, r1_1, r1_2, g1, h⟩ := bnd3_e h
  refine rwV_back (rest := []) (As := [.int v_a, .int v_b, .int v_c, .int v_d, .int 0]) (wr := [(v_q0, .inr (3, [.ref v_q1, .ref v_q2, .ref v_q3, .ref v_q4, .ref v_q5, .ref v_q6, .ref v_q7, .int v_present, .int v_a, .int v_b, .int v_c, .int v_d, .int v_spot, .int v_middle, .int v_tint])), (v_q2, .inl (G.2 0, 64, .inl v_valuesA)), (v_q3, .inl (G.2 0, 64, .inl v_otherValuesA)), (v_q4, .inl (G.2 0, 64, .inl v_ranksA)), (v_q5, .inl (G.2 0, 64, .inl (va_cpy v_ranksA v_oldRanksA 0 0 64))), (v_q6, .inl (G.2 0, 64, .inl v_orderA)), (v_q7, .inl (G.2 0, 256, .inl v_neighborsA))]) (wf := wdX3 G v_q0 v_q1 v_q2 v_q3 v_q4 v_q5 v_q6 v_q7 v_present v_a v_b v_c v_d v_spot v_middle v_tint r1_0 r1_1 r1_2 v_valuesA v_otherValuesA v_ranksA (va_cpy v_ranksA v_oldRanksA 0 0 64) v_orderA v_neighborsA) S (ctX2_span l G v_q1 v_w v_s v_h v_a v_b v_c v_d 0 r1_0 r1_1 r1_2 g1) (cwV 5 hts gX3_regrow_X2_span rfl rfl rfl hvX2_span ⟨Nat.le_of_ble_eq_true rfl, Nat.le_of_ble_eq_true rfl⟩) hK hP hD hS xb_triv (fun _ _ _ => trivial) [1] [0, 2, 3, 4, 5, 6, 7] [0, 7, 1, 2, 3, 4, 5, 6] rfl rfl rfl rfl rfl rfl rfl 1 2 rfl rfl rfl rfl hl.1 rfl (Nat.le_of_ble_eq_true rfl) dX3_regrow_36 ⟨Nat.le_refl _, Nat.le_refl _⟩ (fun _ H locs hP hD hS => ?_)
  have hP : va_P G.1 vwCl (wdX3 G v_q0 v_q1 v_q2 v_q3 v_q4 v_q5 v_q6 v_q7 v_present v_a v_b v_c v_d v_spot v_middle v_tint r1_0 r1_1 r1_2 v_valuesA v_otherValuesA v_ranksA (va_cpy v_ranksA v_oldRanksA 0 0 64) v_orderA v_neighborsA) H := hP
  have hD : va_D A (wdX3 G v_q0 v_q1 v_q2 v_q3 v_q4 v_q5 v_q6 v_q7 v_present v_a v_b v_c v_d v_spot v_middle v_tint r1_0 r1_1 r1_2 v_valuesA v_otherValuesA v_ranksA (va_cpy v_ranksA v_oldRanksA 0 0 64) v_orderA v_neighborsA) := hD
  refine lv_aload_n hx hb dX3_regrow_39 rfl (lv_at hl 0 rfl) ?_
  obtain ⟨r2_0, g2, h⟩ := bnd1_e h
  refine rwV_same (rest := []) (As := []) S (ctX3_findNeighbors l G v_q0 v_q1 v_q2 v_q3 v_q4 v_q5 v_q6 v_q7 v_present v_a v_b v_c v_d v_spot v_middle v_tint r1_0 r1_1 r1_2 v_valuesA v_otherValuesA v_ranksA (va_cpy v_ranksA v_oldRanksA 0 0 64) v_orderA v_neighborsA r2_0 g2) (cwV 0 hts gX3_regrow_X3_findNeighbors rfl rfl rfl hvX3_findNeighbors ⟨Nat.le_of_ble_eq_true rfl, Nat.le_of_ble_eq_true rfl⟩) hK hP hD hS (SK.blind _) (fun U hU hW => SK.call0 hX hA hD hS hU hW) 0 3 rfl rfl rfl rfl hl.1 rfl (Nat.le_of_ble_eq_true rfl) dX3_regrow_40 ⟨Nat.le_refl _, Nat.le_refl _⟩ (fun _ H locs hP hD hS => ?_)
  have hP : va_P G.1 vwCl (wdX3 G v_q0 v_q1 v_q2 v_q3 v_q4 v_q5 v_q6 v_q7 v_present v_a v_b v_c v_d v_spot v_middle v_tint r1_0 r1_1 r1_2 v_valuesA v_otherValuesA v_ranksA (va_cpy v_ranksA v_oldRanksA 0 0 64) v_orderA r2_0) H := hP
  have hD : va_D A (wdX3 G v_q0 v_q1 v_q2 v_q3 v_q4 v_q5 v_q6 v_q7 v_present v_a v_b v_c v_d v_spot v_middle v_tint r1_0 r1_1 r1_2 v_valuesA v_otherValuesA v_ranksA (va_cpy v_ranksA v_oldRanksA 0 0 64) v_orderA r2_0) := hD
  refine lv_aload_n hx hb dX3_regrow_43 rfl (lv_at hl 0 rfl) ?_
  obtain ⟨r3_0, r3_1, g3, h⟩ := bnd2_e h
  refine rwV_same (rest := []) (As := []) S (ctX3_findValues l G v_q0 v_q1 v_q2 v_q3 v_q4 v_q5 v_q6 v_q7 v_present v_a v_b v_c v_d v_spot v_middle v_tint r1_0 r1_1 r1_2 v_valuesA v_otherValuesA v_ranksA (va_cpy v_ranksA v_oldRanksA 0 0 64) v_orderA r2_0 r3_0 r3_1 g3) (cwV 0 hts gX3_regrow_X3_findValues rfl rfl rfl hvX3_findValues ⟨Nat.le_of_ble_eq_true rfl, Nat.le_of_ble_eq_true rfl⟩) hK hP hD hS xb_triv (fun _ _ _ => trivial) 0 3 rfl rfl rfl rfl hl.1 rfl (Nat.le_of_ble_eq_true rfl) dX3_regrow_44 ⟨Nat.le_refl _, Nat.le_refl _⟩ (fun _ H locs hP hD hS => ?_)
  have hP : va_P G.1 vwCl (wdX3 G v_q0 v_q1 v_q2 v_q3 v_q4 v_q5 v_q6 v_q7 v_present v_a v_b v_c v_d v_spot v_middle v_tint r1_0 r1_1 r1_2 r3_0 r3_1 v_ranksA (va_cpy v_ranksA v_oldRanksA 0 0 64) v_orderA r2_0) H := hP
  have hD : va_D A (wdX3 G v_q0 v_q1 v_q2 v_q3 v_q4 v_q5 v_q6 v_q7 v_present v_a v_b v_c v_d v_spot v_middle v_tint r1_0 r1_1 r1_2 r3_0 r3_1 v_ranksA (va_cpy v_ranksA v_oldRanksA 0 0 64) v_orderA r2_0) := hD
  refine lv_aload_n hx hb dX3_regrow_47 rfl (lv_at hl 0 rfl) ?_
  obtain ⟨r4_0, r4_1, g4, h⟩ := bnd2_e h
  refine rwV_same (rest := []) (As := []) S (ctX3_findRanks l G v_q0 v_q1 v_q2 v_q3 v_q4 v_q5 v_q6 v_q7 v_present v_a v_b v_c v_d v_spot v_middle v_tint r1_0 r1_1 r1_2 r3_0 r3_1 v_ranksA (va_cpy v_ranksA v_oldRanksA 0 0 64) v_orderA r2_0 r4_0 r4_1 g4) (cwV 0 hts gX3_regrow_X3_findRanks rfl rfl rfl hvX3_findRanks ⟨Nat.le_of_ble_eq_true rfl, Nat.le_of_ble_eq_true rfl⟩) hK hP hD hS xb_triv (fun _ _ _ => trivial) 0 3 rfl rfl rfl rfl hl.1 rfl (Nat.le_of_ble_eq_true rfl) dX3_regrow_48 ⟨Nat.le_refl _, Nat.le_refl _⟩ (fun _ H locs hP hD hS => ?_)
  have hP : va_P G.1 vwCl (wdX3 G v_q0 v_q1 v_q2 v_q3 v_q4 v_q5 v_q6 v_q7 v_present v_a v_b v_c v_d v_spot v_middle v_tint r1_0 r1_1 r1_2 r3_0 r3_1 r4_0 (va_cpy v_ranksA v_oldRanksA 0 0 64) r4_1 r2_0) H := hP
  have hD : va_D A (wdX3 G v_q0 v_q1 v_q2 v_q3 v_q4 v_q5 v_q6 v_q7 v_present v_a v_b v_c v_d v_spot v_middle v_tint r1_0 r1_1 r1_2 r3_0 r3_1 r4_0 (va_cpy v_ranksA v_oldRanksA 0 0 64) r4_1 r2_0) := hD
  refine lv_iconst (v := 0) hx hb dX3_regrow_51 (by decide) ?_
  refine lv_istore_n (lv' := [(1, .int 0), (0, .ref v_q0)]) hx hb dX3_regrow_52 rfl hl (by decide) rfl (fun ls hl => ?_)
  refine lv_iconst (v := 0) hx hb dX3_regrow_53 (by decide) ?_
  refine lv_istore_n (lv' := [(2, .int 0), (1, .int 0), (0, .ref v_q0)]) hx hb dX3_regrow_54 rfl hl (by decide) rfl (fun ls hl => ?_)
  obtain ⟨u5_0, u5_1, g5, h⟩ := bnd2_e h
  have L5 : ∀ (fu : Nat) (v5_0 : Int32) (v5_1 : Int32) (u5_0 : Int32) (u5_1 : Int32) (H : Heap) (locs : List Loc) (ls : Array Slot), mX3_regrow_L55 v_ranksA v_oldRanksA r1_0 r1_2 r4_0 fu v5_0 v5_1 = some (u5_0, u5_1) → lv_has ls 3 [(2, .int v5_0), (1, .int v5_1), (0, .ref v_q0)] → va_P G.1 vwCl (wdX3 G v_q0 v_q1 v_q2 v_q3 v_q4 v_q5 v_q6 v_q7 v_present v_a v_b v_c v_d v_spot v_middle v_tint r1_0 r1_1 r1_2 r3_0 r3_1 r4_0 (va_cpy v_ranksA v_oldRanksA 0 0 64) r4_1 r2_0) H → va_D A (wdX3 G v_q0 v_q1 v_q2 v_q3 v_q4 v_q5 v_q6 v_q7 v_present v_a v_b v_c v_d v_spot v_middle v_tint r1_0 r1_1 r1_2 r3_0 r3_1 r4_0 (va_cpy v_ranksA v_oldRanksA 0 0 64) r4_1 r2_0) → va_S A s.heap H locs → (∀ (H : Heap) (locs : List Loc) (ls : Array Slot), lv_has ls 3 [(2, .int u5_0), (1, .int u5_1), (0, .ref v_q0)] → va_P G.1 vwCl (wdX3 G v_q0 v_q1 v_q2 v_q3 v_q4 v_q5 v_q6 v_q7 v_present v_a v_b v_c v_d v_spot v_middle v_tint r1_0 r1_1 r1_2 r3_0 r3_1 r4_0 (va_cpy v_ranksA v_oldRanksA 0 0 64) r4_1 r2_0) H → va_D A (wdX3 G v_q0 v_q1 v_q2 v_q3 v_q4 v_q5 v_q6 v_q7 v_present v_a v_b v_c v_d v_spot v_middle v_tint r1_0 r1_1 r1_2 r3_0 r3_1 r4_0 (va_cpy v_ranksA v_oldRanksA 0 0 64) r4_1 r2_0) → va_S A s.heap H locs → W p l e rmX3_regrow s m args below meth c H locs 0 0 Q (F0 m 91 ls [])) → W p l e rmX3_regrow s m args below meth c H locs 0 0 Q (F0 m 55 ls []) := by
    intro fu
    induction fu with
    | zero => intro v5_0 v5_1 u5_0 u5_1 H locs ls h; exact nomatch h
    | succ fu ih =>
      intro v5_0 v5_1 u5_0 u5_1 H locs ls h hl hP hD hS kE
      rw [mX3_regrow_L55] at h
      refine lv_iload_n hx hb dX3_regrow_55 rfl (lv_at hl 0 rfl) ?_
      refine lv_aload_n hx hb dX3_regrow_56 rfl (lv_at hl 2 rfl) ?_
      obtain ⟨r6_0, g6, h⟩ := bnd1_e h
      refine roVi1 (rest := [.int v5_0]) (As := []) S (ctX3_area l G v_q0 v_q1 v_q2 v_q3 v_q4 v_q5 v_q6 v_q7 v_present v_a v_b v_c v_d v_spot v_middle v_tint r1_0 r1_1 r1_2 r3_0 r3_1 r4_0 (va_cpy v_ranksA v_oldRanksA 0 0 64) r4_1 r2_0 r6_0 g6) (cwV 0 hts gX3_regrow_X3_area rfl rfl rfl hvX3_area ⟨Nat.le_of_ble_eq_true rfl, Nat.le_of_ble_eq_true rfl⟩) hK hP [0, 1, 2, 3, 4, 5, 6, 7] rfl 0 3 rfl rfl rfl rfl hl.1 rfl (Nat.le_of_ble_eq_true rfl) dX3_regrow_57 ⟨Nat.le_refl _, Nat.le_refl _⟩ (fun _ => ?_)
      refine lv_icmp_ge (tgt := 91) hx hb dX3_regrow_60 (by decide) (fun c7 => ?_) (fun c7 => ?_)
      · replace h := ite_t c7 h
        obtain ⟨rfl, rfl⟩ := sm2 h
        exact kE H locs ls hl hP hD hS
      · replace h := ite_f c7 h
        refine lv_aload_n hx hb dX3_regrow_63 rfl (lv_at hl 2 rfl) ?_
        refine va_get (D := G.1) (ci := 3) (v := .ref v_q4) (C := RX3) (T := TX3) (N := 15) hx hb hts fw_X3_regrow_X3 hown hK.1 hP 0 rfl rfl 3 (by decide) (hts (.fieldLink RX3 25 "HalftoneScreens$Screen" "ranks" "[I") lk_X3_regrow_f25) (fun _ h9 => h9) rfl dX3_regrow_64 ?_
        refine lv_iload_n hx hb dX3_regrow_67 rfl (lv_at hl 0 rfl) ?_
        obtain ⟨r8_0, g8, h⟩ := bnd1_e h
        refine roNi1 (rest := []) (As := [.ref v_q4, .int v5_0]) S (ctX4_at l G v_q4 64 r4_0 v5_0 r8_0 g8) ⟨va_cnB 2 hts gX3_regrow_X4_at_n80 rfl rfl rfl (hK.2.1 _ (List.mem_of_getElem? (i := 8) rfl)) (hts (.initialized RX4) lk_X3_regrow_iX4) hsX4_at ⟨Nat.le_of_ble_eq_true rfl, Nat.le_of_ble_eq_true rfl⟩, (hts (.static yX4_at) lk_X3_regrow_s_at), trivial⟩ hK hP [4] rfl rfl hl.1 rfl (Nat.le_of_ble_eq_true rfl) dX3_regrow_68 ⟨Nat.le_refl _, Nat.le_refl _⟩ (fun _ => ?_)
        refine lv_aload_n hx hb dX3_regrow_71 rfl (lv_at hl 2 rfl) ?_
        refine va_get (D := G.1) (ci := 3) (v := .ref v_q5) (C := RX3) (T := TX3) (N := 15) hx hb hts fw_X3_regrow_X3 hown hK.1 hP 0 rfl rfl 4 (by decide) (hts (.fieldLink RX3 28 "HalftoneScreens$Screen" "oldRanks" "[I") lk_X3_regrow_f28) (fun _ h9 => h9) rfl dX3_regrow_72 ?_
        refine lv_iload_n hx hb dX3_regrow_75 rfl (lv_at hl 0 rfl) ?_
        obtain ⟨r9_0, g9, h⟩ := bnd1_e h
        refine roNi1 (rest := [.int r8_0]) (As := [.ref v_q5, .int v5_0]) S (ctX4_at l G v_q5 64 (va_cpy v_ranksA v_oldRanksA 0 0 64) v5_0 r9_0 g9) ⟨va_cnB 2 hts gX3_regrow_X4_at_n80 rfl rfl rfl (hK.2.1 _ (List.mem_of_getElem? (i := 8) rfl)) (hts (.initialized RX4) lk_X3_regrow_iX4) hsX4_at ⟨Nat.le_of_ble_eq_true rfl, Nat.le_of_ble_eq_true rfl⟩, (hts (.static yX4_at) lk_X3_regrow_s_at), trivial⟩ hK hP [5] rfl rfl hl.1 rfl (Nat.le_of_ble_eq_true rfl) dX3_regrow_76 ⟨Nat.le_refl _, Nat.le_refl _⟩ (fun _ => ?_)
        refine lv_icmp_eq (tgt := 85) hx hb dX3_regrow_79 (by decide) (fun c10 => ?_) (fun c10 => ?_)
        · replace h := ite_t c10 h
          obtain ⟨x11, e11⟩ : ∃ y : Int32, y = v5_0 + 1 := ⟨_, rfl⟩
          replace h := nmB_e e11 h
          refine lv_iinc (v := x11) (lv' := [(2, .int x11), (1, .int v5_1), (0, .ref v_q0)]) hx hb dX3_regrow_85 hl (k := 0) rfl (by rw [e11]; rfl) (by decide) rfl (fun ls hl => ?_)
          refine lv_goto (tgt := 55) hx hb dX3_regrow_88 (by decide) ?_
          exact ih x11 v5_1 u5_0 u5_1 H locs ls h hl hP hD hS kE
        · replace h := ite_f c10 h
          obtain ⟨x12, e12⟩ : ∃ y : Int32, y = v5_1 + 1 := ⟨_, rfl⟩
          replace h := nmB_e e12 h
          refine lv_iinc (v := x12) (lv' := [(1, .int x12), (2, .int v5_0), (0, .ref v_q0)]) hx hb dX3_regrow_82 hl (k := 1) rfl (by rw [e12]; rfl) (by decide) rfl (fun ls hl => ?_)
          obtain ⟨x13, e13⟩ : ∃ y : Int32, y = v5_0 + 1 := ⟨_, rfl⟩
          replace h := nmB_e e13 h
          refine lv_iinc (v := x13) (lv' := [(2, .int x13), (1, .int x12), (0, .ref v_q0)]) hx hb dX3_regrow_85 hl (k := 1) rfl (by rw [e13]; rfl) (by decide) rfl (fun ls hl => ?_)
          refine lv_goto (tgt := 55) hx hb dX3_regrow_88 (by decide) ?_
          exact ih x13 x12 u5_0 u5_1 H locs ls h hl hP hD hS kE
  refine L5 FU 0 0 u5_0 u5_1 H locs ls g5 hl hP hD hS (fun H locs ls hl hP hD hS => ?_)
  refine lv_iload_n hx hb dX3_regrow_91 rfl (lv_at hl 1 rfl) ?_
  obtain ⟨rfl, rfl, rfl, rfl, rfl, rfl, rfl, rfl, rfl, rfl⟩ := sm10 h
  exact hret _ _ _ _ _ rfl trivial rfl hP hD hS dX3_regrow_92
