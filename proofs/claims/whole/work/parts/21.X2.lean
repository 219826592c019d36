-- contracts of the methods (laid by program from the listing)
theorem fw_X2_area_X2 : ∀ w ∈ wsX20, w ∈ wsX2_area := fun w h => List.mem_cons_of_mem _ (List.mem_append_right _ h)
theorem lk_X2_area_f9 : Cond.fieldLink RX2 9 "HalftoneScreens$Lattice" "w" "I" ∈ wsX2_area := List.mem_of_getElem? (i := 1) rfl
theorem lk_X2_area_f18 : Cond.fieldLink RX2 18 "HalftoneScreens$Lattice" "h" "I" ∈ wsX2_area := List.mem_of_getElem? (i := 2) rfl
abbrev rmX2_area : Room := { frames := 0, cells := 0, slots := 0, locals := 0 }
set_option maxHeartbeats 4000000 in
set_option maxRecDepth 100000 in
theorem ctX2_area (l : Launch) (G : GG) (v_q0 : Nat) (v_w : Int32) (v_s : Int32) (v_h : Int32) (o0 : Int32) (h : mX2_area v_w v_h = some (o0))  : Met l yX2_area wsX2_area rmX2_area (va_Pc [.ref v_q0] (PreW G (wdX2 G v_q0 v_w v_s v_h))) (vp_Si (fun r => r = o0 ∧ True)) 0 0 (fun _ => False) := by
  refine of_ri (cc := cX2_area) (maxL := 1) (ty := .int) (plainFor_of_name (by decide)) rfl (Nat.le_of_ble_eq_true rfl) ?_
  intro p e s m args below meth c ls Q S hl hP hK hret
  have S : CallFix p m c cX2_area 1 s args wsX2_area RX2 := S
  obtain ⟨hx, hb, hml, hown, hts⟩ := id S
  have hl : lv_has ls 1 [(0, .ref v_q0)] := hl
  unfold mX2_area at h
  refine lv_aload_n hx hb dX2_area_0 rfl (lv_at hl 0 rfl) ?_
  refine va_get (D := G.1) (ci := 2) (v := .int v_w) (C := RX2) (T := TX2) (N := 3) hx hb hts fw_X2_area_X2 hown hK.1 hP 0 rfl rfl 0 (by decide) (hts (.fieldLink RX2 9 "HalftoneScreens$Lattice" "w" "I") lk_X2_area_f9) (fun _ h9 => h9) rfl dX2_area_1 ?_
  refine lv_aload_n hx hb dX2_area_4 rfl (lv_at hl 0 rfl) ?_
  refine va_get (D := G.1) (ci := 2) (v := .int v_h) (C := RX2) (T := TX2) (N := 3) hx hb hts fw_X2_area_X2 hown hK.1 hP 0 rfl rfl 2 (by decide) (hts (.fieldLink RX2 18 "HalftoneScreens$Lattice" "h" "I") lk_X2_area_f18) (fun _ h9 => h9) rfl dX2_area_5 ?_
  refine lv_imul hx hb dX2_area_8 ?_
  exact hret _ _ _ ⟨smi h, trivial⟩ rfl dX2_area_9
theorem fw_X2_property_X2 : ∀ w ∈ wsX20, w ∈ wsX2_property := fun w h => List.mem_cons_of_mem _ (List.mem_append_right _ h)
theorem lk_X2_property_f9 : Cond.fieldLink RX2 9 "HalftoneScreens$Lattice" "w" "I" ∈ wsX2_property := List.mem_of_getElem? (i := 1) rfl
theorem lk_X2_property_f15 : Cond.fieldLink RX2 15 "HalftoneScreens$Lattice" "s" "I" ∈ wsX2_property := List.mem_of_getElem? (i := 2) rfl
theorem lk_X2_property_f18 : Cond.fieldLink RX2 18 "HalftoneScreens$Lattice" "h" "I" ∈ wsX2_property := List.mem_of_getElem? (i := 3) rfl
theorem hsX2_area : yX2_area.cls ≠ "java/lang/invoke/MethodHandle" ∧ yX2_area.cls ≠ "java/lang/invoke/VarHandle" ∧ (parseMethodDescriptor yX2_area.desc).map (fun d => d.parameters.length) = some 0 := by decide +kernel
theorem hvX2_area : yX2_area.cls = RX2 ∧ yX2_area.cls ≠ "java/lang/invoke/MethodHandle" ∧ yX2_area.cls ≠ "java/lang/invoke/VarHandle" ∧ (parseMethodDescriptor yX2_area.desc).map (fun d => d.parameters.length) = some 0 := ⟨rfl, hsX2_area⟩
abbrev rmX2_property : Room := { frames := 1, cells := 0, slots := 0, locals := 20 }
set_option maxHeartbeats 4000000 in
set_option maxRecDepth 100000 in
theorem ctX2_property (l : Launch) (G : GG) (v_q0 : Nat) (v_w : Int32) (v_s : Int32) (v_h : Int32) (a0 : Int32) (o0 : Int32) (h : mX2_property v_w v_s v_h a0 = some (o0))  : Met l yX2_property wsX2_property rmX2_property (va_Pc [.ref v_q0, .int a0] (PreW G (wdX2 G v_q0 v_w v_s v_h))) (vp_Si (fun r => r = o0 ∧ True)) 0 0 (fun _ => False) := by
  refine of_ri (cc := cX2_property) (maxL := 2) (ty := .int) (plainFor_of_name (by decide)) rfl (Nat.le_of_ble_eq_true rfl) ?_
  intro p e s m args below meth c ls Q S hl hP hK hret
  have S : CallFix p m c cX2_property 2 s args wsX2_property RX2 := S
  obtain ⟨hx, hb, hml, hown, hts⟩ := id S
  have hl : lv_has ls 2 [(0, .ref v_q0), (1, .int a0)] := hl
  unfold mX2_property at h
  refine lv_iload_n hx hb dX2_property_0 rfl (lv_at hl 1 rfl) ?_
  by_cases c1 : a0 = 0
  · replace h := ite_t c1 h
    refine lv_tableIn (off := 27) (tgt := 28) hx hb dX2_property_1 (by rw [c1]; decide) (by rw [c1]; decide) (by rw [c1]; decide) (by decide) ?_
    refine lv_aload_n hx hb dX2_property_28 rfl (lv_at hl 0 rfl) ?_
    obtain ⟨r2_0, g2, h⟩ := bnd1_e h
    refine roVi1 (rest := []) (As := []) S (ctX2_area l G v_q0 v_w v_s v_h r2_0 g2) (cwV 0 hts gX2_property_X2_area rfl rfl rfl hvX2_area ⟨Nat.le_of_ble_eq_true rfl, Nat.le_of_ble_eq_true rfl⟩) hK hP [0] rfl 0 2 rfl rfl rfl rfl hl.1 rfl (Nat.le_of_ble_eq_true rfl) dX2_property_29 ⟨Nat.le_refl _, Nat.le_refl _⟩ (fun _ => ?_)
    exact hret _ _ _ ⟨smi h, trivial⟩ rfl dX2_property_32
  replace h := ite_f c1 h
  by_cases c3 : a0 = 1
  · replace h := ite_t c3 h
    refine lv_tableIn (off := 32) (tgt := 33) hx hb dX2_property_1 (by rw [c3]; decide) (by rw [c3]; decide) (by rw [c3]; decide) (by decide) ?_
    refine lv_aload_n hx hb dX2_property_33 rfl (lv_at hl 0 rfl) ?_
    refine va_get (D := G.1) (ci := 2) (v := .int v_w) (C := RX2) (T := TX2) (N := 3) hx hb hts fw_X2_property_X2 hown hK.1 hP 0 rfl rfl 0 (by decide) (hts (.fieldLink RX2 9 "HalftoneScreens$Lattice" "w" "I") lk_X2_property_f9) (fun _ h9 => h9) rfl dX2_property_34 ?_
    exact hret _ _ _ ⟨smi h, trivial⟩ rfl dX2_property_37
  replace h := ite_f c3 h
  by_cases c4 : a0 = 2
  · replace h := ite_t c4 h
    refine lv_tableIn (off := 37) (tgt := 38) hx hb dX2_property_1 (by rw [c4]; decide) (by rw [c4]; decide) (by rw [c4]; decide) (by decide) ?_
    refine lv_aload_n hx hb dX2_property_38 rfl (lv_at hl 0 rfl) ?_
    refine va_get (D := G.1) (ci := 2) (v := .int v_s) (C := RX2) (T := TX2) (N := 3) hx hb hts fw_X2_property_X2 hown hK.1 hP 0 rfl rfl 1 (by decide) (hts (.fieldLink RX2 15 "HalftoneScreens$Lattice" "s" "I") lk_X2_property_f15) (fun _ h9 => h9) rfl dX2_property_39 ?_
    exact hret _ _ _ ⟨smi h, trivial⟩ rfl dX2_property_42
  replace h := ite_f c4 h
  refine lv_tableOut (tgt := 43) hx hb dX2_property_1 (by have n1 := lv_neT (a := 0) c1 rfl; have n3 := lv_neT (a := 1) c3 rfl; have n4 := lv_neT (a := 2) c4 rfl; omega) (by decide) ?_
  refine lv_aload_n hx hb dX2_property_43 rfl (lv_at hl 0 rfl) ?_
  refine va_get (D := G.1) (ci := 2) (v := .int v_h) (C := RX2) (T := TX2) (N := 3) hx hb hts fw_X2_property_X2 hown hK.1 hP 0 rfl rfl 2 (by decide) (hts (.fieldLink RX2 18 "HalftoneScreens$Lattice" "h" "I") lk_X2_property_f18) (fun _ h9 => h9) rfl dX2_property_44 ?_
  exact hret _ _ _ ⟨smi h, trivial⟩ rfl dX2_property_47
theorem fw_X2_numberOf_X2 : ∀ w ∈ wsX20, w ∈ wsX2_numberOf := fun w h => List.mem_cons_of_mem _ (List.mem_append_right _ h)
theorem lk_X2_numberOf_f18 : Cond.fieldLink RX2 18 "HalftoneScreens$Lattice" "h" "I" ∈ wsX2_numberOf := List.mem_of_getElem? (i := 1) rfl
theorem lk_X2_numberOf_iX4 : Cond.initialized RX4 ∈ wsX2_numberOf := List.mem_of_getElem? (i := 5) rfl
theorem lk_X2_numberOf_s_floorDiv : Cond.static yX4_floorDiv ∈ wsX2_numberOf := List.mem_of_getElem? (i := 4) rfl
theorem lk_X2_numberOf_f9 : Cond.fieldLink RX2 9 "HalftoneScreens$Lattice" "w" "I" ∈ wsX2_numberOf := List.mem_of_getElem? (i := 2) rfl
theorem lk_X2_numberOf_f15 : Cond.fieldLink RX2 15 "HalftoneScreens$Lattice" "s" "I" ∈ wsX2_numberOf := List.mem_of_getElem? (i := 3) rfl
theorem lk_X2_numberOf_s_mod : Cond.static yX4_mod ∈ wsX2_numberOf := List.mem_of_getElem? (i := 11) rfl
theorem hsX4_floorDiv : yX4_floorDiv.cls ≠ "java/lang/invoke/MethodHandle" ∧ yX4_floorDiv.cls ≠ "java/lang/invoke/VarHandle" ∧ (parseMethodDescriptor yX4_floorDiv.desc).map (fun d => d.parameters.length) = some 2 := by decide +kernel
theorem hvX4_floorDiv : yX4_floorDiv.cls = RX4 ∧ yX4_floorDiv.cls ≠ "java/lang/invoke/MethodHandle" ∧ yX4_floorDiv.cls ≠ "java/lang/invoke/VarHandle" ∧ (parseMethodDescriptor yX4_floorDiv.desc).map (fun d => d.parameters.length) = some 2 := ⟨rfl, hsX4_floorDiv⟩
theorem hsX4_mod : yX4_mod.cls ≠ "java/lang/invoke/MethodHandle" ∧ yX4_mod.cls ≠ "java/lang/invoke/VarHandle" ∧ (parseMethodDescriptor yX4_mod.desc).map (fun d => d.parameters.length) = some 2 := by decide +kernel
theorem hvX4_mod : yX4_mod.cls = RX4 ∧ yX4_mod.cls ≠ "java/lang/invoke/MethodHandle" ∧ yX4_mod.cls ≠ "java/lang/invoke/VarHandle" ∧ (parseMethodDescriptor yX4_mod.desc).map (fun d => d.parameters.length) = some 2 := ⟨rfl, hsX4_mod⟩
abbrev rmX2_numberOf : Room := { frames := 2, cells := 0, slots := 0, locals := 43 }
set_option maxHeartbeats 4000000 in
set_option maxRecDepth 100000 in
theorem ctX2_numberOf (l : Launch) (G : GG) (v_q0 : Nat) (v_w : Int32) (v_s : Int32) (v_h : Int32) (a0 : Int32) (a1 : Int32) (o0 : Int32) (h : mX2_numberOf v_w v_s v_h a0 a1 = some (o0))  : Met l yX2_numberOf wsX2_numberOf rmX2_numberOf (va_Pc [.ref v_q0, .int a0, .int a1] (PreW G (wdX2 G v_q0 v_w v_s v_h))) (vp_Si (fun r => r = o0 ∧ True)) 0 0 (fun _ => False) := by
  refine of_ri (cc := cX2_numberOf) (maxL := 4) (ty := .int) (plainFor_of_name (by decide)) rfl (Nat.le_of_ble_eq_true rfl) ?_
  intro p e s m args below meth c ls Q S hl hP hK hret
  have S : CallFix p m c cX2_numberOf 4 s args wsX2_numberOf RX2 := S
  obtain ⟨hx, hb, hml, hown, hts⟩ := id S
  have hl : lv_has ls 4 [(0, .ref v_q0), (1, .int a0), (2, .int a1)] := hl
  unfold mX2_numberOf at h
  refine lv_iload_n hx hb dX2_numberOf_0 rfl (lv_at hl 2 rfl) ?_
  refine lv_aload_n hx hb dX2_numberOf_1 rfl (lv_at hl 0 rfl) ?_
  refine va_get (D := G.1) (ci := 2) (v := .int v_h) (C := RX2) (T := TX2) (N := 3) hx hb hts fw_X2_numberOf_X2 hown hK.1 hP 0 rfl rfl 2 (by decide) (hts (.fieldLink RX2 18 "HalftoneScreens$Lattice" "h" "I") lk_X2_numberOf_f18) (fun _ h9 => h9) rfl dX2_numberOf_2 ?_
  obtain ⟨r1_0, g1, h⟩ := bnd1_e h
  refine roNi1 (rest := []) (As := [.int a1, .int v_h]) S (ctX4_floorDiv l G a1 v_h r1_0 g1) ⟨va_cnB 2 hts gX2_numberOf_X4_floorDiv_n25 rfl rfl rfl (hK.2.1 _ (List.mem_of_getElem? (i := 4) rfl)) (hts (.initialized RX4) lk_X2_numberOf_iX4) hsX4_floorDiv ⟨Nat.le_of_ble_eq_true rfl, Nat.le_of_ble_eq_true rfl⟩, (hts (.static yX4_floorDiv) lk_X2_numberOf_s_floorDiv), trivial⟩ hK hP [] rfl rfl hl.1 rfl (Nat.le_of_ble_eq_true rfl) dX2_numberOf_5 ⟨Nat.le_refl _, Nat.le_refl _⟩ (fun _ => ?_)
  refine lv_istore_n (lv' := [(3, .int r1_0), (0, .ref v_q0), (1, .int a0), (2, .int a1)]) hx hb dX2_numberOf_8 rfl hl (by decide) rfl (fun ls hl => ?_)
  refine lv_iload_n hx hb dX2_numberOf_9 rfl (lv_at hl 3 rfl) ?_
  refine lv_iload_n hx hb dX2_numberOf_10 rfl (lv_at hl 0 rfl) ?_
  refine lv_aload_n hx hb dX2_numberOf_11 rfl (lv_at hl 1 rfl) ?_
  refine va_get (D := G.1) (ci := 2) (v := .int v_h) (C := RX2) (T := TX2) (N := 3) hx hb hts fw_X2_numberOf_X2 hown hK.1 hP 0 rfl rfl 2 (by decide) (hts (.fieldLink RX2 18 "HalftoneScreens$Lattice" "h" "I") lk_X2_numberOf_f18) (fun _ h9 => h9) rfl dX2_numberOf_12 ?_
  refine lv_imul hx hb dX2_numberOf_15 ?_
  refine lv_isub hx hb dX2_numberOf_16 ?_
  refine lv_aload_n hx hb dX2_numberOf_17 rfl (lv_at hl 1 rfl) ?_
  refine va_get (D := G.1) (ci := 2) (v := .int v_w) (C := RX2) (T := TX2) (N := 3) hx hb hts fw_X2_numberOf_X2 hown hK.1 hP 0 rfl rfl 0 (by decide) (hts (.fieldLink RX2 9 "HalftoneScreens$Lattice" "w" "I") lk_X2_numberOf_f9) (fun _ h9 => h9) rfl dX2_numberOf_18 ?_
  refine lv_imul hx hb dX2_numberOf_21 ?_
  refine lv_iload_n hx hb dX2_numberOf_22 rfl (lv_at hl 2 rfl) ?_
  refine lv_iload_n hx hb dX2_numberOf_23 rfl (lv_at hl 0 rfl) ?_
  refine lv_aload_n hx hb dX2_numberOf_24 rfl (lv_at hl 1 rfl) ?_
  refine va_get (D := G.1) (ci := 2) (v := .int v_s) (C := RX2) (T := TX2) (N := 3) hx hb hts fw_X2_numberOf_X2 hown hK.1 hP 0 rfl rfl 1 (by decide) (hts (.fieldLink RX2 15 "HalftoneScreens$Lattice" "s" "I") lk_X2_numberOf_f15) (fun _ h9 => h9) rfl dX2_numberOf_25 ?_
  refine lv_imul hx hb dX2_numberOf_28 ?_
  refine lv_isub hx hb dX2_numberOf_29 ?_
  refine lv_aload_n hx hb dX2_numberOf_30 rfl (lv_at hl 1 rfl) ?_
  refine va_get (D := G.1) (ci := 2) (v := .int v_w) (C := RX2) (T := TX2) (N := 3) hx hb hts fw_X2_numberOf_X2 hown hK.1 hP 0 rfl rfl 0 (by decide) (hts (.fieldLink RX2 9 "HalftoneScreens$Lattice" "w" "I") lk_X2_numberOf_f9) (fun _ h9 => h9) rfl dX2_numberOf_31 ?_
  obtain ⟨r2_0, g2, h⟩ := bnd1_e h
  refine roNi1 (rest := [.int ((a1 - (r1_0 * v_h)) * v_w)]) (As := [.int (a0 - (r1_0 * v_s)), .int v_w]) S (ctX4_mod l G (a0 - (r1_0 * v_s)) v_w r2_0 g2) ⟨va_cnB 2 hts gX2_numberOf_X4_mod_n29 rfl rfl rfl (hK.2.1 _ (List.mem_of_getElem? (i := 5) rfl)) (hts (.initialized RX4) lk_X2_numberOf_iX4) hsX4_mod ⟨Nat.le_of_ble_eq_true rfl, Nat.le_of_ble_eq_true rfl⟩, (hts (.static yX4_mod) lk_X2_numberOf_s_mod), trivial⟩ hK hP [] rfl rfl hl.1 rfl (Nat.le_of_ble_eq_true rfl) dX2_numberOf_34 ⟨Nat.le_refl _, Nat.le_refl _⟩ (fun _ => ?_)
  refine lv_iadd hx hb dX2_numberOf_37 ?_
  exact hret _ _ _ ⟨smi h, trivial⟩ rfl dX2_numberOf_38
theorem lk_X2_span_iX4 : Cond.initialized RX4 ∈ wsX2_span := List.mem_of_getElem? (i := 9) rfl
theorem lk_X2_span_s_div : Cond.static yX4_div ∈ wsX2_span := List.mem_of_getElem? (i := 8) rfl
theorem lk_X2_span_s_gcd : Cond.static yX4_gcd ∈ wsX2_span := List.mem_of_getElem? (i := 11) rfl
theorem fw_X2_span_X2 : ∀ w ∈ wsX20, w ∈ wsX2_span := fun w h => List.mem_cons_of_mem _ (List.mem_append_right _ h)
theorem lk_X2_span_f9 : Cond.fieldLink RX2 9 "HalftoneScreens$Lattice" "w" "I" ∈ wsX2_span := List.mem_of_getElem? (i := 1) rfl
theorem lk_X2_span_m38 : Cond.methodLink RX2 38 Lib.Math.abs.name ∈ wsX2_span := List.mem_of_getElem? (i := 2) rfl
theorem lk_X2_span_sabs : Cond.static Lib.Math.abs.name ∈ wsX2_span := List.mem_of_getElem? (i := 3) rfl
theorem lk_X2_span_iM : Cond.initialized "java/lang/Math" ∈ wsX2_span := List.mem_of_getElem? (i := 4) rfl
theorem lk_X2_span_cabs : Cond.code Lib.Math.abs.name Lib.Math.abs.code 1 (some .int) ∈ wsX2_span := List.mem_of_getElem? (i := 5) rfl
theorem lk_X2_span_f18 : Cond.fieldLink RX2 18 "HalftoneScreens$Lattice" "h" "I" ∈ wsX2_span := List.mem_of_getElem? (i := 6) rfl
theorem lk_X2_span_s_mod : Cond.static yX4_mod ∈ wsX2_span := List.mem_of_getElem? (i := 14) rfl
theorem lk_X2_span_f15 : Cond.fieldLink RX2 15 "HalftoneScreens$Lattice" "s" "I" ∈ wsX2_span := List.mem_of_getElem? (i := 7) rfl
theorem hsX4_div : yX4_div.cls ≠ "java/lang/invoke/MethodHandle" ∧ yX4_div.cls ≠ "java/lang/invoke/VarHandle" ∧ (parseMethodDescriptor yX4_div.desc).map (fun d => d.parameters.length) = some 2 := by decide +kernel
theorem hvX4_div : yX4_div.cls = RX4 ∧ yX4_div.cls ≠ "java/lang/invoke/MethodHandle" ∧ yX4_div.cls ≠ "java/lang/invoke/VarHandle" ∧ (parseMethodDescriptor yX4_div.desc).map (fun d => d.parameters.length) = some 2 := ⟨rfl, hsX4_div⟩
theorem hsX4_gcd : yX4_gcd.cls ≠ "java/lang/invoke/MethodHandle" ∧ yX4_gcd.cls ≠ "java/lang/invoke/VarHandle" ∧ (parseMethodDescriptor yX4_gcd.desc).map (fun d => d.parameters.length) = some 2 := by decide +kernel
theorem hvX4_gcd : yX4_gcd.cls = RX4 ∧ yX4_gcd.cls ≠ "java/lang/invoke/MethodHandle" ∧ yX4_gcd.cls ≠ "java/lang/invoke/VarHandle" ∧ (parseMethodDescriptor yX4_gcd.desc).map (fun d => d.parameters.length) = some 2 := ⟨rfl, hsX4_gcd⟩
abbrev rmX2_span : Room := { frames := 2, cells := 0, slots := 0, locals := 46 }
set_option maxHeartbeats 4000000 in
set_option maxRecDepth 100000 in
theorem ctX2_span (l : Launch) (G : GG) (v_q0 : Nat) (v_w : Int32) (v_s : Int32) (v_h : Int32) (a0 : Int32) (a1 : Int32) (a2 : Int32) (a3 : Int32) (a4 : Int32) (o0 : Int32) (o1 : Int32) (o2 : Int32) (h : mX2_span a0 a1 a2 a3 a4 = some (o0, o1, o2))  : Met l yX2_span wsX2_span rmX2_span (va_Pc [.ref v_q0, .int a0, .int a1, .int a2, .int a3, .int a4] (PreD G (wdX2 G v_q0 v_w v_s v_h) (fun _ => True))) (QwA G (va_A0 (wdX2 G v_q0 v_w v_s v_h)) (wdX2 G v_q0 o0 o1 o2) none True) 0 0 (va_A0 (wdX2 G v_q0 v_w v_s v_h)) := by
  refine of_wv (cc := cX2_span) (maxL := 10) (plainFor_of_name (by decide)) rfl (Nat.le_of_ble_eq_true rfl) ?_
  intro p e s m args below meth c ls Q A S hl hP hD hS hK hX hA hret
  obtain ⟨H, hH⟩ : ∃ H, H = s.heap := ⟨_, rfl⟩
  obtain ⟨locs, hlocs⟩ : ∃ L : List Loc, L = [] := ⟨_, rfl⟩
  rw [← hlocs]
  rw [← hlocs] at hS
  have hP : va_P G.1 vwCl (wdX2 G v_q0 v_w v_s v_h) H := by rw [hH]; exact hP
  have hS : va_S A s.heap H locs := by rw [hH]; exact hS
  suffices hgo : W p l e rmX2_span s m args below meth c H locs 0 0 Q (F0 m 0 ls []) by rw [hH] at hgo; exact hgo
  have S : CallFix p m c cX2_span 10 s args wsX2_span RX2 := S
  obtain ⟨hx, hb, hml, hown, hts⟩ := id S
  have hl : lv_has ls 10 [(0, .ref v_q0), (1, .int a0), (2, .int a1), (3, .int a2), (4, .int a3), (5, .int a4)] := hl
  unfold mX2_span at h
  refine lv_iconst (v := 0) hx hb dX2_span_0 (by decide) ?_
  refine lv_istore (lv' := [(6, .int 0), (0, .ref v_q0), (1, .int a0), (2, .int a1), (3, .int a2), (4, .int a3), (5, .int a4)]) hx hb dX2_span_1 hl (by decide) rfl (fun ls hl => ?_)
  obtain ⟨u1_0, u1_1, u1_2, u1_3, u1_4, g1, h⟩ := bnd5_e h
  have L1 : ∀ (fu : Nat) (v1_0 : Int32) (v1_1 : Int32) (v1_2 : Int32) (v1_3 : Int32) (v1_4 : Int32) (u1_0 : Int32) (u1_1 : Int32) (u1_2 : Int32) (u1_3 : Int32) (u1_4 : Int32) (H : Heap) (locs : List Loc) (ls : Array Slot), mX2_span_L3  fu v1_0 v1_1 v1_2 v1_3 v1_4 = some (u1_0, u1_1, u1_2, u1_3, u1_4) → lv_has ls 10 [(6, .int v1_0), (0, .ref v_q0), (1, .int v1_1), (2, .int v1_2), (3, .int v1_3), (4, .int v1_4), (5, .int a4)] → va_P G.1 vwCl (wdX2 G v_q0 v_w v_s v_h) H → va_D A (wdX2 G v_q0 v_w v_s v_h) → va_S A s.heap H locs → (∀ (H : Heap) (locs : List Loc) (ls : Array Slot), lv_has ls 10 [(6, .int u1_0), (0, .ref v_q0), (1, .int u1_1), (2, .int u1_2), (3, .int u1_3), (4, .int u1_4), (5, .int a4)] → va_P G.1 vwCl (wdX2 G v_q0 v_w v_s v_h) H → va_D A (wdX2 G v_q0 v_w v_s v_h) → va_S A s.heap H locs → W p l e rmX2_span s m args below meth c H locs 0 0 Q (F0 m 59 ls [])) → W p l e rmX2_span s m args below meth c H locs 0 0 Q (F0 m 3 ls []) := by
    intro fu
    induction fu with
    | zero => intro v1_0 v1_1 v1_2 v1_3 v1_4 u1_0 u1_1 u1_2 u1_3 u1_4 H locs ls h; exact nomatch h
    | succ fu ih =>
      intro v1_0 v1_1 v1_2 v1_3 v1_4 u1_0 u1_1 u1_2 u1_3 u1_4 H locs ls h hl hP hD hS kE
      rw [mX2_span_L3] at h
      refine lv_iload hx hb dX2_span_3 (lv_at hl 0 rfl) ?_
      refine lv_sipush (v := 1000) hx hb dX2_span_5 (by decide) ?_
      refine lv_icmp_ge (tgt := 59) hx hb dX2_span_8 (by decide) (fun c2 => ?_) (fun c2 => ?_)
      · replace h := ite_t c2 h
        obtain ⟨rfl, rfl, rfl, rfl, rfl⟩ := sm5 h
        exact kE H locs ls hl hP hD hS
      · replace h := ite_f c2 h
        refine lv_iload hx hb dX2_span_11 (lv_at hl 5 rfl) ?_
        refine lv_if_eq (tgt := 59) hx hb dX2_span_13 (by decide) (fun c3 => ?_) (fun c3 => ?_)
        · replace h := ite_t c3 h
          obtain ⟨rfl, rfl, rfl, rfl, rfl⟩ := sm5 h
          exact kE H locs ls hl hP hD hS
        · replace h := ite_f c3 h
          refine lv_iload_n hx hb dX2_span_16 rfl (lv_at hl 3 rfl) ?_
          refine lv_iload hx hb dX2_span_17 (lv_at hl 5 rfl) ?_
          obtain ⟨r4_0, g4, h⟩ := bnd1_e h
          refine roNi1 (rest := []) (As := [.int v1_2, .int v1_4]) S (ctX4_div l G v1_2 v1_4 r4_0 g4) ⟨va_cnB 2 hts gX2_span_X4_div_n32 rfl rfl rfl (hK.2.1 _ (List.mem_of_getElem? (i := 6) rfl)) (hts (.initialized RX4) lk_X2_span_iX4) hsX4_div ⟨Nat.le_of_ble_eq_true rfl, Nat.le_of_ble_eq_true rfl⟩, (hts (.static yX4_div) lk_X2_span_s_div), trivial⟩ hK hP [] rfl rfl hl.1 rfl (Nat.le_of_ble_eq_true rfl) dX2_span_19 ⟨Nat.le_refl _, Nat.le_refl _⟩ (fun _ => ?_)
          refine lv_istore (lv' := [(7, .int r4_0), (6, .int v1_0), (0, .ref v_q0), (1, .int v1_1), (2, .int v1_2), (3, .int v1_3), (4, .int v1_4), (5, .int a4)]) hx hb dX2_span_22 hl (by decide) rfl (fun ls hl => ?_)
          refine lv_iload_n hx hb dX2_span_24 rfl (lv_at hl 3 rfl) ?_
          refine lv_iload hx hb dX2_span_25 (lv_at hl 0 rfl) ?_
          refine lv_iload_n hx hb dX2_span_27 rfl (lv_at hl 5 rfl) ?_
          refine lv_imul hx hb dX2_span_28 ?_
          refine lv_isub hx hb dX2_span_29 ?_
          refine lv_topi (fun x5 e5 => ?_)
          replace h := nmB_e e5 h
          refine lv_istore (lv' := [(8, .int x5), (7, .int r4_0), (6, .int v1_0), (0, .ref v_q0), (1, .int v1_1), (2, .int v1_2), (3, .int v1_3), (4, .int v1_4), (5, .int a4)]) hx hb dX2_span_30 hl (by decide) rfl (fun ls hl => ?_)
          refine lv_iload_n hx hb dX2_span_32 rfl (lv_at hl 5 rfl) ?_
          refine lv_iload hx hb dX2_span_33 (lv_at hl 1 rfl) ?_
          refine lv_iload hx hb dX2_span_35 (lv_at hl 7 rfl) ?_
          refine lv_imul hx hb dX2_span_37 ?_
          refine lv_isub hx hb dX2_span_38 ?_
          refine lv_topi (fun x6 e6 => ?_)
          replace h := nmB_e e6 h
          refine lv_istore (lv' := [(9, .int x6), (8, .int x5), (7, .int r4_0), (6, .int v1_0), (0, .ref v_q0), (1, .int v1_1), (2, .int v1_2), (3, .int v1_3), (4, .int v1_4), (5, .int a4)]) hx hb dX2_span_39 hl (by decide) rfl (fun ls hl => ?_)
          refine lv_iload_n hx hb dX2_span_41 rfl (lv_at hl 7 rfl) ?_
          refine lv_istore_n (lv' := [(1, .int v1_3), (9, .int x6), (8, .int x5), (7, .int r4_0), (6, .int v1_0), (0, .ref v_q0), (2, .int v1_2), (3, .int v1_3), (4, .int v1_4), (5, .int a4)]) hx hb dX2_span_42 rfl hl (by decide) rfl (fun ls hl => ?_)
          refine lv_iload hx hb dX2_span_43 (lv_at hl 8 rfl) ?_
          refine lv_istore_n (lv' := [(2, .int v1_4), (1, .int v1_3), (9, .int x6), (8, .int x5), (7, .int r4_0), (6, .int v1_0), (0, .ref v_q0), (3, .int v1_3), (4, .int v1_4), (5, .int a4)]) hx hb dX2_span_45 rfl hl (by decide) rfl (fun ls hl => ?_)
          refine lv_iload hx hb dX2_span_46 (lv_at hl 3 rfl) ?_
          refine lv_istore_n (lv' := [(3, .int x5), (2, .int v1_4), (1, .int v1_3), (9, .int x6), (8, .int x5), (7, .int r4_0), (6, .int v1_0), (0, .ref v_q0), (4, .int v1_4), (5, .int a4)]) hx hb dX2_span_48 rfl hl (by decide) rfl (fun ls hl => ?_)
          refine lv_iload hx hb dX2_span_49 (lv_at hl 3 rfl) ?_
          refine lv_istore (lv' := [(4, .int x6), (3, .int x5), (2, .int v1_4), (1, .int v1_3), (9, .int x6), (8, .int x5), (7, .int r4_0), (6, .int v1_0), (0, .ref v_q0), (5, .int a4)]) hx hb dX2_span_51 hl (by decide) rfl (fun ls hl => ?_)
          obtain ⟨x7, e7⟩ : ∃ y : Int32, y = v1_0 + 1 := ⟨_, rfl⟩
          replace h := nmB_e e7 h
          refine lv_iinc (v := x7) (lv' := [(6, .int x7), (4, .int x6), (3, .int x5), (2, .int v1_4), (1, .int v1_3), (9, .int x6), (8, .int x5), (7, .int r4_0), (0, .ref v_q0), (5, .int a4)]) hx hb dX2_span_53 hl (k := 7) rfl (by rw [e7]; rfl) (by decide) rfl (fun ls hl => ?_)
          refine lv_goto (tgt := 3) hx hb dX2_span_56 (by decide) ?_
          exact ih x7 v1_3 v1_4 x5 x6 u1_0 u1_1 u1_2 u1_3 u1_4 H locs ls h (lv_sub hl [0, 8, 4, 3, 2, 1, 9] rfl) hP hD hS kE
  refine L1 FU 0 a0 a1 a2 a3 u1_0 u1_1 u1_2 u1_3 u1_4 H locs ls g1 hl hP hD hS (fun H locs ls hl hP hD hS => ?_)
  refine lv_aload_n hx hb dX2_span_59 rfl (lv_at hl 1 rfl) ?_
  refine lv_iload hx hb dX2_span_60 (lv_at hl 6 rfl) ?_
  refine lv_iload_n hx hb dX2_span_62 rfl (lv_at hl 4 rfl) ?_
  obtain ⟨r8_0, g8, h⟩ := bnd1_e h
  refine roNi1 (rest := [.ref v_q0]) (As := [.int a4, .int u1_3]) S (ctX4_gcd l G a4 u1_3 r8_0 g8) ⟨va_cnB 2 hts gX2_span_X4_gcd_n35 rfl rfl rfl (hK.2.1 _ (List.mem_of_getElem? (i := 7) rfl)) (hts (.initialized RX4) lk_X2_span_iX4) hsX4_gcd ⟨Nat.le_of_ble_eq_true rfl, Nat.le_of_ble_eq_true rfl⟩, (hts (.static yX4_gcd) lk_X2_span_s_gcd), trivial⟩ hK hP [] rfl rfl hl.1 rfl (Nat.le_of_ble_eq_true rfl) dX2_span_63 ⟨Nat.le_refl _, Nat.le_refl _⟩ (fun _ => ?_)
  refine va_put (D := G.1) (ci := 2) (v := .int r8_0) (ty := .int) (C := RX2) (T := TX2) (N := 3) hx hb hts fw_X2_span_X2 tyX2 tyX2_ok nmX2 hown hK.1 hP hD hS 0 rfl rfl 0 (by decide) (hts (.fieldLink RX2 9 "HalftoneScreens$Lattice" "w" "I") lk_X2_span_f9) (fun _ h9 => h9) rfl (tyX2_ok 0 (by decide)) rfl rfl (Nat.le_of_ble_eq_true rfl) dX2_span_66 (fun H locs hP hD hS => ?_)
  have hP : va_P G.1 vwCl (wdX2 G v_q0 r8_0 v_s v_h) H := hP
  have hD : va_D A (wdX2 G v_q0 r8_0 v_s v_h) := hD
  refine lv_aload_n hx hb dX2_span_69 rfl (lv_at hl 1 rfl) ?_
  refine lv_iload_n hx hb dX2_span_70 rfl (lv_at hl 3 rfl) ?_
  refine va_mabs hx hb (hml.trans hl.1.symm) hown (hts (.methodLink RX2 38 Lib.Math.abs.name) lk_X2_span_m38) (hts (.static Lib.Math.abs.name) lk_X2_span_sabs) (hts (.initialized "java/lang/Math") lk_X2_span_iM) (hts (.code Lib.Math.abs.name Lib.Math.abs.code 1 (some .int)) lk_X2_span_cabs) (Nat.le_of_ble_eq_true rfl) (Nat.le_of_ble_eq_true rfl) (Nat.le_refl _) (Nat.le_refl _) dX2_span_71 ?_
  refine lv_topi (fun x9 e9 => ?_)
  replace h := nmB_e e9 h
  refine va_put (D := G.1) (ci := 2) (v := .int x9) (ty := .int) (C := RX2) (T := TX2) (N := 3) hx hb hts fw_X2_span_X2 tyX2 tyX2_ok nmX2 hown hK.1 hP hD hS 0 rfl rfl 2 (by decide) (hts (.fieldLink RX2 18 "HalftoneScreens$Lattice" "h" "I") lk_X2_span_f18) (fun _ h9 => h9) rfl (tyX2_ok 2 (by decide)) rfl rfl (Nat.le_of_ble_eq_true rfl) dX2_span_74 (fun H locs hP hD hS => ?_)
  have hP : va_P G.1 vwCl (wdX2 G v_q0 r8_0 v_s x9) H := hP
  have hD : va_D A (wdX2 G v_q0 r8_0 v_s x9) := hD
  refine lv_aload_n hx hb dX2_span_77 rfl (lv_at hl 1 rfl) ?_
  refine lv_iload_n hx hb dX2_span_78 rfl (lv_at hl 3 rfl) ?_
  refine lv_if_ge (tgt := 87) hx hb dX2_span_79 (by decide) (fun c10 => ?_) (fun c10 => ?_)
  · replace h := ite_t c10 h
    refine lv_iload_n hx hb dX2_span_87 rfl (lv_at hl 2 rfl) ?_
    refine lv_aload_n hx hb dX2_span_88 rfl (lv_at hl 1 rfl) ?_
    refine va_get (D := G.1) (ci := 2) (v := .int r8_0) (C := RX2) (T := TX2) (N := 3) hx hb hts fw_X2_span_X2 hown hK.1 hP 0 rfl rfl 0 (by decide) (hts (.fieldLink RX2 9 "HalftoneScreens$Lattice" "w" "I") lk_X2_span_f9) (fun _ h9 => h9) rfl dX2_span_89 ?_
    obtain ⟨r11_0, g11, h⟩ := bnd1_e h
    refine roNi1 (rest := [.ref v_q0]) (As := [.int u1_1, .int r8_0]) S (ctX4_mod l G u1_1 r8_0 r11_0 g11) ⟨va_cnB 2 hts gX2_span_X4_mod_n29 rfl rfl rfl (hK.2.1 _ (List.mem_of_getElem? (i := 5) rfl)) (hts (.initialized RX4) lk_X2_span_iX4) hsX4_mod ⟨Nat.le_of_ble_eq_true rfl, Nat.le_of_ble_eq_true rfl⟩, (hts (.static yX4_mod) lk_X2_span_s_mod), trivial⟩ hK hP [] rfl rfl hl.1 rfl (Nat.le_of_ble_eq_true rfl) dX2_span_92 ⟨Nat.le_refl _, Nat.le_refl _⟩ (fun _ => ?_)
    refine va_put (D := G.1) (ci := 2) (v := .int r11_0) (ty := .int) (C := RX2) (T := TX2) (N := 3) hx hb hts fw_X2_span_X2 tyX2 tyX2_ok nmX2 hown hK.1 hP hD hS 0 rfl rfl 1 (by decide) (hts (.fieldLink RX2 15 "HalftoneScreens$Lattice" "s" "I") lk_X2_span_f15) (fun _ h9 => h9) rfl (tyX2_ok 1 (by decide)) rfl rfl (Nat.le_of_ble_eq_true rfl) dX2_span_95 (fun H locs hP hD hS => ?_)
    have hP : va_P G.1 vwCl (wdX2 G v_q0 r8_0 r11_0 x9) H := hP
    have hD : va_D A (wdX2 G v_q0 r8_0 r11_0 x9) := hD
    obtain ⟨rfl, rfl, rfl⟩ := sm3 h
    exact hret _ _ _ _ trivial hP hD hS dX2_span_98
  · replace h := ite_f c10 h
    refine lv_iload_n hx hb dX2_span_82 rfl (lv_at hl 2 rfl) ?_
    refine lv_ineg hx hb dX2_span_83 ?_
    refine lv_goto (tgt := 88) hx hb dX2_span_84 (by decide) ?_
    refine lv_aload_n hx hb dX2_span_88 rfl (lv_at hl 1 rfl) ?_
    refine va_get (D := G.1) (ci := 2) (v := .int r8_0) (C := RX2) (T := TX2) (N := 3) hx hb hts fw_X2_span_X2 hown hK.1 hP 0 rfl rfl 0 (by decide) (hts (.fieldLink RX2 9 "HalftoneScreens$Lattice" "w" "I") lk_X2_span_f9) (fun _ h9 => h9) rfl dX2_span_89 ?_
    obtain ⟨r12_0, g12, h⟩ := bnd1_e h
    refine roNi1 (rest := [.ref v_q0]) (As := [.int (-u1_1), .int r8_0]) S (ctX4_mod l G (-u1_1) r8_0 r12_0 g12) ⟨va_cnB 2 hts gX2_span_X4_mod_n29 rfl rfl rfl (hK.2.1 _ (List.mem_of_getElem? (i := 5) rfl)) (hts (.initialized RX4) lk_X2_span_iX4) hsX4_mod ⟨Nat.le_of_ble_eq_true rfl, Nat.le_of_ble_eq_true rfl⟩, (hts (.static yX4_mod) lk_X2_span_s_mod), trivial⟩ hK hP [] rfl rfl hl.1 rfl (Nat.le_of_ble_eq_true rfl) dX2_span_92 ⟨Nat.le_refl _, Nat.le_refl _⟩ (fun _ => ?_)
    refine va_put (D := G.1) (ci := 2) (v := .int r12_0) (ty := .int) (C := RX2) (T := TX2) (N := 3) hx hb hts fw_X2_span_X2 tyX2 tyX2_ok nmX2 hown hK.1 hP hD hS 0 rfl rfl 1 (by decide) (hts (.fieldLink RX2 15 "HalftoneScreens$Lattice" "s" "I") lk_X2_span_f15) (fun _ h9 => h9) rfl (tyX2_ok 1 (by decide)) rfl rfl (Nat.le_of_ble_eq_true rfl) dX2_span_95 (fun H locs hP hD hS => ?_)
    have hP : va_P G.1 vwCl (wdX2 G v_q0 r8_0 r12_0 x9) H := hP
    have hD : va_D A (wdX2 G v_q0 r8_0 r12_0 x9) := hD
    obtain ⟨rfl, rfl, rfl⟩ := sm3 h
    exact hret _ _ _ _ trivial hP hD hS dX2_span_98
theorem fw_X2_become_X2 : ∀ w ∈ wsX20, w ∈ wsX2_become := fun w h => List.mem_cons_of_mem _ (List.mem_append_right _ h)
theorem lk_X2_become_f9 : Cond.fieldLink RX2 9 "HalftoneScreens$Lattice" "w" "I" ∈ wsX2_become := List.mem_of_getElem? (i := 1) rfl
theorem lk_X2_become_f15 : Cond.fieldLink RX2 15 "HalftoneScreens$Lattice" "s" "I" ∈ wsX2_become := List.mem_of_getElem? (i := 2) rfl
theorem lk_X2_become_f18 : Cond.fieldLink RX2 18 "HalftoneScreens$Lattice" "h" "I" ∈ wsX2_become := List.mem_of_getElem? (i := 3) rfl
abbrev rmX2_become : Room := { frames := 0, cells := 0, slots := 0, locals := 0 }
set_option maxHeartbeats 4000000 in
set_option maxRecDepth 100000 in
theorem ctX2_become (l : Launch) (G : GG) (v_q0 : Nat) (o_q0 : Nat) (v_w : Int32) (v_s : Int32) (v_h : Int32) (o_w : Int32) (o_s : Int32) (o_h : Int32) (o0 : Int32) (o1 : Int32) (o2 : Int32) (h : mX2_become o_w o_s o_h = some (o0, o1, o2))  : Met l yX2_become wsX2_become rmX2_become (va_Pc [.ref v_q0, .ref o_q0] (PreD G (wdX2 G v_q0 v_w v_s v_h ++ wdX2 G o_q0 o_w o_s o_h) (fun _ => True))) (QwA G (va_A0 (wdX2 G v_q0 v_w v_s v_h ++ wdX2 G o_q0 o_w o_s o_h)) (wdX2 G v_q0 o0 o1 o2 ++ wdX2 G o_q0 o_w o_s o_h) none True) 0 0 (va_A0 (wdX2 G v_q0 v_w v_s v_h ++ wdX2 G o_q0 o_w o_s o_h)) := by
  refine of_wv (cc := cX2_become) (maxL := 2) (plainFor_of_name (by decide)) rfl (Nat.le_of_ble_eq_true rfl) ?_
  intro p e s m args below meth c ls Q A S hl hP hD hS hK hX hA hret
  obtain ⟨H, hH⟩ : ∃ H, H = s.heap := ⟨_, rfl⟩
  obtain ⟨locs, hlocs⟩ : ∃ L : List Loc, L = [] := ⟨_, rfl⟩
  rw [← hlocs]
  rw [← hlocs] at hS
  have hP : va_P G.1 vwCl (wdX2 G v_q0 v_w v_s v_h ++ wdX2 G o_q0 o_w o_s o_h) H := by rw [hH]; exact hP
  have hS : va_S A s.heap H locs := by rw [hH]; exact hS
  suffices hgo : W p l e rmX2_become s m args below meth c H locs 0 0 Q (F0 m 0 ls []) by rw [hH] at hgo; exact hgo
  have S : CallFix p m c cX2_become 2 s args wsX2_become RX2 := S
  obtain ⟨hx, hb, hml, hown, hts⟩ := id S
  have hl : lv_has ls 2 [(0, .ref v_q0), (1, .ref o_q0)] := hl
  unfold mX2_become at h
  refine lv_aload_n hx hb dX2_become_0 rfl (lv_at hl 0 rfl) ?_
  refine lv_aload_n hx hb dX2_become_1 rfl (lv_at hl 1 rfl) ?_
  refine va_get (D := G.1) (ci := 2) (v := .int o_w) (C := RX2) (T := TX2) (N := 3) hx hb hts fw_X2_become_X2 hown hK.1 hP 1 rfl rfl 0 (by decide) (hts (.fieldLink RX2 9 "HalftoneScreens$Lattice" "w" "I") lk_X2_become_f9) (fun _ h9 => h9) rfl dX2_become_2 ?_
  refine va_put (D := G.1) (ci := 2) (v := .int o_w) (ty := .int) (C := RX2) (T := TX2) (N := 3) hx hb hts fw_X2_become_X2 tyX2 tyX2_ok nmX2 hown hK.1 hP hD hS 0 rfl rfl 0 (by decide) (hts (.fieldLink RX2 9 "HalftoneScreens$Lattice" "w" "I") lk_X2_become_f9) (fun _ h9 => h9) rfl (tyX2_ok 0 (by decide)) rfl rfl (Nat.le_of_ble_eq_true rfl) dX2_become_5 (fun H locs hP hD hS => ?_)
  have hP : va_P G.1 vwCl (wdX2 G v_q0 o_w v_s v_h ++ wdX2 G o_q0 o_w o_s o_h) H := hP
  have hD : va_D A (wdX2 G v_q0 o_w v_s v_h ++ wdX2 G o_q0 o_w o_s o_h) := hD
  refine lv_aload_n hx hb dX2_become_8 rfl (lv_at hl 0 rfl) ?_
  refine lv_aload_n hx hb dX2_become_9 rfl (lv_at hl 1 rfl) ?_
  refine va_get (D := G.1) (ci := 2) (v := .int o_s) (C := RX2) (T := TX2) (N := 3) hx hb hts fw_X2_become_X2 hown hK.1 hP 1 rfl rfl 1 (by decide) (hts (.fieldLink RX2 15 "HalftoneScreens$Lattice" "s" "I") lk_X2_become_f15) (fun _ h9 => h9) rfl dX2_become_10 ?_
  refine va_put (D := G.1) (ci := 2) (v := .int o_s) (ty := .int) (C := RX2) (T := TX2) (N := 3) hx hb hts fw_X2_become_X2 tyX2 tyX2_ok nmX2 hown hK.1 hP hD hS 0 rfl rfl 1 (by decide) (hts (.fieldLink RX2 15 "HalftoneScreens$Lattice" "s" "I") lk_X2_become_f15) (fun _ h9 => h9) rfl (tyX2_ok 1 (by decide)) rfl rfl (Nat.le_of_ble_eq_true rfl) dX2_become_13 (fun H locs hP hD hS => ?_)
  have hP : va_P G.1 vwCl (wdX2 G v_q0 o_w o_s v_h ++ wdX2 G o_q0 o_w o_s o_h) H := hP
  have hD : va_D A (wdX2 G v_q0 o_w o_s v_h ++ wdX2 G o_q0 o_w o_s o_h) := hD
  refine lv_aload_n hx hb dX2_become_16 rfl (lv_at hl 0 rfl) ?_
  refine lv_aload_n hx hb dX2_become_17 rfl (lv_at hl 1 rfl) ?_
  refine va_get (D := G.1) (ci := 2) (v := .int o_h) (C := RX2) (T := TX2) (N := 3) hx hb hts fw_X2_become_X2 hown hK.1 hP 1 rfl rfl 2 (by decide) (hts (.fieldLink RX2 18 "HalftoneScreens$Lattice" "h" "I") lk_X2_become_f18) (fun _ h9 => h9) rfl dX2_become_18 ?_
  refine va_put (D := G.1) (ci := 2) (v := .int o_h) (ty := .int) (C := RX2) (T := TX2) (N := 3) hx hb hts fw_X2_become_X2 tyX2 tyX2_ok nmX2 hown hK.1 hP hD hS 0 rfl rfl 2 (by decide) (hts (.fieldLink RX2 18 "HalftoneScreens$Lattice" "h" "I") lk_X2_become_f18) (fun _ h9 => h9) rfl (tyX2_ok 2 (by decide)) rfl rfl (Nat.le_of_ble_eq_true rfl) dX2_become_21 (fun H locs hP hD hS => ?_)
  have hP : va_P G.1 vwCl (wdX2 G v_q0 o_w o_s o_h ++ wdX2 G o_q0 o_w o_s o_h) H := hP
  have hD : va_D A (wdX2 G v_q0 o_w o_s o_h ++ wdX2 G o_q0 o_w o_s o_h) := hD
  obtain ⟨rfl, rfl, rfl⟩ := sm3 h
  exact hret _ _ _ _ trivial hP hD hS dX2_become_24
theorem fw_X2_addAll_X2 : ∀ w ∈ wsX20, w ∈ wsX2_addAll := fun w h => List.mem_cons_of_mem _ (List.mem_append_right _ h)
theorem lk_X2_addAll_f15 : Cond.fieldLink RX2 15 "HalftoneScreens$Lattice" "s" "I" ∈ wsX2_addAll := List.mem_of_getElem? (i := 1) rfl
theorem lk_X2_addAll_f18 : Cond.fieldLink RX2 18 "HalftoneScreens$Lattice" "h" "I" ∈ wsX2_addAll := List.mem_of_getElem? (i := 2) rfl
theorem lk_X2_addAll_f9 : Cond.fieldLink RX2 9 "HalftoneScreens$Lattice" "w" "I" ∈ wsX2_addAll := List.mem_of_getElem? (i := 3) rfl
theorem lk_X2_addAll_iX4 : Cond.initialized RX4 ∈ wsX2_addAll := List.mem_of_getElem? (i := 5) rfl
theorem lk_X2_addAll_s_gcd : Cond.static yX4_gcd ∈ wsX2_addAll := List.mem_of_getElem? (i := 4) rfl
theorem hsX2_span : yX2_span.cls ≠ "java/lang/invoke/MethodHandle" ∧ yX2_span.cls ≠ "java/lang/invoke/VarHandle" ∧ (parseMethodDescriptor yX2_span.desc).map (fun d => d.parameters.length) = some 5 := by decide +kernel
theorem hvX2_span : yX2_span.cls = RX2 ∧ yX2_span.cls ≠ "java/lang/invoke/MethodHandle" ∧ yX2_span.cls ≠ "java/lang/invoke/VarHandle" ∧ (parseMethodDescriptor yX2_span.desc).map (fun d => d.parameters.length) = some 5 := ⟨rfl, hsX2_span⟩
abbrev rmX2_addAll : Room := { frames := 3, cells := 0, slots := 0, locals := 75 }
set_option maxHeartbeats 4000000 in
set_option maxRecDepth 100000 in
theorem ctX2_addAll (l : Launch) (G : GG) (v_q0 : Nat) (o_q0 : Nat) (v_w : Int32) (v_s : Int32) (v_h : Int32) (o_w : Int32) (o_s : Int32) (o_h : Int32) (o0 : Int32) (o1 : Int32) (o2 : Int32) (h : mX2_addAll v_w v_s v_h o_w o_s o_h = some (o0, o1, o2))  : Met l yX2_addAll wsX2_addAll rmX2_addAll (va_Pc [.ref v_q0, .ref o_q0] (PreD G (wdX2 G v_q0 v_w v_s v_h ++ wdX2 G o_q0 o_w o_s o_h) (fun _ => True))) (QwA G (va_A0 (wdX2 G v_q0 v_w v_s v_h ++ wdX2 G o_q0 o_w o_s o_h)) (wdX2 G v_q0 o0 o1 o2 ++ wdX2 G o_q0 o_w o_s o_h) none True) 0 0 (va_A0 (wdX2 G v_q0 v_w v_s v_h ++ wdX2 G o_q0 o_w o_s o_h)) := by
  refine of_wv (cc := cX2_addAll) (maxL := 2) (plainFor_of_name (by decide)) rfl (Nat.le_of_ble_eq_true rfl) ?_
  intro p e s m args below meth c ls Q A S hl hP hD hS hK hX hA hret
  obtain ⟨H, hH⟩ : ∃ H, H = s.heap := ⟨_, rfl⟩
  obtain ⟨locs, hlocs⟩ : ∃ L : List Loc, L = [] := ⟨_, rfl⟩
  rw [← hlocs]
  rw [← hlocs] at hS
  have hP : va_P G.1 vwCl (wdX2 G v_q0 v_w v_s v_h ++ wdX2 G o_q0 o_w o_s o_h) H := by rw [hH]; exact hP
  have hS : va_S A s.heap H locs := by rw [hH]; exact hS
  suffices hgo : W p l e rmX2_addAll s m args below meth c H locs 0 0 Q (F0 m 0 ls []) by rw [hH] at hgo; exact hgo
  have S : CallFix p m c cX2_addAll 2 s args wsX2_addAll RX2 := S
  obtain ⟨hx, hb, hml, hown, hts⟩ := id S
  have hl : lv_has ls 2 [(0, .ref v_q0), (1, .ref o_q0)] := hl
  unfold mX2_addAll at h
  refine lv_aload_n hx hb dX2_addAll_0 rfl (lv_at hl 0 rfl) ?_
  refine lv_aload_n hx hb dX2_addAll_1 rfl (lv_at hl 0 rfl) ?_
  refine va_get (D := G.1) (ci := 2) (v := .int v_s) (C := RX2) (T := TX2) (N := 3) hx hb hts fw_X2_addAll_X2 hown hK.1 hP 0 rfl rfl 1 (by decide) (hts (.fieldLink RX2 15 "HalftoneScreens$Lattice" "s" "I") lk_X2_addAll_f15) (fun _ h9 => h9) rfl dX2_addAll_2 ?_
  refine lv_aload_n hx hb dX2_addAll_5 rfl (lv_at hl 0 rfl) ?_
  refine va_get (D := G.1) (ci := 2) (v := .int v_h) (C := RX2) (T := TX2) (N := 3) hx hb hts fw_X2_addAll_X2 hown hK.1 hP 0 rfl rfl 2 (by decide) (hts (.fieldLink RX2 18 "HalftoneScreens$Lattice" "h" "I") lk_X2_addAll_f18) (fun _ h9 => h9) rfl dX2_addAll_6 ?_
  refine lv_aload_n hx hb dX2_addAll_9 rfl (lv_at hl 1 rfl) ?_
  refine va_get (D := G.1) (ci := 2) (v := .int o_s) (C := RX2) (T := TX2) (N := 3) hx hb hts fw_X2_addAll_X2 hown hK.1 hP 1 rfl rfl 1 (by decide) (hts (.fieldLink RX2 15 "HalftoneScreens$Lattice" "s" "I") lk_X2_addAll_f15) (fun _ h9 => h9) rfl dX2_addAll_10 ?_
  refine lv_aload_n hx hb dX2_addAll_13 rfl (lv_at hl 1 rfl) ?_
  refine va_get (D := G.1) (ci := 2) (v := .int o_h) (C := RX2) (T := TX2) (N := 3) hx hb hts fw_X2_addAll_X2 hown hK.1 hP 1 rfl rfl 2 (by decide) (hts (.fieldLink RX2 18 "HalftoneScreens$Lattice" "h" "I") lk_X2_addAll_f18) (fun _ h9 => h9) rfl dX2_addAll_14 ?_
  refine lv_aload_n hx hb dX2_addAll_17 rfl (lv_at hl 0 rfl) ?_
  refine va_get (D := G.1) (ci := 2) (v := .int v_w) (C := RX2) (T := TX2) (N := 3) hx hb hts fw_X2_addAll_X2 hown hK.1 hP 0 rfl rfl 0 (by decide) (hts (.fieldLink RX2 9 "HalftoneScreens$Lattice" "w" "I") lk_X2_addAll_f9) (fun _ h9 => h9) rfl dX2_addAll_18 ?_
  refine lv_aload_n hx hb dX2_addAll_21 rfl (lv_at hl 1 rfl) ?_
  refine va_get (D := G.1) (ci := 2) (v := .int o_w) (C := RX2) (T := TX2) (N := 3) hx hb hts fw_X2_addAll_X2 hown hK.1 hP 1 rfl rfl 0 (by decide) (hts (.fieldLink RX2 9 "HalftoneScreens$Lattice" "w" "I") lk_X2_addAll_f9) (fun _ h9 => h9) rfl dX2_addAll_22 ?_
  obtain ⟨r1_0, g1, h⟩ := bnd1_e h
  refine roNi1 (rest := [.int o_h, .int o_s, .int v_h, .int v_s, .ref v_q0]) (As := [.int v_w, .int o_w]) S (ctX4_gcd l G v_w o_w r1_0 g1) ⟨va_cnB 2 hts gX2_addAll_X4_gcd_n35 rfl rfl rfl (hK.2.1 _ (List.mem_of_getElem? (i := 7) rfl)) (hts (.initialized RX4) lk_X2_addAll_iX4) hsX4_gcd ⟨Nat.le_of_ble_eq_true rfl, Nat.le_of_ble_eq_true rfl⟩, (hts (.static yX4_gcd) lk_X2_addAll_s_gcd), trivial⟩ hK hP [] rfl rfl hl.1 rfl (Nat.le_of_ble_eq_true rfl) dX2_addAll_25 ⟨Nat.le_refl _, Nat.le_refl _⟩ (fun _ => ?_)
  obtain ⟨r2_0, r2_1, r2_2, g2, h⟩ := bnd3_e h
  refine rwV_back (rest := []) (As := [.int v_s, .int v_h, .int o_s, .int o_h, .int r1_0]) (wr := [(o_q0, .inr (2, [.int o_w, .int o_s, .int o_h]))]) (wf := wdX2 G v_q0 r2_0 r2_1 r2_2 ++ wdX2 G o_q0 o_w o_s o_h) S (ctX2_span l G v_q0 v_w v_s v_h v_s v_h o_s o_h r1_0 r2_0 r2_1 r2_2 g2) (cwV 5 hts gX2_addAll_X2_span rfl rfl rfl hvX2_span ⟨Nat.le_of_ble_eq_true rfl, Nat.le_of_ble_eq_true rfl⟩) hK hP hD hS xb_triv (fun _ _ _ => trivial) [0] [1] [1, 0] rfl rfl rfl rfl rfl rfl rfl 0 2 rfl rfl rfl rfl hl.1 rfl (Nat.le_of_ble_eq_true rfl) dX2_addAll_28 ⟨Nat.le_refl _, Nat.le_refl _⟩ (fun _ H locs hP hD hS => ?_)
  have hP : va_P G.1 vwCl (wdX2 G v_q0 r2_0 r2_1 r2_2 ++ wdX2 G o_q0 o_w o_s o_h) H := hP
  have hD : va_D A (wdX2 G v_q0 r2_0 r2_1 r2_2 ++ wdX2 G o_q0 o_w o_s o_h) := hD
  obtain ⟨rfl, rfl, rfl⟩ := sm3 h
  exact hret _ _ _ _ trivial hP hD hS dX2_addAll_31
theorem fw_X2_keepCommon_X2 : ∀ w ∈ wsX20, w ∈ wsX2_keepCommon := fun w h => List.mem_cons_of_mem _ (List.mem_append_right _ h)
theorem lk_X2_keepCommon_f9 : Cond.fieldLink RX2 9 "HalftoneScreens$Lattice" "w" "I" ∈ wsX2_keepCommon := List.mem_of_getElem? (i := 1) rfl
theorem lk_X2_keepCommon_iX4 : Cond.initialized RX4 ∈ wsX2_keepCommon := List.mem_of_getElem? (i := 5) rfl
theorem lk_X2_keepCommon_s_gcd : Cond.static yX4_gcd ∈ wsX2_keepCommon := List.mem_of_getElem? (i := 4) rfl
theorem lk_X2_keepCommon_f18 : Cond.fieldLink RX2 18 "HalftoneScreens$Lattice" "h" "I" ∈ wsX2_keepCommon := List.mem_of_getElem? (i := 2) rfl
theorem lk_X2_keepCommon_s_div : Cond.static yX4_div ∈ wsX2_keepCommon := List.mem_of_getElem? (i := 11) rfl
theorem lk_X2_keepCommon_f15 : Cond.fieldLink RX2 15 "HalftoneScreens$Lattice" "s" "I" ∈ wsX2_keepCommon := List.mem_of_getElem? (i := 3) rfl
theorem lk_X2_keepCommon_s_mod : Cond.static yX4_mod ∈ wsX2_keepCommon := List.mem_of_getElem? (i := 13) rfl
abbrev rmX2_keepCommon : Room := { frames := 2, cells := 0, slots := 0, locals := 46 }
set_option maxHeartbeats 4000000 in
set_option maxRecDepth 100000 in
theorem ctX2_keepCommon (l : Launch) (G : GG) (v_q0 : Nat) (o_q0 : Nat) (v_w : Int32) (v_s : Int32) (v_h : Int32) (o_w : Int32) (o_s : Int32) (o_h : Int32) (o0 : Int32) (o1 : Int32) (o2 : Int32) (h : mX2_keepCommon v_w v_s v_h o_w o_s o_h = some (o0, o1, o2))  : Met l yX2_keepCommon wsX2_keepCommon rmX2_keepCommon (va_Pc [.ref v_q0, .ref o_q0] (PreD G (wdX2 G v_q0 v_w v_s v_h ++ wdX2 G o_q0 o_w o_s o_h) (fun _ => True))) (QwA G (va_A0 (wdX2 G v_q0 v_w v_s v_h ++ wdX2 G o_q0 o_w o_s o_h)) (wdX2 G v_q0 o0 o1 o2 ++ wdX2 G o_q0 o_w o_s o_h) none True) 0 0 (va_A0 (wdX2 G v_q0 v_w v_s v_h ++ wdX2 G o_q0 o_w o_s o_h)) := by
  refine of_wv (cc := cX2_keepCommon) (maxL := 9) (plainFor_of_name (by decide)) rfl (Nat.le_of_ble_eq_true rfl) ?_
  intro p e s m args below meth c ls Q A S hl hP hD hS hK hX hA hret
  obtain ⟨H, hH⟩ : ∃ H, H = s.heap := ⟨_, rfl⟩
  obtain ⟨locs, hlocs⟩ : ∃ L : List Loc, L = [] := ⟨_, rfl⟩
  rw [← hlocs]
  rw [← hlocs] at hS
  have hP : va_P G.1 vwCl (wdX2 G v_q0 v_w v_s v_h ++ wdX2 G o_q0 o_w o_s o_h) H := by rw [hH]; exact hP
  have hS : va_S A s.heap H locs := by rw [hH]; exact hS
  suffices hgo : W p l e rmX2_keepCommon s m args below meth c H locs 0 0 Q (F0 m 0 ls []) by rw [hH] at hgo; exact hgo
  have S : CallFix p m c cX2_keepCommon 9 s args wsX2_keepCommon RX2 := S
  obtain ⟨hx, hb, hml, hown, hts⟩ := id S
  have hl : lv_has ls 9 [(0, .ref v_q0), (1, .ref o_q0)] := hl
  unfold mX2_keepCommon at h
  refine lv_aload_n hx hb dX2_keepCommon_0 rfl (lv_at hl 0 rfl) ?_
  refine va_get (D := G.1) (ci := 2) (v := .int v_w) (C := RX2) (T := TX2) (N := 3) hx hb hts fw_X2_keepCommon_X2 hown hK.1 hP 0 rfl rfl 0 (by decide) (hts (.fieldLink RX2 9 "HalftoneScreens$Lattice" "w" "I") lk_X2_keepCommon_f9) (fun _ h9 => h9) rfl dX2_keepCommon_1 ?_
  refine lv_aload_n hx hb dX2_keepCommon_4 rfl (lv_at hl 1 rfl) ?_
  refine va_get (D := G.1) (ci := 2) (v := .int o_w) (C := RX2) (T := TX2) (N := 3) hx hb hts fw_X2_keepCommon_X2 hown hK.1 hP 1 rfl rfl 0 (by decide) (hts (.fieldLink RX2 9 "HalftoneScreens$Lattice" "w" "I") lk_X2_keepCommon_f9) (fun _ h9 => h9) rfl dX2_keepCommon_5 ?_
  obtain ⟨r1_0, g1, h⟩ := bnd1_e h
  refine roNi1 (rest := []) (As := [.int v_w, .int o_w]) S (ctX4_gcd l G v_w o_w r1_0 g1) ⟨va_cnB 2 hts gX2_keepCommon_X4_gcd_n35 rfl rfl rfl (hK.2.1 _ (List.mem_of_getElem? (i := 7) rfl)) (hts (.initialized RX4) lk_X2_keepCommon_iX4) hsX4_gcd ⟨Nat.le_of_ble_eq_true rfl, Nat.le_of_ble_eq_true rfl⟩, (hts (.static yX4_gcd) lk_X2_keepCommon_s_gcd), trivial⟩ hK hP [] rfl rfl hl.1 rfl (Nat.le_of_ble_eq_true rfl) dX2_keepCommon_8 ⟨Nat.le_refl _, Nat.le_refl _⟩ (fun _ => ?_)
  refine lv_istore_n (lv' := [(2, .int r1_0), (0, .ref v_q0), (1, .ref o_q0)]) hx hb dX2_keepCommon_11 rfl hl (by decide) rfl (fun ls hl => ?_)
  refine lv_aload_n hx hb dX2_keepCommon_12 rfl (lv_at hl 1 rfl) ?_
  refine va_get (D := G.1) (ci := 2) (v := .int v_h) (C := RX2) (T := TX2) (N := 3) hx hb hts fw_X2_keepCommon_X2 hown hK.1 hP 0 rfl rfl 2 (by decide) (hts (.fieldLink RX2 18 "HalftoneScreens$Lattice" "h" "I") lk_X2_keepCommon_f18) (fun _ h9 => h9) rfl dX2_keepCommon_13 ?_
  refine lv_aload_n hx hb dX2_keepCommon_16 rfl (lv_at hl 1 rfl) ?_
  refine va_get (D := G.1) (ci := 2) (v := .int v_h) (C := RX2) (T := TX2) (N := 3) hx hb hts fw_X2_keepCommon_X2 hown hK.1 hP 0 rfl rfl 2 (by decide) (hts (.fieldLink RX2 18 "HalftoneScreens$Lattice" "h" "I") lk_X2_keepCommon_f18) (fun _ h9 => h9) rfl dX2_keepCommon_17 ?_
  refine lv_aload_n hx hb dX2_keepCommon_20 rfl (lv_at hl 2 rfl) ?_
  refine va_get (D := G.1) (ci := 2) (v := .int o_h) (C := RX2) (T := TX2) (N := 3) hx hb hts fw_X2_keepCommon_X2 hown hK.1 hP 1 rfl rfl 2 (by decide) (hts (.fieldLink RX2 18 "HalftoneScreens$Lattice" "h" "I") lk_X2_keepCommon_f18) (fun _ h9 => h9) rfl dX2_keepCommon_21 ?_
  obtain ⟨r2_0, g2, h⟩ := bnd1_e h
  refine roNi1 (rest := [.int v_h]) (As := [.int v_h, .int o_h]) S (ctX4_gcd l G v_h o_h r2_0 g2) ⟨va_cnB 2 hts gX2_keepCommon_X4_gcd_n35 rfl rfl rfl (hK.2.1 _ (List.mem_of_getElem? (i := 7) rfl)) (hts (.initialized RX4) lk_X2_keepCommon_iX4) hsX4_gcd ⟨Nat.le_of_ble_eq_true rfl, Nat.le_of_ble_eq_true rfl⟩, (hts (.static yX4_gcd) lk_X2_keepCommon_s_gcd), trivial⟩ hK hP [] rfl rfl hl.1 rfl (Nat.le_of_ble_eq_true rfl) dX2_keepCommon_24 ⟨Nat.le_refl _, Nat.le_refl _⟩ (fun _ => ?_)
  obtain ⟨r3_0, g3, h⟩ := bnd1_e h
  refine roNi1 (rest := []) (As := [.int v_h, .int r2_0]) S (ctX4_div l G v_h r2_0 r3_0 g3) ⟨va_cnB 2 hts gX2_keepCommon_X4_div_n32 rfl rfl rfl (hK.2.1 _ (List.mem_of_getElem? (i := 6) rfl)) (hts (.initialized RX4) lk_X2_keepCommon_iX4) hsX4_div ⟨Nat.le_of_ble_eq_true rfl, Nat.le_of_ble_eq_true rfl⟩, (hts (.static yX4_div) lk_X2_keepCommon_s_div), trivial⟩ hK hP [] rfl rfl hl.1 rfl (Nat.le_of_ble_eq_true rfl) dX2_keepCommon_27 ⟨Nat.le_refl _, Nat.le_refl _⟩ (fun _ => ?_)
  refine lv_aload_n hx hb dX2_keepCommon_30 rfl (lv_at hl 2 rfl) ?_
  refine va_get (D := G.1) (ci := 2) (v := .int o_h) (C := RX2) (T := TX2) (N := 3) hx hb hts fw_X2_keepCommon_X2 hown hK.1 hP 1 rfl rfl 2 (by decide) (hts (.fieldLink RX2 18 "HalftoneScreens$Lattice" "h" "I") lk_X2_keepCommon_f18) (fun _ h9 => h9) rfl dX2_keepCommon_31 ?_
  refine lv_imul hx hb dX2_keepCommon_34 ?_
  refine lv_topi (fun x4 e4 => ?_)
  replace h := nmB_e e4 h
  refine lv_istore_n (lv' := [(3, .int x4), (2, .int r1_0), (0, .ref v_q0), (1, .ref o_q0)]) hx hb dX2_keepCommon_35 rfl hl (by decide) rfl (fun ls hl => ?_)
  refine lv_iload_n hx hb dX2_keepCommon_36 rfl (lv_at hl 0 rfl) ?_
  refine lv_aload_n hx hb dX2_keepCommon_37 rfl (lv_at hl 2 rfl) ?_
  refine va_get (D := G.1) (ci := 2) (v := .int v_h) (C := RX2) (T := TX2) (N := 3) hx hb hts fw_X2_keepCommon_X2 hown hK.1 hP 0 rfl rfl 2 (by decide) (hts (.fieldLink RX2 18 "HalftoneScreens$Lattice" "h" "I") lk_X2_keepCommon_f18) (fun _ h9 => h9) rfl dX2_keepCommon_38 ?_
  obtain ⟨r5_0, g5, h⟩ := bnd1_e h
  refine roNi1 (rest := []) (As := [.int x4, .int v_h]) S (ctX4_div l G x4 v_h r5_0 g5) ⟨va_cnB 2 hts gX2_keepCommon_X4_div_n32 rfl rfl rfl (hK.2.1 _ (List.mem_of_getElem? (i := 6) rfl)) (hts (.initialized RX4) lk_X2_keepCommon_iX4) hsX4_div ⟨Nat.le_of_ble_eq_true rfl, Nat.le_of_ble_eq_true rfl⟩, (hts (.static yX4_div) lk_X2_keepCommon_s_div), trivial⟩ hK hP [] rfl rfl hl.1 rfl (Nat.le_of_ble_eq_true rfl) dX2_keepCommon_41 ⟨Nat.le_refl _, Nat.le_refl _⟩ (fun _ => ?_)
  refine lv_aload_n hx hb dX2_keepCommon_44 rfl (lv_at hl 2 rfl) ?_
  refine va_get (D := G.1) (ci := 2) (v := .int v_s) (C := RX2) (T := TX2) (N := 3) hx hb hts fw_X2_keepCommon_X2 hown hK.1 hP 0 rfl rfl 1 (by decide) (hts (.fieldLink RX2 15 "HalftoneScreens$Lattice" "s" "I") lk_X2_keepCommon_f15) (fun _ h9 => h9) rfl dX2_keepCommon_45 ?_
  refine lv_imul hx hb dX2_keepCommon_48 ?_
  refine lv_topi (fun x6 e6 => ?_)
  replace h := nmB_e e6 h
  refine lv_istore (lv' := [(4, .int x6), (3, .int x4), (2, .int r1_0), (0, .ref v_q0), (1, .ref o_q0)]) hx hb dX2_keepCommon_49 hl (by decide) rfl (fun ls hl => ?_)
  refine lv_iload_n hx hb dX2_keepCommon_51 rfl (lv_at hl 1 rfl) ?_
  refine lv_aload_n hx hb dX2_keepCommon_52 rfl (lv_at hl 4 rfl) ?_
  refine va_get (D := G.1) (ci := 2) (v := .int o_h) (C := RX2) (T := TX2) (N := 3) hx hb hts fw_X2_keepCommon_X2 hown hK.1 hP 1 rfl rfl 2 (by decide) (hts (.fieldLink RX2 18 "HalftoneScreens$Lattice" "h" "I") lk_X2_keepCommon_f18) (fun _ h9 => h9) rfl dX2_keepCommon_53 ?_
  obtain ⟨r7_0, g7, h⟩ := bnd1_e h
  refine roNi1 (rest := []) (As := [.int x4, .int o_h]) S (ctX4_div l G x4 o_h r7_0 g7) ⟨va_cnB 2 hts gX2_keepCommon_X4_div_n32 rfl rfl rfl (hK.2.1 _ (List.mem_of_getElem? (i := 6) rfl)) (hts (.initialized RX4) lk_X2_keepCommon_iX4) hsX4_div ⟨Nat.le_of_ble_eq_true rfl, Nat.le_of_ble_eq_true rfl⟩, (hts (.static yX4_div) lk_X2_keepCommon_s_div), trivial⟩ hK hP [] rfl rfl hl.1 rfl (Nat.le_of_ble_eq_true rfl) dX2_keepCommon_56 ⟨Nat.le_refl _, Nat.le_refl _⟩ (fun _ => ?_)
  refine lv_aload_n hx hb dX2_keepCommon_59 rfl (lv_at hl 4 rfl) ?_
  refine va_get (D := G.1) (ci := 2) (v := .int o_s) (C := RX2) (T := TX2) (N := 3) hx hb hts fw_X2_keepCommon_X2 hown hK.1 hP 1 rfl rfl 1 (by decide) (hts (.fieldLink RX2 15 "HalftoneScreens$Lattice" "s" "I") lk_X2_keepCommon_f15) (fun _ h9 => h9) rfl dX2_keepCommon_60 ?_
  refine lv_imul hx hb dX2_keepCommon_63 ?_
  refine lv_topi (fun x8 e8 => ?_)
  replace h := nmB_e e8 h
  refine lv_istore (lv' := [(5, .int x8), (4, .int x6), (3, .int x4), (2, .int r1_0), (0, .ref v_q0), (1, .ref o_q0)]) hx hb dX2_keepCommon_64 hl (by decide) rfl (fun ls hl => ?_)
  refine lv_iload_n hx hb dX2_keepCommon_66 rfl (lv_at hl 3 rfl) ?_
  refine lv_iload_n hx hb dX2_keepCommon_67 rfl (lv_at hl 3 rfl) ?_
  refine lv_iload hx hb dX2_keepCommon_68 (lv_at hl 1 rfl) ?_
  refine lv_iload hx hb dX2_keepCommon_70 (lv_at hl 0 rfl) ?_
  refine lv_isub hx hb dX2_keepCommon_72 ?_
  obtain ⟨r9_0, g9, h⟩ := bnd1_e h
  refine roNi1 (rest := [.int r1_0]) (As := [.int r1_0, .int (x6 - x8)]) S (ctX4_gcd l G r1_0 (x6 - x8) r9_0 g9) ⟨va_cnB 2 hts gX2_keepCommon_X4_gcd_n35 rfl rfl rfl (hK.2.1 _ (List.mem_of_getElem? (i := 7) rfl)) (hts (.initialized RX4) lk_X2_keepCommon_iX4) hsX4_gcd ⟨Nat.le_of_ble_eq_true rfl, Nat.le_of_ble_eq_true rfl⟩, (hts (.static yX4_gcd) lk_X2_keepCommon_s_gcd), trivial⟩ hK hP [] rfl rfl hl.1 rfl (Nat.le_of_ble_eq_true rfl) dX2_keepCommon_73 ⟨Nat.le_refl _, Nat.le_refl _⟩ (fun _ => ?_)
  obtain ⟨r10_0, g10, h⟩ := bnd1_e h
  refine roNi1 (rest := []) (As := [.int r1_0, .int r9_0]) S (ctX4_div l G r1_0 r9_0 r10_0 g10) ⟨va_cnB 2 hts gX2_keepCommon_X4_div_n32 rfl rfl rfl (hK.2.1 _ (List.mem_of_getElem? (i := 6) rfl)) (hts (.initialized RX4) lk_X2_keepCommon_iX4) hsX4_div ⟨Nat.le_of_ble_eq_true rfl, Nat.le_of_ble_eq_true rfl⟩, (hts (.static yX4_div) lk_X2_keepCommon_s_div), trivial⟩ hK hP [] rfl rfl hl.1 rfl (Nat.le_of_ble_eq_true rfl) dX2_keepCommon_76 ⟨Nat.le_refl _, Nat.le_refl _⟩ (fun _ => ?_)
  refine lv_istore (lv' := [(6, .int r10_0), (5, .int x8), (4, .int x6), (3, .int x4), (2, .int r1_0), (0, .ref v_q0), (1, .ref o_q0)]) hx hb dX2_keepCommon_79 hl (by decide) rfl (fun ls hl => ?_)
  refine lv_iload hx hb dX2_keepCommon_81 (lv_at hl 0 rfl) ?_
  refine lv_iload hx hb dX2_keepCommon_83 (lv_at hl 2 rfl) ?_
  refine lv_imul hx hb dX2_keepCommon_85 ?_
  refine lv_aload_n hx hb dX2_keepCommon_86 rfl (lv_at hl 5 rfl) ?_
  refine va_get (D := G.1) (ci := 2) (v := .int v_w) (C := RX2) (T := TX2) (N := 3) hx hb hts fw_X2_keepCommon_X2 hown hK.1 hP 0 rfl rfl 0 (by decide) (hts (.fieldLink RX2 9 "HalftoneScreens$Lattice" "w" "I") lk_X2_keepCommon_f9) (fun _ h9 => h9) rfl dX2_keepCommon_87 ?_
  obtain ⟨r11_0, g11, h⟩ := bnd1_e h
  refine roNi1 (rest := []) (As := [.int (r10_0 * x6), .int v_w]) S (ctX4_mod l G (r10_0 * x6) v_w r11_0 g11) ⟨va_cnB 2 hts gX2_keepCommon_X4_mod_n29 rfl rfl rfl (hK.2.1 _ (List.mem_of_getElem? (i := 5) rfl)) (hts (.initialized RX4) lk_X2_keepCommon_iX4) hsX4_mod ⟨Nat.le_of_ble_eq_true rfl, Nat.le_of_ble_eq_true rfl⟩, (hts (.static yX4_mod) lk_X2_keepCommon_s_mod), trivial⟩ hK hP [] rfl rfl hl.1 rfl (Nat.le_of_ble_eq_true rfl) dX2_keepCommon_90 ⟨Nat.le_refl _, Nat.le_refl _⟩ (fun _ => ?_)
  refine lv_istore (lv' := [(7, .int r11_0), (6, .int r10_0), (5, .int x8), (4, .int x6), (3, .int x4), (2, .int r1_0), (0, .ref v_q0), (1, .ref o_q0)]) hx hb dX2_keepCommon_93 hl (by decide) rfl (fun ls hl => ?_)
  refine lv_iconst (v := 0) hx hb dX2_keepCommon_95 (by decide) ?_
  refine lv_istore (lv' := [(8, .int 0), (7, .int r11_0), (6, .int r10_0), (5, .int x8), (4, .int x6), (3, .int x4), (2, .int r1_0), (0, .ref v_q0), (1, .ref o_q0)]) hx hb dX2_keepCommon_96 hl (by decide) rfl (fun ls hl => ?_)
  obtain ⟨u12_0, u12_1, g12, h⟩ := bnd2_e h
  have L12 : ∀ (fu : Nat) (v12_0 : Int32) (v12_1 : Int32) (u12_0 : Int32) (u12_1 : Int32) (H : Heap) (locs : List Loc) (ls : Array Slot), mX2_keepCommon_L98 v_w o_w x8 r10_0 fu v12_0 v12_1 = some (u12_0, u12_1) → lv_has ls 9 [(8, .int v12_0), (7, .int v12_1), (6, .int r10_0), (5, .int x8), (4, .int x6), (3, .int x4), (2, .int r1_0), (0, .ref v_q0), (1, .ref o_q0)] → va_P G.1 vwCl (wdX2 G v_q0 v_w v_s v_h ++ wdX2 G o_q0 o_w o_s o_h) H → va_D A (wdX2 G v_q0 v_w v_s v_h ++ wdX2 G o_q0 o_w o_s o_h) → va_S A s.heap H locs → (∀ (H : Heap) (locs : List Loc) (ls : Array Slot), lv_has ls 9 [(8, .int u12_0), (7, .int u12_1), (6, .int r10_0), (5, .int x8), (4, .int x6), (3, .int x4), (2, .int r1_0), (0, .ref v_q0), (1, .ref o_q0)] → va_P G.1 vwCl (wdX2 G v_q0 v_w v_s v_h ++ wdX2 G o_q0 o_w o_s o_h) H → va_D A (wdX2 G v_q0 v_w v_s v_h ++ wdX2 G o_q0 o_w o_s o_h) → va_S A s.heap H locs → W p l e rmX2_keepCommon s m args below meth c H locs 0 0 Q (F0 m 140 ls [])) → W p l e rmX2_keepCommon s m args below meth c H locs 0 0 Q (F0 m 98 ls []) := by
    intro fu
    induction fu with
    | zero => intro v12_0 v12_1 u12_0 u12_1 H locs ls h; exact nomatch h
    | succ fu ih =>
      intro v12_0 v12_1 u12_0 u12_1 H locs ls h hl hP hD hS kE
      rw [mX2_keepCommon_L98] at h
      refine lv_iload hx hb dX2_keepCommon_98 (lv_at hl 0 rfl) ?_
      refine lv_aload_n hx hb dX2_keepCommon_100 rfl (lv_at hl 8 rfl) ?_
      refine va_get (D := G.1) (ci := 2) (v := .int o_w) (C := RX2) (T := TX2) (N := 3) hx hb hts fw_X2_keepCommon_X2 hown hK.1 hP 1 rfl rfl 0 (by decide) (hts (.fieldLink RX2 9 "HalftoneScreens$Lattice" "w" "I") lk_X2_keepCommon_f9) (fun _ h9 => h9) rfl dX2_keepCommon_101 ?_
      refine lv_icmp_ge (tgt := 140) hx hb dX2_keepCommon_104 (by decide) (fun c13 => ?_) (fun c13 => ?_)
      · replace h := ite_t c13 h
        obtain ⟨rfl, rfl⟩ := sm2 h
        exact kE H locs ls hl hP hD hS
      · replace h := ite_f c13 h
        refine lv_iload hx hb dX2_keepCommon_107 (lv_at hl 1 rfl) ?_
        refine lv_iload hx hb dX2_keepCommon_109 (lv_at hl 2 rfl) ?_
        refine lv_iload hx hb dX2_keepCommon_111 (lv_at hl 3 rfl) ?_
        refine lv_imul hx hb dX2_keepCommon_113 ?_
        refine lv_isub hx hb dX2_keepCommon_114 ?_
        refine lv_aload_n hx hb dX2_keepCommon_115 rfl (lv_at hl 8 rfl) ?_
        refine va_get (D := G.1) (ci := 2) (v := .int o_w) (C := RX2) (T := TX2) (N := 3) hx hb hts fw_X2_keepCommon_X2 hown hK.1 hP 1 rfl rfl 0 (by decide) (hts (.fieldLink RX2 9 "HalftoneScreens$Lattice" "w" "I") lk_X2_keepCommon_f9) (fun _ h9 => h9) rfl dX2_keepCommon_116 ?_
        obtain ⟨r14_0, g14, h⟩ := bnd1_e h
        refine roNi1 (rest := []) (As := [.int (v12_1 - (r10_0 * x8)), .int o_w]) S (ctX4_mod l G (v12_1 - (r10_0 * x8)) o_w r14_0 g14) ⟨va_cnB 2 hts gX2_keepCommon_X4_mod_n29 rfl rfl rfl (hK.2.1 _ (List.mem_of_getElem? (i := 5) rfl)) (hts (.initialized RX4) lk_X2_keepCommon_iX4) hsX4_mod ⟨Nat.le_of_ble_eq_true rfl, Nat.le_of_ble_eq_true rfl⟩, (hts (.static yX4_mod) lk_X2_keepCommon_s_mod), trivial⟩ hK hP [] rfl rfl hl.1 rfl (Nat.le_of_ble_eq_true rfl) dX2_keepCommon_119 ⟨Nat.le_refl _, Nat.le_refl _⟩ (fun _ => ?_)
        refine lv_if_eq (tgt := 140) hx hb dX2_keepCommon_122 (by decide) (fun c15 => ?_) (fun c15 => ?_)
        · replace h := ite_t c15 h
          obtain ⟨rfl, rfl⟩ := sm2 h
          exact kE H locs ls hl hP hD hS
        · replace h := ite_f c15 h
          refine lv_iload hx hb dX2_keepCommon_125 (lv_at hl 1 rfl) ?_
          refine lv_aload_n hx hb dX2_keepCommon_127 rfl (lv_at hl 7 rfl) ?_
          refine va_get (D := G.1) (ci := 2) (v := .int v_w) (C := RX2) (T := TX2) (N := 3) hx hb hts fw_X2_keepCommon_X2 hown hK.1 hP 0 rfl rfl 0 (by decide) (hts (.fieldLink RX2 9 "HalftoneScreens$Lattice" "w" "I") lk_X2_keepCommon_f9) (fun _ h9 => h9) rfl dX2_keepCommon_128 ?_
          refine lv_iadd hx hb dX2_keepCommon_131 ?_
          refine lv_topi (fun x16 e16 => ?_)
          replace h := nmB_e e16 h
          refine lv_istore (lv' := [(7, .int x16), (8, .int v12_0), (6, .int r10_0), (5, .int x8), (4, .int x6), (3, .int x4), (2, .int r1_0), (0, .ref v_q0), (1, .ref o_q0)]) hx hb dX2_keepCommon_132 hl (by decide) rfl (fun ls hl => ?_)
          obtain ⟨x17, e17⟩ : ∃ y : Int32, y = v12_0 + 1 := ⟨_, rfl⟩
          replace h := nmB_e e17 h
          refine lv_iinc (v := x17) (lv' := [(8, .int x17), (7, .int x16), (6, .int r10_0), (5, .int x8), (4, .int x6), (3, .int x4), (2, .int r1_0), (0, .ref v_q0), (1, .ref o_q0)]) hx hb dX2_keepCommon_134 hl (k := 1) rfl (by rw [e17]; rfl) (by decide) rfl (fun ls hl => ?_)
          refine lv_goto (tgt := 98) hx hb dX2_keepCommon_137 (by decide) ?_
          exact ih x17 x16 u12_0 u12_1 H locs ls h hl hP hD hS kE
  refine L12 FU 0 r11_0 u12_0 u12_1 H locs ls g12 hl hP hD hS (fun H locs ls hl hP hD hS => ?_)
  refine lv_aload_n hx hb dX2_keepCommon_140 rfl (lv_at hl 7 rfl) ?_
  refine lv_iload hx hb dX2_keepCommon_141 (lv_at hl 2 rfl) ?_
  refine lv_iload_n hx hb dX2_keepCommon_143 rfl (lv_at hl 5 rfl) ?_
  refine lv_imul hx hb dX2_keepCommon_144 ?_
  refine lv_topi (fun x18 e18 => ?_)
  replace h := nmB_e e18 h
  refine va_put (D := G.1) (ci := 2) (v := .int x18) (ty := .int) (C := RX2) (T := TX2) (N := 3) hx hb hts fw_X2_keepCommon_X2 tyX2 tyX2_ok nmX2 hown hK.1 hP hD hS 0 rfl rfl 2 (by decide) (hts (.fieldLink RX2 18 "HalftoneScreens$Lattice" "h" "I") lk_X2_keepCommon_f18) (fun _ h9 => h9) rfl (tyX2_ok 2 (by decide)) rfl rfl (Nat.le_of_ble_eq_true rfl) dX2_keepCommon_145 (fun H locs hP hD hS => ?_)
  have hP : va_P G.1 vwCl (wdX2 G v_q0 v_w v_s x18 ++ wdX2 G o_q0 o_w o_s o_h) H := hP
  have hD : va_D A (wdX2 G v_q0 v_w v_s x18 ++ wdX2 G o_q0 o_w o_s o_h) := hD
  refine lv_aload_n hx hb dX2_keepCommon_148 rfl (lv_at hl 7 rfl) ?_
  refine lv_aload_n hx hb dX2_keepCommon_149 rfl (lv_at hl 7 rfl) ?_
  refine va_get (D := G.1) (ci := 2) (v := .int v_w) (C := RX2) (T := TX2) (N := 3) hx hb hts fw_X2_keepCommon_X2 hown hK.1 hP 0 rfl rfl 0 (by decide) (hts (.fieldLink RX2 9 "HalftoneScreens$Lattice" "w" "I") lk_X2_keepCommon_f9) (fun _ h9 => h9) rfl dX2_keepCommon_150 ?_
  refine lv_iload_n hx hb dX2_keepCommon_153 rfl (lv_at hl 6 rfl) ?_
  obtain ⟨r19_0, g19, h⟩ := bnd1_e h
  refine roNi1 (rest := [.ref v_q0]) (As := [.int v_w, .int r1_0]) S (ctX4_div l G v_w r1_0 r19_0 g19) ⟨va_cnB 2 hts gX2_keepCommon_X4_div_n32 rfl rfl rfl (hK.2.1 _ (List.mem_of_getElem? (i := 6) rfl)) (hts (.initialized RX4) lk_X2_keepCommon_iX4) hsX4_div ⟨Nat.le_of_ble_eq_true rfl, Nat.le_of_ble_eq_true rfl⟩, (hts (.static yX4_div) lk_X2_keepCommon_s_div), trivial⟩ hK hP [] rfl rfl hl.1 rfl (Nat.le_of_ble_eq_true rfl) dX2_keepCommon_154 ⟨Nat.le_refl _, Nat.le_refl _⟩ (fun _ => ?_)
  refine lv_aload_n hx hb dX2_keepCommon_157 rfl (lv_at hl 8 rfl) ?_
  refine va_get (D := G.1) (ci := 2) (v := .int o_w) (C := RX2) (T := TX2) (N := 3) hx hb hts fw_X2_keepCommon_X2 hown hK.1 hP 1 rfl rfl 0 (by decide) (hts (.fieldLink RX2 9 "HalftoneScreens$Lattice" "w" "I") lk_X2_keepCommon_f9) (fun _ h9 => h9) rfl dX2_keepCommon_158 ?_
  refine lv_imul hx hb dX2_keepCommon_161 ?_
  refine lv_topi (fun x20 e20 => ?_)
  replace h := nmB_e e20 h
  refine va_put (D := G.1) (ci := 2) (v := .int x20) (ty := .int) (C := RX2) (T := TX2) (N := 3) hx hb hts fw_X2_keepCommon_X2 tyX2 tyX2_ok nmX2 hown hK.1 hP hD hS 0 rfl rfl 0 (by decide) (hts (.fieldLink RX2 9 "HalftoneScreens$Lattice" "w" "I") lk_X2_keepCommon_f9) (fun _ h9 => h9) rfl (tyX2_ok 0 (by decide)) rfl rfl (Nat.le_of_ble_eq_true rfl) dX2_keepCommon_162 (fun H locs hP hD hS => ?_)
  have hP : va_P G.1 vwCl (wdX2 G v_q0 x20 v_s x18 ++ wdX2 G o_q0 o_w o_s o_h) H := hP
  have hD : va_D A (wdX2 G v_q0 x20 v_s x18 ++ wdX2 G o_q0 o_w o_s o_h) := hD
  refine lv_aload_n hx hb dX2_keepCommon_165 rfl (lv_at hl 7 rfl) ?_
  refine lv_iload hx hb dX2_keepCommon_166 (lv_at hl 1 rfl) ?_
  refine lv_aload_n hx hb dX2_keepCommon_168 rfl (lv_at hl 7 rfl) ?_
  refine va_get (D := G.1) (ci := 2) (v := .int x20) (C := RX2) (T := TX2) (N := 3) hx hb hts fw_X2_keepCommon_X2 hown hK.1 hP 0 rfl rfl 0 (by decide) (hts (.fieldLink RX2 9 "HalftoneScreens$Lattice" "w" "I") lk_X2_keepCommon_f9) (fun _ h9 => h9) rfl dX2_keepCommon_169 ?_
  obtain ⟨r21_0, g21, h⟩ := bnd1_e h
  refine roNi1 (rest := [.ref v_q0]) (As := [.int u12_1, .int x20]) S (ctX4_mod l G u12_1 x20 r21_0 g21) ⟨va_cnB 2 hts gX2_keepCommon_X4_mod_n29 rfl rfl rfl (hK.2.1 _ (List.mem_of_getElem? (i := 5) rfl)) (hts (.initialized RX4) lk_X2_keepCommon_iX4) hsX4_mod ⟨Nat.le_of_ble_eq_true rfl, Nat.le_of_ble_eq_true rfl⟩, (hts (.static yX4_mod) lk_X2_keepCommon_s_mod), trivial⟩ hK hP [] rfl rfl hl.1 rfl (Nat.le_of_ble_eq_true rfl) dX2_keepCommon_172 ⟨Nat.le_refl _, Nat.le_refl _⟩ (fun _ => ?_)
  refine va_put (D := G.1) (ci := 2) (v := .int r21_0) (ty := .int) (C := RX2) (T := TX2) (N := 3) hx hb hts fw_X2_keepCommon_X2 tyX2 tyX2_ok nmX2 hown hK.1 hP hD hS 0 rfl rfl 1 (by decide) (hts (.fieldLink RX2 15 "HalftoneScreens$Lattice" "s" "I") lk_X2_keepCommon_f15) (fun _ h9 => h9) rfl (tyX2_ok 1 (by decide)) rfl rfl (Nat.le_of_ble_eq_true rfl) dX2_keepCommon_175 (fun H locs hP hD hS => ?_)
  have hP : va_P G.1 vwCl (wdX2 G v_q0 x20 r21_0 x18 ++ wdX2 G o_q0 o_w o_s o_h) H := hP
  have hD : va_D A (wdX2 G v_q0 x20 r21_0 x18 ++ wdX2 G o_q0 o_w o_s o_h) := hD
  obtain ⟨rfl, rfl, rfl⟩ := sm3 h
  exact hret _ _ _ _ trivial hP hD hS dX2_keepCommon_178
