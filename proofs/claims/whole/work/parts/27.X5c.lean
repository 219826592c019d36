-- contracts of the methods (laid by program from the listing)
theorem fw_X5_propertyOf_X5 : ∀ w ∈ wsX50, w ∈ wsX5_propertyOf := fun w h => List.mem_cons_of_mem _ (List.mem_append_right _ h)
theorem lk_X5_propertyOf_f13 : Cond.fieldLink RX5 13 "HalftoneScreensModel" "v" "[I" ∈ wsX5_propertyOf := List.mem_of_getElem? (i := 1) rfl
theorem lk_X5_propertyOf_f89 : Cond.fieldLink RX5 89 "HalftoneScreensModel" "w" "I" ∈ wsX5_propertyOf := List.mem_of_getElem? (i := 2) rfl
theorem lk_X5_propertyOf_f92 : Cond.fieldLink RX5 92 "HalftoneScreensModel" "s" "I" ∈ wsX5_propertyOf := List.mem_of_getElem? (i := 3) rfl
theorem lk_X5_propertyOf_f82 : Cond.fieldLink RX5 82 "HalftoneScreensModel" "h" "I" ∈ wsX5_propertyOf := List.mem_of_getElem? (i := 4) rfl
theorem lk_X5_propertyOf_f17 : Cond.fieldLink RX5 17 "HalftoneScreensModel" "spotOf" "[I" ∈ wsX5_propertyOf := List.mem_of_getElem? (i := 5) rfl
theorem lk_X5_propertyOf_f20 : Cond.fieldLink RX5 20 "HalftoneScreensModel" "inMiddle" "[Z" ∈ wsX5_propertyOf := List.mem_of_getElem? (i := 6) rfl
theorem lk_X5_propertyOf_f23 : Cond.fieldLink RX5 23 "HalftoneScreensModel" "tints" "[I" ∈ wsX5_propertyOf := List.mem_of_getElem? (i := 7) rfl
abbrev rmX5_propertyOf : Room := { frames := 4, cells := 0, slots := 0, locals := 91 }
set_option maxHeartbeats 4000000 in
set_option maxRecDepth 100000 in
theorem ctX5_propertyOf (l : Launch) (G : GG) (v_q0 : Nat) (v_q1 : Nat) (v_q2 : Nat) (v_q3 : Nat) (v_q4 : Nat) (v_q5 : Nat) (v_q6 : Nat) (v_q7 : Nat) (v_q8 : Nat) (v_q9 : Nat) (v_q10 : Nat) (v_q11 : Nat) (v_q12 : Nat) (v_q13 : Nat) (v_q14 : Nat) (v_q15 : Nat) (v_q16 : Nat) (v_thrown : Int32) (v_gain : Int32) (v_size : Int32) (v_w : Int32) (v_s : Int32) (v_h : Int32) (v_laidArea : Int32) (v_parts : Int32) (v_isMinus : Int32) (v_readSpot : Int32) (v_isStar : Int32) (v_wantsNumber : Int32) (v_waiting : Int32) (v_shiftX : Int32) (v_shiftY : Int32) (v_times : Int32) (v_dotsLaid : Int32) (v_joinedLaid : Int32) (v_hash : Int64) (v_isThereA : (Nat → Int32)) (v_vA : (Nat → Int32)) (v_spotOfA : (Nat → Int32)) (v_inMiddleA : (Nat → Int32)) (v_tintsA : (Nat → Int32)) (v_bufferA : (Nat → Int32)) (v_valuesA : (Nat → Int32)) (v_ranksA : (Nat → Int32)) (v_oldRanksA : (Nat → Int32)) (v_partA : (Nat → Int32)) (v_allRanksA : (Nat → Int32)) (v_basesA : (Nat → Int32)) (v_isMetA : (Nat → Int32)) (v_metXA : (Nat → Int32)) (v_metYA : (Nat → Int32)) (v_lineA : (Nat → Int32)) (a0 : Int32) (a1 : Int32) (o0 : Int32) (o1 : Int32) (o2 : Int32) (o3 : Int32) (h : mX5_propertyOf v_vA v_spotOfA v_inMiddleA v_tintsA a0 a1 = some (o0, o1, o2, o3))  : Met l yX5_propertyOf wsX5_propertyOf rmX5_propertyOf (va_Pc [.ref v_q0, .int a0, .int a1] (PreD G (wdX5 G v_q0 v_q1 v_q2 v_q3 v_q4 v_q5 v_q6 v_q7 v_q8 v_q9 v_q10 v_q11 v_q12 v_q13 v_q14 v_q15 v_q16 v_thrown v_gain v_size v_w v_s v_h v_laidArea v_parts v_isMinus v_readSpot v_isStar v_wantsNumber v_waiting v_shiftX v_shiftY v_times v_dotsLaid v_joinedLaid v_hash v_isThereA v_vA v_spotOfA v_inMiddleA v_tintsA v_bufferA v_valuesA v_ranksA v_oldRanksA v_partA v_allRanksA v_basesA v_isMetA v_metXA v_metYA v_lineA) (fun _ => True))) (QwA G (va_A0 (wdX5 G v_q0 v_q1 v_q2 v_q3 v_q4 v_q5 v_q6 v_q7 v_q8 v_q9 v_q10 v_q11 v_q12 v_q13 v_q14 v_q15 v_q16 v_thrown v_gain v_size v_w v_s v_h v_laidArea v_parts v_isMinus v_readSpot v_isStar v_wantsNumber v_waiting v_shiftX v_shiftY v_times v_dotsLaid v_joinedLaid v_hash v_isThereA v_vA v_spotOfA v_inMiddleA v_tintsA v_bufferA v_valuesA v_ranksA v_oldRanksA v_partA v_allRanksA v_basesA v_isMetA v_metXA v_metYA v_lineA)) (wdX5 G v_q0 v_q1 v_q2 v_q3 v_q4 v_q5 v_q6 v_q7 v_q8 v_q9 v_q10 v_q11 v_q12 v_q13 v_q14 v_q15 v_q16 v_thrown v_gain v_size o1 o2 o3 v_laidArea v_parts v_isMinus v_readSpot v_isStar v_wantsNumber v_waiting v_shiftX v_shiftY v_times v_dotsLaid v_joinedLaid v_hash v_isThereA v_vA v_spotOfA v_inMiddleA v_tintsA v_bufferA v_valuesA v_ranksA v_oldRanksA v_partA v_allRanksA v_basesA v_isMetA v_metXA v_metYA v_lineA) (some (.int o0)) True) 0 0 (va_A0 (wdX5 G v_q0 v_q1 v_q2 v_q3 v_q4 v_q5 v_q6 v_q7 v_q8 v_q9 v_q10 v_q11 v_q12 v_q13 v_q14 v_q15 v_q16 v_thrown v_gain v_size v_w v_s v_h v_laidArea v_parts v_isMinus v_readSpot v_isStar v_wantsNumber v_waiting v_shiftX v_shiftY v_times v_dotsLaid v_joinedLaid v_hash v_isThereA v_vA v_spotOfA v_inMiddleA v_tintsA v_bufferA v_valuesA v_ranksA v_oldRanksA v_partA v_allRanksA v_basesA v_isMetA v_metXA v_metYA v_lineA)) := by
  refine of_wi (cc := cX5_propertyOf) (maxL := 3) (ty := .int) (plainFor_of_name (by decide)) rfl (Nat.le_of_ble_eq_true rfl) ?_
  intro p e s m args below meth c ls Q A S hl hP hD hS hK hX hA hret
  obtain ⟨H, hH⟩ : ∃ H, H = s.heap := ⟨_, rfl⟩
  obtain ⟨locs, hlocs⟩ : ∃ L : List Loc, L = [] := ⟨_, rfl⟩
  rw [← hlocs]
  rw [← hlocs] at hS
  have hP : va_P G.1 vwCl (wdX5 G v_q0 v_q1 v_q2 v_q3 v_q4 v_q5 v_q6 v_q7 v_q8 v_q9 v_q10 v_q11 v_q12 v_q13 v_q14 v_q15 v_q16 v_thrown v_gain v_size v_w v_s v_h v_laidArea v_parts v_isMinus v_readSpot v_isStar v_wantsNumber v_waiting v_shiftX v_shiftY v_times v_dotsLaid v_joinedLaid v_hash v_isThereA v_vA v_spotOfA v_inMiddleA v_tintsA v_bufferA v_valuesA v_ranksA v_oldRanksA v_partA v_allRanksA v_basesA v_isMetA v_metXA v_metYA v_lineA) H := by rw [hH]; exact hP
  have hS : va_S A s.heap H locs := by rw [hH]; exact hS
  suffices hgo : W p l e rmX5_propertyOf s m args below meth c H locs 0 0 Q (F0 m 0 ls []) by rw [hH] at hgo; exact hgo
  have S : CallFix p m c cX5_propertyOf 3 s args wsX5_propertyOf RX5 := S
  obtain ⟨hx, hb, hml, hown, hts⟩ := id S
  have hl : lv_has ls 3 [(0, .ref v_q0), (1, .int a0), (2, .int a1)] := hl
  unfold mX5_propertyOf at h
  refine lv_aload_n hx hb dX5_propertyOf_0 rfl (lv_at hl 0 rfl) ?_
  refine lv_iload_n hx hb dX5_propertyOf_1 rfl (lv_at hl 1 rfl) ?_
  obtain ⟨r1_0, r1_1, r1_2, g1, h⟩ := bnd3_e h
  refine rwV_same (rest := []) (As := [.int a0]) S (ctX5_layScreen l G v_q0 v_q1 v_q2 v_q3 v_q4 v_q5 v_q6 v_q7 v_q8 v_q9 v_q10 v_q11 v_q12 v_q13 v_q14 v_q15 v_q16 v_thrown v_gain v_size v_w v_s v_h v_laidArea v_parts v_isMinus v_readSpot v_isStar v_wantsNumber v_waiting v_shiftX v_shiftY v_times v_dotsLaid v_joinedLaid v_hash v_isThereA v_vA v_spotOfA v_inMiddleA v_tintsA v_bufferA v_valuesA v_ranksA v_oldRanksA v_partA v_allRanksA v_basesA v_isMetA v_metXA v_metYA v_lineA a0 r1_0 r1_1 r1_2 g1) (cwV 1 hts gX5_propertyOf_X5_layScreen rfl rfl rfl hvX5_layScreen ⟨Nat.le_of_ble_eq_true rfl, Nat.le_of_ble_eq_true rfl⟩) hK hP hD hS xb_triv (fun _ _ _ => trivial) 0 5 rfl rfl rfl rfl hl.1 rfl (Nat.le_of_ble_eq_true rfl) dX5_propertyOf_2 ⟨Nat.le_refl _, Nat.le_refl _⟩ (fun _ H locs hP hD hS => ?_)
  have hP : va_P G.1 vwCl (wdX5 G v_q0 v_q1 v_q2 v_q3 v_q4 v_q5 v_q6 v_q7 v_q8 v_q9 v_q10 v_q11 v_q12 v_q13 v_q14 v_q15 v_q16 v_thrown v_gain v_size r1_0 r1_1 r1_2 v_laidArea v_parts v_isMinus v_readSpot v_isStar v_wantsNumber v_waiting v_shiftX v_shiftY v_times v_dotsLaid v_joinedLaid v_hash v_isThereA v_vA v_spotOfA v_inMiddleA v_tintsA v_bufferA v_valuesA v_ranksA v_oldRanksA v_partA v_allRanksA v_basesA v_isMetA v_metXA v_metYA v_lineA) H := hP
  have hD : va_D A (wdX5 G v_q0 v_q1 v_q2 v_q3 v_q4 v_q5 v_q6 v_q7 v_q8 v_q9 v_q10 v_q11 v_q12 v_q13 v_q14 v_q15 v_q16 v_thrown v_gain v_size r1_0 r1_1 r1_2 v_laidArea v_parts v_isMinus v_readSpot v_isStar v_wantsNumber v_waiting v_shiftX v_shiftY v_times v_dotsLaid v_joinedLaid v_hash v_isThereA v_vA v_spotOfA v_inMiddleA v_tintsA v_bufferA v_valuesA v_ranksA v_oldRanksA v_partA v_allRanksA v_basesA v_isMetA v_metXA v_metYA v_lineA) := hD
  refine lv_iload_n hx hb dX5_propertyOf_5 rfl (lv_at hl 2 rfl) ?_
  by_cases c2 : a1 = 0
  · replace h := ite_t c2 h
    refine lv_tableIn (off := 54) (tgt := 60) hx hb dX5_propertyOf_6 (by rw [c2]; decide) (by rw [c2]; decide) (by rw [c2]; decide) (by decide) ?_
    refine lv_aload_n hx hb dX5_propertyOf_60 rfl (lv_at hl 0 rfl) ?_
    refine va_get (D := G.1) (ci := 5) (v := .ref v_q2) (C := RX5) (T := TX5) (N := 35) hx hb hts fw_X5_propertyOf_X5 hown hK.1 hP 0 rfl rfl 2 (by decide) (hts (.fieldLink RX5 13 "HalftoneScreensModel" "v" "[I") lk_X5_propertyOf_f13) (fun _ h9 => h9) rfl dX5_propertyOf_61 ?_
    refine lv_iconst (v := 4) hx hb dX5_propertyOf_64 (by decide) ?_
    refine lv_iload_n hx hb dX5_propertyOf_65 rfl (lv_at hl 1 rfl) ?_
    refine lv_imul hx hb dX5_propertyOf_66 ?_
    refine lv_iload_n hx hb dX5_propertyOf_67 rfl (lv_at hl 2 rfl) ?_
    refine lv_iadd hx hb dX5_propertyOf_68 ?_
    obtain ⟨i3, h⟩ := gd_e h
    refine va_iald hx hb hK.1 hP 2 0 rfl rfl i3 dX5_propertyOf_69 ?_
    obtain ⟨rfl, rfl, rfl, rfl⟩ := sm4 h
    exact hret _ _ _ _ _ rfl trivial rfl hP hD hS dX5_propertyOf_70
  replace h := ite_f c2 h
  by_cases c4 : a1 = 1
  · replace h := ite_t c4 h
    refine lv_tableIn (off := 54) (tgt := 60) hx hb dX5_propertyOf_6 (by rw [c4]; decide) (by rw [c4]; decide) (by rw [c4]; decide) (by decide) ?_
    refine lv_aload_n hx hb dX5_propertyOf_60 rfl (lv_at hl 0 rfl) ?_
    refine va_get (D := G.1) (ci := 5) (v := .ref v_q2) (C := RX5) (T := TX5) (N := 35) hx hb hts fw_X5_propertyOf_X5 hown hK.1 hP 0 rfl rfl 2 (by decide) (hts (.fieldLink RX5 13 "HalftoneScreensModel" "v" "[I") lk_X5_propertyOf_f13) (fun _ h9 => h9) rfl dX5_propertyOf_61 ?_
    refine lv_iconst (v := 4) hx hb dX5_propertyOf_64 (by decide) ?_
    refine lv_iload_n hx hb dX5_propertyOf_65 rfl (lv_at hl 1 rfl) ?_
    refine lv_imul hx hb dX5_propertyOf_66 ?_
    refine lv_iload_n hx hb dX5_propertyOf_67 rfl (lv_at hl 2 rfl) ?_
    refine lv_iadd hx hb dX5_propertyOf_68 ?_
    obtain ⟨i5, h⟩ := gd_e h
    refine va_iald hx hb hK.1 hP 2 0 rfl rfl i5 dX5_propertyOf_69 ?_
    obtain ⟨rfl, rfl, rfl, rfl⟩ := sm4 h
    exact hret _ _ _ _ _ rfl trivial rfl hP hD hS dX5_propertyOf_70
  replace h := ite_f c4 h
  by_cases c6 : a1 = 2
  · replace h := ite_t c6 h
    refine lv_tableIn (off := 54) (tgt := 60) hx hb dX5_propertyOf_6 (by rw [c6]; decide) (by rw [c6]; decide) (by rw [c6]; decide) (by decide) ?_
    refine lv_aload_n hx hb dX5_propertyOf_60 rfl (lv_at hl 0 rfl) ?_
    refine va_get (D := G.1) (ci := 5) (v := .ref v_q2) (C := RX5) (T := TX5) (N := 35) hx hb hts fw_X5_propertyOf_X5 hown hK.1 hP 0 rfl rfl 2 (by decide) (hts (.fieldLink RX5 13 "HalftoneScreensModel" "v" "[I") lk_X5_propertyOf_f13) (fun _ h9 => h9) rfl dX5_propertyOf_61 ?_
    refine lv_iconst (v := 4) hx hb dX5_propertyOf_64 (by decide) ?_
    refine lv_iload_n hx hb dX5_propertyOf_65 rfl (lv_at hl 1 rfl) ?_
    refine lv_imul hx hb dX5_propertyOf_66 ?_
    refine lv_iload_n hx hb dX5_propertyOf_67 rfl (lv_at hl 2 rfl) ?_
    refine lv_iadd hx hb dX5_propertyOf_68 ?_
    obtain ⟨i7, h⟩ := gd_e h
    refine va_iald hx hb hK.1 hP 2 0 rfl rfl i7 dX5_propertyOf_69 ?_
    obtain ⟨rfl, rfl, rfl, rfl⟩ := sm4 h
    exact hret _ _ _ _ _ rfl trivial rfl hP hD hS dX5_propertyOf_70
  replace h := ite_f c6 h
  by_cases c8 : a1 = 3
  · replace h := ite_t c8 h
    refine lv_tableIn (off := 54) (tgt := 60) hx hb dX5_propertyOf_6 (by rw [c8]; decide) (by rw [c8]; decide) (by rw [c8]; decide) (by decide) ?_
    refine lv_aload_n hx hb dX5_propertyOf_60 rfl (lv_at hl 0 rfl) ?_
    refine va_get (D := G.1) (ci := 5) (v := .ref v_q2) (C := RX5) (T := TX5) (N := 35) hx hb hts fw_X5_propertyOf_X5 hown hK.1 hP 0 rfl rfl 2 (by decide) (hts (.fieldLink RX5 13 "HalftoneScreensModel" "v" "[I") lk_X5_propertyOf_f13) (fun _ h9 => h9) rfl dX5_propertyOf_61 ?_
    refine lv_iconst (v := 4) hx hb dX5_propertyOf_64 (by decide) ?_
    refine lv_iload_n hx hb dX5_propertyOf_65 rfl (lv_at hl 1 rfl) ?_
    refine lv_imul hx hb dX5_propertyOf_66 ?_
    refine lv_iload_n hx hb dX5_propertyOf_67 rfl (lv_at hl 2 rfl) ?_
    refine lv_iadd hx hb dX5_propertyOf_68 ?_
    obtain ⟨i9, h⟩ := gd_e h
    refine va_iald hx hb hK.1 hP 2 0 rfl rfl i9 dX5_propertyOf_69 ?_
    obtain ⟨rfl, rfl, rfl, rfl⟩ := sm4 h
    exact hret _ _ _ _ _ rfl trivial rfl hP hD hS dX5_propertyOf_70
  replace h := ite_f c8 h
  by_cases c10 : a1 = 4
  · replace h := ite_t c10 h
    refine lv_tableIn (off := 65) (tgt := 71) hx hb dX5_propertyOf_6 (by rw [c10]; decide) (by rw [c10]; decide) (by rw [c10]; decide) (by decide) ?_
    refine lv_aload_n hx hb dX5_propertyOf_71 rfl (lv_at hl 0 rfl) ?_
    refine lv_iload_n hx hb dX5_propertyOf_72 rfl (lv_at hl 1 rfl) ?_
    obtain ⟨r11_0, g11, h⟩ := bnd1_e h
    refine roVi1 (rest := []) (As := [.int a0]) S (ctX5_areaIn l G v_q0 v_q1 v_q2 v_q3 v_q4 v_q5 v_q6 v_q7 v_q8 v_q9 v_q10 v_q11 v_q12 v_q13 v_q14 v_q15 v_q16 v_thrown v_gain v_size r1_0 r1_1 r1_2 v_laidArea v_parts v_isMinus v_readSpot v_isStar v_wantsNumber v_waiting v_shiftX v_shiftY v_times v_dotsLaid v_joinedLaid v_hash v_isThereA v_vA v_spotOfA v_inMiddleA v_tintsA v_bufferA v_valuesA v_ranksA v_oldRanksA v_partA v_allRanksA v_basesA v_isMetA v_metXA v_metYA v_lineA a0 r11_0 g11) (cwV 1 hts gX5_propertyOf_X5_areaIn rfl rfl rfl hvX5_areaIn ⟨Nat.le_of_ble_eq_true rfl, Nat.le_of_ble_eq_true rfl⟩) hK hP [0, 1, 2, 3, 4, 5, 6, 7, 8, 9, 10, 11, 12, 13, 14, 15, 16] rfl 0 5 rfl rfl rfl rfl hl.1 rfl (Nat.le_of_ble_eq_true rfl) dX5_propertyOf_73 ⟨Nat.le_refl _, Nat.le_refl _⟩ (fun _ => ?_)
    obtain ⟨rfl, rfl, rfl, rfl⟩ := sm4 h
    exact hret _ _ _ _ _ rfl trivial rfl hP hD hS dX5_propertyOf_76
  replace h := ite_f c10 h
  by_cases c12 : a1 = 5
  · replace h := ite_t c12 h
    refine lv_tableIn (off := 71) (tgt := 77) hx hb dX5_propertyOf_6 (by rw [c12]; decide) (by rw [c12]; decide) (by rw [c12]; decide) (by decide) ?_
    refine lv_aload_n hx hb dX5_propertyOf_77 rfl (lv_at hl 0 rfl) ?_
    refine va_get (D := G.1) (ci := 5) (v := .int r1_0) (C := RX5) (T := TX5) (N := 35) hx hb hts fw_X5_propertyOf_X5 hown hK.1 hP 0 rfl rfl 9 (by decide) (hts (.fieldLink RX5 89 "HalftoneScreensModel" "w" "I") lk_X5_propertyOf_f89) (fun _ h9 => h9) rfl dX5_propertyOf_78 ?_
    obtain ⟨rfl, rfl, rfl, rfl⟩ := sm4 h
    exact hret _ _ _ _ _ rfl trivial rfl hP hD hS dX5_propertyOf_81
  replace h := ite_f c12 h
  by_cases c13 : a1 = 6
  · replace h := ite_t c13 h
    refine lv_tableIn (off := 76) (tgt := 82) hx hb dX5_propertyOf_6 (by rw [c13]; decide) (by rw [c13]; decide) (by rw [c13]; decide) (by decide) ?_
    refine lv_aload_n hx hb dX5_propertyOf_82 rfl (lv_at hl 0 rfl) ?_
    refine va_get (D := G.1) (ci := 5) (v := .int r1_1) (C := RX5) (T := TX5) (N := 35) hx hb hts fw_X5_propertyOf_X5 hown hK.1 hP 0 rfl rfl 10 (by decide) (hts (.fieldLink RX5 92 "HalftoneScreensModel" "s" "I") lk_X5_propertyOf_f92) (fun _ h9 => h9) rfl dX5_propertyOf_83 ?_
    obtain ⟨rfl, rfl, rfl, rfl⟩ := sm4 h
    exact hret _ _ _ _ _ rfl trivial rfl hP hD hS dX5_propertyOf_86
  replace h := ite_f c13 h
  by_cases c14 : a1 = 7
  · replace h := ite_t c14 h
    refine lv_tableIn (off := 81) (tgt := 87) hx hb dX5_propertyOf_6 (by rw [c14]; decide) (by rw [c14]; decide) (by rw [c14]; decide) (by decide) ?_
    refine lv_aload_n hx hb dX5_propertyOf_87 rfl (lv_at hl 0 rfl) ?_
    refine va_get (D := G.1) (ci := 5) (v := .int r1_2) (C := RX5) (T := TX5) (N := 35) hx hb hts fw_X5_propertyOf_X5 hown hK.1 hP 0 rfl rfl 11 (by decide) (hts (.fieldLink RX5 82 "HalftoneScreensModel" "h" "I") lk_X5_propertyOf_f82) (fun _ h9 => h9) rfl dX5_propertyOf_88 ?_
    obtain ⟨rfl, rfl, rfl, rfl⟩ := sm4 h
    exact hret _ _ _ _ _ rfl trivial rfl hP hD hS dX5_propertyOf_91
  replace h := ite_f c14 h
  by_cases c15 : a1 = 8
  · replace h := ite_t c15 h
    refine lv_tableIn (off := 86) (tgt := 92) hx hb dX5_propertyOf_6 (by rw [c15]; decide) (by rw [c15]; decide) (by rw [c15]; decide) (by decide) ?_
    refine lv_aload_n hx hb dX5_propertyOf_92 rfl (lv_at hl 0 rfl) ?_
    refine va_get (D := G.1) (ci := 5) (v := .ref v_q3) (C := RX5) (T := TX5) (N := 35) hx hb hts fw_X5_propertyOf_X5 hown hK.1 hP 0 rfl rfl 3 (by decide) (hts (.fieldLink RX5 17 "HalftoneScreensModel" "spotOf" "[I") lk_X5_propertyOf_f17) (fun _ h9 => h9) rfl dX5_propertyOf_93 ?_
    refine lv_iload_n hx hb dX5_propertyOf_96 rfl (lv_at hl 1 rfl) ?_
    obtain ⟨i16, h⟩ := gd_e h
    refine va_iald hx hb hK.1 hP 3 0 rfl rfl i16 dX5_propertyOf_97 ?_
    obtain ⟨rfl, rfl, rfl, rfl⟩ := sm4 h
    exact hret _ _ _ _ _ rfl trivial rfl hP hD hS dX5_propertyOf_98
  replace h := ite_f c15 h
  by_cases c17 : a1 = 9
  · replace h := ite_t c17 h
    refine lv_tableIn (off := 93) (tgt := 99) hx hb dX5_propertyOf_6 (by rw [c17]; decide) (by rw [c17]; decide) (by rw [c17]; decide) (by decide) ?_
    refine lv_aload_n hx hb dX5_propertyOf_99 rfl (lv_at hl 0 rfl) ?_
    refine va_get (D := G.1) (ci := 5) (v := .ref v_q4) (C := RX5) (T := TX5) (N := 35) hx hb hts fw_X5_propertyOf_X5 hown hK.1 hP 0 rfl rfl 4 (by decide) (hts (.fieldLink RX5 20 "HalftoneScreensModel" "inMiddle" "[Z") lk_X5_propertyOf_f20) (fun _ h9 => h9) rfl dX5_propertyOf_100 ?_
    refine lv_iload_n hx hb dX5_propertyOf_103 rfl (lv_at hl 1 rfl) ?_
    obtain ⟨i18, h⟩ := gd_e h
    refine va_zald hx hb hK.1 hP 4 1 rfl rfl i18 dX5_propertyOf_104 ?_
    refine lv_if_eq (tgt := 112) hx hb dX5_propertyOf_105 (by decide) (fun c19 => ?_) (fun c19 => ?_)
    · replace h := ite_t c19 h
      refine lv_iconst (v := 0) hx hb dX5_propertyOf_112 (by decide) ?_
      obtain ⟨rfl, rfl, rfl, rfl⟩ := sm4 h
      exact hret _ _ _ _ _ rfl trivial rfl hP hD hS dX5_propertyOf_113
    · replace h := ite_f c19 h
      refine lv_iconst (v := 1) hx hb dX5_propertyOf_108 (by decide) ?_
      refine lv_goto (tgt := 113) hx hb dX5_propertyOf_109 (by decide) ?_
      obtain ⟨rfl, rfl, rfl, rfl⟩ := sm4 h
      exact hret _ _ _ _ _ rfl trivial rfl hP hD hS dX5_propertyOf_113
  replace h := ite_f c17 h
  refine lv_tableOut (tgt := 114) hx hb dX5_propertyOf_6 (by have n2 := lv_neT (a := 0) c2 rfl; have n4 := lv_neT (a := 1) c4 rfl; have n6 := lv_neT (a := 2) c6 rfl; have n8 := lv_neT (a := 3) c8 rfl; have n10 := lv_neT (a := 4) c10 rfl; have n12 := lv_neT (a := 5) c12 rfl; have n13 := lv_neT (a := 6) c13 rfl; have n14 := lv_neT (a := 7) c14 rfl; have n15 := lv_neT (a := 8) c15 rfl; have n17 := lv_neT (a := 9) c17 rfl; omega) (by decide) ?_
  refine lv_aload_n hx hb dX5_propertyOf_114 rfl (lv_at hl 0 rfl) ?_
  refine va_get (D := G.1) (ci := 5) (v := .ref v_q5) (C := RX5) (T := TX5) (N := 35) hx hb hts fw_X5_propertyOf_X5 hown hK.1 hP 0 rfl rfl 5 (by decide) (hts (.fieldLink RX5 23 "HalftoneScreensModel" "tints" "[I") lk_X5_propertyOf_f23) (fun _ h9 => h9) rfl dX5_propertyOf_115 ?_
  refine lv_iload_n hx hb dX5_propertyOf_118 rfl (lv_at hl 1 rfl) ?_
  obtain ⟨i20, h⟩ := gd_e h
  refine va_iald hx hb hK.1 hP 5 0 rfl rfl i20 dX5_propertyOf_119 ?_
  obtain ⟨rfl, rfl, rfl, rfl⟩ := sm4 h
  exact hret _ _ _ _ _ rfl trivial rfl hP hD hS dX5_propertyOf_120
theorem fw_X5_screen_X5 : ∀ w ∈ wsX50, w ∈ wsX5_screen := fun w h => List.mem_cons_of_mem _ (List.mem_append_right _ h)
theorem lk_X5_screen_f59 : Cond.fieldLink RX5 59 "HalftoneScreensModel" "thrown" "I" ∈ wsX5_screen := List.mem_of_getElem? (i := 1) rfl
theorem hsX5_propertyOf : yX5_propertyOf.cls ≠ "java/lang/invoke/MethodHandle" ∧ yX5_propertyOf.cls ≠ "java/lang/invoke/VarHandle" ∧ (parseMethodDescriptor yX5_propertyOf.desc).map (fun d => d.parameters.length) = some 2 := by decide +kernel
theorem hvX5_propertyOf : yX5_propertyOf.cls = RX5 ∧ yX5_propertyOf.cls ≠ "java/lang/invoke/MethodHandle" ∧ yX5_propertyOf.cls ≠ "java/lang/invoke/VarHandle" ∧ (parseMethodDescriptor yX5_propertyOf.desc).map (fun d => d.parameters.length) = some 2 := ⟨rfl, hsX5_propertyOf⟩
abbrev rmX5_screen : Room := { frames := 5, cells := 0, slots := 0, locals := 113 }
set_option maxHeartbeats 4000000 in
set_option maxRecDepth 100000 in
theorem ctX5_screen (l : Launch) (G : GG) (v_q0 : Nat) (v_q1 : Nat) (v_q2 : Nat) (v_q3 : Nat) (v_q4 : Nat) (v_q5 : Nat) (v_q6 : Nat) (v_q7 : Nat) (v_q8 : Nat) (v_q9 : Nat) (v_q10 : Nat) (v_q11 : Nat) (v_q12 : Nat) (v_q13 : Nat) (v_q14 : Nat) (v_q15 : Nat) (v_q16 : Nat) (v_thrown : Int32) (v_gain : Int32) (v_size : Int32) (v_w : Int32) (v_s : Int32) (v_h : Int32) (v_laidArea : Int32) (v_parts : Int32) (v_isMinus : Int32) (v_readSpot : Int32) (v_isStar : Int32) (v_wantsNumber : Int32) (v_waiting : Int32) (v_shiftX : Int32) (v_shiftY : Int32) (v_times : Int32) (v_dotsLaid : Int32) (v_joinedLaid : Int32) (v_hash : Int64) (v_isThereA : (Nat → Int32)) (v_vA : (Nat → Int32)) (v_spotOfA : (Nat → Int32)) (v_inMiddleA : (Nat → Int32)) (v_tintsA : (Nat → Int32)) (v_bufferA : (Nat → Int32)) (v_valuesA : (Nat → Int32)) (v_ranksA : (Nat → Int32)) (v_oldRanksA : (Nat → Int32)) (v_partA : (Nat → Int32)) (v_allRanksA : (Nat → Int32)) (v_basesA : (Nat → Int32)) (v_isMetA : (Nat → Int32)) (v_metXA : (Nat → Int32)) (v_metYA : (Nat → Int32)) (v_lineA : (Nat → Int32)) (a0 : Int32) (a1 : Int32) (o0 : Int32) (o1 : Int32) (o2 : Int32) (o3 : Int32) (o4 : Int32) (h : mX5_screen v_w v_s v_h v_isThereA v_vA v_spotOfA v_inMiddleA v_tintsA a0 a1 = some (o0, o1, o2, o3, o4))  : Met l yX5_screen wsX5_screen rmX5_screen (va_Pc [.ref v_q0, .int a0, .int a1] (PreD G (wdX5 G v_q0 v_q1 v_q2 v_q3 v_q4 v_q5 v_q6 v_q7 v_q8 v_q9 v_q10 v_q11 v_q12 v_q13 v_q14 v_q15 v_q16 v_thrown v_gain v_size v_w v_s v_h v_laidArea v_parts v_isMinus v_readSpot v_isStar v_wantsNumber v_waiting v_shiftX v_shiftY v_times v_dotsLaid v_joinedLaid v_hash v_isThereA v_vA v_spotOfA v_inMiddleA v_tintsA v_bufferA v_valuesA v_ranksA v_oldRanksA v_partA v_allRanksA v_basesA v_isMetA v_metXA v_metYA v_lineA) (fun _ => True))) (QwA G (va_A0 (wdX5 G v_q0 v_q1 v_q2 v_q3 v_q4 v_q5 v_q6 v_q7 v_q8 v_q9 v_q10 v_q11 v_q12 v_q13 v_q14 v_q15 v_q16 v_thrown v_gain v_size v_w v_s v_h v_laidArea v_parts v_isMinus v_readSpot v_isStar v_wantsNumber v_waiting v_shiftX v_shiftY v_times v_dotsLaid v_joinedLaid v_hash v_isThereA v_vA v_spotOfA v_inMiddleA v_tintsA v_bufferA v_valuesA v_ranksA v_oldRanksA v_partA v_allRanksA v_basesA v_isMetA v_metXA v_metYA v_lineA)) (wdX5 G v_q0 v_q1 v_q2 v_q3 v_q4 v_q5 v_q6 v_q7 v_q8 v_q9 v_q10 v_q11 v_q12 v_q13 v_q14 v_q15 v_q16 o1 v_gain v_size o2 o3 o4 v_laidArea v_parts v_isMinus v_readSpot v_isStar v_wantsNumber v_waiting v_shiftX v_shiftY v_times v_dotsLaid v_joinedLaid v_hash v_isThereA v_vA v_spotOfA v_inMiddleA v_tintsA v_bufferA v_valuesA v_ranksA v_oldRanksA v_partA v_allRanksA v_basesA v_isMetA v_metXA v_metYA v_lineA) (some (.int o0)) True) 0 0 (va_A0 (wdX5 G v_q0 v_q1 v_q2 v_q3 v_q4 v_q5 v_q6 v_q7 v_q8 v_q9 v_q10 v_q11 v_q12 v_q13 v_q14 v_q15 v_q16 v_thrown v_gain v_size v_w v_s v_h v_laidArea v_parts v_isMinus v_readSpot v_isStar v_wantsNumber v_waiting v_shiftX v_shiftY v_times v_dotsLaid v_joinedLaid v_hash v_isThereA v_vA v_spotOfA v_inMiddleA v_tintsA v_bufferA v_valuesA v_ranksA v_oldRanksA v_partA v_allRanksA v_basesA v_isMetA v_metXA v_metYA v_lineA)) := by
  refine of_wi (cc := cX5_screen) (maxL := 3) (ty := .int) (plainFor_of_name (by decide)) rfl (Nat.le_of_ble_eq_true rfl) ?_
  intro p e s m args below meth c ls Q A S hl hP hD hS hK hX hA hret
  obtain ⟨H, hH⟩ : ∃ H, H = s.heap := ⟨_, rfl⟩
  obtain ⟨locs, hlocs⟩ : ∃ L : List Loc, L = [] := ⟨_, rfl⟩
  rw [← hlocs]
  rw [← hlocs] at hS
  have hP : va_P G.1 vwCl (wdX5 G v_q0 v_q1 v_q2 v_q3 v_q4 v_q5 v_q6 v_q7 v_q8 v_q9 v_q10 v_q11 v_q12 v_q13 v_q14 v_q15 v_q16 v_thrown v_gain v_size v_w v_s v_h v_laidArea v_parts v_isMinus v_readSpot v_isStar v_wantsNumber v_waiting v_shiftX v_shiftY v_times v_dotsLaid v_joinedLaid v_hash v_isThereA v_vA v_spotOfA v_inMiddleA v_tintsA v_bufferA v_valuesA v_ranksA v_oldRanksA v_partA v_allRanksA v_basesA v_isMetA v_metXA v_metYA v_lineA) H := by rw [hH]; exact hP
  have hS : va_S A s.heap H locs := by rw [hH]; exact hS
  suffices hgo : W p l e rmX5_screen s m args below meth c H locs 0 0 Q (F0 m 0 ls []) by rw [hH] at hgo; exact hgo
  have S : CallFix p m c cX5_screen 3 s args wsX5_screen RX5 := S
  obtain ⟨hx, hb, hml, hown, hts⟩ := id S
  have hl : lv_has ls 3 [(0, .ref v_q0), (1, .int a0), (2, .int a1)] := hl
  unfold mX5_screen at h
  refine lv_aload_n hx hb dX5_screen_0 rfl (lv_at hl 0 rfl) ?_
  refine lv_aload_n hx hb dX5_screen_1 rfl (lv_at hl 0 rfl) ?_
  refine lv_iload_n hx hb dX5_screen_2 rfl (lv_at hl 1 rfl) ?_
  refine lv_iload_n hx hb dX5_screen_3 rfl (lv_at hl 2 rfl) ?_
  refine lv_iconst (v := 0) hx hb dX5_screen_4 (by decide) ?_
  refine lv_bipush (v := 10) hx hb dX5_screen_5 (by decide) ?_
  obtain ⟨r1_0, g1, h⟩ := bnd1_e h
  refine roSi1 (rest := [.int a0, .ref v_q0, .ref v_q0]) (As := [.int a1, .int 0, .int 10]) S (ctX5_within l G a1 0 10 r1_0 g1) (va_cwS 3 hts gX5_screen_X5_within rfl rfl rfl hsX5_within ⟨Nat.le_of_ble_eq_true rfl, Nat.le_of_ble_eq_true rfl⟩) hK hP [] rfl rfl hl.1 rfl (Nat.le_of_ble_eq_true rfl) dX5_screen_7 ⟨Nat.le_refl _, Nat.le_refl _⟩ (fun hz1 => ?_)
  obtain ⟨r2_0, g2, h⟩ := bnd1_e h
  refine roVi1 (rest := [.ref v_q0]) (As := [.int a0, .int r1_0]) S (ctX5_wrong l G v_q0 v_q1 v_q2 v_q3 v_q4 v_q5 v_q6 v_q7 v_q8 v_q9 v_q10 v_q11 v_q12 v_q13 v_q14 v_q15 v_q16 v_thrown v_gain v_size v_w v_s v_h v_laidArea v_parts v_isMinus v_readSpot v_isStar v_wantsNumber v_waiting v_shiftX v_shiftY v_times v_dotsLaid v_joinedLaid v_hash v_isThereA v_vA v_spotOfA v_inMiddleA v_tintsA v_bufferA v_valuesA v_ranksA v_oldRanksA v_partA v_allRanksA v_basesA v_isMetA v_metXA v_metYA v_lineA a0 r1_0 r2_0 g2) (cwV 2 hts gX5_screen_X5_wrong rfl rfl rfl hvX5_wrong ⟨Nat.le_of_ble_eq_true rfl, Nat.le_of_ble_eq_true rfl⟩) hK hP [0, 1, 2, 3, 4, 5, 6, 7, 8, 9, 10, 11, 12, 13, 14, 15, 16] rfl 0 5 rfl rfl rfl rfl hl.1 rfl (Nat.le_of_ble_eq_true rfl) dX5_screen_10 ⟨Nat.le_refl _, Nat.le_refl _⟩ (fun _ => ?_)
  refine va_put (D := G.1) (ci := 5) (v := .int r2_0) (ty := .int) (C := RX5) (T := TX5) (N := 35) hx hb hts fw_X5_screen_X5 tyX5 tyX5_ok nmX5 hown hK.1 hP hD hS 0 rfl rfl 0 (by decide) (hts (.fieldLink RX5 59 "HalftoneScreensModel" "thrown" "I") lk_X5_screen_f59) (fun _ h9 => h9) rfl (tyX5_ok 0 (by decide)) rfl rfl (Nat.le_of_ble_eq_true rfl) dX5_screen_13 (fun H locs hP hD hS => ?_)
  have hP : va_P G.1 vwCl (wdX5 G v_q0 v_q1 v_q2 v_q3 v_q4 v_q5 v_q6 v_q7 v_q8 v_q9 v_q10 v_q11 v_q12 v_q13 v_q14 v_q15 v_q16 r2_0 v_gain v_size v_w v_s v_h v_laidArea v_parts v_isMinus v_readSpot v_isStar v_wantsNumber v_waiting v_shiftX v_shiftY v_times v_dotsLaid v_joinedLaid v_hash v_isThereA v_vA v_spotOfA v_inMiddleA v_tintsA v_bufferA v_valuesA v_ranksA v_oldRanksA v_partA v_allRanksA v_basesA v_isMetA v_metXA v_metYA v_lineA) H := hP
  have hD : va_D A (wdX5 G v_q0 v_q1 v_q2 v_q3 v_q4 v_q5 v_q6 v_q7 v_q8 v_q9 v_q10 v_q11 v_q12 v_q13 v_q14 v_q15 v_q16 r2_0 v_gain v_size v_w v_s v_h v_laidArea v_parts v_isMinus v_readSpot v_isStar v_wantsNumber v_waiting v_shiftX v_shiftY v_times v_dotsLaid v_joinedLaid v_hash v_isThereA v_vA v_spotOfA v_inMiddleA v_tintsA v_bufferA v_valuesA v_ranksA v_oldRanksA v_partA v_allRanksA v_basesA v_isMetA v_metXA v_metYA v_lineA) := hD
  refine lv_aload_n hx hb dX5_screen_16 rfl (lv_at hl 0 rfl) ?_
  refine va_get (D := G.1) (ci := 5) (v := .int r2_0) (C := RX5) (T := TX5) (N := 35) hx hb hts fw_X5_screen_X5 hown hK.1 hP 0 rfl rfl 0 (by decide) (hts (.fieldLink RX5 59 "HalftoneScreensModel" "thrown" "I") lk_X5_screen_f59) (fun _ h9 => h9) rfl dX5_screen_17 ?_
  refine lv_if_le (tgt := 27) hx hb dX5_screen_20 (by decide) (fun c3 => ?_) (fun c3 => ?_)
  · replace h := ite_t c3 h
    refine lv_aload_n hx hb dX5_screen_27 rfl (lv_at hl 0 rfl) ?_
    refine lv_iload_n hx hb dX5_screen_28 rfl (lv_at hl 1 rfl) ?_
    refine lv_iload_n hx hb dX5_screen_29 rfl (lv_at hl 2 rfl) ?_
    obtain ⟨r4_0, r4_1, r4_2, r4_3, g4, h⟩ := bnd4_e h
    refine rwV_same (rest := []) (As := [.int a0, .int a1]) S (ctX5_propertyOf l G v_q0 v_q1 v_q2 v_q3 v_q4 v_q5 v_q6 v_q7 v_q8 v_q9 v_q10 v_q11 v_q12 v_q13 v_q14 v_q15 v_q16 r2_0 v_gain v_size v_w v_s v_h v_laidArea v_parts v_isMinus v_readSpot v_isStar v_wantsNumber v_waiting v_shiftX v_shiftY v_times v_dotsLaid v_joinedLaid v_hash v_isThereA v_vA v_spotOfA v_inMiddleA v_tintsA v_bufferA v_valuesA v_ranksA v_oldRanksA v_partA v_allRanksA v_basesA v_isMetA v_metXA v_metYA v_lineA a0 a1 r4_0 r4_1 r4_2 r4_3 g4) (cwV 2 hts gX5_screen_X5_propertyOf rfl rfl rfl hvX5_propertyOf ⟨Nat.le_of_ble_eq_true rfl, Nat.le_of_ble_eq_true rfl⟩) hK hP hD hS xb_triv (fun _ _ _ => trivial) 0 5 rfl rfl rfl rfl hl.1 rfl (Nat.le_of_ble_eq_true rfl) dX5_screen_30 ⟨Nat.le_refl _, Nat.le_refl _⟩ (fun _ H locs hP hD hS => ?_)
    have hP : va_P G.1 vwCl (wdX5 G v_q0 v_q1 v_q2 v_q3 v_q4 v_q5 v_q6 v_q7 v_q8 v_q9 v_q10 v_q11 v_q12 v_q13 v_q14 v_q15 v_q16 r2_0 v_gain v_size r4_1 r4_2 r4_3 v_laidArea v_parts v_isMinus v_readSpot v_isStar v_wantsNumber v_waiting v_shiftX v_shiftY v_times v_dotsLaid v_joinedLaid v_hash v_isThereA v_vA v_spotOfA v_inMiddleA v_tintsA v_bufferA v_valuesA v_ranksA v_oldRanksA v_partA v_allRanksA v_basesA v_isMetA v_metXA v_metYA v_lineA) H := hP
    have hD : va_D A (wdX5 G v_q0 v_q1 v_q2 v_q3 v_q4 v_q5 v_q6 v_q7 v_q8 v_q9 v_q10 v_q11 v_q12 v_q13 v_q14 v_q15 v_q16 r2_0 v_gain v_size r4_1 r4_2 r4_3 v_laidArea v_parts v_isMinus v_readSpot v_isStar v_wantsNumber v_waiting v_shiftX v_shiftY v_times v_dotsLaid v_joinedLaid v_hash v_isThereA v_vA v_spotOfA v_inMiddleA v_tintsA v_bufferA v_valuesA v_ranksA v_oldRanksA v_partA v_allRanksA v_basesA v_isMetA v_metXA v_metYA v_lineA) := hD
    obtain ⟨rfl, rfl, rfl, rfl, rfl⟩ := sm5 h
    exact hret _ _ _ _ _ rfl trivial rfl hP hD hS dX5_screen_33
  · replace h := ite_f c3 h
    refine lv_iconst (v := 0) hx hb dX5_screen_23 (by decide) ?_
    refine lv_goto (tgt := 33) hx hb dX5_screen_24 (by decide) ?_
    obtain ⟨rfl, rfl, rfl, rfl, rfl⟩ := sm5 h
    exact hret _ _ _ _ _ rfl trivial rfl hP hD hS dX5_screen_33
theorem fw_X5_place_X5 : ∀ w ∈ wsX50, w ∈ wsX5_place := fun w h => List.mem_cons_of_mem _ (List.mem_append_right _ h)
theorem lk_X5_place_f59 : Cond.fieldLink RX5 59 "HalftoneScreensModel" "thrown" "I" ∈ wsX5_place := List.mem_of_getElem? (i := 1) rfl
theorem hsX5_isPixel : yX5_isPixel.cls ≠ "java/lang/invoke/MethodHandle" ∧ yX5_isPixel.cls ≠ "java/lang/invoke/VarHandle" ∧ (parseMethodDescriptor yX5_isPixel.desc).map (fun d => d.parameters.length) = some 2 := by decide +kernel
theorem hvX5_isPixel : yX5_isPixel.cls = RX5 ∧ yX5_isPixel.cls ≠ "java/lang/invoke/MethodHandle" ∧ yX5_isPixel.cls ≠ "java/lang/invoke/VarHandle" ∧ (parseMethodDescriptor yX5_isPixel.desc).map (fun d => d.parameters.length) = some 2 := ⟨rfl, hsX5_isPixel⟩
abbrev rmX5_place : Room := { frames := 4, cells := 0, slots := 0, locals := 91 }
set_option maxHeartbeats 4000000 in
set_option maxRecDepth 100000 in
theorem ctX5_place (l : Launch) (G : GG) (v_q0 : Nat) (v_q1 : Nat) (v_q2 : Nat) (v_q3 : Nat) (v_q4 : Nat) (v_q5 : Nat) (v_q6 : Nat) (v_q7 : Nat) (v_q8 : Nat) (v_q9 : Nat) (v_q10 : Nat) (v_q11 : Nat) (v_q12 : Nat) (v_q13 : Nat) (v_q14 : Nat) (v_q15 : Nat) (v_q16 : Nat) (v_thrown : Int32) (v_gain : Int32) (v_size : Int32) (v_w : Int32) (v_s : Int32) (v_h : Int32) (v_laidArea : Int32) (v_parts : Int32) (v_isMinus : Int32) (v_readSpot : Int32) (v_isStar : Int32) (v_wantsNumber : Int32) (v_waiting : Int32) (v_shiftX : Int32) (v_shiftY : Int32) (v_times : Int32) (v_dotsLaid : Int32) (v_joinedLaid : Int32) (v_hash : Int64) (v_isThereA : (Nat → Int32)) (v_vA : (Nat → Int32)) (v_spotOfA : (Nat → Int32)) (v_inMiddleA : (Nat → Int32)) (v_tintsA : (Nat → Int32)) (v_bufferA : (Nat → Int32)) (v_valuesA : (Nat → Int32)) (v_ranksA : (Nat → Int32)) (v_oldRanksA : (Nat → Int32)) (v_partA : (Nat → Int32)) (v_allRanksA : (Nat → Int32)) (v_basesA : (Nat → Int32)) (v_isMetA : (Nat → Int32)) (v_metXA : (Nat → Int32)) (v_metYA : (Nat → Int32)) (v_lineA : (Nat → Int32)) (a0 : Int32) (a1 : Int32) (a2 : Int32) (o0 : Int32) (o1 : Int32) (o2 : Int32) (o3 : Int32) (o4 : Int32) (h : mX5_place v_w v_s v_h v_isThereA v_vA a0 a1 a2 = some (o0, o1, o2, o3, o4))  : Met l yX5_place wsX5_place rmX5_place (va_Pc [.ref v_q0, .int a0, .int a1, .int a2] (PreD G (wdX5 G v_q0 v_q1 v_q2 v_q3 v_q4 v_q5 v_q6 v_q7 v_q8 v_q9 v_q10 v_q11 v_q12 v_q13 v_q14 v_q15 v_q16 v_thrown v_gain v_size v_w v_s v_h v_laidArea v_parts v_isMinus v_readSpot v_isStar v_wantsNumber v_waiting v_shiftX v_shiftY v_times v_dotsLaid v_joinedLaid v_hash v_isThereA v_vA v_spotOfA v_inMiddleA v_tintsA v_bufferA v_valuesA v_ranksA v_oldRanksA v_partA v_allRanksA v_basesA v_isMetA v_metXA v_metYA v_lineA) (fun _ => True))) (QwA G (va_A0 (wdX5 G v_q0 v_q1 v_q2 v_q3 v_q4 v_q5 v_q6 v_q7 v_q8 v_q9 v_q10 v_q11 v_q12 v_q13 v_q14 v_q15 v_q16 v_thrown v_gain v_size v_w v_s v_h v_laidArea v_parts v_isMinus v_readSpot v_isStar v_wantsNumber v_waiting v_shiftX v_shiftY v_times v_dotsLaid v_joinedLaid v_hash v_isThereA v_vA v_spotOfA v_inMiddleA v_tintsA v_bufferA v_valuesA v_ranksA v_oldRanksA v_partA v_allRanksA v_basesA v_isMetA v_metXA v_metYA v_lineA)) (wdX5 G v_q0 v_q1 v_q2 v_q3 v_q4 v_q5 v_q6 v_q7 v_q8 v_q9 v_q10 v_q11 v_q12 v_q13 v_q14 v_q15 v_q16 o1 v_gain v_size o2 o3 o4 v_laidArea v_parts v_isMinus v_readSpot v_isStar v_wantsNumber v_waiting v_shiftX v_shiftY v_times v_dotsLaid v_joinedLaid v_hash v_isThereA v_vA v_spotOfA v_inMiddleA v_tintsA v_bufferA v_valuesA v_ranksA v_oldRanksA v_partA v_allRanksA v_basesA v_isMetA v_metXA v_metYA v_lineA) (some (.int o0)) True) 0 0 (va_A0 (wdX5 G v_q0 v_q1 v_q2 v_q3 v_q4 v_q5 v_q6 v_q7 v_q8 v_q9 v_q10 v_q11 v_q12 v_q13 v_q14 v_q15 v_q16 v_thrown v_gain v_size v_w v_s v_h v_laidArea v_parts v_isMinus v_readSpot v_isStar v_wantsNumber v_waiting v_shiftX v_shiftY v_times v_dotsLaid v_joinedLaid v_hash v_isThereA v_vA v_spotOfA v_inMiddleA v_tintsA v_bufferA v_valuesA v_ranksA v_oldRanksA v_partA v_allRanksA v_basesA v_isMetA v_metXA v_metYA v_lineA)) := by
  refine of_wi (cc := cX5_place) (maxL := 4) (ty := .int) (plainFor_of_name (by decide)) rfl (Nat.le_of_ble_eq_true rfl) ?_
  intro p e s m args below meth c ls Q A S hl hP hD hS hK hX hA hret
  obtain ⟨H, hH⟩ : ∃ H, H = s.heap := ⟨_, rfl⟩
  obtain ⟨locs, hlocs⟩ : ∃ L : List Loc, L = [] := ⟨_, rfl⟩
  rw [← hlocs]
  rw [← hlocs] at hS
  have hP : va_P G.1 vwCl (wdX5 G v_q0 v_q1 v_q2 v_q3 v_q4 v_q5 v_q6 v_q7 v_q8 v_q9 v_q10 v_q11 v_q12 v_q13 v_q14 v_q15 v_q16 v_thrown v_gain v_size v_w v_s v_h v_laidArea v_parts v_isMinus v_readSpot v_isStar v_wantsNumber v_waiting v_shiftX v_shiftY v_times v_dotsLaid v_joinedLaid v_hash v_isThereA v_vA v_spotOfA v_inMiddleA v_tintsA v_bufferA v_valuesA v_ranksA v_oldRanksA v_partA v_allRanksA v_basesA v_isMetA v_metXA v_metYA v_lineA) H := by rw [hH]; exact hP
  have hS : va_S A s.heap H locs := by rw [hH]; exact hS
  suffices hgo : W p l e rmX5_place s m args below meth c H locs 0 0 Q (F0 m 0 ls []) by rw [hH] at hgo; exact hgo
  have S : CallFix p m c cX5_place 4 s args wsX5_place RX5 := S
  obtain ⟨hx, hb, hml, hown, hts⟩ := id S
  have hl : lv_has ls 4 [(0, .ref v_q0), (1, .int a0), (2, .int a1), (3, .int a2)] := hl
  unfold mX5_place at h
  refine lv_aload_n hx hb dX5_place_0 rfl (lv_at hl 0 rfl) ?_
  refine lv_aload_n hx hb dX5_place_1 rfl (lv_at hl 0 rfl) ?_
  refine lv_iload_n hx hb dX5_place_2 rfl (lv_at hl 1 rfl) ?_
  refine lv_iload_n hx hb dX5_place_3 rfl (lv_at hl 2 rfl) ?_
  refine lv_iload_n hx hb dX5_place_4 rfl (lv_at hl 3 rfl) ?_
  obtain ⟨r1_0, g1, h⟩ := bnd1_e h
  refine roSi1 (rest := [.int a0, .ref v_q0, .ref v_q0]) (As := [.int a1, .int a2]) S (ctX5_isPixel l G a1 a2 r1_0 g1) (va_cwS 2 hts gX5_place_X5_isPixel rfl rfl rfl hsX5_isPixel ⟨Nat.le_of_ble_eq_true rfl, Nat.le_of_ble_eq_true rfl⟩) hK hP [] rfl rfl hl.1 rfl (Nat.le_of_ble_eq_true rfl) dX5_place_5 ⟨Nat.le_refl _, Nat.le_refl _⟩ (fun hz1 => ?_)
  obtain ⟨r2_0, g2, h⟩ := bnd1_e h
  refine roVi1 (rest := [.ref v_q0]) (As := [.int a0, .int r1_0]) S (ctX5_wrong l G v_q0 v_q1 v_q2 v_q3 v_q4 v_q5 v_q6 v_q7 v_q8 v_q9 v_q10 v_q11 v_q12 v_q13 v_q14 v_q15 v_q16 v_thrown v_gain v_size v_w v_s v_h v_laidArea v_parts v_isMinus v_readSpot v_isStar v_wantsNumber v_waiting v_shiftX v_shiftY v_times v_dotsLaid v_joinedLaid v_hash v_isThereA v_vA v_spotOfA v_inMiddleA v_tintsA v_bufferA v_valuesA v_ranksA v_oldRanksA v_partA v_allRanksA v_basesA v_isMetA v_metXA v_metYA v_lineA a0 r1_0 r2_0 g2) (cwV 2 hts gX5_place_X5_wrong rfl rfl rfl hvX5_wrong ⟨Nat.le_of_ble_eq_true rfl, Nat.le_of_ble_eq_true rfl⟩) hK hP [0, 1, 2, 3, 4, 5, 6, 7, 8, 9, 10, 11, 12, 13, 14, 15, 16] rfl 0 5 rfl rfl rfl rfl hl.1 rfl (Nat.le_of_ble_eq_true rfl) dX5_place_8 ⟨Nat.le_refl _, Nat.le_refl _⟩ (fun _ => ?_)
  refine va_put (D := G.1) (ci := 5) (v := .int r2_0) (ty := .int) (C := RX5) (T := TX5) (N := 35) hx hb hts fw_X5_place_X5 tyX5 tyX5_ok nmX5 hown hK.1 hP hD hS 0 rfl rfl 0 (by decide) (hts (.fieldLink RX5 59 "HalftoneScreensModel" "thrown" "I") lk_X5_place_f59) (fun _ h9 => h9) rfl (tyX5_ok 0 (by decide)) rfl rfl (Nat.le_of_ble_eq_true rfl) dX5_place_11 (fun H locs hP hD hS => ?_)
  have hP : va_P G.1 vwCl (wdX5 G v_q0 v_q1 v_q2 v_q3 v_q4 v_q5 v_q6 v_q7 v_q8 v_q9 v_q10 v_q11 v_q12 v_q13 v_q14 v_q15 v_q16 r2_0 v_gain v_size v_w v_s v_h v_laidArea v_parts v_isMinus v_readSpot v_isStar v_wantsNumber v_waiting v_shiftX v_shiftY v_times v_dotsLaid v_joinedLaid v_hash v_isThereA v_vA v_spotOfA v_inMiddleA v_tintsA v_bufferA v_valuesA v_ranksA v_oldRanksA v_partA v_allRanksA v_basesA v_isMetA v_metXA v_metYA v_lineA) H := hP
  have hD : va_D A (wdX5 G v_q0 v_q1 v_q2 v_q3 v_q4 v_q5 v_q6 v_q7 v_q8 v_q9 v_q10 v_q11 v_q12 v_q13 v_q14 v_q15 v_q16 r2_0 v_gain v_size v_w v_s v_h v_laidArea v_parts v_isMinus v_readSpot v_isStar v_wantsNumber v_waiting v_shiftX v_shiftY v_times v_dotsLaid v_joinedLaid v_hash v_isThereA v_vA v_spotOfA v_inMiddleA v_tintsA v_bufferA v_valuesA v_ranksA v_oldRanksA v_partA v_allRanksA v_basesA v_isMetA v_metXA v_metYA v_lineA) := hD
  refine lv_aload_n hx hb dX5_place_14 rfl (lv_at hl 0 rfl) ?_
  refine va_get (D := G.1) (ci := 5) (v := .int r2_0) (C := RX5) (T := TX5) (N := 35) hx hb hts fw_X5_place_X5 hown hK.1 hP 0 rfl rfl 0 (by decide) (hts (.fieldLink RX5 59 "HalftoneScreensModel" "thrown" "I") lk_X5_place_f59) (fun _ h9 => h9) rfl dX5_place_15 ?_
  refine lv_if_le (tgt := 23) hx hb dX5_place_18 (by decide) (fun c3 => ?_) (fun c3 => ?_)
  · replace h := ite_t c3 h
    refine lv_aload_n hx hb dX5_place_23 rfl (lv_at hl 0 rfl) ?_
    refine lv_iload_n hx hb dX5_place_24 rfl (lv_at hl 1 rfl) ?_
    obtain ⟨r4_0, r4_1, r4_2, g4, h⟩ := bnd3_e h
    refine rwV_same (rest := []) (As := [.int a0]) S (ctX5_layScreen l G v_q0 v_q1 v_q2 v_q3 v_q4 v_q5 v_q6 v_q7 v_q8 v_q9 v_q10 v_q11 v_q12 v_q13 v_q14 v_q15 v_q16 r2_0 v_gain v_size v_w v_s v_h v_laidArea v_parts v_isMinus v_readSpot v_isStar v_wantsNumber v_waiting v_shiftX v_shiftY v_times v_dotsLaid v_joinedLaid v_hash v_isThereA v_vA v_spotOfA v_inMiddleA v_tintsA v_bufferA v_valuesA v_ranksA v_oldRanksA v_partA v_allRanksA v_basesA v_isMetA v_metXA v_metYA v_lineA a0 r4_0 r4_1 r4_2 g4) (cwV 1 hts gX5_place_X5_layScreen rfl rfl rfl hvX5_layScreen ⟨Nat.le_of_ble_eq_true rfl, Nat.le_of_ble_eq_true rfl⟩) hK hP hD hS xb_triv (fun _ _ _ => trivial) 0 5 rfl rfl rfl rfl hl.1 rfl (Nat.le_of_ble_eq_true rfl) dX5_place_25 ⟨Nat.le_refl _, Nat.le_refl _⟩ (fun _ H locs hP hD hS => ?_)
    have hP : va_P G.1 vwCl (wdX5 G v_q0 v_q1 v_q2 v_q3 v_q4 v_q5 v_q6 v_q7 v_q8 v_q9 v_q10 v_q11 v_q12 v_q13 v_q14 v_q15 v_q16 r2_0 v_gain v_size r4_0 r4_1 r4_2 v_laidArea v_parts v_isMinus v_readSpot v_isStar v_wantsNumber v_waiting v_shiftX v_shiftY v_times v_dotsLaid v_joinedLaid v_hash v_isThereA v_vA v_spotOfA v_inMiddleA v_tintsA v_bufferA v_valuesA v_ranksA v_oldRanksA v_partA v_allRanksA v_basesA v_isMetA v_metXA v_metYA v_lineA) H := hP
    have hD : va_D A (wdX5 G v_q0 v_q1 v_q2 v_q3 v_q4 v_q5 v_q6 v_q7 v_q8 v_q9 v_q10 v_q11 v_q12 v_q13 v_q14 v_q15 v_q16 r2_0 v_gain v_size r4_0 r4_1 r4_2 v_laidArea v_parts v_isMinus v_readSpot v_isStar v_wantsNumber v_waiting v_shiftX v_shiftY v_times v_dotsLaid v_joinedLaid v_hash v_isThereA v_vA v_spotOfA v_inMiddleA v_tintsA v_bufferA v_valuesA v_ranksA v_oldRanksA v_partA v_allRanksA v_basesA v_isMetA v_metXA v_metYA v_lineA) := hD
    refine lv_aload_n hx hb dX5_place_28 rfl (lv_at hl 0 rfl) ?_
    refine lv_iload_n hx hb dX5_place_29 rfl (lv_at hl 2 rfl) ?_
    refine lv_iload_n hx hb dX5_place_30 rfl (lv_at hl 3 rfl) ?_
    obtain ⟨r5_0, g5, h⟩ := bnd1_e h
    refine roVi1 (rest := []) (As := [.int a1, .int a2]) S (ctX5_placeAt l G v_q0 v_q1 v_q2 v_q3 v_q4 v_q5 v_q6 v_q7 v_q8 v_q9 v_q10 v_q11 v_q12 v_q13 v_q14 v_q15 v_q16 r2_0 v_gain v_size r4_0 r4_1 r4_2 v_laidArea v_parts v_isMinus v_readSpot v_isStar v_wantsNumber v_waiting v_shiftX v_shiftY v_times v_dotsLaid v_joinedLaid v_hash v_isThereA v_vA v_spotOfA v_inMiddleA v_tintsA v_bufferA v_valuesA v_ranksA v_oldRanksA v_partA v_allRanksA v_basesA v_isMetA v_metXA v_metYA v_lineA a1 a2 r5_0 g5) (cwV 2 hts gX5_place_X5_placeAt rfl rfl rfl hvX5_placeAt ⟨Nat.le_of_ble_eq_true rfl, Nat.le_of_ble_eq_true rfl⟩) hK hP [0, 1, 2, 3, 4, 5, 6, 7, 8, 9, 10, 11, 12, 13, 14, 15, 16] rfl 0 5 rfl rfl rfl rfl hl.1 rfl (Nat.le_of_ble_eq_true rfl) dX5_place_31 ⟨Nat.le_refl _, Nat.le_refl _⟩ (fun _ => ?_)
    obtain ⟨rfl, rfl, rfl, rfl, rfl⟩ := sm5 h
    exact hret _ _ _ _ _ rfl trivial rfl hP hD hS dX5_place_34
  · replace h := ite_f c3 h
    refine lv_iconst (v := 0) hx hb dX5_place_21 (by decide) ?_
    obtain ⟨rfl, rfl, rfl, rfl, rfl⟩ := sm5 h
    exact hret _ _ _ _ _ rfl trivial rfl hP hD hS dX5_place_22
theorem fw_X5_growth_X5 : ∀ w ∈ wsX50, w ∈ wsX5_growth := fun w h => List.mem_cons_of_mem _ (List.mem_append_right _ h)
theorem lk_X5_growth_f59 : Cond.fieldLink RX5 59 "HalftoneScreensModel" "thrown" "I" ∈ wsX5_growth := List.mem_of_getElem? (i := 1) rfl
theorem lk_X5_growth_f32 : Cond.fieldLink RX5 32 "HalftoneScreensModel" "ranks" "[I" ∈ wsX5_growth := List.mem_of_getElem? (i := 3) rfl
theorem lk_X5_growth_f29 : Cond.fieldLink RX5 29 "HalftoneScreensModel" "values" "[I" ∈ wsX5_growth := List.mem_of_getElem? (i := 2) rfl
abbrev rmX5_growth : Room := { frames := 5, cells := 0, slots := 0, locals := 130 }
set_option maxHeartbeats 4000000 in
set_option maxRecDepth 100000 in
theorem ctX5_growth (l : Launch) (G : GG) (v_q0 : Nat) (v_q1 : Nat) (v_q2 : Nat) (v_q3 : Nat) (v_q4 : Nat) (v_q5 : Nat) (v_q6 : Nat) (v_q7 : Nat) (v_q8 : Nat) (v_q9 : Nat) (v_q10 : Nat) (v_q11 : Nat) (v_q12 : Nat) (v_q13 : Nat) (v_q14 : Nat) (v_q15 : Nat) (v_q16 : Nat) (v_thrown : Int32) (v_gain : Int32) (v_size : Int32) (v_w : Int32) (v_s : Int32) (v_h : Int32) (v_laidArea : Int32) (v_parts : Int32) (v_isMinus : Int32) (v_readSpot : Int32) (v_isStar : Int32) (v_wantsNumber : Int32) (v_waiting : Int32) (v_shiftX : Int32) (v_shiftY : Int32) (v_times : Int32) (v_dotsLaid : Int32) (v_joinedLaid : Int32) (v_hash : Int64) (v_isThereA : (Nat → Int32)) (v_vA : (Nat → Int32)) (v_spotOfA : (Nat → Int32)) (v_inMiddleA : (Nat → Int32)) (v_tintsA : (Nat → Int32)) (v_bufferA : (Nat → Int32)) (v_valuesA : (Nat → Int32)) (v_ranksA : (Nat → Int32)) (v_oldRanksA : (Nat → Int32)) (v_partA : (Nat → Int32)) (v_allRanksA : (Nat → Int32)) (v_basesA : (Nat → Int32)) (v_isMetA : (Nat → Int32)) (v_metXA : (Nat → Int32)) (v_metYA : (Nat → Int32)) (v_lineA : (Nat → Int32)) (a0 : Int32) (a1 : Int32) (a2 : Int32) (o0 : Int32) (o1 : Int32) (o2 : Int32) (o3 : Int32) (o4 : Int32) (o5 : Int32) (o6 : (Nat → Int32)) (o7 : (Nat → Int32)) (h : mX5_growth v_w v_s v_h v_laidArea v_isThereA v_vA v_spotOfA v_inMiddleA v_valuesA v_ranksA a0 a1 a2 = some (o0, o1, o2, o3, o4, o5, o6, o7))  : Met l yX5_growth wsX5_growth rmX5_growth (va_Pc [.ref v_q0, .int a0, .int a1, .int a2] (PreD G (wdX5 G v_q0 v_q1 v_q2 v_q3 v_q4 v_q5 v_q6 v_q7 v_q8 v_q9 v_q10 v_q11 v_q12 v_q13 v_q14 v_q15 v_q16 v_thrown v_gain v_size v_w v_s v_h v_laidArea v_parts v_isMinus v_readSpot v_isStar v_wantsNumber v_waiting v_shiftX v_shiftY v_times v_dotsLaid v_joinedLaid v_hash v_isThereA v_vA v_spotOfA v_inMiddleA v_tintsA v_bufferA v_valuesA v_ranksA v_oldRanksA v_partA v_allRanksA v_basesA v_isMetA v_metXA v_metYA v_lineA) (fun _ => True))) (QwA G (va_A0 (wdX5 G v_q0 v_q1 v_q2 v_q3 v_q4 v_q5 v_q6 v_q7 v_q8 v_q9 v_q10 v_q11 v_q12 v_q13 v_q14 v_q15 v_q16 v_thrown v_gain v_size v_w v_s v_h v_laidArea v_parts v_isMinus v_readSpot v_isStar v_wantsNumber v_waiting v_shiftX v_shiftY v_times v_dotsLaid v_joinedLaid v_hash v_isThereA v_vA v_spotOfA v_inMiddleA v_tintsA v_bufferA v_valuesA v_ranksA v_oldRanksA v_partA v_allRanksA v_basesA v_isMetA v_metXA v_metYA v_lineA)) (wdX5 G v_q0 v_q1 v_q2 v_q3 v_q4 v_q5 v_q6 v_q7 v_q8 v_q9 v_q10 v_q11 v_q12 v_q13 v_q14 v_q15 v_q16 o1 v_gain v_size o2 o3 o4 o5 v_parts v_isMinus v_readSpot v_isStar v_wantsNumber v_waiting v_shiftX v_shiftY v_times v_dotsLaid v_joinedLaid v_hash v_isThereA v_vA v_spotOfA v_inMiddleA v_tintsA v_bufferA o6 o7 v_oldRanksA v_partA v_allRanksA v_basesA v_isMetA v_metXA v_metYA v_lineA) (some (.int o0)) True) 0 0 (va_A0 (wdX5 G v_q0 v_q1 v_q2 v_q3 v_q4 v_q5 v_q6 v_q7 v_q8 v_q9 v_q10 v_q11 v_q12 v_q13 v_q14 v_q15 v_q16 v_thrown v_gain v_size v_w v_s v_h v_laidArea v_parts v_isMinus v_readSpot v_isStar v_wantsNumber v_waiting v_shiftX v_shiftY v_times v_dotsLaid v_joinedLaid v_hash v_isThereA v_vA v_spotOfA v_inMiddleA v_tintsA v_bufferA v_valuesA v_ranksA v_oldRanksA v_partA v_allRanksA v_basesA v_isMetA v_metXA v_metYA v_lineA)) := by
  refine of_wi (cc := cX5_growth) (maxL := 4) (ty := .int) (plainFor_of_name (by decide)) rfl (Nat.le_of_ble_eq_true rfl) ?_
  intro p e s m args below meth c ls Q A S hl hP hD hS hK hX hA hret
  obtain ⟨H, hH⟩ : ∃ H, H = s.heap := ⟨_, rfl⟩
  obtain ⟨locs, hlocs⟩ : ∃ L : List Loc, L = [] := ⟨_, rfl⟩
  rw [← hlocs]
  rw [← hlocs] at hS
  have hP : va_P G.1 vwCl (wdX5 G v_q0 v_q1 v_q2 v_q3 v_q4 v_q5 v_q6 v_q7 v_q8 v_q9 v_q10 v_q11 v_q12 v_q13 v_q14 v_q15 v_q16 v_thrown v_gain v_size v_w v_s v_h v_laidArea v_parts v_isMinus v_readSpot v_isStar v_wantsNumber v_waiting v_shiftX v_shiftY v_times v_dotsLaid v_joinedLaid v_hash v_isThereA v_vA v_spotOfA v_inMiddleA v_tintsA v_bufferA v_valuesA v_ranksA v_oldRanksA v_partA v_allRanksA v_basesA v_isMetA v_metXA v_metYA v_lineA) H := by rw [hH]; exact hP
  have hS : va_S A s.heap H locs := by rw [hH]; exact hS
  suffices hgo : W p l e rmX5_growth s m args below meth c H locs 0 0 Q (F0 m 0 ls []) by rw [hH] at hgo; exact hgo
  have S : CallFix p m c cX5_growth 4 s args wsX5_growth RX5 := S
  obtain ⟨hx, hb, hml, hown, hts⟩ := id S
  have hl : lv_has ls 4 [(0, .ref v_q0), (1, .int a0), (2, .int a1), (3, .int a2)] := hl
  unfold mX5_growth at h
  refine lv_aload_n hx hb dX5_growth_0 rfl (lv_at hl 0 rfl) ?_
  refine lv_aload_n hx hb dX5_growth_1 rfl (lv_at hl 0 rfl) ?_
  refine lv_iload_n hx hb dX5_growth_2 rfl (lv_at hl 1 rfl) ?_
  refine lv_iload_n hx hb dX5_growth_3 rfl (lv_at hl 3 rfl) ?_
  refine lv_iconst (v := 0) hx hb dX5_growth_4 (by decide) ?_
  refine lv_iconst (v := 1) hx hb dX5_growth_5 (by decide) ?_
  obtain ⟨r1_0, g1, h⟩ := bnd1_e h
  refine roSi1 (rest := [.int a0, .ref v_q0, .ref v_q0]) (As := [.int a2, .int 0, .int 1]) S (ctX5_within l G a2 0 1 r1_0 g1) (va_cwS 3 hts gX5_growth_X5_within rfl rfl rfl hsX5_within ⟨Nat.le_of_ble_eq_true rfl, Nat.le_of_ble_eq_true rfl⟩) hK hP [] rfl rfl hl.1 rfl (Nat.le_of_ble_eq_true rfl) dX5_growth_6 ⟨Nat.le_refl _, Nat.le_refl _⟩ (fun hz1 => ?_)
  obtain ⟨r2_0, g2, h⟩ := bnd1_e h
  refine roVi1 (rest := [.ref v_q0]) (As := [.int a0, .int r1_0]) S (ctX5_wrong l G v_q0 v_q1 v_q2 v_q3 v_q4 v_q5 v_q6 v_q7 v_q8 v_q9 v_q10 v_q11 v_q12 v_q13 v_q14 v_q15 v_q16 v_thrown v_gain v_size v_w v_s v_h v_laidArea v_parts v_isMinus v_readSpot v_isStar v_wantsNumber v_waiting v_shiftX v_shiftY v_times v_dotsLaid v_joinedLaid v_hash v_isThereA v_vA v_spotOfA v_inMiddleA v_tintsA v_bufferA v_valuesA v_ranksA v_oldRanksA v_partA v_allRanksA v_basesA v_isMetA v_metXA v_metYA v_lineA a0 r1_0 r2_0 g2) (cwV 2 hts gX5_growth_X5_wrong rfl rfl rfl hvX5_wrong ⟨Nat.le_of_ble_eq_true rfl, Nat.le_of_ble_eq_true rfl⟩) hK hP [0, 1, 2, 3, 4, 5, 6, 7, 8, 9, 10, 11, 12, 13, 14, 15, 16] rfl 0 5 rfl rfl rfl rfl hl.1 rfl (Nat.le_of_ble_eq_true rfl) dX5_growth_9 ⟨Nat.le_refl _, Nat.le_refl _⟩ (fun _ => ?_)
  refine va_put (D := G.1) (ci := 5) (v := .int r2_0) (ty := .int) (C := RX5) (T := TX5) (N := 35) hx hb hts fw_X5_growth_X5 tyX5 tyX5_ok nmX5 hown hK.1 hP hD hS 0 rfl rfl 0 (by decide) (hts (.fieldLink RX5 59 "HalftoneScreensModel" "thrown" "I") lk_X5_growth_f59) (fun _ h9 => h9) rfl (tyX5_ok 0 (by decide)) rfl rfl (Nat.le_of_ble_eq_true rfl) dX5_growth_12 (fun H locs hP hD hS => ?_)
  have hP : va_P G.1 vwCl (wdX5 G v_q0 v_q1 v_q2 v_q3 v_q4 v_q5 v_q6 v_q7 v_q8 v_q9 v_q10 v_q11 v_q12 v_q13 v_q14 v_q15 v_q16 r2_0 v_gain v_size v_w v_s v_h v_laidArea v_parts v_isMinus v_readSpot v_isStar v_wantsNumber v_waiting v_shiftX v_shiftY v_times v_dotsLaid v_joinedLaid v_hash v_isThereA v_vA v_spotOfA v_inMiddleA v_tintsA v_bufferA v_valuesA v_ranksA v_oldRanksA v_partA v_allRanksA v_basesA v_isMetA v_metXA v_metYA v_lineA) H := hP
  have hD : va_D A (wdX5 G v_q0 v_q1 v_q2 v_q3 v_q4 v_q5 v_q6 v_q7 v_q8 v_q9 v_q10 v_q11 v_q12 v_q13 v_q14 v_q15 v_q16 r2_0 v_gain v_size v_w v_s v_h v_laidArea v_parts v_isMinus v_readSpot v_isStar v_wantsNumber v_waiting v_shiftX v_shiftY v_times v_dotsLaid v_joinedLaid v_hash v_isThereA v_vA v_spotOfA v_inMiddleA v_tintsA v_bufferA v_valuesA v_ranksA v_oldRanksA v_partA v_allRanksA v_basesA v_isMetA v_metXA v_metYA v_lineA) := hD
  refine lv_aload_n hx hb dX5_growth_15 rfl (lv_at hl 0 rfl) ?_
  refine lv_aload_n hx hb dX5_growth_16 rfl (lv_at hl 0 rfl) ?_
  refine va_get (D := G.1) (ci := 5) (v := .int r2_0) (C := RX5) (T := TX5) (N := 35) hx hb hts fw_X5_growth_X5 hown hK.1 hP 0 rfl rfl 0 (by decide) (hts (.fieldLink RX5 59 "HalftoneScreensModel" "thrown" "I") lk_X5_growth_f59) (fun _ h9 => h9) rfl dX5_growth_17 ?_
  obtain ⟨K3, hK3, h⟩ := jB1_e h
  have J3 : ∀ (j3_0 : Int32) (H : Heap) (locs : List Loc) (ls : Array Slot), K3 j3_0 = some (o0, o1, o2, o3, o4, o5, o6, o7) → lv_has ls 4 [(0, .ref v_q0), (1, .int a0), (2, .int a1), (3, .int a2)] → va_P G.1 vwCl (wdX5 G v_q0 v_q1 v_q2 v_q3 v_q4 v_q5 v_q6 v_q7 v_q8 v_q9 v_q10 v_q11 v_q12 v_q13 v_q14 v_q15 v_q16 r2_0 v_gain v_size v_w v_s v_h v_laidArea v_parts v_isMinus v_readSpot v_isStar v_wantsNumber v_waiting v_shiftX v_shiftY v_times v_dotsLaid v_joinedLaid v_hash v_isThereA v_vA v_spotOfA v_inMiddleA v_tintsA v_bufferA v_valuesA v_ranksA v_oldRanksA v_partA v_allRanksA v_basesA v_isMetA v_metXA v_metYA v_lineA) H → va_D A (wdX5 G v_q0 v_q1 v_q2 v_q3 v_q4 v_q5 v_q6 v_q7 v_q8 v_q9 v_q10 v_q11 v_q12 v_q13 v_q14 v_q15 v_q16 r2_0 v_gain v_size v_w v_s v_h v_laidArea v_parts v_isMinus v_readSpot v_isStar v_wantsNumber v_waiting v_shiftX v_shiftY v_times v_dotsLaid v_joinedLaid v_hash v_isThereA v_vA v_spotOfA v_inMiddleA v_tintsA v_bufferA v_valuesA v_ranksA v_oldRanksA v_partA v_allRanksA v_basesA v_isMetA v_metXA v_metYA v_lineA) → va_S A s.heap H locs → W p l e rmX5_growth s m args below meth c H locs 0 0 Q (F0 m 46 ls [.int j3_0, .ref v_q0]) := by
    intro j3_0 H locs ls h hl hP hD hS
    replace h := (hK3 j3_0).symm.trans h
    refine va_put (D := G.1) (ci := 5) (v := .int j3_0) (ty := .int) (C := RX5) (T := TX5) (N := 35) hx hb hts fw_X5_growth_X5 tyX5 tyX5_ok nmX5 hown hK.1 hP hD hS 0 rfl rfl 0 (by decide) (hts (.fieldLink RX5 59 "HalftoneScreensModel" "thrown" "I") lk_X5_growth_f59) (fun _ h9 => h9) rfl (tyX5_ok 0 (by decide)) rfl rfl (Nat.le_of_ble_eq_true rfl) dX5_growth_46 (fun H locs hP hD hS => ?_)
    have hP : va_P G.1 vwCl (wdX5 G v_q0 v_q1 v_q2 v_q3 v_q4 v_q5 v_q6 v_q7 v_q8 v_q9 v_q10 v_q11 v_q12 v_q13 v_q14 v_q15 v_q16 j3_0 v_gain v_size v_w v_s v_h v_laidArea v_parts v_isMinus v_readSpot v_isStar v_wantsNumber v_waiting v_shiftX v_shiftY v_times v_dotsLaid v_joinedLaid v_hash v_isThereA v_vA v_spotOfA v_inMiddleA v_tintsA v_bufferA v_valuesA v_ranksA v_oldRanksA v_partA v_allRanksA v_basesA v_isMetA v_metXA v_metYA v_lineA) H := hP
    have hD : va_D A (wdX5 G v_q0 v_q1 v_q2 v_q3 v_q4 v_q5 v_q6 v_q7 v_q8 v_q9 v_q10 v_q11 v_q12 v_q13 v_q14 v_q15 v_q16 j3_0 v_gain v_size v_w v_s v_h v_laidArea v_parts v_isMinus v_readSpot v_isStar v_wantsNumber v_waiting v_shiftX v_shiftY v_times v_dotsLaid v_joinedLaid v_hash v_isThereA v_vA v_spotOfA v_inMiddleA v_tintsA v_bufferA v_valuesA v_ranksA v_oldRanksA v_partA v_allRanksA v_basesA v_isMetA v_metXA v_metYA v_lineA) := hD
    refine lv_aload_n hx hb dX5_growth_49 rfl (lv_at hl 0 rfl) ?_
    refine va_get (D := G.1) (ci := 5) (v := .int j3_0) (C := RX5) (T := TX5) (N := 35) hx hb hts fw_X5_growth_X5 hown hK.1 hP 0 rfl rfl 0 (by decide) (hts (.fieldLink RX5 59 "HalftoneScreensModel" "thrown" "I") lk_X5_growth_f59) (fun _ h9 => h9) rfl dX5_growth_50 ?_
    refine lv_if_le (tgt := 58) hx hb dX5_growth_53 (by decide) (fun c8 => ?_) (fun c8 => ?_)
    · replace h := ite_t c8 h
      refine lv_aload_n hx hb dX5_growth_58 rfl (lv_at hl 0 rfl) ?_
      refine lv_iload_n hx hb dX5_growth_59 rfl (lv_at hl 1 rfl) ?_
      obtain ⟨r9_0, r9_1, r9_2, r9_3, r9_4, r9_5, g9, h⟩ := bnd6_e h
      refine rwV_same (rest := []) (As := [.int a0]) S (ctX5_layGrowth l G v_q0 v_q1 v_q2 v_q3 v_q4 v_q5 v_q6 v_q7 v_q8 v_q9 v_q10 v_q11 v_q12 v_q13 v_q14 v_q15 v_q16 j3_0 v_gain v_size v_w v_s v_h v_laidArea v_parts v_isMinus v_readSpot v_isStar v_wantsNumber v_waiting v_shiftX v_shiftY v_times v_dotsLaid v_joinedLaid v_hash v_isThereA v_vA v_spotOfA v_inMiddleA v_tintsA v_bufferA v_valuesA v_ranksA v_oldRanksA v_partA v_allRanksA v_basesA v_isMetA v_metXA v_metYA v_lineA a0 r9_0 r9_1 r9_2 r9_3 r9_4 r9_5 g9) (cwV 1 hts gX5_growth_X5_layGrowth rfl rfl rfl hvX5_layGrowth ⟨Nat.le_of_ble_eq_true rfl, Nat.le_of_ble_eq_true rfl⟩) hK hP hD hS xb_triv (fun _ _ _ => trivial) 0 5 rfl rfl rfl rfl hl.1 rfl (Nat.le_of_ble_eq_true rfl) dX5_growth_60 ⟨Nat.le_refl _, Nat.le_refl _⟩ (fun _ H locs hP hD hS => ?_)
      have hP : va_P G.1 vwCl (wdX5 G v_q0 v_q1 v_q2 v_q3 v_q4 v_q5 v_q6 v_q7 v_q8 v_q9 v_q10 v_q11 v_q12 v_q13 v_q14 v_q15 v_q16 j3_0 v_gain v_size r9_0 r9_1 r9_2 r9_3 v_parts v_isMinus v_readSpot v_isStar v_wantsNumber v_waiting v_shiftX v_shiftY v_times v_dotsLaid v_joinedLaid v_hash v_isThereA v_vA v_spotOfA v_inMiddleA v_tintsA v_bufferA r9_4 r9_5 v_oldRanksA v_partA v_allRanksA v_basesA v_isMetA v_metXA v_metYA v_lineA) H := hP
      have hD : va_D A (wdX5 G v_q0 v_q1 v_q2 v_q3 v_q4 v_q5 v_q6 v_q7 v_q8 v_q9 v_q10 v_q11 v_q12 v_q13 v_q14 v_q15 v_q16 j3_0 v_gain v_size r9_0 r9_1 r9_2 r9_3 v_parts v_isMinus v_readSpot v_isStar v_wantsNumber v_waiting v_shiftX v_shiftY v_times v_dotsLaid v_joinedLaid v_hash v_isThereA v_vA v_spotOfA v_inMiddleA v_tintsA v_bufferA r9_4 r9_5 v_oldRanksA v_partA v_allRanksA v_basesA v_isMetA v_metXA v_metYA v_lineA) := hD
      refine lv_iload_n hx hb dX5_growth_63 rfl (lv_at hl 3 rfl) ?_
      refine lv_if_ne (tgt := 76) hx hb dX5_growth_64 (by decide) (fun c10 => ?_) (fun c10 => ?_)
      · replace h := ite_f c10 h
        refine lv_aload_n hx hb dX5_growth_76 rfl (lv_at hl 0 rfl) ?_
        refine va_get (D := G.1) (ci := 5) (v := .ref v_q8) (C := RX5) (T := TX5) (N := 35) hx hb hts fw_X5_growth_X5 hown hK.1 hP 0 rfl rfl 13 (by decide) (hts (.fieldLink RX5 32 "HalftoneScreensModel" "ranks" "[I") lk_X5_growth_f32) (fun _ h9 => h9) rfl dX5_growth_77 ?_
        refine lv_iload_n hx hb dX5_growth_80 rfl (lv_at hl 2 rfl) ?_
        obtain ⟨i11, h⟩ := gd_e h
        refine va_iald hx hb hK.1 hP 8 0 rfl rfl i11 dX5_growth_81 ?_
        obtain ⟨rfl, rfl, rfl, rfl, rfl, rfl, rfl, rfl⟩ := sm8 h
        exact hret _ _ _ _ _ rfl trivial rfl hP hD hS dX5_growth_82
      · replace h := ite_t c10 h
        refine lv_aload_n hx hb dX5_growth_67 rfl (lv_at hl 0 rfl) ?_
        refine va_get (D := G.1) (ci := 5) (v := .ref v_q7) (C := RX5) (T := TX5) (N := 35) hx hb hts fw_X5_growth_X5 hown hK.1 hP 0 rfl rfl 12 (by decide) (hts (.fieldLink RX5 29 "HalftoneScreensModel" "values" "[I") lk_X5_growth_f29) (fun _ h9 => h9) rfl dX5_growth_68 ?_
        refine lv_iload_n hx hb dX5_growth_71 rfl (lv_at hl 2 rfl) ?_
        obtain ⟨i12, h⟩ := gd_e h
        refine va_iald hx hb hK.1 hP 7 0 rfl rfl i12 dX5_growth_72 ?_
        refine lv_goto (tgt := 82) hx hb dX5_growth_73 (by decide) ?_
        obtain ⟨rfl, rfl, rfl, rfl, rfl, rfl, rfl, rfl⟩ := sm8 h
        exact hret _ _ _ _ _ rfl trivial rfl hP hD hS dX5_growth_82
    · replace h := ite_f c8 h
      refine lv_iconst (v := 0) hx hb dX5_growth_56 (by decide) ?_
      obtain ⟨rfl, rfl, rfl, rfl, rfl, rfl, rfl, rfl⟩ := sm8 h
      exact hret _ _ _ _ _ rfl trivial rfl hP hD hS dX5_growth_57
  refine lv_if_ne (tgt := 42) hx hb dX5_growth_20 (by decide) (fun c4 => ?_) (fun c4 => ?_)
  · replace h := ite_f c4 h
    refine lv_aload_n hx hb dX5_growth_42 rfl (lv_at hl 0 rfl) ?_
    refine va_get (D := G.1) (ci := 5) (v := .int r2_0) (C := RX5) (T := TX5) (N := 35) hx hb hts fw_X5_growth_X5 hown hK.1 hP 0 rfl rfl 0 (by decide) (hts (.fieldLink RX5 59 "HalftoneScreensModel" "thrown" "I") lk_X5_growth_f59) (fun _ h9 => h9) rfl dX5_growth_43 ?_
    exact J3 r2_0 H locs ls h hl hP hD hS
  · replace h := ite_t c4 h
    refine lv_iload_n hx hb dX5_growth_23 rfl (lv_at hl 2 rfl) ?_
    refine lv_iconst (v := 0) hx hb dX5_growth_24 (by decide) ?_
    refine lv_aload_n hx hb dX5_growth_25 rfl (lv_at hl 0 rfl) ?_
    refine lv_iload_n hx hb dX5_growth_26 rfl (lv_at hl 1 rfl) ?_
    obtain ⟨r5_0, g5, h⟩ := bnd1_e h
    refine roVi1 (rest := [.int 0, .int a1, .ref v_q0]) (As := [.int a0]) S (ctX5_areaIn l G v_q0 v_q1 v_q2 v_q3 v_q4 v_q5 v_q6 v_q7 v_q8 v_q9 v_q10 v_q11 v_q12 v_q13 v_q14 v_q15 v_q16 r2_0 v_gain v_size v_w v_s v_h v_laidArea v_parts v_isMinus v_readSpot v_isStar v_wantsNumber v_waiting v_shiftX v_shiftY v_times v_dotsLaid v_joinedLaid v_hash v_isThereA v_vA v_spotOfA v_inMiddleA v_tintsA v_bufferA v_valuesA v_ranksA v_oldRanksA v_partA v_allRanksA v_basesA v_isMetA v_metXA v_metYA v_lineA a0 r5_0 g5) (cwV 1 hts gX5_growth_X5_areaIn rfl rfl rfl hvX5_areaIn ⟨Nat.le_of_ble_eq_true rfl, Nat.le_of_ble_eq_true rfl⟩) hK hP [0, 1, 2, 3, 4, 5, 6, 7, 8, 9, 10, 11, 12, 13, 14, 15, 16] rfl 0 5 rfl rfl rfl rfl hl.1 rfl (Nat.le_of_ble_eq_true rfl) dX5_growth_27 ⟨Nat.le_refl _, Nat.le_refl _⟩ (fun _ => ?_)
    refine lv_iconst (v := 1) hx hb dX5_growth_30 (by decide) ?_
    refine lv_isub hx hb dX5_growth_31 ?_
    obtain ⟨r6_0, g6, h⟩ := bnd1_e h
    refine roSi1 (rest := [.ref v_q0]) (As := [.int a1, .int 0, .int (r5_0 - 1)]) S (ctX5_within l G a1 0 (r5_0 - 1) r6_0 g6) (va_cwS 3 hts gX5_growth_X5_within rfl rfl rfl hsX5_within ⟨Nat.le_of_ble_eq_true rfl, Nat.le_of_ble_eq_true rfl⟩) hK hP [] rfl rfl hl.1 rfl (Nat.le_of_ble_eq_true rfl) dX5_growth_32 ⟨Nat.le_refl _, Nat.le_refl _⟩ (fun hz6 => ?_)
    refine lv_if_ne (tgt := 42) hx hb dX5_growth_35 (by decide) (fun c7 => ?_) (fun c7 => ?_)
    · replace h := ite_f c7 h
      refine lv_aload_n hx hb dX5_growth_42 rfl (lv_at hl 0 rfl) ?_
      refine va_get (D := G.1) (ci := 5) (v := .int r2_0) (C := RX5) (T := TX5) (N := 35) hx hb hts fw_X5_growth_X5 hown hK.1 hP 0 rfl rfl 0 (by decide) (hts (.fieldLink RX5 59 "HalftoneScreensModel" "thrown" "I") lk_X5_growth_f59) (fun _ h9 => h9) rfl dX5_growth_43 ?_
      exact J3 r2_0 H locs ls h hl hP hD hS
    · replace h := ite_t c7 h
      refine lv_iconst (v := 3) hx hb dX5_growth_38 (by decide) ?_
      refine lv_goto (tgt := 46) hx hb dX5_growth_39 (by decide) ?_
      exact J3 3 H locs ls h hl hP hD hS
theorem fw_X5_placeOf_X5 : ∀ w ∈ wsX50, w ∈ wsX5_placeOf := fun w h => List.mem_cons_of_mem _ (List.mem_append_right _ h)
theorem lk_X5_placeOf_f59 : Cond.fieldLink RX5 59 "HalftoneScreensModel" "thrown" "I" ∈ wsX5_placeOf := List.mem_of_getElem? (i := 1) rfl
theorem lk_X5_placeOf_f32 : Cond.fieldLink RX5 32 "HalftoneScreensModel" "ranks" "[I" ∈ wsX5_placeOf := List.mem_of_getElem? (i := 2) rfl
abbrev rmX5_placeOf : Room := { frames := 5, cells := 0, slots := 0, locals := 130 }
set_option maxHeartbeats 4000000 in
set_option maxRecDepth 100000 in
theorem ctX5_placeOf (l : Launch) (G : GG) (v_q0 : Nat) (v_q1 : Nat) (v_q2 : Nat) (v_q3 : Nat) (v_q4 : Nat) (v_q5 : Nat) (v_q6 : Nat) (v_q7 : Nat) (v_q8 : Nat) (v_q9 : Nat) (v_q10 : Nat) (v_q11 : Nat) (v_q12 : Nat) (v_q13 : Nat) (v_q14 : Nat) (v_q15 : Nat) (v_q16 : Nat) (v_thrown : Int32) (v_gain : Int32) (v_size : Int32) (v_w : Int32) (v_s : Int32) (v_h : Int32) (v_laidArea : Int32) (v_parts : Int32) (v_isMinus : Int32) (v_readSpot : Int32) (v_isStar : Int32) (v_wantsNumber : Int32) (v_waiting : Int32) (v_shiftX : Int32) (v_shiftY : Int32) (v_times : Int32) (v_dotsLaid : Int32) (v_joinedLaid : Int32) (v_hash : Int64) (v_isThereA : (Nat → Int32)) (v_vA : (Nat → Int32)) (v_spotOfA : (Nat → Int32)) (v_inMiddleA : (Nat → Int32)) (v_tintsA : (Nat → Int32)) (v_bufferA : (Nat → Int32)) (v_valuesA : (Nat → Int32)) (v_ranksA : (Nat → Int32)) (v_oldRanksA : (Nat → Int32)) (v_partA : (Nat → Int32)) (v_allRanksA : (Nat → Int32)) (v_basesA : (Nat → Int32)) (v_isMetA : (Nat → Int32)) (v_metXA : (Nat → Int32)) (v_metYA : (Nat → Int32)) (v_lineA : (Nat → Int32)) (a0 : Int32) (a1 : Int32) (o0 : Int32) (o1 : Int32) (o2 : Int32) (o3 : Int32) (o4 : Int32) (o5 : Int32) (o6 : (Nat → Int32)) (o7 : (Nat → Int32)) (h : mX5_placeOf v_w v_s v_h v_laidArea v_isThereA v_vA v_spotOfA v_inMiddleA v_valuesA v_ranksA a0 a1 = some (o0, o1, o2, o3, o4, o5, o6, o7))  : Met l yX5_placeOf wsX5_placeOf rmX5_placeOf (va_Pc [.ref v_q0, .int a0, .int a1] (PreD G (wdX5 G v_q0 v_q1 v_q2 v_q3 v_q4 v_q5 v_q6 v_q7 v_q8 v_q9 v_q10 v_q11 v_q12 v_q13 v_q14 v_q15 v_q16 v_thrown v_gain v_size v_w v_s v_h v_laidArea v_parts v_isMinus v_readSpot v_isStar v_wantsNumber v_waiting v_shiftX v_shiftY v_times v_dotsLaid v_joinedLaid v_hash v_isThereA v_vA v_spotOfA v_inMiddleA v_tintsA v_bufferA v_valuesA v_ranksA v_oldRanksA v_partA v_allRanksA v_basesA v_isMetA v_metXA v_metYA v_lineA) (fun _ => True))) (QwA G (va_A0 (wdX5 G v_q0 v_q1 v_q2 v_q3 v_q4 v_q5 v_q6 v_q7 v_q8 v_q9 v_q10 v_q11 v_q12 v_q13 v_q14 v_q15 v_q16 v_thrown v_gain v_size v_w v_s v_h v_laidArea v_parts v_isMinus v_readSpot v_isStar v_wantsNumber v_waiting v_shiftX v_shiftY v_times v_dotsLaid v_joinedLaid v_hash v_isThereA v_vA v_spotOfA v_inMiddleA v_tintsA v_bufferA v_valuesA v_ranksA v_oldRanksA v_partA v_allRanksA v_basesA v_isMetA v_metXA v_metYA v_lineA)) (wdX5 G v_q0 v_q1 v_q2 v_q3 v_q4 v_q5 v_q6 v_q7 v_q8 v_q9 v_q10 v_q11 v_q12 v_q13 v_q14 v_q15 v_q16 o1 v_gain v_size o2 o3 o4 o5 v_parts v_isMinus v_readSpot v_isStar v_wantsNumber v_waiting v_shiftX v_shiftY v_times v_dotsLaid v_joinedLaid v_hash v_isThereA v_vA v_spotOfA v_inMiddleA v_tintsA v_bufferA o6 o7 v_oldRanksA v_partA v_allRanksA v_basesA v_isMetA v_metXA v_metYA v_lineA) (some (.int o0)) True) 0 0 (va_A0 (wdX5 G v_q0 v_q1 v_q2 v_q3 v_q4 v_q5 v_q6 v_q7 v_q8 v_q9 v_q10 v_q11 v_q12 v_q13 v_q14 v_q15 v_q16 v_thrown v_gain v_size v_w v_s v_h v_laidArea v_parts v_isMinus v_readSpot v_isStar v_wantsNumber v_waiting v_shiftX v_shiftY v_times v_dotsLaid v_joinedLaid v_hash v_isThereA v_vA v_spotOfA v_inMiddleA v_tintsA v_bufferA v_valuesA v_ranksA v_oldRanksA v_partA v_allRanksA v_basesA v_isMetA v_metXA v_metYA v_lineA)) := by
  refine of_wi (cc := cX5_placeOf) (maxL := 4) (ty := .int) (plainFor_of_name (by decide)) rfl (Nat.le_of_ble_eq_true rfl) ?_
  intro p e s m args below meth c ls Q A S hl hP hD hS hK hX hA hret
  obtain ⟨H, hH⟩ : ∃ H, H = s.heap := ⟨_, rfl⟩
  obtain ⟨locs, hlocs⟩ : ∃ L : List Loc, L = [] := ⟨_, rfl⟩
  rw [← hlocs]
  rw [← hlocs] at hS
  have hP : va_P G.1 vwCl (wdX5 G v_q0 v_q1 v_q2 v_q3 v_q4 v_q5 v_q6 v_q7 v_q8 v_q9 v_q10 v_q11 v_q12 v_q13 v_q14 v_q15 v_q16 v_thrown v_gain v_size v_w v_s v_h v_laidArea v_parts v_isMinus v_readSpot v_isStar v_wantsNumber v_waiting v_shiftX v_shiftY v_times v_dotsLaid v_joinedLaid v_hash v_isThereA v_vA v_spotOfA v_inMiddleA v_tintsA v_bufferA v_valuesA v_ranksA v_oldRanksA v_partA v_allRanksA v_basesA v_isMetA v_metXA v_metYA v_lineA) H := by rw [hH]; exact hP
  have hS : va_S A s.heap H locs := by rw [hH]; exact hS
  suffices hgo : W p l e rmX5_placeOf s m args below meth c H locs 0 0 Q (F0 m 0 ls []) by rw [hH] at hgo; exact hgo
  have S : CallFix p m c cX5_placeOf 4 s args wsX5_placeOf RX5 := S
  obtain ⟨hx, hb, hml, hown, hts⟩ := id S
  have hl : lv_has ls 4 [(0, .ref v_q0), (1, .int a0), (2, .int a1)] := hl
  unfold mX5_placeOf at h
  refine lv_aload_n hx hb dX5_placeOf_0 rfl (lv_at hl 0 rfl) ?_
  refine lv_aload_n hx hb dX5_placeOf_1 rfl (lv_at hl 0 rfl) ?_
  refine lv_iload_n hx hb dX5_placeOf_2 rfl (lv_at hl 1 rfl) ?_
  obtain ⟨r1_0, g1, h⟩ := bnd1_e h
  refine roVi1 (rest := [.ref v_q0]) (As := [.int a0]) S (ctX5_missing l G v_q0 v_q1 v_q2 v_q3 v_q4 v_q5 v_q6 v_q7 v_q8 v_q9 v_q10 v_q11 v_q12 v_q13 v_q14 v_q15 v_q16 v_thrown v_gain v_size v_w v_s v_h v_laidArea v_parts v_isMinus v_readSpot v_isStar v_wantsNumber v_waiting v_shiftX v_shiftY v_times v_dotsLaid v_joinedLaid v_hash v_isThereA v_vA v_spotOfA v_inMiddleA v_tintsA v_bufferA v_valuesA v_ranksA v_oldRanksA v_partA v_allRanksA v_basesA v_isMetA v_metXA v_metYA v_lineA a0 r1_0 g1) (cwV 1 hts gX5_placeOf_X5_missing rfl rfl rfl hvX5_missing ⟨Nat.le_of_ble_eq_true rfl, Nat.le_of_ble_eq_true rfl⟩) hK hP [0, 1, 2, 3, 4, 5, 6, 7, 8, 9, 10, 11, 12, 13, 14, 15, 16] rfl 0 5 rfl rfl rfl rfl hl.1 rfl (Nat.le_of_ble_eq_true rfl) dX5_placeOf_3 ⟨Nat.le_refl _, Nat.le_refl _⟩ (fun _ => ?_)
  refine va_put (D := G.1) (ci := 5) (v := .int r1_0) (ty := .int) (C := RX5) (T := TX5) (N := 35) hx hb hts fw_X5_placeOf_X5 tyX5 tyX5_ok nmX5 hown hK.1 hP hD hS 0 rfl rfl 0 (by decide) (hts (.fieldLink RX5 59 "HalftoneScreensModel" "thrown" "I") lk_X5_placeOf_f59) (fun _ h9 => h9) rfl (tyX5_ok 0 (by decide)) rfl rfl (Nat.le_of_ble_eq_true rfl) dX5_placeOf_6 (fun H locs hP hD hS => ?_)
  have hP : va_P G.1 vwCl (wdX5 G v_q0 v_q1 v_q2 v_q3 v_q4 v_q5 v_q6 v_q7 v_q8 v_q9 v_q10 v_q11 v_q12 v_q13 v_q14 v_q15 v_q16 r1_0 v_gain v_size v_w v_s v_h v_laidArea v_parts v_isMinus v_readSpot v_isStar v_wantsNumber v_waiting v_shiftX v_shiftY v_times v_dotsLaid v_joinedLaid v_hash v_isThereA v_vA v_spotOfA v_inMiddleA v_tintsA v_bufferA v_valuesA v_ranksA v_oldRanksA v_partA v_allRanksA v_basesA v_isMetA v_metXA v_metYA v_lineA) H := hP
  have hD : va_D A (wdX5 G v_q0 v_q1 v_q2 v_q3 v_q4 v_q5 v_q6 v_q7 v_q8 v_q9 v_q10 v_q11 v_q12 v_q13 v_q14 v_q15 v_q16 r1_0 v_gain v_size v_w v_s v_h v_laidArea v_parts v_isMinus v_readSpot v_isStar v_wantsNumber v_waiting v_shiftX v_shiftY v_times v_dotsLaid v_joinedLaid v_hash v_isThereA v_vA v_spotOfA v_inMiddleA v_tintsA v_bufferA v_valuesA v_ranksA v_oldRanksA v_partA v_allRanksA v_basesA v_isMetA v_metXA v_metYA v_lineA) := hD
  refine lv_aload_n hx hb dX5_placeOf_9 rfl (lv_at hl 0 rfl) ?_
  refine lv_aload_n hx hb dX5_placeOf_10 rfl (lv_at hl 0 rfl) ?_
  refine va_get (D := G.1) (ci := 5) (v := .int r1_0) (C := RX5) (T := TX5) (N := 35) hx hb hts fw_X5_placeOf_X5 hown hK.1 hP 0 rfl rfl 0 (by decide) (hts (.fieldLink RX5 59 "HalftoneScreensModel" "thrown" "I") lk_X5_placeOf_f59) (fun _ h9 => h9) rfl dX5_placeOf_11 ?_
  obtain ⟨K2, hK2, h⟩ := jB1_e h
  have J2 : ∀ (j2_0 : Int32) (H : Heap) (locs : List Loc) (ls : Array Slot), K2 j2_0 = some (o0, o1, o2, o3, o4, o5, o6, o7) → lv_has ls 4 [(0, .ref v_q0), (1, .int a0), (2, .int a1)] → va_P G.1 vwCl (wdX5 G v_q0 v_q1 v_q2 v_q3 v_q4 v_q5 v_q6 v_q7 v_q8 v_q9 v_q10 v_q11 v_q12 v_q13 v_q14 v_q15 v_q16 r1_0 v_gain v_size v_w v_s v_h v_laidArea v_parts v_isMinus v_readSpot v_isStar v_wantsNumber v_waiting v_shiftX v_shiftY v_times v_dotsLaid v_joinedLaid v_hash v_isThereA v_vA v_spotOfA v_inMiddleA v_tintsA v_bufferA v_valuesA v_ranksA v_oldRanksA v_partA v_allRanksA v_basesA v_isMetA v_metXA v_metYA v_lineA) H → va_D A (wdX5 G v_q0 v_q1 v_q2 v_q3 v_q4 v_q5 v_q6 v_q7 v_q8 v_q9 v_q10 v_q11 v_q12 v_q13 v_q14 v_q15 v_q16 r1_0 v_gain v_size v_w v_s v_h v_laidArea v_parts v_isMinus v_readSpot v_isStar v_wantsNumber v_waiting v_shiftX v_shiftY v_times v_dotsLaid v_joinedLaid v_hash v_isThereA v_vA v_spotOfA v_inMiddleA v_tintsA v_bufferA v_valuesA v_ranksA v_oldRanksA v_partA v_allRanksA v_basesA v_isMetA v_metXA v_metYA v_lineA) → va_S A s.heap H locs → W p l e rmX5_placeOf s m args below meth c H locs 0 0 Q (F0 m 40 ls [.int j2_0, .ref v_q0]) := by
    intro j2_0 H locs ls h hl hP hD hS
    replace h := (hK2 j2_0).symm.trans h
    refine va_put (D := G.1) (ci := 5) (v := .int j2_0) (ty := .int) (C := RX5) (T := TX5) (N := 35) hx hb hts fw_X5_placeOf_X5 tyX5 tyX5_ok nmX5 hown hK.1 hP hD hS 0 rfl rfl 0 (by decide) (hts (.fieldLink RX5 59 "HalftoneScreensModel" "thrown" "I") lk_X5_placeOf_f59) (fun _ h9 => h9) rfl (tyX5_ok 0 (by decide)) rfl rfl (Nat.le_of_ble_eq_true rfl) dX5_placeOf_40 (fun H locs hP hD hS => ?_)
    have hP : va_P G.1 vwCl (wdX5 G v_q0 v_q1 v_q2 v_q3 v_q4 v_q5 v_q6 v_q7 v_q8 v_q9 v_q10 v_q11 v_q12 v_q13 v_q14 v_q15 v_q16 j2_0 v_gain v_size v_w v_s v_h v_laidArea v_parts v_isMinus v_readSpot v_isStar v_wantsNumber v_waiting v_shiftX v_shiftY v_times v_dotsLaid v_joinedLaid v_hash v_isThereA v_vA v_spotOfA v_inMiddleA v_tintsA v_bufferA v_valuesA v_ranksA v_oldRanksA v_partA v_allRanksA v_basesA v_isMetA v_metXA v_metYA v_lineA) H := hP
    have hD : va_D A (wdX5 G v_q0 v_q1 v_q2 v_q3 v_q4 v_q5 v_q6 v_q7 v_q8 v_q9 v_q10 v_q11 v_q12 v_q13 v_q14 v_q15 v_q16 j2_0 v_gain v_size v_w v_s v_h v_laidArea v_parts v_isMinus v_readSpot v_isStar v_wantsNumber v_waiting v_shiftX v_shiftY v_times v_dotsLaid v_joinedLaid v_hash v_isThereA v_vA v_spotOfA v_inMiddleA v_tintsA v_bufferA v_valuesA v_ranksA v_oldRanksA v_partA v_allRanksA v_basesA v_isMetA v_metXA v_metYA v_lineA) := hD
    refine lv_aload_n hx hb dX5_placeOf_43 rfl (lv_at hl 0 rfl) ?_
    refine va_get (D := G.1) (ci := 5) (v := .int j2_0) (C := RX5) (T := TX5) (N := 35) hx hb hts fw_X5_placeOf_X5 hown hK.1 hP 0 rfl rfl 0 (by decide) (hts (.fieldLink RX5 59 "HalftoneScreensModel" "thrown" "I") lk_X5_placeOf_f59) (fun _ h9 => h9) rfl dX5_placeOf_44 ?_
    refine lv_if_le (tgt := 52) hx hb dX5_placeOf_47 (by decide) (fun c7 => ?_) (fun c7 => ?_)
    · replace h := ite_t c7 h
      refine lv_aload_n hx hb dX5_placeOf_52 rfl (lv_at hl 0 rfl) ?_
      refine lv_iload_n hx hb dX5_placeOf_53 rfl (lv_at hl 1 rfl) ?_
      obtain ⟨r8_0, r8_1, r8_2, r8_3, r8_4, r8_5, g8, h⟩ := bnd6_e h
      refine rwV_same (rest := []) (As := [.int a0]) S (ctX5_layGrowth l G v_q0 v_q1 v_q2 v_q3 v_q4 v_q5 v_q6 v_q7 v_q8 v_q9 v_q10 v_q11 v_q12 v_q13 v_q14 v_q15 v_q16 j2_0 v_gain v_size v_w v_s v_h v_laidArea v_parts v_isMinus v_readSpot v_isStar v_wantsNumber v_waiting v_shiftX v_shiftY v_times v_dotsLaid v_joinedLaid v_hash v_isThereA v_vA v_spotOfA v_inMiddleA v_tintsA v_bufferA v_valuesA v_ranksA v_oldRanksA v_partA v_allRanksA v_basesA v_isMetA v_metXA v_metYA v_lineA a0 r8_0 r8_1 r8_2 r8_3 r8_4 r8_5 g8) (cwV 1 hts gX5_placeOf_X5_layGrowth rfl rfl rfl hvX5_layGrowth ⟨Nat.le_of_ble_eq_true rfl, Nat.le_of_ble_eq_true rfl⟩) hK hP hD hS xb_triv (fun _ _ _ => trivial) 0 5 rfl rfl rfl rfl hl.1 rfl (Nat.le_of_ble_eq_true rfl) dX5_placeOf_54 ⟨Nat.le_refl _, Nat.le_refl _⟩ (fun _ H locs hP hD hS => ?_)
      have hP : va_P G.1 vwCl (wdX5 G v_q0 v_q1 v_q2 v_q3 v_q4 v_q5 v_q6 v_q7 v_q8 v_q9 v_q10 v_q11 v_q12 v_q13 v_q14 v_q15 v_q16 j2_0 v_gain v_size r8_0 r8_1 r8_2 r8_3 v_parts v_isMinus v_readSpot v_isStar v_wantsNumber v_waiting v_shiftX v_shiftY v_times v_dotsLaid v_joinedLaid v_hash v_isThereA v_vA v_spotOfA v_inMiddleA v_tintsA v_bufferA r8_4 r8_5 v_oldRanksA v_partA v_allRanksA v_basesA v_isMetA v_metXA v_metYA v_lineA) H := hP
      have hD : va_D A (wdX5 G v_q0 v_q1 v_q2 v_q3 v_q4 v_q5 v_q6 v_q7 v_q8 v_q9 v_q10 v_q11 v_q12 v_q13 v_q14 v_q15 v_q16 j2_0 v_gain v_size r8_0 r8_1 r8_2 r8_3 v_parts v_isMinus v_readSpot v_isStar v_wantsNumber v_waiting v_shiftX v_shiftY v_times v_dotsLaid v_joinedLaid v_hash v_isThereA v_vA v_spotOfA v_inMiddleA v_tintsA v_bufferA r8_4 r8_5 v_oldRanksA v_partA v_allRanksA v_basesA v_isMetA v_metXA v_metYA v_lineA) := hD
      refine lv_iconst (v := 0) hx hb dX5_placeOf_57 (by decide) ?_
      refine lv_istore_n (lv' := [(3, .int 0), (0, .ref v_q0), (1, .int a0), (2, .int a1)]) hx hb dX5_placeOf_58 rfl hl (by decide) rfl (fun ls hl => ?_)
      obtain ⟨u9_0, g9, h⟩ := bnd1_e h
      have L9 : ∀ (fu : Nat) (v9_0 : Int32) (u9_0 : Int32) (H : Heap) (locs : List Loc) (ls : Array Slot), mX5_placeOf_L59 a1 r8_5 fu v9_0 = some (u9_0) → lv_has ls 4 [(3, .int v9_0), (0, .ref v_q0), (1, .int a0), (2, .int a1)] → va_P G.1 vwCl (wdX5 G v_q0 v_q1 v_q2 v_q3 v_q4 v_q5 v_q6 v_q7 v_q8 v_q9 v_q10 v_q11 v_q12 v_q13 v_q14 v_q15 v_q16 j2_0 v_gain v_size r8_0 r8_1 r8_2 r8_3 v_parts v_isMinus v_readSpot v_isStar v_wantsNumber v_waiting v_shiftX v_shiftY v_times v_dotsLaid v_joinedLaid v_hash v_isThereA v_vA v_spotOfA v_inMiddleA v_tintsA v_bufferA r8_4 r8_5 v_oldRanksA v_partA v_allRanksA v_basesA v_isMetA v_metXA v_metYA v_lineA) H → va_D A (wdX5 G v_q0 v_q1 v_q2 v_q3 v_q4 v_q5 v_q6 v_q7 v_q8 v_q9 v_q10 v_q11 v_q12 v_q13 v_q14 v_q15 v_q16 j2_0 v_gain v_size r8_0 r8_1 r8_2 r8_3 v_parts v_isMinus v_readSpot v_isStar v_wantsNumber v_waiting v_shiftX v_shiftY v_times v_dotsLaid v_joinedLaid v_hash v_isThereA v_vA v_spotOfA v_inMiddleA v_tintsA v_bufferA r8_4 r8_5 v_oldRanksA v_partA v_allRanksA v_basesA v_isMetA v_metXA v_metYA v_lineA) → va_S A s.heap H locs → (∀ (H : Heap) (locs : List Loc) (ls : Array Slot), lv_has ls 4 [(3, .int u9_0), (0, .ref v_q0), (1, .int a0), (2, .int a1)] → va_P G.1 vwCl (wdX5 G v_q0 v_q1 v_q2 v_q3 v_q4 v_q5 v_q6 v_q7 v_q8 v_q9 v_q10 v_q11 v_q12 v_q13 v_q14 v_q15 v_q16 j2_0 v_gain v_size r8_0 r8_1 r8_2 r8_3 v_parts v_isMinus v_readSpot v_isStar v_wantsNumber v_waiting v_shiftX v_shiftY v_times v_dotsLaid v_joinedLaid v_hash v_isThereA v_vA v_spotOfA v_inMiddleA v_tintsA v_bufferA r8_4 r8_5 v_oldRanksA v_partA v_allRanksA v_basesA v_isMetA v_metXA v_metYA v_lineA) H → va_D A (wdX5 G v_q0 v_q1 v_q2 v_q3 v_q4 v_q5 v_q6 v_q7 v_q8 v_q9 v_q10 v_q11 v_q12 v_q13 v_q14 v_q15 v_q16 j2_0 v_gain v_size r8_0 r8_1 r8_2 r8_3 v_parts v_isMinus v_readSpot v_isStar v_wantsNumber v_waiting v_shiftX v_shiftY v_times v_dotsLaid v_joinedLaid v_hash v_isThereA v_vA v_spotOfA v_inMiddleA v_tintsA v_bufferA r8_4 r8_5 v_oldRanksA v_partA v_allRanksA v_basesA v_isMetA v_metXA v_metYA v_lineA) → va_S A s.heap H locs → W p l e rmX5_placeOf s m args below meth c H locs 0 0 Q (F0 m 75 ls [])) → W p l e rmX5_placeOf s m args below meth c H locs 0 0 Q (F0 m 59 ls []) := by
        intro fu
        induction fu with
        | zero => intro v9_0 u9_0 H locs ls h; exact nomatch h
        | succ fu ih =>
          intro v9_0 u9_0 H locs ls h hl hP hD hS kE
          rw [mX5_placeOf_L59] at h
          refine lv_aload_n hx hb dX5_placeOf_59 rfl (lv_at hl 1 rfl) ?_
          refine va_get (D := G.1) (ci := 5) (v := .ref v_q8) (C := RX5) (T := TX5) (N := 35) hx hb hts fw_X5_placeOf_X5 hown hK.1 hP 0 rfl rfl 13 (by decide) (hts (.fieldLink RX5 32 "HalftoneScreensModel" "ranks" "[I") lk_X5_placeOf_f32) (fun _ h9 => h9) rfl dX5_placeOf_60 ?_
          refine lv_iload_n hx hb dX5_placeOf_63 rfl (lv_at hl 0 rfl) ?_
          obtain ⟨i10, h⟩ := gd_e h
          refine va_iald hx hb hK.1 hP 8 0 rfl rfl i10 dX5_placeOf_64 ?_
          refine lv_iload_n hx hb dX5_placeOf_65 rfl (lv_at hl 3 rfl) ?_
          refine lv_icmp_eq (tgt := 75) hx hb dX5_placeOf_66 (by decide) (fun c11 => ?_) (fun c11 => ?_)
          · replace h := ite_t c11 h
            obtain rfl := sm1 h
            exact kE H locs ls hl hP hD hS
          · replace h := ite_f c11 h
            obtain ⟨x12, e12⟩ : ∃ y : Int32, y = v9_0 + 1 := ⟨_, rfl⟩
            replace h := nmB_e e12 h
            refine lv_iinc (v := x12) (lv' := [(3, .int x12), (0, .ref v_q0), (1, .int a0), (2, .int a1)]) hx hb dX5_placeOf_69 hl (k := 0) rfl (by rw [e12]; rfl) (by decide) rfl (fun ls hl => ?_)
            refine lv_goto (tgt := 59) hx hb dX5_placeOf_72 (by decide) ?_
            exact ih x12 u9_0 H locs ls h hl hP hD hS kE
      refine L9 FU 0 u9_0 H locs ls g9 hl hP hD hS (fun H locs ls hl hP hD hS => ?_)
      refine lv_iload_n hx hb dX5_placeOf_75 rfl (lv_at hl 0 rfl) ?_
      obtain ⟨rfl, rfl, rfl, rfl, rfl, rfl, rfl, rfl⟩ := sm8 h
      exact hret _ _ _ _ _ rfl trivial rfl hP hD hS dX5_placeOf_76
    · replace h := ite_f c7 h
      refine lv_iconst (v := 0) hx hb dX5_placeOf_50 (by decide) ?_
      obtain ⟨rfl, rfl, rfl, rfl, rfl, rfl, rfl, rfl⟩ := sm8 h
      exact hret _ _ _ _ _ rfl trivial rfl hP hD hS dX5_placeOf_51
  refine lv_if_ne (tgt := 36) hx hb dX5_placeOf_14 (by decide) (fun c3 => ?_) (fun c3 => ?_)
  · replace h := ite_f c3 h
    refine lv_aload_n hx hb dX5_placeOf_36 rfl (lv_at hl 0 rfl) ?_
    refine va_get (D := G.1) (ci := 5) (v := .int r1_0) (C := RX5) (T := TX5) (N := 35) hx hb hts fw_X5_placeOf_X5 hown hK.1 hP 0 rfl rfl 0 (by decide) (hts (.fieldLink RX5 59 "HalftoneScreensModel" "thrown" "I") lk_X5_placeOf_f59) (fun _ h9 => h9) rfl dX5_placeOf_37 ?_
    exact J2 r1_0 H locs ls h hl hP hD hS
  · replace h := ite_t c3 h
    refine lv_iload_n hx hb dX5_placeOf_17 rfl (lv_at hl 2 rfl) ?_
    refine lv_iconst (v := 0) hx hb dX5_placeOf_18 (by decide) ?_
    refine lv_aload_n hx hb dX5_placeOf_19 rfl (lv_at hl 0 rfl) ?_
    refine lv_iload_n hx hb dX5_placeOf_20 rfl (lv_at hl 1 rfl) ?_
    obtain ⟨r4_0, g4, h⟩ := bnd1_e h
    refine roVi1 (rest := [.int 0, .int a1, .ref v_q0]) (As := [.int a0]) S (ctX5_areaIn l G v_q0 v_q1 v_q2 v_q3 v_q4 v_q5 v_q6 v_q7 v_q8 v_q9 v_q10 v_q11 v_q12 v_q13 v_q14 v_q15 v_q16 r1_0 v_gain v_size v_w v_s v_h v_laidArea v_parts v_isMinus v_readSpot v_isStar v_wantsNumber v_waiting v_shiftX v_shiftY v_times v_dotsLaid v_joinedLaid v_hash v_isThereA v_vA v_spotOfA v_inMiddleA v_tintsA v_bufferA v_valuesA v_ranksA v_oldRanksA v_partA v_allRanksA v_basesA v_isMetA v_metXA v_metYA v_lineA a0 r4_0 g4) (cwV 1 hts gX5_placeOf_X5_areaIn rfl rfl rfl hvX5_areaIn ⟨Nat.le_of_ble_eq_true rfl, Nat.le_of_ble_eq_true rfl⟩) hK hP [0, 1, 2, 3, 4, 5, 6, 7, 8, 9, 10, 11, 12, 13, 14, 15, 16] rfl 0 5 rfl rfl rfl rfl hl.1 rfl (Nat.le_of_ble_eq_true rfl) dX5_placeOf_21 ⟨Nat.le_refl _, Nat.le_refl _⟩ (fun _ => ?_)
    refine lv_iconst (v := 1) hx hb dX5_placeOf_24 (by decide) ?_
    refine lv_isub hx hb dX5_placeOf_25 ?_
    obtain ⟨r5_0, g5, h⟩ := bnd1_e h
    refine roSi1 (rest := [.ref v_q0]) (As := [.int a1, .int 0, .int (r4_0 - 1)]) S (ctX5_within l G a1 0 (r4_0 - 1) r5_0 g5) (va_cwS 3 hts gX5_placeOf_X5_within rfl rfl rfl hsX5_within ⟨Nat.le_of_ble_eq_true rfl, Nat.le_of_ble_eq_true rfl⟩) hK hP [] rfl rfl hl.1 rfl (Nat.le_of_ble_eq_true rfl) dX5_placeOf_26 ⟨Nat.le_refl _, Nat.le_refl _⟩ (fun hz5 => ?_)
    refine lv_if_ne (tgt := 36) hx hb dX5_placeOf_29 (by decide) (fun c6 => ?_) (fun c6 => ?_)
    · replace h := ite_f c6 h
      refine lv_aload_n hx hb dX5_placeOf_36 rfl (lv_at hl 0 rfl) ?_
      refine va_get (D := G.1) (ci := 5) (v := .int r1_0) (C := RX5) (T := TX5) (N := 35) hx hb hts fw_X5_placeOf_X5 hown hK.1 hP 0 rfl rfl 0 (by decide) (hts (.fieldLink RX5 59 "HalftoneScreensModel" "thrown" "I") lk_X5_placeOf_f59) (fun _ h9 => h9) rfl dX5_placeOf_37 ?_
      exact J2 r1_0 H locs ls h hl hP hD hS
    · replace h := ite_t c6 h
      refine lv_iconst (v := 2) hx hb dX5_placeOf_32 (by decide) ?_
      refine lv_goto (tgt := 40) hx hb dX5_placeOf_33 (by decide) ?_
      exact J2 2 H locs ls h hl hP hD hS
theorem fw_X5_layAll_X5 : ∀ w ∈ wsX50, w ∈ wsX5_layAll := fun w h => List.mem_cons_of_mem _ (List.mem_append_right _ h)
theorem lk_X5_layAll_f7 : Cond.fieldLink RX5 7 "HalftoneScreensModel" "isThere" "[Z" ∈ wsX5_layAll := List.mem_of_getElem? (i := 1) rfl
theorem lk_X5_layAll_f113 : Cond.fieldLink RX5 113 "HalftoneScreensModel" "laidArea" "I" ∈ wsX5_layAll := List.mem_of_getElem? (i := 2) rfl
theorem lk_X5_layAll_f41 : Cond.fieldLink RX5 41 "HalftoneScreensModel" "allRanks" "[I" ∈ wsX5_layAll := List.mem_of_getElem? (i := 3) rfl
theorem lk_X5_layAll_f32 : Cond.fieldLink RX5 32 "HalftoneScreensModel" "ranks" "[I" ∈ wsX5_layAll := List.mem_of_getElem? (i := 4) rfl
theorem lk_X5_layAll_f44 : Cond.fieldLink RX5 44 "HalftoneScreensModel" "bases" "[I" ∈ wsX5_layAll := List.mem_of_getElem? (i := 5) rfl
theorem lk_X5_layAll_f89 : Cond.fieldLink RX5 89 "HalftoneScreensModel" "w" "I" ∈ wsX5_layAll := List.mem_of_getElem? (i := 6) rfl
theorem lk_X5_layAll_f92 : Cond.fieldLink RX5 92 "HalftoneScreensModel" "s" "I" ∈ wsX5_layAll := List.mem_of_getElem? (i := 7) rfl
theorem lk_X5_layAll_f82 : Cond.fieldLink RX5 82 "HalftoneScreensModel" "h" "I" ∈ wsX5_layAll := List.mem_of_getElem? (i := 8) rfl
abbrev rmX5_layAll : Room := { frames := 5, cells := 0, slots := 0, locals := 130 }
set_option maxHeartbeats 4000000 in
set_option maxRecDepth 100000 in
theorem ctX5_layAll (l : Launch) (G : GG) (v_q0 : Nat) (v_q1 : Nat) (v_q2 : Nat) (v_q3 : Nat) (v_q4 : Nat) (v_q5 : Nat) (v_q6 : Nat) (v_q7 : Nat) (v_q8 : Nat) (v_q9 : Nat) (v_q10 : Nat) (v_q11 : Nat) (v_q12 : Nat) (v_q13 : Nat) (v_q14 : Nat) (v_q15 : Nat) (v_q16 : Nat) (v_thrown : Int32) (v_gain : Int32) (v_size : Int32) (v_w : Int32) (v_s : Int32) (v_h : Int32) (v_laidArea : Int32) (v_parts : Int32) (v_isMinus : Int32) (v_readSpot : Int32) (v_isStar : Int32) (v_wantsNumber : Int32) (v_waiting : Int32) (v_shiftX : Int32) (v_shiftY : Int32) (v_times : Int32) (v_dotsLaid : Int32) (v_joinedLaid : Int32) (v_hash : Int64) (v_isThereA : (Nat → Int32)) (v_vA : (Nat → Int32)) (v_spotOfA : (Nat → Int32)) (v_inMiddleA : (Nat → Int32)) (v_tintsA : (Nat → Int32)) (v_bufferA : (Nat → Int32)) (v_valuesA : (Nat → Int32)) (v_ranksA : (Nat → Int32)) (v_oldRanksA : (Nat → Int32)) (v_partA : (Nat → Int32)) (v_allRanksA : (Nat → Int32)) (v_basesA : (Nat → Int32)) (v_isMetA : (Nat → Int32)) (v_metXA : (Nat → Int32)) (v_metYA : (Nat → Int32)) (v_lineA : (Nat → Int32)) (o0 : Int32) (o1 : Int32) (o2 : Int32) (o3 : Int32) (o4 : (Nat → Int32)) (o5 : (Nat → Int32)) (o6 : (Nat → Int32)) (o7 : (Nat → Int32)) (h : mX5_layAll v_w v_s v_h v_laidArea v_isThereA v_vA v_spotOfA v_inMiddleA v_valuesA v_ranksA v_allRanksA v_basesA = some (o0, o1, o2, o3, o4, o5, o6, o7))  : Met l yX5_layAll wsX5_layAll rmX5_layAll (va_Pc [.ref v_q0] (PreD G (wdX5 G v_q0 v_q1 v_q2 v_q3 v_q4 v_q5 v_q6 v_q7 v_q8 v_q9 v_q10 v_q11 v_q12 v_q13 v_q14 v_q15 v_q16 v_thrown v_gain v_size v_w v_s v_h v_laidArea v_parts v_isMinus v_readSpot v_isStar v_wantsNumber v_waiting v_shiftX v_shiftY v_times v_dotsLaid v_joinedLaid v_hash v_isThereA v_vA v_spotOfA v_inMiddleA v_tintsA v_bufferA v_valuesA v_ranksA v_oldRanksA v_partA v_allRanksA v_basesA v_isMetA v_metXA v_metYA v_lineA) (fun _ => True))) (QwA G (va_A0 (wdX5 G v_q0 v_q1 v_q2 v_q3 v_q4 v_q5 v_q6 v_q7 v_q8 v_q9 v_q10 v_q11 v_q12 v_q13 v_q14 v_q15 v_q16 v_thrown v_gain v_size v_w v_s v_h v_laidArea v_parts v_isMinus v_readSpot v_isStar v_wantsNumber v_waiting v_shiftX v_shiftY v_times v_dotsLaid v_joinedLaid v_hash v_isThereA v_vA v_spotOfA v_inMiddleA v_tintsA v_bufferA v_valuesA v_ranksA v_oldRanksA v_partA v_allRanksA v_basesA v_isMetA v_metXA v_metYA v_lineA)) (wdX5 G v_q0 v_q1 v_q2 v_q3 v_q4 v_q5 v_q6 v_q7 v_q8 v_q9 v_q10 v_q11 v_q12 v_q13 v_q14 v_q15 v_q16 v_thrown v_gain v_size o0 o1 o2 o3 v_parts v_isMinus v_readSpot v_isStar v_wantsNumber v_waiting v_shiftX v_shiftY v_times v_dotsLaid v_joinedLaid v_hash v_isThereA v_vA v_spotOfA v_inMiddleA v_tintsA v_bufferA o4 o5 v_oldRanksA v_partA o6 o7 v_isMetA v_metXA v_metYA v_lineA) none True) 0 0 (va_A0 (wdX5 G v_q0 v_q1 v_q2 v_q3 v_q4 v_q5 v_q6 v_q7 v_q8 v_q9 v_q10 v_q11 v_q12 v_q13 v_q14 v_q15 v_q16 v_thrown v_gain v_size v_w v_s v_h v_laidArea v_parts v_isMinus v_readSpot v_isStar v_wantsNumber v_waiting v_shiftX v_shiftY v_times v_dotsLaid v_joinedLaid v_hash v_isThereA v_vA v_spotOfA v_inMiddleA v_tintsA v_bufferA v_valuesA v_ranksA v_oldRanksA v_partA v_allRanksA v_basesA v_isMetA v_metXA v_metYA v_lineA)) := by
  refine of_wv (cc := cX5_layAll) (maxL := 3) (plainFor_of_name (by decide)) rfl (Nat.le_of_ble_eq_true rfl) ?_
  intro p e s m args below meth c ls Q A S hl hP hD hS hK hX hA hret
  obtain ⟨H, hH⟩ : ∃ H, H = s.heap := ⟨_, rfl⟩
  obtain ⟨locs, hlocs⟩ : ∃ L : List Loc, L = [] := ⟨_, rfl⟩
  rw [← hlocs]
  rw [← hlocs] at hS
  have hP : va_P G.1 vwCl (wdX5 G v_q0 v_q1 v_q2 v_q3 v_q4 v_q5 v_q6 v_q7 v_q8 v_q9 v_q10 v_q11 v_q12 v_q13 v_q14 v_q15 v_q16 v_thrown v_gain v_size v_w v_s v_h v_laidArea v_parts v_isMinus v_readSpot v_isStar v_wantsNumber v_waiting v_shiftX v_shiftY v_times v_dotsLaid v_joinedLaid v_hash v_isThereA v_vA v_spotOfA v_inMiddleA v_tintsA v_bufferA v_valuesA v_ranksA v_oldRanksA v_partA v_allRanksA v_basesA v_isMetA v_metXA v_metYA v_lineA) H := by rw [hH]; exact hP
  have hS : va_S A s.heap H locs := by rw [hH]; exact hS
  suffices hgo : W p l e rmX5_layAll s m args below meth c H locs 0 0 Q (F0 m 0 ls []) by rw [hH] at hgo; exact hgo
  have S : CallFix p m c cX5_layAll 3 s args wsX5_layAll RX5 := S
  obtain ⟨hx, hb, hml, hown, hts⟩ := id S
  have hl : lv_has ls 3 [(0, .ref v_q0)] := hl
  unfold mX5_layAll at h
  refine lv_iconst (v := 0) hx hb dX5_layAll_0 (by decide) ?_
  refine lv_istore_n (lv' := [(1, .int 0), (0, .ref v_q0)]) hx hb dX5_layAll_1 rfl hl (by decide) rfl (fun ls hl => ?_)
  obtain ⟨u1_0, u1_1, u1_2, u1_3, u1_4, u1_5, u1_6, u1_7, u1_8, g1, h⟩ := bnd9_e h
  have L1 : ∀ (fu : Nat) (v1_0 : Int32) (v1_1 : Int32) (v1_2 : Int32) (v1_3 : Int32) (v1_4 : Int32) (v1_5 : (Nat → Int32)) (v1_6 : (Nat → Int32)) (v1_7 : (Nat → Int32)) (v1_8 : (Nat → Int32)) (u1_0 : Int32) (u1_1 : Int32) (u1_2 : Int32) (u1_3 : Int32) (u1_4 : Int32) (u1_5 : (Nat → Int32)) (u1_6 : (Nat → Int32)) (u1_7 : (Nat → Int32)) (u1_8 : (Nat → Int32)) (H : Heap) (locs : List Loc) (ls : Array Slot), mX5_layAll_L2 v_isThereA v_vA v_spotOfA v_inMiddleA fu v1_0 v1_1 v1_2 v1_3 v1_4 v1_5 v1_6 v1_7 v1_8 = some (u1_0, u1_1, u1_2, u1_3, u1_4, u1_5, u1_6, u1_7, u1_8) → lv_has ls 3 [(1, .int v1_0), (0, .ref v_q0)] → va_P G.1 vwCl (wdX5 G v_q0 v_q1 v_q2 v_q3 v_q4 v_q5 v_q6 v_q7 v_q8 v_q9 v_q10 v_q11 v_q12 v_q13 v_q14 v_q15 v_q16 v_thrown v_gain v_size v1_1 v1_2 v1_3 v1_4 v_parts v_isMinus v_readSpot v_isStar v_wantsNumber v_waiting v_shiftX v_shiftY v_times v_dotsLaid v_joinedLaid v_hash v_isThereA v_vA v_spotOfA v_inMiddleA v_tintsA v_bufferA v1_5 v1_6 v_oldRanksA v_partA v1_7 v1_8 v_isMetA v_metXA v_metYA v_lineA) H → va_D A (wdX5 G v_q0 v_q1 v_q2 v_q3 v_q4 v_q5 v_q6 v_q7 v_q8 v_q9 v_q10 v_q11 v_q12 v_q13 v_q14 v_q15 v_q16 v_thrown v_gain v_size v1_1 v1_2 v1_3 v1_4 v_parts v_isMinus v_readSpot v_isStar v_wantsNumber v_waiting v_shiftX v_shiftY v_times v_dotsLaid v_joinedLaid v_hash v_isThereA v_vA v_spotOfA v_inMiddleA v_tintsA v_bufferA v1_5 v1_6 v_oldRanksA v_partA v1_7 v1_8 v_isMetA v_metXA v_metYA v_lineA) → va_S A s.heap H locs → (∀ (H : Heap) (locs : List Loc) (ls : Array Slot), lv_has ls 3 [(1, .int u1_0), (0, .ref v_q0)] → va_P G.1 vwCl (wdX5 G v_q0 v_q1 v_q2 v_q3 v_q4 v_q5 v_q6 v_q7 v_q8 v_q9 v_q10 v_q11 v_q12 v_q13 v_q14 v_q15 v_q16 v_thrown v_gain v_size u1_1 u1_2 u1_3 u1_4 v_parts v_isMinus v_readSpot v_isStar v_wantsNumber v_waiting v_shiftX v_shiftY v_times v_dotsLaid v_joinedLaid v_hash v_isThereA v_vA v_spotOfA v_inMiddleA v_tintsA v_bufferA u1_5 u1_6 v_oldRanksA v_partA u1_7 u1_8 v_isMetA v_metXA v_metYA v_lineA) H → va_D A (wdX5 G v_q0 v_q1 v_q2 v_q3 v_q4 v_q5 v_q6 v_q7 v_q8 v_q9 v_q10 v_q11 v_q12 v_q13 v_q14 v_q15 v_q16 v_thrown v_gain v_size u1_1 u1_2 u1_3 u1_4 v_parts v_isMinus v_readSpot v_isStar v_wantsNumber v_waiting v_shiftX v_shiftY v_times v_dotsLaid v_joinedLaid v_hash v_isThereA v_vA v_spotOfA v_inMiddleA v_tintsA v_bufferA u1_5 u1_6 v_oldRanksA v_partA u1_7 u1_8 v_isMetA v_metXA v_metYA v_lineA) → va_S A s.heap H locs → W p l e rmX5_layAll s m args below meth c H locs 0 0 Q (F0 m 100 ls [])) → W p l e rmX5_layAll s m args below meth c H locs 0 0 Q (F0 m 2 ls []) := by
    intro fu
    induction fu with
    | zero => intro v1_0 v1_1 v1_2 v1_3 v1_4 v1_5 v1_6 v1_7 v1_8 u1_0 u1_1 u1_2 u1_3 u1_4 u1_5 u1_6 u1_7 u1_8 H locs ls h; exact nomatch h
    | succ fu ih =>
      intro v1_0 v1_1 v1_2 v1_3 v1_4 v1_5 v1_6 v1_7 v1_8 u1_0 u1_1 u1_2 u1_3 u1_4 u1_5 u1_6 u1_7 u1_8 H locs ls h hl hP hD hS kE
      rw [mX5_layAll_L2] at h
      refine lv_iload_n hx hb dX5_layAll_2 rfl (lv_at hl 0 rfl) ?_
      refine lv_iconst (v := 3) hx hb dX5_layAll_3 (by decide) ?_
      refine lv_icmp_ge (tgt := 100) hx hb dX5_layAll_4 (by decide) (fun c2 => ?_) (fun c2 => ?_)
      · replace h := ite_t c2 h
        obtain ⟨rfl, rfl, rfl, rfl, rfl, rfl, rfl, rfl, rfl⟩ := sm9 h
        exact kE H locs ls hl hP hD hS
      · replace h := ite_f c2 h
        refine lv_aload_n hx hb dX5_layAll_7 rfl (lv_at hl 1 rfl) ?_
        refine va_get (D := G.1) (ci := 5) (v := .ref v_q1) (C := RX5) (T := TX5) (N := 35) hx hb hts fw_X5_layAll_X5 hown hK.1 hP 0 rfl rfl 1 (by decide) (hts (.fieldLink RX5 7 "HalftoneScreensModel" "isThere" "[Z") lk_X5_layAll_f7) (fun _ h9 => h9) rfl dX5_layAll_8 ?_
        refine lv_iload_n hx hb dX5_layAll_11 rfl (lv_at hl 0 rfl) ?_
        obtain ⟨i3, h⟩ := gd_e h
        refine va_zald hx hb hK.1 hP 1 1 rfl rfl i3 dX5_layAll_12 ?_
        refine lv_if_eq (tgt := 94) hx hb dX5_layAll_13 (by decide) (fun c4 => ?_) (fun c4 => ?_)
        · replace h := ite_t c4 h
          obtain ⟨x5, e5⟩ : ∃ y : Int32, y = v1_0 + 1 := ⟨_, rfl⟩
          replace h := nmB_e e5 h
          refine lv_iinc (v := x5) (lv' := [(1, .int x5), (0, .ref v_q0)]) hx hb dX5_layAll_94 hl (k := 0) rfl (by rw [e5]; rfl) (by decide) rfl (fun ls hl => ?_)
          refine lv_goto (tgt := 2) hx hb dX5_layAll_97 (by decide) ?_
          exact ih x5 v1_1 v1_2 v1_3 v1_4 v1_5 v1_6 v1_7 v1_8 u1_0 u1_1 u1_2 u1_3 u1_4 u1_5 u1_6 u1_7 u1_8 H locs ls h hl hP hD hS kE
        · replace h := ite_f c4 h
          refine lv_aload_n hx hb dX5_layAll_16 rfl (lv_at hl 1 rfl) ?_
          refine lv_iload_n hx hb dX5_layAll_17 rfl (lv_at hl 0 rfl) ?_
          obtain ⟨r6_0, r6_1, r6_2, r6_3, r6_4, r6_5, g6, h⟩ := bnd6_e h
          refine rwV_same (rest := []) (As := [.int v1_0]) S (ctX5_layGrowth l G v_q0 v_q1 v_q2 v_q3 v_q4 v_q5 v_q6 v_q7 v_q8 v_q9 v_q10 v_q11 v_q12 v_q13 v_q14 v_q15 v_q16 v_thrown v_gain v_size v1_1 v1_2 v1_3 v1_4 v_parts v_isMinus v_readSpot v_isStar v_wantsNumber v_waiting v_shiftX v_shiftY v_times v_dotsLaid v_joinedLaid v_hash v_isThereA v_vA v_spotOfA v_inMiddleA v_tintsA v_bufferA v1_5 v1_6 v_oldRanksA v_partA v1_7 v1_8 v_isMetA v_metXA v_metYA v_lineA v1_0 r6_0 r6_1 r6_2 r6_3 r6_4 r6_5 g6) (cwV 1 hts gX5_layAll_X5_layGrowth rfl rfl rfl hvX5_layGrowth ⟨Nat.le_of_ble_eq_true rfl, Nat.le_of_ble_eq_true rfl⟩) hK hP hD hS xb_triv (fun _ _ _ => trivial) 0 5 rfl rfl rfl rfl hl.1 rfl (Nat.le_of_ble_eq_true rfl) dX5_layAll_18 ⟨Nat.le_refl _, Nat.le_refl _⟩ (fun _ H locs hP hD hS => ?_)
          have hP : va_P G.1 vwCl (wdX5 G v_q0 v_q1 v_q2 v_q3 v_q4 v_q5 v_q6 v_q7 v_q8 v_q9 v_q10 v_q11 v_q12 v_q13 v_q14 v_q15 v_q16 v_thrown v_gain v_size r6_0 r6_1 r6_2 r6_3 v_parts v_isMinus v_readSpot v_isStar v_wantsNumber v_waiting v_shiftX v_shiftY v_times v_dotsLaid v_joinedLaid v_hash v_isThereA v_vA v_spotOfA v_inMiddleA v_tintsA v_bufferA r6_4 r6_5 v_oldRanksA v_partA v1_7 v1_8 v_isMetA v_metXA v_metYA v_lineA) H := hP
          have hD : va_D A (wdX5 G v_q0 v_q1 v_q2 v_q3 v_q4 v_q5 v_q6 v_q7 v_q8 v_q9 v_q10 v_q11 v_q12 v_q13 v_q14 v_q15 v_q16 v_thrown v_gain v_size r6_0 r6_1 r6_2 r6_3 v_parts v_isMinus v_readSpot v_isStar v_wantsNumber v_waiting v_shiftX v_shiftY v_times v_dotsLaid v_joinedLaid v_hash v_isThereA v_vA v_spotOfA v_inMiddleA v_tintsA v_bufferA r6_4 r6_5 v_oldRanksA v_partA v1_7 v1_8 v_isMetA v_metXA v_metYA v_lineA) := hD
          refine lv_iconst (v := 0) hx hb dX5_layAll_21 (by decide) ?_
          refine lv_istore_n (lv' := [(2, .int 0), (1, .int v1_0), (0, .ref v_q0)]) hx hb dX5_layAll_22 rfl hl (by decide) rfl (fun ls hl => ?_)
          obtain ⟨u7_0, u7_1, g7, h⟩ := bnd2_e h
          have L7 : ∀ (fu : Nat) (v7_0 : Int32) (v7_1 : (Nat → Int32)) (u7_0 : Int32) (u7_1 : (Nat → Int32)) (H : Heap) (locs : List Loc) (ls : Array Slot), mX5_layAll_L23 v1_0 r6_3 r6_5 fu v7_0 v7_1 = some (u7_0, u7_1) → lv_has ls 3 [(2, .int v7_0), (1, .int v1_0), (0, .ref v_q0)] → va_P G.1 vwCl (wdX5 G v_q0 v_q1 v_q2 v_q3 v_q4 v_q5 v_q6 v_q7 v_q8 v_q9 v_q10 v_q11 v_q12 v_q13 v_q14 v_q15 v_q16 v_thrown v_gain v_size r6_0 r6_1 r6_2 r6_3 v_parts v_isMinus v_readSpot v_isStar v_wantsNumber v_waiting v_shiftX v_shiftY v_times v_dotsLaid v_joinedLaid v_hash v_isThereA v_vA v_spotOfA v_inMiddleA v_tintsA v_bufferA r6_4 r6_5 v_oldRanksA v_partA v7_1 v1_8 v_isMetA v_metXA v_metYA v_lineA) H → va_D A (wdX5 G v_q0 v_q1 v_q2 v_q3 v_q4 v_q5 v_q6 v_q7 v_q8 v_q9 v_q10 v_q11 v_q12 v_q13 v_q14 v_q15 v_q16 v_thrown v_gain v_size r6_0 r6_1 r6_2 r6_3 v_parts v_isMinus v_readSpot v_isStar v_wantsNumber v_waiting v_shiftX v_shiftY v_times v_dotsLaid v_joinedLaid v_hash v_isThereA v_vA v_spotOfA v_inMiddleA v_tintsA v_bufferA r6_4 r6_5 v_oldRanksA v_partA v7_1 v1_8 v_isMetA v_metXA v_metYA v_lineA) → va_S A s.heap H locs → (∀ (H : Heap) (locs : List Loc) (ls : Array Slot), lv_has ls 3 [(2, .int u7_0), (1, .int v1_0), (0, .ref v_q0)] → va_P G.1 vwCl (wdX5 G v_q0 v_q1 v_q2 v_q3 v_q4 v_q5 v_q6 v_q7 v_q8 v_q9 v_q10 v_q11 v_q12 v_q13 v_q14 v_q15 v_q16 v_thrown v_gain v_size r6_0 r6_1 r6_2 r6_3 v_parts v_isMinus v_readSpot v_isStar v_wantsNumber v_waiting v_shiftX v_shiftY v_times v_dotsLaid v_joinedLaid v_hash v_isThereA v_vA v_spotOfA v_inMiddleA v_tintsA v_bufferA r6_4 r6_5 v_oldRanksA v_partA u7_1 v1_8 v_isMetA v_metXA v_metYA v_lineA) H → va_D A (wdX5 G v_q0 v_q1 v_q2 v_q3 v_q4 v_q5 v_q6 v_q7 v_q8 v_q9 v_q10 v_q11 v_q12 v_q13 v_q14 v_q15 v_q16 v_thrown v_gain v_size r6_0 r6_1 r6_2 r6_3 v_parts v_isMinus v_readSpot v_isStar v_wantsNumber v_waiting v_shiftX v_shiftY v_times v_dotsLaid v_joinedLaid v_hash v_isThereA v_vA v_spotOfA v_inMiddleA v_tintsA v_bufferA r6_4 r6_5 v_oldRanksA v_partA u7_1 v1_8 v_isMetA v_metXA v_metYA v_lineA) → va_S A s.heap H locs → W p l e rmX5_layAll s m args below meth c H locs 0 0 Q (F0 m 54 ls [])) → W p l e rmX5_layAll s m args below meth c H locs 0 0 Q (F0 m 23 ls []) := by
            intro fu
            induction fu with
            | zero => intro v7_0 v7_1 u7_0 u7_1 H locs ls h; exact nomatch h
            | succ fu ih =>
              intro v7_0 v7_1 u7_0 u7_1 H locs ls h hl hP hD hS kE
              rw [mX5_layAll_L23] at h
              refine lv_iload_n hx hb dX5_layAll_23 rfl (lv_at hl 0 rfl) ?_
              refine lv_aload_n hx hb dX5_layAll_24 rfl (lv_at hl 2 rfl) ?_
              refine va_get (D := G.1) (ci := 5) (v := .int r6_3) (C := RX5) (T := TX5) (N := 35) hx hb hts fw_X5_layAll_X5 hown hK.1 hP 0 rfl rfl 14 (by decide) (hts (.fieldLink RX5 113 "HalftoneScreensModel" "laidArea" "I") lk_X5_layAll_f113) (fun _ h9 => h9) rfl dX5_layAll_25 ?_
              refine lv_icmp_ge (tgt := 54) hx hb dX5_layAll_28 (by decide) (fun c8 => ?_) (fun c8 => ?_)
              · replace h := ite_t c8 h
                obtain ⟨rfl, rfl⟩ := sm2 h
                exact kE H locs ls hl hP hD hS
              · replace h := ite_f c8 h
                refine lv_aload_n hx hb dX5_layAll_31 rfl (lv_at hl 2 rfl) ?_
                refine va_get (D := G.1) (ci := 5) (v := .ref v_q11) (C := RX5) (T := TX5) (N := 35) hx hb hts fw_X5_layAll_X5 hown hK.1 hP 0 rfl rfl 22 (by decide) (hts (.fieldLink RX5 41 "HalftoneScreensModel" "allRanks" "[I") lk_X5_layAll_f41) (fun _ h9 => h9) rfl dX5_layAll_32 ?_
                refine lv_bipush (v := 64) hx hb dX5_layAll_35 (by decide) ?_
                refine lv_iload_n hx hb dX5_layAll_37 rfl (lv_at hl 1 rfl) ?_
                refine lv_imul hx hb dX5_layAll_38 ?_
                refine lv_iload_n hx hb dX5_layAll_39 rfl (lv_at hl 0 rfl) ?_
                refine lv_iadd hx hb dX5_layAll_40 ?_
                refine lv_aload_n hx hb dX5_layAll_41 rfl (lv_at hl 2 rfl) ?_
                refine va_get (D := G.1) (ci := 5) (v := .ref v_q8) (C := RX5) (T := TX5) (N := 35) hx hb hts fw_X5_layAll_X5 hown hK.1 hP 0 rfl rfl 13 (by decide) (hts (.fieldLink RX5 32 "HalftoneScreensModel" "ranks" "[I") lk_X5_layAll_f32) (fun _ h9 => h9) rfl dX5_layAll_42 ?_
                refine lv_iload_n hx hb dX5_layAll_45 rfl (lv_at hl 0 rfl) ?_
                obtain ⟨i9, h⟩ := gd_e h
                refine va_iald hx hb hK.1 hP 8 0 rfl rfl i9 dX5_layAll_46 ?_
                refine lv_topi (fun x10 e10 => ?_)
                replace h := nmB_e e10 h
                obtain ⟨i11, h⟩ := gd_e h
                refine va_iast hx hb hK.1 hP hD hS 11 0 rfl rfl i11 dX5_layAll_47 (fun H locs hP hD hS => ?_)
                have hP : va_P G.1 vwCl (wdX5 G v_q0 v_q1 v_q2 v_q3 v_q4 v_q5 v_q6 v_q7 v_q8 v_q9 v_q10 v_q11 v_q12 v_q13 v_q14 v_q15 v_q16 v_thrown v_gain v_size r6_0 r6_1 r6_2 r6_3 v_parts v_isMinus v_readSpot v_isStar v_wantsNumber v_waiting v_shiftX v_shiftY v_times v_dotsLaid v_joinedLaid v_hash v_isThereA v_vA v_spotOfA v_inMiddleA v_tintsA v_bufferA r6_4 r6_5 v_oldRanksA v_partA (upd v7_1 ((64 * v1_0) + v7_0).toNatClampNeg x10) v1_8 v_isMetA v_metXA v_metYA v_lineA) H := hP
                have hD : va_D A (wdX5 G v_q0 v_q1 v_q2 v_q3 v_q4 v_q5 v_q6 v_q7 v_q8 v_q9 v_q10 v_q11 v_q12 v_q13 v_q14 v_q15 v_q16 v_thrown v_gain v_size r6_0 r6_1 r6_2 r6_3 v_parts v_isMinus v_readSpot v_isStar v_wantsNumber v_waiting v_shiftX v_shiftY v_times v_dotsLaid v_joinedLaid v_hash v_isThereA v_vA v_spotOfA v_inMiddleA v_tintsA v_bufferA r6_4 r6_5 v_oldRanksA v_partA (upd v7_1 ((64 * v1_0) + v7_0).toNatClampNeg x10) v1_8 v_isMetA v_metXA v_metYA v_lineA) := hD
                obtain ⟨x12, e12⟩ : ∃ y : Int32, y = v7_0 + 1 := ⟨_, rfl⟩
                replace h := nmB_e e12 h
                refine lv_iinc (v := x12) (lv' := [(2, .int x12), (1, .int v1_0), (0, .ref v_q0)]) hx hb dX5_layAll_48 hl (k := 0) rfl (by rw [e12]; rfl) (by decide) rfl (fun ls hl => ?_)
                refine lv_goto (tgt := 23) hx hb dX5_layAll_51 (by decide) ?_
                exact ih x12 (upd v7_1 ((64 * v1_0) + v7_0).toNatClampNeg x10) u7_0 u7_1 H locs ls h hl hP hD hS kE
          refine L7 FU 0 v1_7 u7_0 u7_1 H locs ls g7 hl hP hD hS (fun H locs ls hl hP hD hS => ?_)
          refine lv_aload_n hx hb dX5_layAll_54 rfl (lv_at hl 2 rfl) ?_
          refine va_get (D := G.1) (ci := 5) (v := .ref v_q12) (C := RX5) (T := TX5) (N := 35) hx hb hts fw_X5_layAll_X5 hown hK.1 hP 0 rfl rfl 23 (by decide) (hts (.fieldLink RX5 44 "HalftoneScreensModel" "bases" "[I") lk_X5_layAll_f44) (fun _ h9 => h9) rfl dX5_layAll_55 ?_
          refine lv_iconst (v := 3) hx hb dX5_layAll_58 (by decide) ?_
          refine lv_iload_n hx hb dX5_layAll_59 rfl (lv_at hl 1 rfl) ?_
          refine lv_imul hx hb dX5_layAll_60 ?_
          refine lv_aload_n hx hb dX5_layAll_61 rfl (lv_at hl 2 rfl) ?_
          refine va_get (D := G.1) (ci := 5) (v := .int r6_0) (C := RX5) (T := TX5) (N := 35) hx hb hts fw_X5_layAll_X5 hown hK.1 hP 0 rfl rfl 9 (by decide) (hts (.fieldLink RX5 89 "HalftoneScreensModel" "w" "I") lk_X5_layAll_f89) (fun _ h9 => h9) rfl dX5_layAll_62 ?_
          obtain ⟨i13, h⟩ := gd_e h
          refine va_iast hx hb hK.1 hP hD hS 12 0 rfl rfl i13 dX5_layAll_65 (fun H locs hP hD hS => ?_)
          have hP : va_P G.1 vwCl (wdX5 G v_q0 v_q1 v_q2 v_q3 v_q4 v_q5 v_q6 v_q7 v_q8 v_q9 v_q10 v_q11 v_q12 v_q13 v_q14 v_q15 v_q16 v_thrown v_gain v_size r6_0 r6_1 r6_2 r6_3 v_parts v_isMinus v_readSpot v_isStar v_wantsNumber v_waiting v_shiftX v_shiftY v_times v_dotsLaid v_joinedLaid v_hash v_isThereA v_vA v_spotOfA v_inMiddleA v_tintsA v_bufferA r6_4 r6_5 v_oldRanksA v_partA u7_1 (upd v1_8 (3 * v1_0).toNatClampNeg r6_0) v_isMetA v_metXA v_metYA v_lineA) H := hP
          have hD : va_D A (wdX5 G v_q0 v_q1 v_q2 v_q3 v_q4 v_q5 v_q6 v_q7 v_q8 v_q9 v_q10 v_q11 v_q12 v_q13 v_q14 v_q15 v_q16 v_thrown v_gain v_size r6_0 r6_1 r6_2 r6_3 v_parts v_isMinus v_readSpot v_isStar v_wantsNumber v_waiting v_shiftX v_shiftY v_times v_dotsLaid v_joinedLaid v_hash v_isThereA v_vA v_spotOfA v_inMiddleA v_tintsA v_bufferA r6_4 r6_5 v_oldRanksA v_partA u7_1 (upd v1_8 (3 * v1_0).toNatClampNeg r6_0) v_isMetA v_metXA v_metYA v_lineA) := hD
          refine lv_aload_n hx hb dX5_layAll_66 rfl (lv_at hl 2 rfl) ?_
          refine va_get (D := G.1) (ci := 5) (v := .ref v_q12) (C := RX5) (T := TX5) (N := 35) hx hb hts fw_X5_layAll_X5 hown hK.1 hP 0 rfl rfl 23 (by decide) (hts (.fieldLink RX5 44 "HalftoneScreensModel" "bases" "[I") lk_X5_layAll_f44) (fun _ h9 => h9) rfl dX5_layAll_67 ?_
          refine lv_iconst (v := 3) hx hb dX5_layAll_70 (by decide) ?_
          refine lv_iload_n hx hb dX5_layAll_71 rfl (lv_at hl 1 rfl) ?_
          refine lv_imul hx hb dX5_layAll_72 ?_
          refine lv_iconst (v := 1) hx hb dX5_layAll_73 (by decide) ?_
          refine lv_iadd hx hb dX5_layAll_74 ?_
          refine lv_aload_n hx hb dX5_layAll_75 rfl (lv_at hl 2 rfl) ?_
          refine va_get (D := G.1) (ci := 5) (v := .int r6_1) (C := RX5) (T := TX5) (N := 35) hx hb hts fw_X5_layAll_X5 hown hK.1 hP 0 rfl rfl 10 (by decide) (hts (.fieldLink RX5 92 "HalftoneScreensModel" "s" "I") lk_X5_layAll_f92) (fun _ h9 => h9) rfl dX5_layAll_76 ?_
          obtain ⟨i14, h⟩ := gd_e h
          refine va_iast hx hb hK.1 hP hD hS 12 0 rfl rfl i14 dX5_layAll_79 (fun H locs hP hD hS => ?_)
          have hP : va_P G.1 vwCl (wdX5 G v_q0 v_q1 v_q2 v_q3 v_q4 v_q5 v_q6 v_q7 v_q8 v_q9 v_q10 v_q11 v_q12 v_q13 v_q14 v_q15 v_q16 v_thrown v_gain v_size r6_0 r6_1 r6_2 r6_3 v_parts v_isMinus v_readSpot v_isStar v_wantsNumber v_waiting v_shiftX v_shiftY v_times v_dotsLaid v_joinedLaid v_hash v_isThereA v_vA v_spotOfA v_inMiddleA v_tintsA v_bufferA r6_4 r6_5 v_oldRanksA v_partA u7_1 (upd (upd v1_8 (3 * v1_0).toNatClampNeg r6_0) ((3 * v1_0) + 1).toNatClampNeg r6_1) v_isMetA v_metXA v_metYA v_lineA) H := hP
          have hD : va_D A (wdX5 G v_q0 v_q1 v_q2 v_q3 v_q4 v_q5 v_q6 v_q7 v_q8 v_q9 v_q10 v_q11 v_q12 v_q13 v_q14 v_q15 v_q16 v_thrown v_gain v_size r6_0 r6_1 r6_2 r6_3 v_parts v_isMinus v_readSpot v_isStar v_wantsNumber v_waiting v_shiftX v_shiftY v_times v_dotsLaid v_joinedLaid v_hash v_isThereA v_vA v_spotOfA v_inMiddleA v_tintsA v_bufferA r6_4 r6_5 v_oldRanksA v_partA u7_1 (upd (upd v1_8 (3 * v1_0).toNatClampNeg r6_0) ((3 * v1_0) + 1).toNatClampNeg r6_1) v_isMetA v_metXA v_metYA v_lineA) := hD
          refine lv_aload_n hx hb dX5_layAll_80 rfl (lv_at hl 2 rfl) ?_
          refine va_get (D := G.1) (ci := 5) (v := .ref v_q12) (C := RX5) (T := TX5) (N := 35) hx hb hts fw_X5_layAll_X5 hown hK.1 hP 0 rfl rfl 23 (by decide) (hts (.fieldLink RX5 44 "HalftoneScreensModel" "bases" "[I") lk_X5_layAll_f44) (fun _ h9 => h9) rfl dX5_layAll_81 ?_
          refine lv_iconst (v := 3) hx hb dX5_layAll_84 (by decide) ?_
          refine lv_iload_n hx hb dX5_layAll_85 rfl (lv_at hl 1 rfl) ?_
          refine lv_imul hx hb dX5_layAll_86 ?_
          refine lv_iconst (v := 2) hx hb dX5_layAll_87 (by decide) ?_
          refine lv_iadd hx hb dX5_layAll_88 ?_
          refine lv_aload_n hx hb dX5_layAll_89 rfl (lv_at hl 2 rfl) ?_
          refine va_get (D := G.1) (ci := 5) (v := .int r6_2) (C := RX5) (T := TX5) (N := 35) hx hb hts fw_X5_layAll_X5 hown hK.1 hP 0 rfl rfl 11 (by decide) (hts (.fieldLink RX5 82 "HalftoneScreensModel" "h" "I") lk_X5_layAll_f82) (fun _ h9 => h9) rfl dX5_layAll_90 ?_
          obtain ⟨i15, h⟩ := gd_e h
          refine va_iast hx hb hK.1 hP hD hS 12 0 rfl rfl i15 dX5_layAll_93 (fun H locs hP hD hS => ?_)
          have hP : va_P G.1 vwCl (wdX5 G v_q0 v_q1 v_q2 v_q3 v_q4 v_q5 v_q6 v_q7 v_q8 v_q9 v_q10 v_q11 v_q12 v_q13 v_q14 v_q15 v_q16 v_thrown v_gain v_size r6_0 r6_1 r6_2 r6_3 v_parts v_isMinus v_readSpot v_isStar v_wantsNumber v_waiting v_shiftX v_shiftY v_times v_dotsLaid v_joinedLaid v_hash v_isThereA v_vA v_spotOfA v_inMiddleA v_tintsA v_bufferA r6_4 r6_5 v_oldRanksA v_partA u7_1 (upd (upd (upd v1_8 (3 * v1_0).toNatClampNeg r6_0) ((3 * v1_0) + 1).toNatClampNeg r6_1) ((3 * v1_0) + 2).toNatClampNeg r6_2) v_isMetA v_metXA v_metYA v_lineA) H := hP
          have hD : va_D A (wdX5 G v_q0 v_q1 v_q2 v_q3 v_q4 v_q5 v_q6 v_q7 v_q8 v_q9 v_q10 v_q11 v_q12 v_q13 v_q14 v_q15 v_q16 v_thrown v_gain v_size r6_0 r6_1 r6_2 r6_3 v_parts v_isMinus v_readSpot v_isStar v_wantsNumber v_waiting v_shiftX v_shiftY v_times v_dotsLaid v_joinedLaid v_hash v_isThereA v_vA v_spotOfA v_inMiddleA v_tintsA v_bufferA r6_4 r6_5 v_oldRanksA v_partA u7_1 (upd (upd (upd v1_8 (3 * v1_0).toNatClampNeg r6_0) ((3 * v1_0) + 1).toNatClampNeg r6_1) ((3 * v1_0) + 2).toNatClampNeg r6_2) v_isMetA v_metXA v_metYA v_lineA) := hD
          obtain ⟨x16, e16⟩ : ∃ y : Int32, y = v1_0 + 1 := ⟨_, rfl⟩
          replace h := nmB_e e16 h
          refine lv_iinc (v := x16) (lv' := [(1, .int x16), (2, .int u7_0), (0, .ref v_q0)]) hx hb dX5_layAll_94 hl (k := 1) rfl (by rw [e16]; rfl) (by decide) rfl (fun ls hl => ?_)
          refine lv_goto (tgt := 2) hx hb dX5_layAll_97 (by decide) ?_
          exact ih x16 r6_0 r6_1 r6_2 r6_3 r6_4 r6_5 u7_1 (upd (upd (upd v1_8 (3 * v1_0).toNatClampNeg r6_0) ((3 * v1_0) + 1).toNatClampNeg r6_1) ((3 * v1_0) + 2).toNatClampNeg r6_2) u1_0 u1_1 u1_2 u1_3 u1_4 u1_5 u1_6 u1_7 u1_8 H locs ls h (lv_sub hl [0, 2] rfl) hP hD hS kE
  refine L1 FU 0 v_w v_s v_h v_laidArea v_valuesA v_ranksA v_allRanksA v_basesA u1_0 u1_1 u1_2 u1_3 u1_4 u1_5 u1_6 u1_7 u1_8 H locs ls g1 hl hP hD hS (fun H locs ls hl hP hD hS => ?_)
  obtain ⟨rfl, rfl, rfl, rfl, rfl, rfl, rfl, rfl⟩ := sm8 h
  exact hret _ _ _ _ trivial hP hD hS dX5_layAll_100
theorem fw_X5_hasInk_X5 : ∀ w ∈ wsX50, w ∈ wsX5_hasInk := fun w h => List.mem_cons_of_mem _ (List.mem_append_right _ h)
theorem lk_X5_hasInk_f44 : Cond.fieldLink RX5 44 "HalftoneScreensModel" "bases" "[I" ∈ wsX5_hasInk := List.mem_of_getElem? (i := 1) rfl
theorem lk_X5_hasInk_f89 : Cond.fieldLink RX5 89 "HalftoneScreensModel" "w" "I" ∈ wsX5_hasInk := List.mem_of_getElem? (i := 2) rfl
theorem lk_X5_hasInk_f92 : Cond.fieldLink RX5 92 "HalftoneScreensModel" "s" "I" ∈ wsX5_hasInk := List.mem_of_getElem? (i := 3) rfl
theorem lk_X5_hasInk_f82 : Cond.fieldLink RX5 82 "HalftoneScreensModel" "h" "I" ∈ wsX5_hasInk := List.mem_of_getElem? (i := 4) rfl
theorem lk_X5_hasInk_f41 : Cond.fieldLink RX5 41 "HalftoneScreensModel" "allRanks" "[I" ∈ wsX5_hasInk := List.mem_of_getElem? (i := 5) rfl
theorem lk_X5_hasInk_f23 : Cond.fieldLink RX5 23 "HalftoneScreensModel" "tints" "[I" ∈ wsX5_hasInk := List.mem_of_getElem? (i := 6) rfl
abbrev rmX5_hasInk : Room := { frames := 3, cells := 0, slots := 0, locals := 66 }
set_option maxHeartbeats 4000000 in
set_option maxRecDepth 100000 in
theorem ctX5_hasInk (l : Launch) (G : GG) (v_q0 : Nat) (v_q1 : Nat) (v_q2 : Nat) (v_q3 : Nat) (v_q4 : Nat) (v_q5 : Nat) (v_q6 : Nat) (v_q7 : Nat) (v_q8 : Nat) (v_q9 : Nat) (v_q10 : Nat) (v_q11 : Nat) (v_q12 : Nat) (v_q13 : Nat) (v_q14 : Nat) (v_q15 : Nat) (v_q16 : Nat) (v_thrown : Int32) (v_gain : Int32) (v_size : Int32) (v_w : Int32) (v_s : Int32) (v_h : Int32) (v_laidArea : Int32) (v_parts : Int32) (v_isMinus : Int32) (v_readSpot : Int32) (v_isStar : Int32) (v_wantsNumber : Int32) (v_waiting : Int32) (v_shiftX : Int32) (v_shiftY : Int32) (v_times : Int32) (v_dotsLaid : Int32) (v_joinedLaid : Int32) (v_hash : Int64) (v_isThereA : (Nat → Int32)) (v_vA : (Nat → Int32)) (v_spotOfA : (Nat → Int32)) (v_inMiddleA : (Nat → Int32)) (v_tintsA : (Nat → Int32)) (v_bufferA : (Nat → Int32)) (v_valuesA : (Nat → Int32)) (v_ranksA : (Nat → Int32)) (v_oldRanksA : (Nat → Int32)) (v_partA : (Nat → Int32)) (v_allRanksA : (Nat → Int32)) (v_basesA : (Nat → Int32)) (v_isMetA : (Nat → Int32)) (v_metXA : (Nat → Int32)) (v_metYA : (Nat → Int32)) (v_lineA : (Nat → Int32)) (a0 : Int32) (a1 : Int32) (a2 : Int32) (o0 : Int32) (o1 : Int32) (o2 : Int32) (o3 : Int32) (h : mX5_hasInk v_tintsA v_allRanksA v_basesA a0 a1 a2 = some (o0, o1, o2, o3))  : Met l yX5_hasInk wsX5_hasInk rmX5_hasInk (va_Pc [.ref v_q0, .int a0, .int a1, .int a2] (PreD G (wdX5 G v_q0 v_q1 v_q2 v_q3 v_q4 v_q5 v_q6 v_q7 v_q8 v_q9 v_q10 v_q11 v_q12 v_q13 v_q14 v_q15 v_q16 v_thrown v_gain v_size v_w v_s v_h v_laidArea v_parts v_isMinus v_readSpot v_isStar v_wantsNumber v_waiting v_shiftX v_shiftY v_times v_dotsLaid v_joinedLaid v_hash v_isThereA v_vA v_spotOfA v_inMiddleA v_tintsA v_bufferA v_valuesA v_ranksA v_oldRanksA v_partA v_allRanksA v_basesA v_isMetA v_metXA v_metYA v_lineA) (fun _ => True))) (QwA G (va_A0 (wdX5 G v_q0 v_q1 v_q2 v_q3 v_q4 v_q5 v_q6 v_q7 v_q8 v_q9 v_q10 v_q11 v_q12 v_q13 v_q14 v_q15 v_q16 v_thrown v_gain v_size v_w v_s v_h v_laidArea v_parts v_isMinus v_readSpot v_isStar v_wantsNumber v_waiting v_shiftX v_shiftY v_times v_dotsLaid v_joinedLaid v_hash v_isThereA v_vA v_spotOfA v_inMiddleA v_tintsA v_bufferA v_valuesA v_ranksA v_oldRanksA v_partA v_allRanksA v_basesA v_isMetA v_metXA v_metYA v_lineA)) (wdX5 G v_q0 v_q1 v_q2 v_q3 v_q4 v_q5 v_q6 v_q7 v_q8 v_q9 v_q10 v_q11 v_q12 v_q13 v_q14 v_q15 v_q16 v_thrown v_gain v_size o1 o2 o3 v_laidArea v_parts v_isMinus v_readSpot v_isStar v_wantsNumber v_waiting v_shiftX v_shiftY v_times v_dotsLaid v_joinedLaid v_hash v_isThereA v_vA v_spotOfA v_inMiddleA v_tintsA v_bufferA v_valuesA v_ranksA v_oldRanksA v_partA v_allRanksA v_basesA v_isMetA v_metXA v_metYA v_lineA) (some (.int o0)) (isZ o0)) 0 0 (va_A0 (wdX5 G v_q0 v_q1 v_q2 v_q3 v_q4 v_q5 v_q6 v_q7 v_q8 v_q9 v_q10 v_q11 v_q12 v_q13 v_q14 v_q15 v_q16 v_thrown v_gain v_size v_w v_s v_h v_laidArea v_parts v_isMinus v_readSpot v_isStar v_wantsNumber v_waiting v_shiftX v_shiftY v_times v_dotsLaid v_joinedLaid v_hash v_isThereA v_vA v_spotOfA v_inMiddleA v_tintsA v_bufferA v_valuesA v_ranksA v_oldRanksA v_partA v_allRanksA v_basesA v_isMetA v_metXA v_metYA v_lineA)) := by
  refine of_wi (cc := cX5_hasInk) (maxL := 4) (ty := .boolean) (plainFor_of_name (by decide)) rfl (Nat.le_of_ble_eq_true rfl) ?_
  intro p e s m args below meth c ls Q A S hl hP hD hS hK hX hA hret
  obtain ⟨H, hH⟩ : ∃ H, H = s.heap := ⟨_, rfl⟩
  obtain ⟨locs, hlocs⟩ : ∃ L : List Loc, L = [] := ⟨_, rfl⟩
  rw [← hlocs]
  rw [← hlocs] at hS
  have hP : va_P G.1 vwCl (wdX5 G v_q0 v_q1 v_q2 v_q3 v_q4 v_q5 v_q6 v_q7 v_q8 v_q9 v_q10 v_q11 v_q12 v_q13 v_q14 v_q15 v_q16 v_thrown v_gain v_size v_w v_s v_h v_laidArea v_parts v_isMinus v_readSpot v_isStar v_wantsNumber v_waiting v_shiftX v_shiftY v_times v_dotsLaid v_joinedLaid v_hash v_isThereA v_vA v_spotOfA v_inMiddleA v_tintsA v_bufferA v_valuesA v_ranksA v_oldRanksA v_partA v_allRanksA v_basesA v_isMetA v_metXA v_metYA v_lineA) H := by rw [hH]; exact hP
  have hS : va_S A s.heap H locs := by rw [hH]; exact hS
  suffices hgo : W p l e rmX5_hasInk s m args below meth c H locs 0 0 Q (F0 m 0 ls []) by rw [hH] at hgo; exact hgo
  have S : CallFix p m c cX5_hasInk 4 s args wsX5_hasInk RX5 := S
  obtain ⟨hx, hb, hml, hown, hts⟩ := id S
  have hl : lv_has ls 4 [(0, .ref v_q0), (1, .int a0), (2, .int a1), (3, .int a2)] := hl
  unfold mX5_hasInk at h
  refine lv_aload_n hx hb dX5_hasInk_0 rfl (lv_at hl 0 rfl) ?_
  refine lv_aload_n hx hb dX5_hasInk_1 rfl (lv_at hl 0 rfl) ?_
  refine va_get (D := G.1) (ci := 5) (v := .ref v_q12) (C := RX5) (T := TX5) (N := 35) hx hb hts fw_X5_hasInk_X5 hown hK.1 hP 0 rfl rfl 23 (by decide) (hts (.fieldLink RX5 44 "HalftoneScreensModel" "bases" "[I") lk_X5_hasInk_f44) (fun _ h9 => h9) rfl dX5_hasInk_2 ?_
  refine lv_iconst (v := 3) hx hb dX5_hasInk_5 (by decide) ?_
  refine lv_iload_n hx hb dX5_hasInk_6 rfl (lv_at hl 1 rfl) ?_
  refine lv_imul hx hb dX5_hasInk_7 ?_
  obtain ⟨i1, h⟩ := gd_e h
  refine va_iald hx hb hK.1 hP 12 0 rfl rfl i1 dX5_hasInk_8 ?_
  refine lv_topi (fun x2 e2 => ?_)
  replace h := nmB_e e2 h
  refine va_put (D := G.1) (ci := 5) (v := .int x2) (ty := .int) (C := RX5) (T := TX5) (N := 35) hx hb hts fw_X5_hasInk_X5 tyX5 tyX5_ok nmX5 hown hK.1 hP hD hS 0 rfl rfl 9 (by decide) (hts (.fieldLink RX5 89 "HalftoneScreensModel" "w" "I") lk_X5_hasInk_f89) (fun _ h9 => h9) rfl (tyX5_ok 9 (by decide)) rfl rfl (Nat.le_of_ble_eq_true rfl) dX5_hasInk_9 (fun H locs hP hD hS => ?_)
  have hP : va_P G.1 vwCl (wdX5 G v_q0 v_q1 v_q2 v_q3 v_q4 v_q5 v_q6 v_q7 v_q8 v_q9 v_q10 v_q11 v_q12 v_q13 v_q14 v_q15 v_q16 v_thrown v_gain v_size x2 v_s v_h v_laidArea v_parts v_isMinus v_readSpot v_isStar v_wantsNumber v_waiting v_shiftX v_shiftY v_times v_dotsLaid v_joinedLaid v_hash v_isThereA v_vA v_spotOfA v_inMiddleA v_tintsA v_bufferA v_valuesA v_ranksA v_oldRanksA v_partA v_allRanksA v_basesA v_isMetA v_metXA v_metYA v_lineA) H := hP
  have hD : va_D A (wdX5 G v_q0 v_q1 v_q2 v_q3 v_q4 v_q5 v_q6 v_q7 v_q8 v_q9 v_q10 v_q11 v_q12 v_q13 v_q14 v_q15 v_q16 v_thrown v_gain v_size x2 v_s v_h v_laidArea v_parts v_isMinus v_readSpot v_isStar v_wantsNumber v_waiting v_shiftX v_shiftY v_times v_dotsLaid v_joinedLaid v_hash v_isThereA v_vA v_spotOfA v_inMiddleA v_tintsA v_bufferA v_valuesA v_ranksA v_oldRanksA v_partA v_allRanksA v_basesA v_isMetA v_metXA v_metYA v_lineA) := hD
  refine lv_aload_n hx hb dX5_hasInk_12 rfl (lv_at hl 0 rfl) ?_
  refine lv_aload_n hx hb dX5_hasInk_13 rfl (lv_at hl 0 rfl) ?_
  refine va_get (D := G.1) (ci := 5) (v := .ref v_q12) (C := RX5) (T := TX5) (N := 35) hx hb hts fw_X5_hasInk_X5 hown hK.1 hP 0 rfl rfl 23 (by decide) (hts (.fieldLink RX5 44 "HalftoneScreensModel" "bases" "[I") lk_X5_hasInk_f44) (fun _ h9 => h9) rfl dX5_hasInk_14 ?_
  refine lv_iconst (v := 3) hx hb dX5_hasInk_17 (by decide) ?_
  refine lv_iload_n hx hb dX5_hasInk_18 rfl (lv_at hl 1 rfl) ?_
  refine lv_imul hx hb dX5_hasInk_19 ?_
  refine lv_iconst (v := 1) hx hb dX5_hasInk_20 (by decide) ?_
  refine lv_iadd hx hb dX5_hasInk_21 ?_
  obtain ⟨i3, h⟩ := gd_e h
  refine va_iald hx hb hK.1 hP 12 0 rfl rfl i3 dX5_hasInk_22 ?_
  refine lv_topi (fun x4 e4 => ?_)
  replace h := nmB_e e4 h
  refine va_put (D := G.1) (ci := 5) (v := .int x4) (ty := .int) (C := RX5) (T := TX5) (N := 35) hx hb hts fw_X5_hasInk_X5 tyX5 tyX5_ok nmX5 hown hK.1 hP hD hS 0 rfl rfl 10 (by decide) (hts (.fieldLink RX5 92 "HalftoneScreensModel" "s" "I") lk_X5_hasInk_f92) (fun _ h9 => h9) rfl (tyX5_ok 10 (by decide)) rfl rfl (Nat.le_of_ble_eq_true rfl) dX5_hasInk_23 (fun H locs hP hD hS => ?_)
  have hP : va_P G.1 vwCl (wdX5 G v_q0 v_q1 v_q2 v_q3 v_q4 v_q5 v_q6 v_q7 v_q8 v_q9 v_q10 v_q11 v_q12 v_q13 v_q14 v_q15 v_q16 v_thrown v_gain v_size x2 x4 v_h v_laidArea v_parts v_isMinus v_readSpot v_isStar v_wantsNumber v_waiting v_shiftX v_shiftY v_times v_dotsLaid v_joinedLaid v_hash v_isThereA v_vA v_spotOfA v_inMiddleA v_tintsA v_bufferA v_valuesA v_ranksA v_oldRanksA v_partA v_allRanksA v_basesA v_isMetA v_metXA v_metYA v_lineA) H := hP
  have hD : va_D A (wdX5 G v_q0 v_q1 v_q2 v_q3 v_q4 v_q5 v_q6 v_q7 v_q8 v_q9 v_q10 v_q11 v_q12 v_q13 v_q14 v_q15 v_q16 v_thrown v_gain v_size x2 x4 v_h v_laidArea v_parts v_isMinus v_readSpot v_isStar v_wantsNumber v_waiting v_shiftX v_shiftY v_times v_dotsLaid v_joinedLaid v_hash v_isThereA v_vA v_spotOfA v_inMiddleA v_tintsA v_bufferA v_valuesA v_ranksA v_oldRanksA v_partA v_allRanksA v_basesA v_isMetA v_metXA v_metYA v_lineA) := hD
  refine lv_aload_n hx hb dX5_hasInk_26 rfl (lv_at hl 0 rfl) ?_
  refine lv_aload_n hx hb dX5_hasInk_27 rfl (lv_at hl 0 rfl) ?_
  refine va_get (D := G.1) (ci := 5) (v := .ref v_q12) (C := RX5) (T := TX5) (N := 35) hx hb hts fw_X5_hasInk_X5 hown hK.1 hP 0 rfl rfl 23 (by decide) (hts (.fieldLink RX5 44 "HalftoneScreensModel" "bases" "[I") lk_X5_hasInk_f44) (fun _ h9 => h9) rfl dX5_hasInk_28 ?_
  refine lv_iconst (v := 3) hx hb dX5_hasInk_31 (by decide) ?_
  refine lv_iload_n hx hb dX5_hasInk_32 rfl (lv_at hl 1 rfl) ?_
  refine lv_imul hx hb dX5_hasInk_33 ?_
  refine lv_iconst (v := 2) hx hb dX5_hasInk_34 (by decide) ?_
  refine lv_iadd hx hb dX5_hasInk_35 ?_
  obtain ⟨i5, h⟩ := gd_e h
  refine va_iald hx hb hK.1 hP 12 0 rfl rfl i5 dX5_hasInk_36 ?_
  refine lv_topi (fun x6 e6 => ?_)
  replace h := nmB_e e6 h
  refine va_put (D := G.1) (ci := 5) (v := .int x6) (ty := .int) (C := RX5) (T := TX5) (N := 35) hx hb hts fw_X5_hasInk_X5 tyX5 tyX5_ok nmX5 hown hK.1 hP hD hS 0 rfl rfl 11 (by decide) (hts (.fieldLink RX5 82 "HalftoneScreensModel" "h" "I") lk_X5_hasInk_f82) (fun _ h9 => h9) rfl (tyX5_ok 11 (by decide)) rfl rfl (Nat.le_of_ble_eq_true rfl) dX5_hasInk_37 (fun H locs hP hD hS => ?_)
  have hP : va_P G.1 vwCl (wdX5 G v_q0 v_q1 v_q2 v_q3 v_q4 v_q5 v_q6 v_q7 v_q8 v_q9 v_q10 v_q11 v_q12 v_q13 v_q14 v_q15 v_q16 v_thrown v_gain v_size x2 x4 x6 v_laidArea v_parts v_isMinus v_readSpot v_isStar v_wantsNumber v_waiting v_shiftX v_shiftY v_times v_dotsLaid v_joinedLaid v_hash v_isThereA v_vA v_spotOfA v_inMiddleA v_tintsA v_bufferA v_valuesA v_ranksA v_oldRanksA v_partA v_allRanksA v_basesA v_isMetA v_metXA v_metYA v_lineA) H := hP
  have hD : va_D A (wdX5 G v_q0 v_q1 v_q2 v_q3 v_q4 v_q5 v_q6 v_q7 v_q8 v_q9 v_q10 v_q11 v_q12 v_q13 v_q14 v_q15 v_q16 v_thrown v_gain v_size x2 x4 x6 v_laidArea v_parts v_isMinus v_readSpot v_isStar v_wantsNumber v_waiting v_shiftX v_shiftY v_times v_dotsLaid v_joinedLaid v_hash v_isThereA v_vA v_spotOfA v_inMiddleA v_tintsA v_bufferA v_valuesA v_ranksA v_oldRanksA v_partA v_allRanksA v_basesA v_isMetA v_metXA v_metYA v_lineA) := hD
  refine lv_aload_n hx hb dX5_hasInk_40 rfl (lv_at hl 0 rfl) ?_
  refine va_get (D := G.1) (ci := 5) (v := .ref v_q11) (C := RX5) (T := TX5) (N := 35) hx hb hts fw_X5_hasInk_X5 hown hK.1 hP 0 rfl rfl 22 (by decide) (hts (.fieldLink RX5 41 "HalftoneScreensModel" "allRanks" "[I") lk_X5_hasInk_f41) (fun _ h9 => h9) rfl dX5_hasInk_41 ?_
  refine lv_bipush (v := 64) hx hb dX5_hasInk_44 (by decide) ?_
  refine lv_iload_n hx hb dX5_hasInk_46 rfl (lv_at hl 1 rfl) ?_
  refine lv_imul hx hb dX5_hasInk_47 ?_
  refine lv_aload_n hx hb dX5_hasInk_48 rfl (lv_at hl 0 rfl) ?_
  refine lv_iload_n hx hb dX5_hasInk_49 rfl (lv_at hl 2 rfl) ?_
  refine lv_iload_n hx hb dX5_hasInk_50 rfl (lv_at hl 3 rfl) ?_
  obtain ⟨r7_0, g7, h⟩ := bnd1_e h
  refine roVi1 (rest := [.int (64 * a0), .ref v_q11]) (As := [.int a1, .int a2]) S (ctX5_placeAt l G v_q0 v_q1 v_q2 v_q3 v_q4 v_q5 v_q6 v_q7 v_q8 v_q9 v_q10 v_q11 v_q12 v_q13 v_q14 v_q15 v_q16 v_thrown v_gain v_size x2 x4 x6 v_laidArea v_parts v_isMinus v_readSpot v_isStar v_wantsNumber v_waiting v_shiftX v_shiftY v_times v_dotsLaid v_joinedLaid v_hash v_isThereA v_vA v_spotOfA v_inMiddleA v_tintsA v_bufferA v_valuesA v_ranksA v_oldRanksA v_partA v_allRanksA v_basesA v_isMetA v_metXA v_metYA v_lineA a1 a2 r7_0 g7) (cwV 2 hts gX5_hasInk_X5_placeAt rfl rfl rfl hvX5_placeAt ⟨Nat.le_of_ble_eq_true rfl, Nat.le_of_ble_eq_true rfl⟩) hK hP [0, 1, 2, 3, 4, 5, 6, 7, 8, 9, 10, 11, 12, 13, 14, 15, 16] rfl 0 5 rfl rfl rfl rfl hl.1 rfl (Nat.le_of_ble_eq_true rfl) dX5_hasInk_51 ⟨Nat.le_refl _, Nat.le_refl _⟩ (fun _ => ?_)
  refine lv_iadd hx hb dX5_hasInk_54 ?_
  obtain ⟨i8, h⟩ := gd_e h
  refine va_iald hx hb hK.1 hP 11 0 rfl rfl i8 dX5_hasInk_55 ?_
  refine lv_aload_n hx hb dX5_hasInk_56 rfl (lv_at hl 0 rfl) ?_
  refine va_get (D := G.1) (ci := 5) (v := .ref v_q5) (C := RX5) (T := TX5) (N := 35) hx hb hts fw_X5_hasInk_X5 hown hK.1 hP 0 rfl rfl 5 (by decide) (hts (.fieldLink RX5 23 "HalftoneScreensModel" "tints" "[I") lk_X5_hasInk_f23) (fun _ h9 => h9) rfl dX5_hasInk_57 ?_
  refine lv_iload_n hx hb dX5_hasInk_60 rfl (lv_at hl 1 rfl) ?_
  obtain ⟨i9, h⟩ := gd_e h
  refine va_iald hx hb hK.1 hP 5 0 rfl rfl i9 dX5_hasInk_61 ?_
  refine lv_icmp_ge (tgt := 69) hx hb dX5_hasInk_62 (by decide) (fun c10 => ?_) (fun c10 => ?_)
  · replace h := ite_t c10 h
    refine lv_iconst (v := 0) hx hb dX5_hasInk_69 (by decide) ?_
    obtain ⟨rfl, rfl, rfl, rfl⟩ := sm4 h
    exact hret _ _ _ _ _ rfl isZ0 (isZ.nar isZ0) hP hD hS dX5_hasInk_70
  · replace h := ite_f c10 h
    refine lv_iconst (v := 1) hx hb dX5_hasInk_65 (by decide) ?_
    refine lv_goto (tgt := 70) hx hb dX5_hasInk_66 (by decide) ?_
    obtain ⟨rfl, rfl, rfl, rfl⟩ := sm4 h
    exact hret _ _ _ _ _ rfl isZ1 (isZ.nar isZ1) hP hD hS dX5_hasInk_70
theorem fw_X5_inksAt_X5 : ∀ w ∈ wsX50, w ∈ wsX5_inksAt := fun w h => List.mem_cons_of_mem _ (List.mem_append_right _ h)
theorem lk_X5_inksAt_f7 : Cond.fieldLink RX5 7 "HalftoneScreensModel" "isThere" "[Z" ∈ wsX5_inksAt := List.mem_of_getElem? (i := 1) rfl
theorem hsX5_hasInk : yX5_hasInk.cls ≠ "java/lang/invoke/MethodHandle" ∧ yX5_hasInk.cls ≠ "java/lang/invoke/VarHandle" ∧ (parseMethodDescriptor yX5_hasInk.desc).map (fun d => d.parameters.length) = some 3 := by decide +kernel
theorem hvX5_hasInk : yX5_hasInk.cls = RX5 ∧ yX5_hasInk.cls ≠ "java/lang/invoke/MethodHandle" ∧ yX5_hasInk.cls ≠ "java/lang/invoke/VarHandle" ∧ (parseMethodDescriptor yX5_hasInk.desc).map (fun d => d.parameters.length) = some 3 := ⟨rfl, hsX5_hasInk⟩
abbrev rmX5_inksAt : Room := { frames := 4, cells := 0, slots := 0, locals := 89 }
set_option maxHeartbeats 4000000 in
set_option maxRecDepth 100000 in
theorem ctX5_inksAt (l : Launch) (G : GG) (v_q0 : Nat) (v_q1 : Nat) (v_q2 : Nat) (v_q3 : Nat) (v_q4 : Nat) (v_q5 : Nat) (v_q6 : Nat) (v_q7 : Nat) (v_q8 : Nat) (v_q9 : Nat) (v_q10 : Nat) (v_q11 : Nat) (v_q12 : Nat) (v_q13 : Nat) (v_q14 : Nat) (v_q15 : Nat) (v_q16 : Nat) (v_thrown : Int32) (v_gain : Int32) (v_size : Int32) (v_w : Int32) (v_s : Int32) (v_h : Int32) (v_laidArea : Int32) (v_parts : Int32) (v_isMinus : Int32) (v_readSpot : Int32) (v_isStar : Int32) (v_wantsNumber : Int32) (v_waiting : Int32) (v_shiftX : Int32) (v_shiftY : Int32) (v_times : Int32) (v_dotsLaid : Int32) (v_joinedLaid : Int32) (v_hash : Int64) (v_isThereA : (Nat → Int32)) (v_vA : (Nat → Int32)) (v_spotOfA : (Nat → Int32)) (v_inMiddleA : (Nat → Int32)) (v_tintsA : (Nat → Int32)) (v_bufferA : (Nat → Int32)) (v_valuesA : (Nat → Int32)) (v_ranksA : (Nat → Int32)) (v_oldRanksA : (Nat → Int32)) (v_partA : (Nat → Int32)) (v_allRanksA : (Nat → Int32)) (v_basesA : (Nat → Int32)) (v_isMetA : (Nat → Int32)) (v_metXA : (Nat → Int32)) (v_metYA : (Nat → Int32)) (v_lineA : (Nat → Int32)) (a0 : Int32) (a1 : Int32) (o0 : Int32) (o1 : Int32) (o2 : Int32) (o3 : Int32) (h : mX5_inksAt v_w v_s v_h v_isThereA v_tintsA v_allRanksA v_basesA a0 a1 = some (o0, o1, o2, o3))  : Met l yX5_inksAt wsX5_inksAt rmX5_inksAt (va_Pc [.ref v_q0, .int a0, .int a1] (PreD G (wdX5 G v_q0 v_q1 v_q2 v_q3 v_q4 v_q5 v_q6 v_q7 v_q8 v_q9 v_q10 v_q11 v_q12 v_q13 v_q14 v_q15 v_q16 v_thrown v_gain v_size v_w v_s v_h v_laidArea v_parts v_isMinus v_readSpot v_isStar v_wantsNumber v_waiting v_shiftX v_shiftY v_times v_dotsLaid v_joinedLaid v_hash v_isThereA v_vA v_spotOfA v_inMiddleA v_tintsA v_bufferA v_valuesA v_ranksA v_oldRanksA v_partA v_allRanksA v_basesA v_isMetA v_metXA v_metYA v_lineA) (fun _ => True))) (QwA G (va_A0 (wdX5 G v_q0 v_q1 v_q2 v_q3 v_q4 v_q5 v_q6 v_q7 v_q8 v_q9 v_q10 v_q11 v_q12 v_q13 v_q14 v_q15 v_q16 v_thrown v_gain v_size v_w v_s v_h v_laidArea v_parts v_isMinus v_readSpot v_isStar v_wantsNumber v_waiting v_shiftX v_shiftY v_times v_dotsLaid v_joinedLaid v_hash v_isThereA v_vA v_spotOfA v_inMiddleA v_tintsA v_bufferA v_valuesA v_ranksA v_oldRanksA v_partA v_allRanksA v_basesA v_isMetA v_metXA v_metYA v_lineA)) (wdX5 G v_q0 v_q1 v_q2 v_q3 v_q4 v_q5 v_q6 v_q7 v_q8 v_q9 v_q10 v_q11 v_q12 v_q13 v_q14 v_q15 v_q16 v_thrown v_gain v_size o1 o2 o3 v_laidArea v_parts v_isMinus v_readSpot v_isStar v_wantsNumber v_waiting v_shiftX v_shiftY v_times v_dotsLaid v_joinedLaid v_hash v_isThereA v_vA v_spotOfA v_inMiddleA v_tintsA v_bufferA v_valuesA v_ranksA v_oldRanksA v_partA v_allRanksA v_basesA v_isMetA v_metXA v_metYA v_lineA) (some (.int o0)) True) 0 0 (va_A0 (wdX5 G v_q0 v_q1 v_q2 v_q3 v_q4 v_q5 v_q6 v_q7 v_q8 v_q9 v_q10 v_q11 v_q12 v_q13 v_q14 v_q15 v_q16 v_thrown v_gain v_size v_w v_s v_h v_laidArea v_parts v_isMinus v_readSpot v_isStar v_wantsNumber v_waiting v_shiftX v_shiftY v_times v_dotsLaid v_joinedLaid v_hash v_isThereA v_vA v_spotOfA v_inMiddleA v_tintsA v_bufferA v_valuesA v_ranksA v_oldRanksA v_partA v_allRanksA v_basesA v_isMetA v_metXA v_metYA v_lineA)) := by
  refine of_wi (cc := cX5_inksAt) (maxL := 5) (ty := .int) (plainFor_of_name (by decide)) rfl (Nat.le_of_ble_eq_true rfl) ?_
  intro p e s m args below meth c ls Q A S hl hP hD hS hK hX hA hret
  obtain ⟨H, hH⟩ : ∃ H, H = s.heap := ⟨_, rfl⟩
  obtain ⟨locs, hlocs⟩ : ∃ L : List Loc, L = [] := ⟨_, rfl⟩
  rw [← hlocs]
  rw [← hlocs] at hS
  have hP : va_P G.1 vwCl (wdX5 G v_q0 v_q1 v_q2 v_q3 v_q4 v_q5 v_q6 v_q7 v_q8 v_q9 v_q10 v_q11 v_q12 v_q13 v_q14 v_q15 v_q16 v_thrown v_gain v_size v_w v_s v_h v_laidArea v_parts v_isMinus v_readSpot v_isStar v_wantsNumber v_waiting v_shiftX v_shiftY v_times v_dotsLaid v_joinedLaid v_hash v_isThereA v_vA v_spotOfA v_inMiddleA v_tintsA v_bufferA v_valuesA v_ranksA v_oldRanksA v_partA v_allRanksA v_basesA v_isMetA v_metXA v_metYA v_lineA) H := by rw [hH]; exact hP
  have hS : va_S A s.heap H locs := by rw [hH]; exact hS
  suffices hgo : W p l e rmX5_inksAt s m args below meth c H locs 0 0 Q (F0 m 0 ls []) by rw [hH] at hgo; exact hgo
  have S : CallFix p m c cX5_inksAt 5 s args wsX5_inksAt RX5 := S
  obtain ⟨hx, hb, hml, hown, hts⟩ := id S
  have hl : lv_has ls 5 [(0, .ref v_q0), (1, .int a0), (2, .int a1)] := hl
  unfold mX5_inksAt at h
  refine lv_iconst (v := 0) hx hb dX5_inksAt_0 (by decide) ?_
  refine lv_istore_n (lv' := [(3, .int 0), (0, .ref v_q0), (1, .int a0), (2, .int a1)]) hx hb dX5_inksAt_1 rfl hl (by decide) rfl (fun ls hl => ?_)
  refine lv_iconst (v := 0) hx hb dX5_inksAt_2 (by decide) ?_
  refine lv_istore (lv' := [(4, .int 0), (3, .int 0), (0, .ref v_q0), (1, .int a0), (2, .int a1)]) hx hb dX5_inksAt_3 hl (by decide) rfl (fun ls hl => ?_)
  obtain ⟨u1_0, u1_1, u1_2, u1_3, u1_4, g1, h⟩ := bnd5_e h
  have L1 : ∀ (fu : Nat) (v1_0 : Int32) (v1_1 : Int32) (v1_2 : Int32) (v1_3 : Int32) (v1_4 : Int32) (u1_0 : Int32) (u1_1 : Int32) (u1_2 : Int32) (u1_3 : Int32) (u1_4 : Int32) (H : Heap) (locs : List Loc) (ls : Array Slot), mX5_inksAt_L5 v_isThereA v_tintsA v_allRanksA v_basesA a0 a1 fu v1_0 v1_1 v1_2 v1_3 v1_4 = some (u1_0, u1_1, u1_2, u1_3, u1_4) → lv_has ls 5 [(4, .int v1_0), (3, .int v1_1), (0, .ref v_q0), (1, .int a0), (2, .int a1)] → va_P G.1 vwCl (wdX5 G v_q0 v_q1 v_q2 v_q3 v_q4 v_q5 v_q6 v_q7 v_q8 v_q9 v_q10 v_q11 v_q12 v_q13 v_q14 v_q15 v_q16 v_thrown v_gain v_size v1_2 v1_3 v1_4 v_laidArea v_parts v_isMinus v_readSpot v_isStar v_wantsNumber v_waiting v_shiftX v_shiftY v_times v_dotsLaid v_joinedLaid v_hash v_isThereA v_vA v_spotOfA v_inMiddleA v_tintsA v_bufferA v_valuesA v_ranksA v_oldRanksA v_partA v_allRanksA v_basesA v_isMetA v_metXA v_metYA v_lineA) H → va_D A (wdX5 G v_q0 v_q1 v_q2 v_q3 v_q4 v_q5 v_q6 v_q7 v_q8 v_q9 v_q10 v_q11 v_q12 v_q13 v_q14 v_q15 v_q16 v_thrown v_gain v_size v1_2 v1_3 v1_4 v_laidArea v_parts v_isMinus v_readSpot v_isStar v_wantsNumber v_waiting v_shiftX v_shiftY v_times v_dotsLaid v_joinedLaid v_hash v_isThereA v_vA v_spotOfA v_inMiddleA v_tintsA v_bufferA v_valuesA v_ranksA v_oldRanksA v_partA v_allRanksA v_basesA v_isMetA v_metXA v_metYA v_lineA) → va_S A s.heap H locs → (∀ (H : Heap) (locs : List Loc) (ls : Array Slot), lv_has ls 5 [(4, .int u1_0), (3, .int u1_1), (0, .ref v_q0), (1, .int a0), (2, .int a1)] → va_P G.1 vwCl (wdX5 G v_q0 v_q1 v_q2 v_q3 v_q4 v_q5 v_q6 v_q7 v_q8 v_q9 v_q10 v_q11 v_q12 v_q13 v_q14 v_q15 v_q16 v_thrown v_gain v_size u1_2 u1_3 u1_4 v_laidArea v_parts v_isMinus v_readSpot v_isStar v_wantsNumber v_waiting v_shiftX v_shiftY v_times v_dotsLaid v_joinedLaid v_hash v_isThereA v_vA v_spotOfA v_inMiddleA v_tintsA v_bufferA v_valuesA v_ranksA v_oldRanksA v_partA v_allRanksA v_basesA v_isMetA v_metXA v_metYA v_lineA) H → va_D A (wdX5 G v_q0 v_q1 v_q2 v_q3 v_q4 v_q5 v_q6 v_q7 v_q8 v_q9 v_q10 v_q11 v_q12 v_q13 v_q14 v_q15 v_q16 v_thrown v_gain v_size u1_2 u1_3 u1_4 v_laidArea v_parts v_isMinus v_readSpot v_isStar v_wantsNumber v_waiting v_shiftX v_shiftY v_times v_dotsLaid v_joinedLaid v_hash v_isThereA v_vA v_spotOfA v_inMiddleA v_tintsA v_bufferA v_valuesA v_ranksA v_oldRanksA v_partA v_allRanksA v_basesA v_isMetA v_metXA v_metYA v_lineA) → va_S A s.heap H locs → W p l e rmX5_inksAt s m args below meth c H locs 0 0 Q (F0 m 49 ls [])) → W p l e rmX5_inksAt s m args below meth c H locs 0 0 Q (F0 m 5 ls []) := by
    intro fu
    induction fu with
    | zero => intro v1_0 v1_1 v1_2 v1_3 v1_4 u1_0 u1_1 u1_2 u1_3 u1_4 H locs ls h; exact nomatch h
    | succ fu ih =>
      intro v1_0 v1_1 v1_2 v1_3 v1_4 u1_0 u1_1 u1_2 u1_3 u1_4 H locs ls h hl hP hD hS kE
      rw [mX5_inksAt_L5] at h
      refine lv_iload hx hb dX5_inksAt_5 (lv_at hl 0 rfl) ?_
      refine lv_iconst (v := 3) hx hb dX5_inksAt_7 (by decide) ?_
      refine lv_icmp_ge (tgt := 49) hx hb dX5_inksAt_8 (by decide) (fun c2 => ?_) (fun c2 => ?_)
      · replace h := ite_t c2 h
        obtain ⟨rfl, rfl, rfl, rfl, rfl⟩ := sm5 h
        exact kE H locs ls hl hP hD hS
      · replace h := ite_f c2 h
        refine lv_iload_n hx hb dX5_inksAt_11 rfl (lv_at hl 1 rfl) ?_
        refine lv_aload_n hx hb dX5_inksAt_12 rfl (lv_at hl 2 rfl) ?_
        refine va_get (D := G.1) (ci := 5) (v := .ref v_q1) (C := RX5) (T := TX5) (N := 35) hx hb hts fw_X5_inksAt_X5 hown hK.1 hP 0 rfl rfl 1 (by decide) (hts (.fieldLink RX5 7 "HalftoneScreensModel" "isThere" "[Z") lk_X5_inksAt_f7) (fun _ h9 => h9) rfl dX5_inksAt_13 ?_
        refine lv_iload hx hb dX5_inksAt_16 (lv_at hl 0 rfl) ?_
        obtain ⟨i3, h⟩ := gd_e h
        refine va_zald hx hb hK.1 hP 1 1 rfl rfl i3 dX5_inksAt_18 ?_
        refine lv_if_eq (tgt := 40) hx hb dX5_inksAt_19 (by decide) (fun c4 => ?_) (fun c4 => ?_)
        · replace h := ite_t c4 h
          refine lv_iconst (v := 0) hx hb dX5_inksAt_40 (by decide) ?_
          refine lv_iadd hx hb dX5_inksAt_41 ?_
          refine lv_topi (fun x5 e5 => ?_)
          replace h := nmB_e e5 h
          refine lv_istore_n (lv' := [(3, .int x5), (4, .int v1_0), (0, .ref v_q0), (1, .int a0), (2, .int a1)]) hx hb dX5_inksAt_42 rfl hl (by decide) rfl (fun ls hl => ?_)
          obtain ⟨x6, e6⟩ : ∃ y : Int32, y = v1_0 + 1 := ⟨_, rfl⟩
          replace h := nmB_e e6 h
          refine lv_iinc (v := x6) (lv' := [(4, .int x6), (3, .int x5), (0, .ref v_q0), (1, .int a0), (2, .int a1)]) hx hb dX5_inksAt_43 hl (k := 1) rfl (by rw [e6]; rfl) (by decide) rfl (fun ls hl => ?_)
          refine lv_goto (tgt := 5) hx hb dX5_inksAt_46 (by decide) ?_
          exact ih x6 x5 v1_2 v1_3 v1_4 u1_0 u1_1 u1_2 u1_3 u1_4 H locs ls h hl hP hD hS kE
        · replace h := ite_f c4 h
          refine lv_aload_n hx hb dX5_inksAt_22 rfl (lv_at hl 2 rfl) ?_
          refine lv_iload hx hb dX5_inksAt_23 (lv_at hl 0 rfl) ?_
          refine lv_iload_n hx hb dX5_inksAt_25 rfl (lv_at hl 3 rfl) ?_
          refine lv_iload_n hx hb dX5_inksAt_26 rfl (lv_at hl 4 rfl) ?_
          obtain ⟨r7_0, r7_1, r7_2, r7_3, g7, h⟩ := bnd4_e h
          refine rwV_same (rest := [.int v1_1]) (As := [.int v1_0, .int a0, .int a1]) S (ctX5_hasInk l G v_q0 v_q1 v_q2 v_q3 v_q4 v_q5 v_q6 v_q7 v_q8 v_q9 v_q10 v_q11 v_q12 v_q13 v_q14 v_q15 v_q16 v_thrown v_gain v_size v1_2 v1_3 v1_4 v_laidArea v_parts v_isMinus v_readSpot v_isStar v_wantsNumber v_waiting v_shiftX v_shiftY v_times v_dotsLaid v_joinedLaid v_hash v_isThereA v_vA v_spotOfA v_inMiddleA v_tintsA v_bufferA v_valuesA v_ranksA v_oldRanksA v_partA v_allRanksA v_basesA v_isMetA v_metXA v_metYA v_lineA v1_0 a0 a1 r7_0 r7_1 r7_2 r7_3 g7) (cwV 3 hts gX5_inksAt_X5_hasInk rfl rfl rfl hvX5_hasInk ⟨Nat.le_of_ble_eq_true rfl, Nat.le_of_ble_eq_true rfl⟩) hK hP hD hS xb_triv (fun _ _ _ => trivial) 0 5 rfl rfl rfl rfl hl.1 rfl (Nat.le_of_ble_eq_true rfl) dX5_inksAt_27 ⟨Nat.le_refl _, Nat.le_refl _⟩ (fun hz7 H locs hP hD hS => ?_)
          have hP : va_P G.1 vwCl (wdX5 G v_q0 v_q1 v_q2 v_q3 v_q4 v_q5 v_q6 v_q7 v_q8 v_q9 v_q10 v_q11 v_q12 v_q13 v_q14 v_q15 v_q16 v_thrown v_gain v_size r7_1 r7_2 r7_3 v_laidArea v_parts v_isMinus v_readSpot v_isStar v_wantsNumber v_waiting v_shiftX v_shiftY v_times v_dotsLaid v_joinedLaid v_hash v_isThereA v_vA v_spotOfA v_inMiddleA v_tintsA v_bufferA v_valuesA v_ranksA v_oldRanksA v_partA v_allRanksA v_basesA v_isMetA v_metXA v_metYA v_lineA) H := hP
          have hD : va_D A (wdX5 G v_q0 v_q1 v_q2 v_q3 v_q4 v_q5 v_q6 v_q7 v_q8 v_q9 v_q10 v_q11 v_q12 v_q13 v_q14 v_q15 v_q16 v_thrown v_gain v_size r7_1 r7_2 r7_3 v_laidArea v_parts v_isMinus v_readSpot v_isStar v_wantsNumber v_waiting v_shiftX v_shiftY v_times v_dotsLaid v_joinedLaid v_hash v_isThereA v_vA v_spotOfA v_inMiddleA v_tintsA v_bufferA v_valuesA v_ranksA v_oldRanksA v_partA v_allRanksA v_basesA v_isMetA v_metXA v_metYA v_lineA) := hD
          refine lv_if_eq (tgt := 40) hx hb dX5_inksAt_30 (by decide) (fun c8 => ?_) (fun c8 => ?_)
          · replace h := ite_t c8 h
            refine lv_iconst (v := 0) hx hb dX5_inksAt_40 (by decide) ?_
            refine lv_iadd hx hb dX5_inksAt_41 ?_
            refine lv_topi (fun x9 e9 => ?_)
            replace h := nmB_e e9 h
            refine lv_istore_n (lv' := [(3, .int x9), (4, .int v1_0), (0, .ref v_q0), (1, .int a0), (2, .int a1)]) hx hb dX5_inksAt_42 rfl hl (by decide) rfl (fun ls hl => ?_)
            obtain ⟨x10, e10⟩ : ∃ y : Int32, y = v1_0 + 1 := ⟨_, rfl⟩
            replace h := nmB_e e10 h
            refine lv_iinc (v := x10) (lv' := [(4, .int x10), (3, .int x9), (0, .ref v_q0), (1, .int a0), (2, .int a1)]) hx hb dX5_inksAt_43 hl (k := 1) rfl (by rw [e10]; rfl) (by decide) rfl (fun ls hl => ?_)
            refine lv_goto (tgt := 5) hx hb dX5_inksAt_46 (by decide) ?_
            exact ih x10 x9 r7_1 r7_2 r7_3 u1_0 u1_1 u1_2 u1_3 u1_4 H locs ls h hl hP hD hS kE
          · replace h := ite_f c8 h
            refine lv_iconst (v := 1) hx hb dX5_inksAt_33 (by decide) ?_
            refine lv_iload hx hb dX5_inksAt_34 (lv_at hl 0 rfl) ?_
            refine lv_ishl hx hb dX5_inksAt_36 ?_
            refine lv_goto (tgt := 41) hx hb dX5_inksAt_37 (by decide) ?_
            refine lv_iadd hx hb dX5_inksAt_41 ?_
            refine lv_topi (fun x11 e11 => ?_)
            replace h := nmB_e e11 h
            refine lv_istore_n (lv' := [(3, .int x11), (4, .int v1_0), (0, .ref v_q0), (1, .int a0), (2, .int a1)]) hx hb dX5_inksAt_42 rfl hl (by decide) rfl (fun ls hl => ?_)
            obtain ⟨x12, e12⟩ : ∃ y : Int32, y = v1_0 + 1 := ⟨_, rfl⟩
            replace h := nmB_e e12 h
            refine lv_iinc (v := x12) (lv' := [(4, .int x12), (3, .int x11), (0, .ref v_q0), (1, .int a0), (2, .int a1)]) hx hb dX5_inksAt_43 hl (k := 1) rfl (by rw [e12]; rfl) (by decide) rfl (fun ls hl => ?_)
            refine lv_goto (tgt := 5) hx hb dX5_inksAt_46 (by decide) ?_
            exact ih x12 x11 r7_1 r7_2 r7_3 u1_0 u1_1 u1_2 u1_3 u1_4 H locs ls h hl hP hD hS kE
  refine L1 FU 0 0 v_w v_s v_h u1_0 u1_1 u1_2 u1_3 u1_4 H locs ls g1 hl hP hD hS (fun H locs ls hl hP hD hS => ?_)
  refine lv_iload_n hx hb dX5_inksAt_49 rfl (lv_at hl 1 rfl) ?_
  obtain ⟨rfl, rfl, rfl, rfl⟩ := sm4 h
  exact hret _ _ _ _ _ rfl trivial rfl hP hD hS dX5_inksAt_50
theorem fw_X5_pixel_X5 : ∀ w ∈ wsX50, w ∈ wsX5_pixel := fun w h => List.mem_cons_of_mem _ (List.mem_append_right _ h)
theorem lk_X5_pixel_f59 : Cond.fieldLink RX5 59 "HalftoneScreensModel" "thrown" "I" ∈ wsX5_pixel := List.mem_of_getElem? (i := 1) rfl
theorem hsX5_inksAt : yX5_inksAt.cls ≠ "java/lang/invoke/MethodHandle" ∧ yX5_inksAt.cls ≠ "java/lang/invoke/VarHandle" ∧ (parseMethodDescriptor yX5_inksAt.desc).map (fun d => d.parameters.length) = some 2 := by decide +kernel
theorem hvX5_inksAt : yX5_inksAt.cls = RX5 ∧ yX5_inksAt.cls ≠ "java/lang/invoke/MethodHandle" ∧ yX5_inksAt.cls ≠ "java/lang/invoke/VarHandle" ∧ (parseMethodDescriptor yX5_inksAt.desc).map (fun d => d.parameters.length) = some 2 := ⟨rfl, hsX5_inksAt⟩
theorem hsX5_layAll : yX5_layAll.cls ≠ "java/lang/invoke/MethodHandle" ∧ yX5_layAll.cls ≠ "java/lang/invoke/VarHandle" ∧ (parseMethodDescriptor yX5_layAll.desc).map (fun d => d.parameters.length) = some 0 := by decide +kernel
theorem hvX5_layAll : yX5_layAll.cls = RX5 ∧ yX5_layAll.cls ≠ "java/lang/invoke/MethodHandle" ∧ yX5_layAll.cls ≠ "java/lang/invoke/VarHandle" ∧ (parseMethodDescriptor yX5_layAll.desc).map (fun d => d.parameters.length) = some 0 := ⟨rfl, hsX5_layAll⟩
abbrev rmX5_pixel : Room := { frames := 6, cells := 0, slots := 0, locals := 152 }
set_option maxHeartbeats 4000000 in
set_option maxRecDepth 100000 in
theorem ctX5_pixel (l : Launch) (G : GG) (v_q0 : Nat) (v_q1 : Nat) (v_q2 : Nat) (v_q3 : Nat) (v_q4 : Nat) (v_q5 : Nat) (v_q6 : Nat) (v_q7 : Nat) (v_q8 : Nat) (v_q9 : Nat) (v_q10 : Nat) (v_q11 : Nat) (v_q12 : Nat) (v_q13 : Nat) (v_q14 : Nat) (v_q15 : Nat) (v_q16 : Nat) (v_thrown : Int32) (v_gain : Int32) (v_size : Int32) (v_w : Int32) (v_s : Int32) (v_h : Int32) (v_laidArea : Int32) (v_parts : Int32) (v_isMinus : Int32) (v_readSpot : Int32) (v_isStar : Int32) (v_wantsNumber : Int32) (v_waiting : Int32) (v_shiftX : Int32) (v_shiftY : Int32) (v_times : Int32) (v_dotsLaid : Int32) (v_joinedLaid : Int32) (v_hash : Int64) (v_isThereA : (Nat → Int32)) (v_vA : (Nat → Int32)) (v_spotOfA : (Nat → Int32)) (v_inMiddleA : (Nat → Int32)) (v_tintsA : (Nat → Int32)) (v_bufferA : (Nat → Int32)) (v_valuesA : (Nat → Int32)) (v_ranksA : (Nat → Int32)) (v_oldRanksA : (Nat → Int32)) (v_partA : (Nat → Int32)) (v_allRanksA : (Nat → Int32)) (v_basesA : (Nat → Int32)) (v_isMetA : (Nat → Int32)) (v_metXA : (Nat → Int32)) (v_metYA : (Nat → Int32)) (v_lineA : (Nat → Int32)) (a0 : Int32) (a1 : Int32) (o0 : Int32) (o1 : Int32) (o2 : Int32) (o3 : Int32) (o4 : Int32) (o5 : Int32) (o6 : (Nat → Int32)) (o7 : (Nat → Int32)) (o8 : (Nat → Int32)) (o9 : (Nat → Int32)) (h : mX5_pixel v_w v_s v_h v_laidArea v_isThereA v_vA v_spotOfA v_inMiddleA v_tintsA v_valuesA v_ranksA v_allRanksA v_basesA a0 a1 = some (o0, o1, o2, o3, o4, o5, o6, o7, o8, o9))  : Met l yX5_pixel wsX5_pixel rmX5_pixel (va_Pc [.ref v_q0, .int a0, .int a1] (PreD G (wdX5 G v_q0 v_q1 v_q2 v_q3 v_q4 v_q5 v_q6 v_q7 v_q8 v_q9 v_q10 v_q11 v_q12 v_q13 v_q14 v_q15 v_q16 v_thrown v_gain v_size v_w v_s v_h v_laidArea v_parts v_isMinus v_readSpot v_isStar v_wantsNumber v_waiting v_shiftX v_shiftY v_times v_dotsLaid v_joinedLaid v_hash v_isThereA v_vA v_spotOfA v_inMiddleA v_tintsA v_bufferA v_valuesA v_ranksA v_oldRanksA v_partA v_allRanksA v_basesA v_isMetA v_metXA v_metYA v_lineA) (fun _ => True))) (QwA G (va_A0 (wdX5 G v_q0 v_q1 v_q2 v_q3 v_q4 v_q5 v_q6 v_q7 v_q8 v_q9 v_q10 v_q11 v_q12 v_q13 v_q14 v_q15 v_q16 v_thrown v_gain v_size v_w v_s v_h v_laidArea v_parts v_isMinus v_readSpot v_isStar v_wantsNumber v_waiting v_shiftX v_shiftY v_times v_dotsLaid v_joinedLaid v_hash v_isThereA v_vA v_spotOfA v_inMiddleA v_tintsA v_bufferA v_valuesA v_ranksA v_oldRanksA v_partA v_allRanksA v_basesA v_isMetA v_metXA v_metYA v_lineA)) (wdX5 G v_q0 v_q1 v_q2 v_q3 v_q4 v_q5 v_q6 v_q7 v_q8 v_q9 v_q10 v_q11 v_q12 v_q13 v_q14 v_q15 v_q16 o1 v_gain v_size o2 o3 o4 o5 v_parts v_isMinus v_readSpot v_isStar v_wantsNumber v_waiting v_shiftX v_shiftY v_times v_dotsLaid v_joinedLaid v_hash v_isThereA v_vA v_spotOfA v_inMiddleA v_tintsA v_bufferA o6 o7 v_oldRanksA v_partA o8 o9 v_isMetA v_metXA v_metYA v_lineA) (some (.int o0)) True) 0 0 (va_A0 (wdX5 G v_q0 v_q1 v_q2 v_q3 v_q4 v_q5 v_q6 v_q7 v_q8 v_q9 v_q10 v_q11 v_q12 v_q13 v_q14 v_q15 v_q16 v_thrown v_gain v_size v_w v_s v_h v_laidArea v_parts v_isMinus v_readSpot v_isStar v_wantsNumber v_waiting v_shiftX v_shiftY v_times v_dotsLaid v_joinedLaid v_hash v_isThereA v_vA v_spotOfA v_inMiddleA v_tintsA v_bufferA v_valuesA v_ranksA v_oldRanksA v_partA v_allRanksA v_basesA v_isMetA v_metXA v_metYA v_lineA)) := by
  refine of_wi (cc := cX5_pixel) (maxL := 3) (ty := .int) (plainFor_of_name (by decide)) rfl (Nat.le_of_ble_eq_true rfl) ?_
  intro p e s m args below meth c ls Q A S hl hP hD hS hK hX hA hret
  obtain ⟨H, hH⟩ : ∃ H, H = s.heap := ⟨_, rfl⟩
  obtain ⟨locs, hlocs⟩ : ∃ L : List Loc, L = [] := ⟨_, rfl⟩
  rw [← hlocs]
  rw [← hlocs] at hS
  have hP : va_P G.1 vwCl (wdX5 G v_q0 v_q1 v_q2 v_q3 v_q4 v_q5 v_q6 v_q7 v_q8 v_q9 v_q10 v_q11 v_q12 v_q13 v_q14 v_q15 v_q16 v_thrown v_gain v_size v_w v_s v_h v_laidArea v_parts v_isMinus v_readSpot v_isStar v_wantsNumber v_waiting v_shiftX v_shiftY v_times v_dotsLaid v_joinedLaid v_hash v_isThereA v_vA v_spotOfA v_inMiddleA v_tintsA v_bufferA v_valuesA v_ranksA v_oldRanksA v_partA v_allRanksA v_basesA v_isMetA v_metXA v_metYA v_lineA) H := by rw [hH]; exact hP
  have hS : va_S A s.heap H locs := by rw [hH]; exact hS
  suffices hgo : W p l e rmX5_pixel s m args below meth c H locs 0 0 Q (F0 m 0 ls []) by rw [hH] at hgo; exact hgo
  have S : CallFix p m c cX5_pixel 3 s args wsX5_pixel RX5 := S
  obtain ⟨hx, hb, hml, hown, hts⟩ := id S
  have hl : lv_has ls 3 [(0, .ref v_q0), (1, .int a0), (2, .int a1)] := hl
  unfold mX5_pixel at h
  refine lv_aload_n hx hb dX5_pixel_0 rfl (lv_at hl 0 rfl) ?_
  refine lv_iload_n hx hb dX5_pixel_1 rfl (lv_at hl 1 rfl) ?_
  refine lv_iload_n hx hb dX5_pixel_2 rfl (lv_at hl 2 rfl) ?_
  obtain ⟨r1_0, g1, h⟩ := bnd1_e h
  refine roSi1 (rest := [.ref v_q0]) (As := [.int a0, .int a1]) S (ctX5_isPixel l G a0 a1 r1_0 g1) (va_cwS 2 hts gX5_pixel_X5_isPixel rfl rfl rfl hsX5_isPixel ⟨Nat.le_of_ble_eq_true rfl, Nat.le_of_ble_eq_true rfl⟩) hK hP [] rfl rfl hl.1 rfl (Nat.le_of_ble_eq_true rfl) dX5_pixel_3 ⟨Nat.le_refl _, Nat.le_refl _⟩ (fun hz1 => ?_)
  obtain ⟨K2, hK2, h⟩ := jB1_e h
  have J2 : ∀ (j2_0 : Int32) (jz2_0 : isZ j2_0) (H : Heap) (locs : List Loc) (ls : Array Slot), K2 j2_0 = some (o0, o1, o2, o3, o4, o5, o6, o7, o8, o9) → lv_has ls 3 [(0, .ref v_q0), (1, .int a0), (2, .int a1)] → va_P G.1 vwCl (wdX5 G v_q0 v_q1 v_q2 v_q3 v_q4 v_q5 v_q6 v_q7 v_q8 v_q9 v_q10 v_q11 v_q12 v_q13 v_q14 v_q15 v_q16 v_thrown v_gain v_size v_w v_s v_h v_laidArea v_parts v_isMinus v_readSpot v_isStar v_wantsNumber v_waiting v_shiftX v_shiftY v_times v_dotsLaid v_joinedLaid v_hash v_isThereA v_vA v_spotOfA v_inMiddleA v_tintsA v_bufferA v_valuesA v_ranksA v_oldRanksA v_partA v_allRanksA v_basesA v_isMetA v_metXA v_metYA v_lineA) H → va_D A (wdX5 G v_q0 v_q1 v_q2 v_q3 v_q4 v_q5 v_q6 v_q7 v_q8 v_q9 v_q10 v_q11 v_q12 v_q13 v_q14 v_q15 v_q16 v_thrown v_gain v_size v_w v_s v_h v_laidArea v_parts v_isMinus v_readSpot v_isStar v_wantsNumber v_waiting v_shiftX v_shiftY v_times v_dotsLaid v_joinedLaid v_hash v_isThereA v_vA v_spotOfA v_inMiddleA v_tintsA v_bufferA v_valuesA v_ranksA v_oldRanksA v_partA v_allRanksA v_basesA v_isMetA v_metXA v_metYA v_lineA) → va_S A s.heap H locs → W p l e rmX5_pixel s m args below meth c H locs 0 0 Q (F0 m 14 ls [.int j2_0, .ref v_q0]) := by
    intro j2_0 jz2_0 H locs ls h hl hP hD hS
    replace h := (hK2 j2_0).symm.trans h
    refine va_put (D := G.1) (ci := 5) (v := .int j2_0) (ty := .int) (C := RX5) (T := TX5) (N := 35) hx hb hts fw_X5_pixel_X5 tyX5 tyX5_ok nmX5 hown hK.1 hP hD hS 0 rfl rfl 0 (by decide) (hts (.fieldLink RX5 59 "HalftoneScreensModel" "thrown" "I") lk_X5_pixel_f59) (fun _ h9 => h9) rfl (tyX5_ok 0 (by decide)) rfl rfl (Nat.le_of_ble_eq_true rfl) dX5_pixel_14 (fun H locs hP hD hS => ?_)
    have hP : va_P G.1 vwCl (wdX5 G v_q0 v_q1 v_q2 v_q3 v_q4 v_q5 v_q6 v_q7 v_q8 v_q9 v_q10 v_q11 v_q12 v_q13 v_q14 v_q15 v_q16 j2_0 v_gain v_size v_w v_s v_h v_laidArea v_parts v_isMinus v_readSpot v_isStar v_wantsNumber v_waiting v_shiftX v_shiftY v_times v_dotsLaid v_joinedLaid v_hash v_isThereA v_vA v_spotOfA v_inMiddleA v_tintsA v_bufferA v_valuesA v_ranksA v_oldRanksA v_partA v_allRanksA v_basesA v_isMetA v_metXA v_metYA v_lineA) H := hP
    have hD : va_D A (wdX5 G v_q0 v_q1 v_q2 v_q3 v_q4 v_q5 v_q6 v_q7 v_q8 v_q9 v_q10 v_q11 v_q12 v_q13 v_q14 v_q15 v_q16 j2_0 v_gain v_size v_w v_s v_h v_laidArea v_parts v_isMinus v_readSpot v_isStar v_wantsNumber v_waiting v_shiftX v_shiftY v_times v_dotsLaid v_joinedLaid v_hash v_isThereA v_vA v_spotOfA v_inMiddleA v_tintsA v_bufferA v_valuesA v_ranksA v_oldRanksA v_partA v_allRanksA v_basesA v_isMetA v_metXA v_metYA v_lineA) := hD
    refine lv_aload_n hx hb dX5_pixel_17 rfl (lv_at hl 0 rfl) ?_
    refine va_get (D := G.1) (ci := 5) (v := .int j2_0) (C := RX5) (T := TX5) (N := 35) hx hb hts fw_X5_pixel_X5 hown hK.1 hP 0 rfl rfl 0 (by decide) (hts (.fieldLink RX5 59 "HalftoneScreensModel" "thrown" "I") lk_X5_pixel_f59) (fun _ h9 => h9) rfl dX5_pixel_18 ?_
    refine lv_if_le (tgt := 26) hx hb dX5_pixel_21 (by decide) (fun c4 => ?_) (fun c4 => ?_)
    · replace h := ite_t c4 h
      refine lv_aload_n hx hb dX5_pixel_26 rfl (lv_at hl 0 rfl) ?_
      obtain ⟨r5_0, r5_1, r5_2, r5_3, r5_4, r5_5, r5_6, r5_7, g5, h⟩ := bnd8_e h
      refine rwV_same (rest := []) (As := []) S (ctX5_layAll l G v_q0 v_q1 v_q2 v_q3 v_q4 v_q5 v_q6 v_q7 v_q8 v_q9 v_q10 v_q11 v_q12 v_q13 v_q14 v_q15 v_q16 j2_0 v_gain v_size v_w v_s v_h v_laidArea v_parts v_isMinus v_readSpot v_isStar v_wantsNumber v_waiting v_shiftX v_shiftY v_times v_dotsLaid v_joinedLaid v_hash v_isThereA v_vA v_spotOfA v_inMiddleA v_tintsA v_bufferA v_valuesA v_ranksA v_oldRanksA v_partA v_allRanksA v_basesA v_isMetA v_metXA v_metYA v_lineA r5_0 r5_1 r5_2 r5_3 r5_4 r5_5 r5_6 r5_7 g5) (cwV 0 hts gX5_pixel_X5_layAll rfl rfl rfl hvX5_layAll ⟨Nat.le_of_ble_eq_true rfl, Nat.le_of_ble_eq_true rfl⟩) hK hP hD hS xb_triv (fun _ _ _ => trivial) 0 5 rfl rfl rfl rfl hl.1 rfl (Nat.le_of_ble_eq_true rfl) dX5_pixel_27 ⟨Nat.le_refl _, Nat.le_refl _⟩ (fun _ H locs hP hD hS => ?_)
      have hP : va_P G.1 vwCl (wdX5 G v_q0 v_q1 v_q2 v_q3 v_q4 v_q5 v_q6 v_q7 v_q8 v_q9 v_q10 v_q11 v_q12 v_q13 v_q14 v_q15 v_q16 j2_0 v_gain v_size r5_0 r5_1 r5_2 r5_3 v_parts v_isMinus v_readSpot v_isStar v_wantsNumber v_waiting v_shiftX v_shiftY v_times v_dotsLaid v_joinedLaid v_hash v_isThereA v_vA v_spotOfA v_inMiddleA v_tintsA v_bufferA r5_4 r5_5 v_oldRanksA v_partA r5_6 r5_7 v_isMetA v_metXA v_metYA v_lineA) H := hP
      have hD : va_D A (wdX5 G v_q0 v_q1 v_q2 v_q3 v_q4 v_q5 v_q6 v_q7 v_q8 v_q9 v_q10 v_q11 v_q12 v_q13 v_q14 v_q15 v_q16 j2_0 v_gain v_size r5_0 r5_1 r5_2 r5_3 v_parts v_isMinus v_readSpot v_isStar v_wantsNumber v_waiting v_shiftX v_shiftY v_times v_dotsLaid v_joinedLaid v_hash v_isThereA v_vA v_spotOfA v_inMiddleA v_tintsA v_bufferA r5_4 r5_5 v_oldRanksA v_partA r5_6 r5_7 v_isMetA v_metXA v_metYA v_lineA) := hD
      refine lv_aload_n hx hb dX5_pixel_30 rfl (lv_at hl 0 rfl) ?_
      refine lv_iload_n hx hb dX5_pixel_31 rfl (lv_at hl 1 rfl) ?_
      refine lv_iload_n hx hb dX5_pixel_32 rfl (lv_at hl 2 rfl) ?_
      obtain ⟨r6_0, r6_1, r6_2, r6_3, g6, h⟩ := bnd4_e h
      refine rwV_same (rest := []) (As := [.int a0, .int a1]) S (ctX5_inksAt l G v_q0 v_q1 v_q2 v_q3 v_q4 v_q5 v_q6 v_q7 v_q8 v_q9 v_q10 v_q11 v_q12 v_q13 v_q14 v_q15 v_q16 j2_0 v_gain v_size r5_0 r5_1 r5_2 r5_3 v_parts v_isMinus v_readSpot v_isStar v_wantsNumber v_waiting v_shiftX v_shiftY v_times v_dotsLaid v_joinedLaid v_hash v_isThereA v_vA v_spotOfA v_inMiddleA v_tintsA v_bufferA r5_4 r5_5 v_oldRanksA v_partA r5_6 r5_7 v_isMetA v_metXA v_metYA v_lineA a0 a1 r6_0 r6_1 r6_2 r6_3 g6) (cwV 2 hts gX5_pixel_X5_inksAt rfl rfl rfl hvX5_inksAt ⟨Nat.le_of_ble_eq_true rfl, Nat.le_of_ble_eq_true rfl⟩) hK hP hD hS xb_triv (fun _ _ _ => trivial) 0 5 rfl rfl rfl rfl hl.1 rfl (Nat.le_of_ble_eq_true rfl) dX5_pixel_33 ⟨Nat.le_refl _, Nat.le_refl _⟩ (fun _ H locs hP hD hS => ?_)
      have hP : va_P G.1 vwCl (wdX5 G v_q0 v_q1 v_q2 v_q3 v_q4 v_q5 v_q6 v_q7 v_q8 v_q9 v_q10 v_q11 v_q12 v_q13 v_q14 v_q15 v_q16 j2_0 v_gain v_size r6_1 r6_2 r6_3 r5_3 v_parts v_isMinus v_readSpot v_isStar v_wantsNumber v_waiting v_shiftX v_shiftY v_times v_dotsLaid v_joinedLaid v_hash v_isThereA v_vA v_spotOfA v_inMiddleA v_tintsA v_bufferA r5_4 r5_5 v_oldRanksA v_partA r5_6 r5_7 v_isMetA v_metXA v_metYA v_lineA) H := hP
      have hD : va_D A (wdX5 G v_q0 v_q1 v_q2 v_q3 v_q4 v_q5 v_q6 v_q7 v_q8 v_q9 v_q10 v_q11 v_q12 v_q13 v_q14 v_q15 v_q16 j2_0 v_gain v_size r6_1 r6_2 r6_3 r5_3 v_parts v_isMinus v_readSpot v_isStar v_wantsNumber v_waiting v_shiftX v_shiftY v_times v_dotsLaid v_joinedLaid v_hash v_isThereA v_vA v_spotOfA v_inMiddleA v_tintsA v_bufferA r5_4 r5_5 v_oldRanksA v_partA r5_6 r5_7 v_isMetA v_metXA v_metYA v_lineA) := hD
      obtain ⟨rfl, rfl, rfl, rfl, rfl, rfl, rfl, rfl, rfl, rfl⟩ := sm10 h
      exact hret _ _ _ _ _ rfl trivial rfl hP hD hS dX5_pixel_36
    · replace h := ite_f c4 h
      refine lv_iconst (v := 0) hx hb dX5_pixel_24 (by decide) ?_
      obtain ⟨rfl, rfl, rfl, rfl, rfl, rfl, rfl, rfl, rfl, rfl⟩ := sm10 h
      exact hret _ _ _ _ _ rfl trivial rfl hP hD hS dX5_pixel_25
  refine lv_if_eq (tgt := 13) hx hb dX5_pixel_6 (by decide) (fun c3 => ?_) (fun c3 => ?_)
  · replace h := ite_t c3 h
    refine lv_iconst (v := 1) hx hb dX5_pixel_13 (by decide) ?_
    exact J2 1 isZ1 H locs ls h hl hP hD hS
  · replace h := ite_f c3 h
    refine lv_iconst (v := 0) hx hb dX5_pixel_9 (by decide) ?_
    refine lv_goto (tgt := 14) hx hb dX5_pixel_10 (by decide) ?_
    exact J2 0 isZ0 H locs ls h hl hP hD hS
theorem fw_X5_inked_X5 : ∀ w ∈ wsX50, w ∈ wsX5_inked := fun w h => List.mem_cons_of_mem _ (List.mem_append_right _ h)
theorem lk_X5_inked_f59 : Cond.fieldLink RX5 59 "HalftoneScreensModel" "thrown" "I" ∈ wsX5_inked := List.mem_of_getElem? (i := 1) rfl
abbrev rmX5_inked : Room := { frames := 6, cells := 0, slots := 0, locals := 152 }
set_option maxHeartbeats 4000000 in
set_option maxRecDepth 100000 in
theorem ctX5_inked (l : Launch) (G : GG) (v_q0 : Nat) (v_q1 : Nat) (v_q2 : Nat) (v_q3 : Nat) (v_q4 : Nat) (v_q5 : Nat) (v_q6 : Nat) (v_q7 : Nat) (v_q8 : Nat) (v_q9 : Nat) (v_q10 : Nat) (v_q11 : Nat) (v_q12 : Nat) (v_q13 : Nat) (v_q14 : Nat) (v_q15 : Nat) (v_q16 : Nat) (v_thrown : Int32) (v_gain : Int32) (v_size : Int32) (v_w : Int32) (v_s : Int32) (v_h : Int32) (v_laidArea : Int32) (v_parts : Int32) (v_isMinus : Int32) (v_readSpot : Int32) (v_isStar : Int32) (v_wantsNumber : Int32) (v_waiting : Int32) (v_shiftX : Int32) (v_shiftY : Int32) (v_times : Int32) (v_dotsLaid : Int32) (v_joinedLaid : Int32) (v_hash : Int64) (v_isThereA : (Nat → Int32)) (v_vA : (Nat → Int32)) (v_spotOfA : (Nat → Int32)) (v_inMiddleA : (Nat → Int32)) (v_tintsA : (Nat → Int32)) (v_bufferA : (Nat → Int32)) (v_valuesA : (Nat → Int32)) (v_ranksA : (Nat → Int32)) (v_oldRanksA : (Nat → Int32)) (v_partA : (Nat → Int32)) (v_allRanksA : (Nat → Int32)) (v_basesA : (Nat → Int32)) (v_isMetA : (Nat → Int32)) (v_metXA : (Nat → Int32)) (v_metYA : (Nat → Int32)) (v_lineA : (Nat → Int32)) (a0 : Int32) (a1 : Int32) (a2 : Int32) (a3 : Int32) (a4 : Int32) (o0 : Int32) (o1 : Int32) (o2 : Int32) (o3 : Int32) (o4 : Int32) (o5 : Int32) (o6 : (Nat → Int32)) (o7 : (Nat → Int32)) (o8 : (Nat → Int32)) (o9 : (Nat → Int32)) (h : mX5_inked v_w v_s v_h v_laidArea v_isThereA v_vA v_spotOfA v_inMiddleA v_tintsA v_valuesA v_ranksA v_allRanksA v_basesA a0 a1 a2 a3 a4 = some (o0, o1, o2, o3, o4, o5, o6, o7, o8, o9))  : Met l yX5_inked wsX5_inked rmX5_inked (va_Pc [.ref v_q0, .int a0, .int a1, .int a2, .int a3, .int a4] (PreD G (wdX5 G v_q0 v_q1 v_q2 v_q3 v_q4 v_q5 v_q6 v_q7 v_q8 v_q9 v_q10 v_q11 v_q12 v_q13 v_q14 v_q15 v_q16 v_thrown v_gain v_size v_w v_s v_h v_laidArea v_parts v_isMinus v_readSpot v_isStar v_wantsNumber v_waiting v_shiftX v_shiftY v_times v_dotsLaid v_joinedLaid v_hash v_isThereA v_vA v_spotOfA v_inMiddleA v_tintsA v_bufferA v_valuesA v_ranksA v_oldRanksA v_partA v_allRanksA v_basesA v_isMetA v_metXA v_metYA v_lineA) (fun _ => True))) (QwA G (va_A0 (wdX5 G v_q0 v_q1 v_q2 v_q3 v_q4 v_q5 v_q6 v_q7 v_q8 v_q9 v_q10 v_q11 v_q12 v_q13 v_q14 v_q15 v_q16 v_thrown v_gain v_size v_w v_s v_h v_laidArea v_parts v_isMinus v_readSpot v_isStar v_wantsNumber v_waiting v_shiftX v_shiftY v_times v_dotsLaid v_joinedLaid v_hash v_isThereA v_vA v_spotOfA v_inMiddleA v_tintsA v_bufferA v_valuesA v_ranksA v_oldRanksA v_partA v_allRanksA v_basesA v_isMetA v_metXA v_metYA v_lineA)) (wdX5 G v_q0 v_q1 v_q2 v_q3 v_q4 v_q5 v_q6 v_q7 v_q8 v_q9 v_q10 v_q11 v_q12 v_q13 v_q14 v_q15 v_q16 o1 v_gain v_size o2 o3 o4 o5 v_parts v_isMinus v_readSpot v_isStar v_wantsNumber v_waiting v_shiftX v_shiftY v_times v_dotsLaid v_joinedLaid v_hash v_isThereA v_vA v_spotOfA v_inMiddleA v_tintsA v_bufferA o6 o7 v_oldRanksA v_partA o8 o9 v_isMetA v_metXA v_metYA v_lineA) (some (.int o0)) True) 0 0 (va_A0 (wdX5 G v_q0 v_q1 v_q2 v_q3 v_q4 v_q5 v_q6 v_q7 v_q8 v_q9 v_q10 v_q11 v_q12 v_q13 v_q14 v_q15 v_q16 v_thrown v_gain v_size v_w v_s v_h v_laidArea v_parts v_isMinus v_readSpot v_isStar v_wantsNumber v_waiting v_shiftX v_shiftY v_times v_dotsLaid v_joinedLaid v_hash v_isThereA v_vA v_spotOfA v_inMiddleA v_tintsA v_bufferA v_valuesA v_ranksA v_oldRanksA v_partA v_allRanksA v_basesA v_isMetA v_metXA v_metYA v_lineA)) := by
  refine of_wi (cc := cX5_inked) (maxL := 8) (ty := .int) (plainFor_of_name (by decide)) rfl (Nat.le_of_ble_eq_true rfl) ?_
  intro p e s m args below meth c ls Q A S hl hP hD hS hK hX hA hret
  obtain ⟨H, hH⟩ : ∃ H, H = s.heap := ⟨_, rfl⟩
  obtain ⟨locs, hlocs⟩ : ∃ L : List Loc, L = [] := ⟨_, rfl⟩
  rw [← hlocs]
  rw [← hlocs] at hS
  have hP : va_P G.1 vwCl (wdX5 G v_q0 v_q1 v_q2 v_q3 v_q4 v_q5 v_q6 v_q7 v_q8 v_q9 v_q10 v_q11 v_q12 v_q13 v_q14 v_q15 v_q16 v_thrown v_gain v_size v_w v_s v_h v_laidArea v_parts v_isMinus v_readSpot v_isStar v_wantsNumber v_waiting v_shiftX v_shiftY v_times v_dotsLaid v_joinedLaid v_hash v_isThereA v_vA v_spotOfA v_inMiddleA v_tintsA v_bufferA v_valuesA v_ranksA v_oldRanksA v_partA v_allRanksA v_basesA v_isMetA v_metXA v_metYA v_lineA) H := by rw [hH]; exact hP
  have hS : va_S A s.heap H locs := by rw [hH]; exact hS
  suffices hgo : W p l e rmX5_inked s m args below meth c H locs 0 0 Q (F0 m 0 ls []) by rw [hH] at hgo; exact hgo
  have S : CallFix p m c cX5_inked 8 s args wsX5_inked RX5 := S
  obtain ⟨hx, hb, hml, hown, hts⟩ := id S
  have hl : lv_has ls 8 [(0, .ref v_q0), (1, .int a0), (2, .int a1), (3, .int a2), (4, .int a3), (5, .int a4)] := hl
  unfold mX5_inked at h
  refine lv_aload_n hx hb dX5_inked_0 rfl (lv_at hl 0 rfl) ?_
  refine lv_aload_n hx hb dX5_inked_1 rfl (lv_at hl 0 rfl) ?_
  refine lv_iload_n hx hb dX5_inked_2 rfl (lv_at hl 1 rfl) ?_
  refine lv_iload_n hx hb dX5_inked_3 rfl (lv_at hl 2 rfl) ?_
  refine lv_iload_n hx hb dX5_inked_4 rfl (lv_at hl 3 rfl) ?_
  obtain ⟨r1_0, g1, h⟩ := bnd1_e h
  refine roSi1 (rest := [.int a0, .ref v_q0, .ref v_q0]) (As := [.int a1, .int a2]) S (ctX5_isPixel l G a1 a2 r1_0 g1) (va_cwS 2 hts gX5_inked_X5_isPixel rfl rfl rfl hsX5_isPixel ⟨Nat.le_of_ble_eq_true rfl, Nat.le_of_ble_eq_true rfl⟩) hK hP [] rfl rfl hl.1 rfl (Nat.le_of_ble_eq_true rfl) dX5_inked_5 ⟨Nat.le_refl _, Nat.le_refl _⟩ (fun hz1 => ?_)
  obtain ⟨K2, hK2, h⟩ := jB1_e h
  have J2 : ∀ (j2_0 : Int32) (jz2_0 : isZ j2_0) (H : Heap) (locs : List Loc) (ls : Array Slot), K2 j2_0 = some (o0, o1, o2, o3, o4, o5, o6, o7, o8, o9) → lv_has ls 8 [(0, .ref v_q0), (1, .int a0), (2, .int a1), (3, .int a2), (4, .int a3), (5, .int a4)] → va_P G.1 vwCl (wdX5 G v_q0 v_q1 v_q2 v_q3 v_q4 v_q5 v_q6 v_q7 v_q8 v_q9 v_q10 v_q11 v_q12 v_q13 v_q14 v_q15 v_q16 v_thrown v_gain v_size v_w v_s v_h v_laidArea v_parts v_isMinus v_readSpot v_isStar v_wantsNumber v_waiting v_shiftX v_shiftY v_times v_dotsLaid v_joinedLaid v_hash v_isThereA v_vA v_spotOfA v_inMiddleA v_tintsA v_bufferA v_valuesA v_ranksA v_oldRanksA v_partA v_allRanksA v_basesA v_isMetA v_metXA v_metYA v_lineA) H → va_D A (wdX5 G v_q0 v_q1 v_q2 v_q3 v_q4 v_q5 v_q6 v_q7 v_q8 v_q9 v_q10 v_q11 v_q12 v_q13 v_q14 v_q15 v_q16 v_thrown v_gain v_size v_w v_s v_h v_laidArea v_parts v_isMinus v_readSpot v_isStar v_wantsNumber v_waiting v_shiftX v_shiftY v_times v_dotsLaid v_joinedLaid v_hash v_isThereA v_vA v_spotOfA v_inMiddleA v_tintsA v_bufferA v_valuesA v_ranksA v_oldRanksA v_partA v_allRanksA v_basesA v_isMetA v_metXA v_metYA v_lineA) → va_S A s.heap H locs → W p l e rmX5_inked s m args below meth c H locs 0 0 Q (F0 m 38 ls [.int j2_0, .int a0, .ref v_q0, .ref v_q0]) := by
    intro j2_0 jz2_0 H locs ls h hl hP hD hS
    replace h := (hK2 j2_0).symm.trans h
    obtain ⟨r8_0, g8, h⟩ := bnd1_e h
    refine roVi1 (rest := [.ref v_q0]) (As := [.int a0, .int j2_0]) S (ctX5_wrong l G v_q0 v_q1 v_q2 v_q3 v_q4 v_q5 v_q6 v_q7 v_q8 v_q9 v_q10 v_q11 v_q12 v_q13 v_q14 v_q15 v_q16 v_thrown v_gain v_size v_w v_s v_h v_laidArea v_parts v_isMinus v_readSpot v_isStar v_wantsNumber v_waiting v_shiftX v_shiftY v_times v_dotsLaid v_joinedLaid v_hash v_isThereA v_vA v_spotOfA v_inMiddleA v_tintsA v_bufferA v_valuesA v_ranksA v_oldRanksA v_partA v_allRanksA v_basesA v_isMetA v_metXA v_metYA v_lineA a0 j2_0 r8_0 g8) (cwV 2 hts gX5_inked_X5_wrong rfl rfl rfl hvX5_wrong ⟨Nat.le_of_ble_eq_true rfl, Nat.le_of_ble_eq_true rfl⟩) hK hP [0, 1, 2, 3, 4, 5, 6, 7, 8, 9, 10, 11, 12, 13, 14, 15, 16] rfl 0 5 rfl rfl rfl rfl hl.1 rfl (Nat.le_of_ble_eq_true rfl) dX5_inked_38 ⟨Nat.le_refl _, Nat.le_refl _⟩ (fun _ => ?_)
    refine va_put (D := G.1) (ci := 5) (v := .int r8_0) (ty := .int) (C := RX5) (T := TX5) (N := 35) hx hb hts fw_X5_inked_X5 tyX5 tyX5_ok nmX5 hown hK.1 hP hD hS 0 rfl rfl 0 (by decide) (hts (.fieldLink RX5 59 "HalftoneScreensModel" "thrown" "I") lk_X5_inked_f59) (fun _ h9 => h9) rfl (tyX5_ok 0 (by decide)) rfl rfl (Nat.le_of_ble_eq_true rfl) dX5_inked_41 (fun H locs hP hD hS => ?_)
    have hP : va_P G.1 vwCl (wdX5 G v_q0 v_q1 v_q2 v_q3 v_q4 v_q5 v_q6 v_q7 v_q8 v_q9 v_q10 v_q11 v_q12 v_q13 v_q14 v_q15 v_q16 r8_0 v_gain v_size v_w v_s v_h v_laidArea v_parts v_isMinus v_readSpot v_isStar v_wantsNumber v_waiting v_shiftX v_shiftY v_times v_dotsLaid v_joinedLaid v_hash v_isThereA v_vA v_spotOfA v_inMiddleA v_tintsA v_bufferA v_valuesA v_ranksA v_oldRanksA v_partA v_allRanksA v_basesA v_isMetA v_metXA v_metYA v_lineA) H := hP
    have hD : va_D A (wdX5 G v_q0 v_q1 v_q2 v_q3 v_q4 v_q5 v_q6 v_q7 v_q8 v_q9 v_q10 v_q11 v_q12 v_q13 v_q14 v_q15 v_q16 r8_0 v_gain v_size v_w v_s v_h v_laidArea v_parts v_isMinus v_readSpot v_isStar v_wantsNumber v_waiting v_shiftX v_shiftY v_times v_dotsLaid v_joinedLaid v_hash v_isThereA v_vA v_spotOfA v_inMiddleA v_tintsA v_bufferA v_valuesA v_ranksA v_oldRanksA v_partA v_allRanksA v_basesA v_isMetA v_metXA v_metYA v_lineA) := hD
    refine lv_aload_n hx hb dX5_inked_44 rfl (lv_at hl 0 rfl) ?_
    refine va_get (D := G.1) (ci := 5) (v := .int r8_0) (C := RX5) (T := TX5) (N := 35) hx hb hts fw_X5_inked_X5 hown hK.1 hP 0 rfl rfl 0 (by decide) (hts (.fieldLink RX5 59 "HalftoneScreensModel" "thrown" "I") lk_X5_inked_f59) (fun _ h9 => h9) rfl dX5_inked_45 ?_
    refine lv_if_le (tgt := 53) hx hb dX5_inked_48 (by decide) (fun c9 => ?_) (fun c9 => ?_)
    · replace h := ite_t c9 h
      refine lv_aload_n hx hb dX5_inked_53 rfl (lv_at hl 0 rfl) ?_
      obtain ⟨r10_0, r10_1, r10_2, r10_3, r10_4, r10_5, r10_6, r10_7, g10, h⟩ := bnd8_e h
      refine rwV_same (rest := []) (As := []) S (ctX5_layAll l G v_q0 v_q1 v_q2 v_q3 v_q4 v_q5 v_q6 v_q7 v_q8 v_q9 v_q10 v_q11 v_q12 v_q13 v_q14 v_q15 v_q16 r8_0 v_gain v_size v_w v_s v_h v_laidArea v_parts v_isMinus v_readSpot v_isStar v_wantsNumber v_waiting v_shiftX v_shiftY v_times v_dotsLaid v_joinedLaid v_hash v_isThereA v_vA v_spotOfA v_inMiddleA v_tintsA v_bufferA v_valuesA v_ranksA v_oldRanksA v_partA v_allRanksA v_basesA v_isMetA v_metXA v_metYA v_lineA r10_0 r10_1 r10_2 r10_3 r10_4 r10_5 r10_6 r10_7 g10) (cwV 0 hts gX5_inked_X5_layAll rfl rfl rfl hvX5_layAll ⟨Nat.le_of_ble_eq_true rfl, Nat.le_of_ble_eq_true rfl⟩) hK hP hD hS xb_triv (fun _ _ _ => trivial) 0 5 rfl rfl rfl rfl hl.1 rfl (Nat.le_of_ble_eq_true rfl) dX5_inked_54 ⟨Nat.le_refl _, Nat.le_refl _⟩ (fun _ H locs hP hD hS => ?_)
      have hP : va_P G.1 vwCl (wdX5 G v_q0 v_q1 v_q2 v_q3 v_q4 v_q5 v_q6 v_q7 v_q8 v_q9 v_q10 v_q11 v_q12 v_q13 v_q14 v_q15 v_q16 r8_0 v_gain v_size r10_0 r10_1 r10_2 r10_3 v_parts v_isMinus v_readSpot v_isStar v_wantsNumber v_waiting v_shiftX v_shiftY v_times v_dotsLaid v_joinedLaid v_hash v_isThereA v_vA v_spotOfA v_inMiddleA v_tintsA v_bufferA r10_4 r10_5 v_oldRanksA v_partA r10_6 r10_7 v_isMetA v_metXA v_metYA v_lineA) H := hP
      have hD : va_D A (wdX5 G v_q0 v_q1 v_q2 v_q3 v_q4 v_q5 v_q6 v_q7 v_q8 v_q9 v_q10 v_q11 v_q12 v_q13 v_q14 v_q15 v_q16 r8_0 v_gain v_size r10_0 r10_1 r10_2 r10_3 v_parts v_isMinus v_readSpot v_isStar v_wantsNumber v_waiting v_shiftX v_shiftY v_times v_dotsLaid v_joinedLaid v_hash v_isThereA v_vA v_spotOfA v_inMiddleA v_tintsA v_bufferA r10_4 r10_5 v_oldRanksA v_partA r10_6 r10_7 v_isMetA v_metXA v_metYA v_lineA) := hD
      refine lv_iconst (v := 0) hx hb dX5_inked_57 (by decide) ?_
      refine lv_istore (lv' := [(6, .int 0), (0, .ref v_q0), (1, .int a0), (2, .int a1), (3, .int a2), (4, .int a3), (5, .int a4)]) hx hb dX5_inked_58 hl (by decide) rfl (fun ls hl => ?_)
      refine lv_iconst (v := 0) hx hb dX5_inked_60 (by decide) ?_
      refine lv_istore (lv' := [(7, .int 0), (6, .int 0), (0, .ref v_q0), (1, .int a0), (2, .int a1), (3, .int a2), (4, .int a3), (5, .int a4)]) hx hb dX5_inked_61 hl (by decide) rfl (fun ls hl => ?_)
      obtain ⟨u11_0, u11_1, u11_2, u11_3, u11_4, g11, h⟩ := bnd5_e h
      have L11 : ∀ (fu : Nat) (v11_0 : Int32) (v11_1 : Int32) (v11_2 : Int32) (v11_3 : Int32) (v11_4 : Int32) (u11_0 : Int32) (u11_1 : Int32) (u11_2 : Int32) (u11_3 : Int32) (u11_4 : Int32) (H : Heap) (locs : List Loc) (ls : Array Slot), mX5_inked_L63 v_tintsA a0 a1 a2 a3 a4 r10_6 r10_7 fu v11_0 v11_1 v11_2 v11_3 v11_4 = some (u11_0, u11_1, u11_2, u11_3, u11_4) → lv_has ls 8 [(7, .int v11_0), (6, .int v11_1), (0, .ref v_q0), (1, .int a0), (2, .int a1), (3, .int a2), (4, .int a3), (5, .int a4)] → va_P G.1 vwCl (wdX5 G v_q0 v_q1 v_q2 v_q3 v_q4 v_q5 v_q6 v_q7 v_q8 v_q9 v_q10 v_q11 v_q12 v_q13 v_q14 v_q15 v_q16 r8_0 v_gain v_size v11_2 v11_3 v11_4 r10_3 v_parts v_isMinus v_readSpot v_isStar v_wantsNumber v_waiting v_shiftX v_shiftY v_times v_dotsLaid v_joinedLaid v_hash v_isThereA v_vA v_spotOfA v_inMiddleA v_tintsA v_bufferA r10_4 r10_5 v_oldRanksA v_partA r10_6 r10_7 v_isMetA v_metXA v_metYA v_lineA) H → va_D A (wdX5 G v_q0 v_q1 v_q2 v_q3 v_q4 v_q5 v_q6 v_q7 v_q8 v_q9 v_q10 v_q11 v_q12 v_q13 v_q14 v_q15 v_q16 r8_0 v_gain v_size v11_2 v11_3 v11_4 r10_3 v_parts v_isMinus v_readSpot v_isStar v_wantsNumber v_waiting v_shiftX v_shiftY v_times v_dotsLaid v_joinedLaid v_hash v_isThereA v_vA v_spotOfA v_inMiddleA v_tintsA v_bufferA r10_4 r10_5 v_oldRanksA v_partA r10_6 r10_7 v_isMetA v_metXA v_metYA v_lineA) → va_S A s.heap H locs → (∀ (H : Heap) (locs : List Loc) (ls : Array Slot), lv_has ls 8 [(7, .int u11_0), (6, .int u11_1), (0, .ref v_q0), (1, .int a0), (2, .int a1), (3, .int a2), (4, .int a3), (5, .int a4)] → va_P G.1 vwCl (wdX5 G v_q0 v_q1 v_q2 v_q3 v_q4 v_q5 v_q6 v_q7 v_q8 v_q9 v_q10 v_q11 v_q12 v_q13 v_q14 v_q15 v_q16 r8_0 v_gain v_size u11_2 u11_3 u11_4 r10_3 v_parts v_isMinus v_readSpot v_isStar v_wantsNumber v_waiting v_shiftX v_shiftY v_times v_dotsLaid v_joinedLaid v_hash v_isThereA v_vA v_spotOfA v_inMiddleA v_tintsA v_bufferA r10_4 r10_5 v_oldRanksA v_partA r10_6 r10_7 v_isMetA v_metXA v_metYA v_lineA) H → va_D A (wdX5 G v_q0 v_q1 v_q2 v_q3 v_q4 v_q5 v_q6 v_q7 v_q8 v_q9 v_q10 v_q11 v_q12 v_q13 v_q14 v_q15 v_q16 r8_0 v_gain v_size u11_2 u11_3 u11_4 r10_3 v_parts v_isMinus v_readSpot v_isStar v_wantsNumber v_waiting v_shiftX v_shiftY v_times v_dotsLaid v_joinedLaid v_hash v_isThereA v_vA v_spotOfA v_inMiddleA v_tintsA v_bufferA r10_4 r10_5 v_oldRanksA v_partA r10_6 r10_7 v_isMetA v_metXA v_metYA v_lineA) → va_S A s.heap H locs → W p l e rmX5_inked s m args below meth c H locs 0 0 Q (F0 m 111 ls [])) → W p l e rmX5_inked s m args below meth c H locs 0 0 Q (F0 m 63 ls []) := by
        intro fu
        induction fu with
        | zero => intro v11_0 v11_1 v11_2 v11_3 v11_4 u11_0 u11_1 u11_2 u11_3 u11_4 H locs ls h; exact nomatch h
        | succ fu ih =>
          intro v11_0 v11_1 v11_2 v11_3 v11_4 u11_0 u11_1 u11_2 u11_3 u11_4 H locs ls h hl hP hD hS kE
          rw [mX5_inked_L63] at h
          refine lv_iload hx hb dX5_inked_63 (lv_at hl 0 rfl) ?_
          refine lv_iload hx hb dX5_inked_65 (lv_at hl 6 rfl) ?_
          refine lv_iload hx hb dX5_inked_67 (lv_at hl 7 rfl) ?_
          refine lv_imul hx hb dX5_inked_69 ?_
          refine lv_icmp_ge (tgt := 111) hx hb dX5_inked_70 (by decide) (fun c12 => ?_) (fun c12 => ?_)
          · replace h := ite_t c12 h
            obtain ⟨rfl, rfl, rfl, rfl, rfl⟩ := sm5 h
            exact kE H locs ls hl hP hD hS
          · replace h := ite_f c12 h
            refine lv_iload hx hb dX5_inked_73 (lv_at hl 1 rfl) ?_
            refine lv_aload_n hx hb dX5_inked_75 rfl (lv_at hl 2 rfl) ?_
            refine lv_iload_n hx hb dX5_inked_76 rfl (lv_at hl 3 rfl) ?_
            refine lv_iload_n hx hb dX5_inked_77 rfl (lv_at hl 4 rfl) ?_
            refine lv_iload hx hb dX5_inked_78 (lv_at hl 0 rfl) ?_
            refine lv_iload hx hb dX5_inked_80 (lv_at hl 6 rfl) ?_
            obtain ⟨z13, h⟩ := gz_e h
            refine lv_irem hx hb dX5_inked_82 z13 ?_
            refine lv_iadd hx hb dX5_inked_83 ?_
            refine lv_iload_n hx hb dX5_inked_84 rfl (lv_at hl 5 rfl) ?_
            refine lv_iload hx hb dX5_inked_85 (lv_at hl 0 rfl) ?_
            refine lv_iload hx hb dX5_inked_87 (lv_at hl 6 rfl) ?_
            obtain ⟨z14, h⟩ := gz_e h
            refine lv_idiv hx hb dX5_inked_89 z14 ?_
            refine lv_iadd hx hb dX5_inked_90 ?_
            obtain ⟨r15_0, r15_1, r15_2, r15_3, g15, h⟩ := bnd4_e h
            refine rwV_same (rest := [.int v11_1]) (As := [.int a0, .int (a1 + (v11_0 - v11_0 / a3 * a3)), .int (a2 + (v11_0 / a3))]) S (ctX5_hasInk l G v_q0 v_q1 v_q2 v_q3 v_q4 v_q5 v_q6 v_q7 v_q8 v_q9 v_q10 v_q11 v_q12 v_q13 v_q14 v_q15 v_q16 r8_0 v_gain v_size v11_2 v11_3 v11_4 r10_3 v_parts v_isMinus v_readSpot v_isStar v_wantsNumber v_waiting v_shiftX v_shiftY v_times v_dotsLaid v_joinedLaid v_hash v_isThereA v_vA v_spotOfA v_inMiddleA v_tintsA v_bufferA r10_4 r10_5 v_oldRanksA v_partA r10_6 r10_7 v_isMetA v_metXA v_metYA v_lineA a0 (a1 + (v11_0 - v11_0 / a3 * a3)) (a2 + (v11_0 / a3)) r15_0 r15_1 r15_2 r15_3 g15) (cwV 3 hts gX5_inked_X5_hasInk rfl rfl rfl hvX5_hasInk ⟨Nat.le_of_ble_eq_true rfl, Nat.le_of_ble_eq_true rfl⟩) hK hP hD hS xb_triv (fun _ _ _ => trivial) 0 5 rfl rfl rfl rfl hl.1 rfl (Nat.le_of_ble_eq_true rfl) dX5_inked_91 ⟨Nat.le_refl _, Nat.le_refl _⟩ (fun hz15 H locs hP hD hS => ?_)
            have hP : va_P G.1 vwCl (wdX5 G v_q0 v_q1 v_q2 v_q3 v_q4 v_q5 v_q6 v_q7 v_q8 v_q9 v_q10 v_q11 v_q12 v_q13 v_q14 v_q15 v_q16 r8_0 v_gain v_size r15_1 r15_2 r15_3 r10_3 v_parts v_isMinus v_readSpot v_isStar v_wantsNumber v_waiting v_shiftX v_shiftY v_times v_dotsLaid v_joinedLaid v_hash v_isThereA v_vA v_spotOfA v_inMiddleA v_tintsA v_bufferA r10_4 r10_5 v_oldRanksA v_partA r10_6 r10_7 v_isMetA v_metXA v_metYA v_lineA) H := hP
            have hD : va_D A (wdX5 G v_q0 v_q1 v_q2 v_q3 v_q4 v_q5 v_q6 v_q7 v_q8 v_q9 v_q10 v_q11 v_q12 v_q13 v_q14 v_q15 v_q16 r8_0 v_gain v_size r15_1 r15_2 r15_3 r10_3 v_parts v_isMinus v_readSpot v_isStar v_wantsNumber v_waiting v_shiftX v_shiftY v_times v_dotsLaid v_joinedLaid v_hash v_isThereA v_vA v_spotOfA v_inMiddleA v_tintsA v_bufferA r10_4 r10_5 v_oldRanksA v_partA r10_6 r10_7 v_isMetA v_metXA v_metYA v_lineA) := hD
            refine lv_if_eq (tgt := 101) hx hb dX5_inked_94 (by decide) (fun c16 => ?_) (fun c16 => ?_)
            · replace h := ite_t c16 h
              refine lv_iconst (v := 0) hx hb dX5_inked_101 (by decide) ?_
              refine lv_iadd hx hb dX5_inked_102 ?_
              refine lv_topi (fun x17 e17 => ?_)
              replace h := nmB_e e17 h
              refine lv_istore (lv' := [(6, .int x17), (7, .int v11_0), (0, .ref v_q0), (1, .int a0), (2, .int a1), (3, .int a2), (4, .int a3), (5, .int a4)]) hx hb dX5_inked_103 hl (by decide) rfl (fun ls hl => ?_)
              obtain ⟨x18, e18⟩ : ∃ y : Int32, y = v11_0 + 1 := ⟨_, rfl⟩
              replace h := nmB_e e18 h
              refine lv_iinc (v := x18) (lv' := [(7, .int x18), (6, .int x17), (0, .ref v_q0), (1, .int a0), (2, .int a1), (3, .int a2), (4, .int a3), (5, .int a4)]) hx hb dX5_inked_105 hl (k := 1) rfl (by rw [e18]; rfl) (by decide) rfl (fun ls hl => ?_)
              refine lv_goto (tgt := 63) hx hb dX5_inked_108 (by decide) ?_
              exact ih x18 x17 r15_1 r15_2 r15_3 u11_0 u11_1 u11_2 u11_3 u11_4 H locs ls h hl hP hD hS kE
            · replace h := ite_f c16 h
              refine lv_iconst (v := 1) hx hb dX5_inked_97 (by decide) ?_
              refine lv_goto (tgt := 102) hx hb dX5_inked_98 (by decide) ?_
              refine lv_iadd hx hb dX5_inked_102 ?_
              refine lv_topi (fun x19 e19 => ?_)
              replace h := nmB_e e19 h
              refine lv_istore (lv' := [(6, .int x19), (7, .int v11_0), (0, .ref v_q0), (1, .int a0), (2, .int a1), (3, .int a2), (4, .int a3), (5, .int a4)]) hx hb dX5_inked_103 hl (by decide) rfl (fun ls hl => ?_)
              obtain ⟨x20, e20⟩ : ∃ y : Int32, y = v11_0 + 1 := ⟨_, rfl⟩
              replace h := nmB_e e20 h
              refine lv_iinc (v := x20) (lv' := [(7, .int x20), (6, .int x19), (0, .ref v_q0), (1, .int a0), (2, .int a1), (3, .int a2), (4, .int a3), (5, .int a4)]) hx hb dX5_inked_105 hl (k := 1) rfl (by rw [e20]; rfl) (by decide) rfl (fun ls hl => ?_)
              refine lv_goto (tgt := 63) hx hb dX5_inked_108 (by decide) ?_
              exact ih x20 x19 r15_1 r15_2 r15_3 u11_0 u11_1 u11_2 u11_3 u11_4 H locs ls h hl hP hD hS kE
      refine L11 FU 0 0 r10_0 r10_1 r10_2 u11_0 u11_1 u11_2 u11_3 u11_4 H locs ls g11 hl hP hD hS (fun H locs ls hl hP hD hS => ?_)
      refine lv_iload hx hb dX5_inked_111 (lv_at hl 1 rfl) ?_
      obtain ⟨rfl, rfl, rfl, rfl, rfl, rfl, rfl, rfl, rfl, rfl⟩ := sm10 h
      exact hret _ _ _ _ _ rfl trivial rfl hP hD hS dX5_inked_113
    · replace h := ite_f c9 h
      refine lv_iconst (v := 0) hx hb dX5_inked_51 (by decide) ?_
      obtain ⟨rfl, rfl, rfl, rfl, rfl, rfl, rfl, rfl, rfl, rfl⟩ := sm10 h
      exact hret _ _ _ _ _ rfl trivial rfl hP hD hS dX5_inked_52
  refine lv_if_eq (tgt := 37) hx hb dX5_inked_8 (by decide) (fun c3 => ?_) (fun c3 => ?_)
  · replace h := ite_t c3 h
    refine lv_iconst (v := 0) hx hb dX5_inked_37 (by decide) ?_
    exact J2 0 isZ0 H locs ls h hl hP hD hS
  · replace h := ite_f c3 h
    refine lv_iload hx hb dX5_inked_11 (lv_at hl 4 rfl) ?_
    refine lv_iconst (v := 1) hx hb dX5_inked_13 (by decide) ?_
    refine lv_bipush (v := 64) hx hb dX5_inked_14 (by decide) ?_
    obtain ⟨r4_0, g4, h⟩ := bnd1_e h
    refine roSi1 (rest := [.int a0, .ref v_q0, .ref v_q0]) (As := [.int a3, .int 1, .int 64]) S (ctX5_within l G a3 1 64 r4_0 g4) (va_cwS 3 hts gX5_inked_X5_within rfl rfl rfl hsX5_within ⟨Nat.le_of_ble_eq_true rfl, Nat.le_of_ble_eq_true rfl⟩) hK hP [] rfl rfl hl.1 rfl (Nat.le_of_ble_eq_true rfl) dX5_inked_16 ⟨Nat.le_refl _, Nat.le_refl _⟩ (fun hz4 => ?_)
    refine lv_if_eq (tgt := 37) hx hb dX5_inked_19 (by decide) (fun c5 => ?_) (fun c5 => ?_)
    · replace h := ite_t c5 h
      refine lv_iconst (v := 0) hx hb dX5_inked_37 (by decide) ?_
      exact J2 0 isZ0 H locs ls h hl hP hD hS
    · replace h := ite_f c5 h
      refine lv_iload hx hb dX5_inked_22 (lv_at hl 5 rfl) ?_
      refine lv_iconst (v := 1) hx hb dX5_inked_24 (by decide) ?_
      refine lv_bipush (v := 64) hx hb dX5_inked_25 (by decide) ?_
      obtain ⟨r6_0, g6, h⟩ := bnd1_e h
      refine roSi1 (rest := [.int a0, .ref v_q0, .ref v_q0]) (As := [.int a4, .int 1, .int 64]) S (ctX5_within l G a4 1 64 r6_0 g6) (va_cwS 3 hts gX5_inked_X5_within rfl rfl rfl hsX5_within ⟨Nat.le_of_ble_eq_true rfl, Nat.le_of_ble_eq_true rfl⟩) hK hP [] rfl rfl hl.1 rfl (Nat.le_of_ble_eq_true rfl) dX5_inked_27 ⟨Nat.le_refl _, Nat.le_refl _⟩ (fun hz6 => ?_)
      refine lv_if_eq (tgt := 37) hx hb dX5_inked_30 (by decide) (fun c7 => ?_) (fun c7 => ?_)
      · replace h := ite_t c7 h
        refine lv_iconst (v := 0) hx hb dX5_inked_37 (by decide) ?_
        exact J2 0 isZ0 H locs ls h hl hP hD hS
      · replace h := ite_f c7 h
        refine lv_iconst (v := 1) hx hb dX5_inked_33 (by decide) ?_
        refine lv_goto (tgt := 38) hx hb dX5_inked_34 (by decide) ?_
        exact J2 1 isZ1 H locs ls h hl hP hD hS
theorem fw_X5_meet_X5 : ∀ w ∈ wsX50, w ∈ wsX5_meet := fun w h => List.mem_cons_of_mem _ (List.mem_append_right _ h)
theorem lk_X5_meet_f47 : Cond.fieldLink RX5 47 "HalftoneScreensModel" "isMet" "[Z" ∈ wsX5_meet := List.mem_of_getElem? (i := 1) rfl
theorem lk_X5_meet_f50 : Cond.fieldLink RX5 50 "HalftoneScreensModel" "metX" "[I" ∈ wsX5_meet := List.mem_of_getElem? (i := 2) rfl
theorem lk_X5_meet_f53 : Cond.fieldLink RX5 53 "HalftoneScreensModel" "metY" "[I" ∈ wsX5_meet := List.mem_of_getElem? (i := 3) rfl
theorem lk_X5_meet_f56 : Cond.fieldLink RX5 56 "HalftoneScreensModel" "line" "[I" ∈ wsX5_meet := List.mem_of_getElem? (i := 4) rfl
theorem lk_X5_meet_f213 : Cond.fieldLink RX5 213 "HalftoneScreensModel" "waiting" "I" ∈ wsX5_meet := List.mem_of_getElem? (i := 5) rfl
abbrev rmX5_meet : Room := { frames := 3, cells := 0, slots := 0, locals := 66 }
set_option maxHeartbeats 4000000 in
set_option maxRecDepth 100000 in
theorem ctX5_meet (l : Launch) (G : GG) (v_q0 : Nat) (v_q1 : Nat) (v_q2 : Nat) (v_q3 : Nat) (v_q4 : Nat) (v_q5 : Nat) (v_q6 : Nat) (v_q7 : Nat) (v_q8 : Nat) (v_q9 : Nat) (v_q10 : Nat) (v_q11 : Nat) (v_q12 : Nat) (v_q13 : Nat) (v_q14 : Nat) (v_q15 : Nat) (v_q16 : Nat) (v_thrown : Int32) (v_gain : Int32) (v_size : Int32) (v_w : Int32) (v_s : Int32) (v_h : Int32) (v_laidArea : Int32) (v_parts : Int32) (v_isMinus : Int32) (v_readSpot : Int32) (v_isStar : Int32) (v_wantsNumber : Int32) (v_waiting : Int32) (v_shiftX : Int32) (v_shiftY : Int32) (v_times : Int32) (v_dotsLaid : Int32) (v_joinedLaid : Int32) (v_hash : Int64) (v_isThereA : (Nat → Int32)) (v_vA : (Nat → Int32)) (v_spotOfA : (Nat → Int32)) (v_inMiddleA : (Nat → Int32)) (v_tintsA : (Nat → Int32)) (v_bufferA : (Nat → Int32)) (v_valuesA : (Nat → Int32)) (v_ranksA : (Nat → Int32)) (v_oldRanksA : (Nat → Int32)) (v_partA : (Nat → Int32)) (v_allRanksA : (Nat → Int32)) (v_basesA : (Nat → Int32)) (v_isMetA : (Nat → Int32)) (v_metXA : (Nat → Int32)) (v_metYA : (Nat → Int32)) (v_lineA : (Nat → Int32)) (a0 : Int32) (a1 : Int32) (o0 : Int32) (o1 : (Nat → Int32)) (o2 : (Nat → Int32)) (o3 : (Nat → Int32)) (o4 : (Nat → Int32)) (h : mX5_meet v_w v_s v_h v_waiting v_isMetA v_metXA v_metYA v_lineA a0 a1 = some (o0, o1, o2, o3, o4))  : Met l yX5_meet wsX5_meet rmX5_meet (va_Pc [.ref v_q0, .int a0, .int a1] (PreD G (wdX5 G v_q0 v_q1 v_q2 v_q3 v_q4 v_q5 v_q6 v_q7 v_q8 v_q9 v_q10 v_q11 v_q12 v_q13 v_q14 v_q15 v_q16 v_thrown v_gain v_size v_w v_s v_h v_laidArea v_parts v_isMinus v_readSpot v_isStar v_wantsNumber v_waiting v_shiftX v_shiftY v_times v_dotsLaid v_joinedLaid v_hash v_isThereA v_vA v_spotOfA v_inMiddleA v_tintsA v_bufferA v_valuesA v_ranksA v_oldRanksA v_partA v_allRanksA v_basesA v_isMetA v_metXA v_metYA v_lineA) (fun _ => True))) (QwA G (va_A0 (wdX5 G v_q0 v_q1 v_q2 v_q3 v_q4 v_q5 v_q6 v_q7 v_q8 v_q9 v_q10 v_q11 v_q12 v_q13 v_q14 v_q15 v_q16 v_thrown v_gain v_size v_w v_s v_h v_laidArea v_parts v_isMinus v_readSpot v_isStar v_wantsNumber v_waiting v_shiftX v_shiftY v_times v_dotsLaid v_joinedLaid v_hash v_isThereA v_vA v_spotOfA v_inMiddleA v_tintsA v_bufferA v_valuesA v_ranksA v_oldRanksA v_partA v_allRanksA v_basesA v_isMetA v_metXA v_metYA v_lineA)) (wdX5 G v_q0 v_q1 v_q2 v_q3 v_q4 v_q5 v_q6 v_q7 v_q8 v_q9 v_q10 v_q11 v_q12 v_q13 v_q14 v_q15 v_q16 v_thrown v_gain v_size v_w v_s v_h v_laidArea v_parts v_isMinus v_readSpot v_isStar v_wantsNumber o0 v_shiftX v_shiftY v_times v_dotsLaid v_joinedLaid v_hash v_isThereA v_vA v_spotOfA v_inMiddleA v_tintsA v_bufferA v_valuesA v_ranksA v_oldRanksA v_partA v_allRanksA v_basesA o1 o2 o3 o4) none True) 0 0 (va_A0 (wdX5 G v_q0 v_q1 v_q2 v_q3 v_q4 v_q5 v_q6 v_q7 v_q8 v_q9 v_q10 v_q11 v_q12 v_q13 v_q14 v_q15 v_q16 v_thrown v_gain v_size v_w v_s v_h v_laidArea v_parts v_isMinus v_readSpot v_isStar v_wantsNumber v_waiting v_shiftX v_shiftY v_times v_dotsLaid v_joinedLaid v_hash v_isThereA v_vA v_spotOfA v_inMiddleA v_tintsA v_bufferA v_valuesA v_ranksA v_oldRanksA v_partA v_allRanksA v_basesA v_isMetA v_metXA v_metYA v_lineA)) := by
  refine of_wv (cc := cX5_meet) (maxL := 4) (plainFor_of_name (by decide)) rfl (Nat.le_of_ble_eq_true rfl) ?_
  intro p e s m args below meth c ls Q A S hl hP hD hS hK hX hA hret
  obtain ⟨H, hH⟩ : ∃ H, H = s.heap := ⟨_, rfl⟩
  obtain ⟨locs, hlocs⟩ : ∃ L : List Loc, L = [] := ⟨_, rfl⟩
  rw [← hlocs]
  rw [← hlocs] at hS
  have hP : va_P G.1 vwCl (wdX5 G v_q0 v_q1 v_q2 v_q3 v_q4 v_q5 v_q6 v_q7 v_q8 v_q9 v_q10 v_q11 v_q12 v_q13 v_q14 v_q15 v_q16 v_thrown v_gain v_size v_w v_s v_h v_laidArea v_parts v_isMinus v_readSpot v_isStar v_wantsNumber v_waiting v_shiftX v_shiftY v_times v_dotsLaid v_joinedLaid v_hash v_isThereA v_vA v_spotOfA v_inMiddleA v_tintsA v_bufferA v_valuesA v_ranksA v_oldRanksA v_partA v_allRanksA v_basesA v_isMetA v_metXA v_metYA v_lineA) H := by rw [hH]; exact hP
  have hS : va_S A s.heap H locs := by rw [hH]; exact hS
  suffices hgo : W p l e rmX5_meet s m args below meth c H locs 0 0 Q (F0 m 0 ls []) by rw [hH] at hgo; exact hgo
  have S : CallFix p m c cX5_meet 4 s args wsX5_meet RX5 := S
  obtain ⟨hx, hb, hml, hown, hts⟩ := id S
  have hl : lv_has ls 4 [(0, .ref v_q0), (1, .int a0), (2, .int a1)] := hl
  unfold mX5_meet at h
  refine lv_aload_n hx hb dX5_meet_0 rfl (lv_at hl 0 rfl) ?_
  refine lv_iload_n hx hb dX5_meet_1 rfl (lv_at hl 1 rfl) ?_
  refine lv_iload_n hx hb dX5_meet_2 rfl (lv_at hl 2 rfl) ?_
  obtain ⟨r1_0, g1, h⟩ := bnd1_e h
  refine roVi1 (rest := []) (As := [.int a0, .int a1]) S (ctX5_placeAt l G v_q0 v_q1 v_q2 v_q3 v_q4 v_q5 v_q6 v_q7 v_q8 v_q9 v_q10 v_q11 v_q12 v_q13 v_q14 v_q15 v_q16 v_thrown v_gain v_size v_w v_s v_h v_laidArea v_parts v_isMinus v_readSpot v_isStar v_wantsNumber v_waiting v_shiftX v_shiftY v_times v_dotsLaid v_joinedLaid v_hash v_isThereA v_vA v_spotOfA v_inMiddleA v_tintsA v_bufferA v_valuesA v_ranksA v_oldRanksA v_partA v_allRanksA v_basesA v_isMetA v_metXA v_metYA v_lineA a0 a1 r1_0 g1) (cwV 2 hts gX5_meet_X5_placeAt rfl rfl rfl hvX5_placeAt ⟨Nat.le_of_ble_eq_true rfl, Nat.le_of_ble_eq_true rfl⟩) hK hP [0, 1, 2, 3, 4, 5, 6, 7, 8, 9, 10, 11, 12, 13, 14, 15, 16] rfl 0 5 rfl rfl rfl rfl hl.1 rfl (Nat.le_of_ble_eq_true rfl) dX5_meet_3 ⟨Nat.le_refl _, Nat.le_refl _⟩ (fun _ => ?_)
  refine lv_istore_n (lv' := [(3, .int r1_0), (0, .ref v_q0), (1, .int a0), (2, .int a1)]) hx hb dX5_meet_6 rfl hl (by decide) rfl (fun ls hl => ?_)
  refine lv_aload_n hx hb dX5_meet_7 rfl (lv_at hl 1 rfl) ?_
  refine va_get (D := G.1) (ci := 5) (v := .ref v_q13) (C := RX5) (T := TX5) (N := 35) hx hb hts fw_X5_meet_X5 hown hK.1 hP 0 rfl rfl 24 (by decide) (hts (.fieldLink RX5 47 "HalftoneScreensModel" "isMet" "[Z") lk_X5_meet_f47) (fun _ h9 => h9) rfl dX5_meet_8 ?_
  refine lv_iload_n hx hb dX5_meet_11 rfl (lv_at hl 0 rfl) ?_
  refine lv_iconst (v := 1) hx hb dX5_meet_12 (by decide) ?_
  obtain ⟨i2, h⟩ := gd_e h
  refine va_zast hx hb hK.1 hP hD hS 13 1 rfl rfl i2 dX5_meet_13 (fun H locs hP hD hS => ?_)
  have hP : va_P G.1 vwCl (wdX5 G v_q0 v_q1 v_q2 v_q3 v_q4 v_q5 v_q6 v_q7 v_q8 v_q9 v_q10 v_q11 v_q12 v_q13 v_q14 v_q15 v_q16 v_thrown v_gain v_size v_w v_s v_h v_laidArea v_parts v_isMinus v_readSpot v_isStar v_wantsNumber v_waiting v_shiftX v_shiftY v_times v_dotsLaid v_joinedLaid v_hash v_isThereA v_vA v_spotOfA v_inMiddleA v_tintsA v_bufferA v_valuesA v_ranksA v_oldRanksA v_partA v_allRanksA v_basesA (upd v_isMetA r1_0.toNatClampNeg (vp_nar .boolean 1)) v_metXA v_metYA v_lineA) H := hP
  have hD : va_D A (wdX5 G v_q0 v_q1 v_q2 v_q3 v_q4 v_q5 v_q6 v_q7 v_q8 v_q9 v_q10 v_q11 v_q12 v_q13 v_q14 v_q15 v_q16 v_thrown v_gain v_size v_w v_s v_h v_laidArea v_parts v_isMinus v_readSpot v_isStar v_wantsNumber v_waiting v_shiftX v_shiftY v_times v_dotsLaid v_joinedLaid v_hash v_isThereA v_vA v_spotOfA v_inMiddleA v_tintsA v_bufferA v_valuesA v_ranksA v_oldRanksA v_partA v_allRanksA v_basesA (upd v_isMetA r1_0.toNatClampNeg (vp_nar .boolean 1)) v_metXA v_metYA v_lineA) := hD
  refine lv_aload_n hx hb dX5_meet_14 rfl (lv_at hl 1 rfl) ?_
  refine va_get (D := G.1) (ci := 5) (v := .ref v_q14) (C := RX5) (T := TX5) (N := 35) hx hb hts fw_X5_meet_X5 hown hK.1 hP 0 rfl rfl 25 (by decide) (hts (.fieldLink RX5 50 "HalftoneScreensModel" "metX" "[I") lk_X5_meet_f50) (fun _ h9 => h9) rfl dX5_meet_15 ?_
  refine lv_iload_n hx hb dX5_meet_18 rfl (lv_at hl 0 rfl) ?_
  refine lv_iload_n hx hb dX5_meet_19 rfl (lv_at hl 2 rfl) ?_
  obtain ⟨i3, h⟩ := gd_e h
  refine va_iast hx hb hK.1 hP hD hS 14 0 rfl rfl i3 dX5_meet_20 (fun H locs hP hD hS => ?_)
  have hP : va_P G.1 vwCl (wdX5 G v_q0 v_q1 v_q2 v_q3 v_q4 v_q5 v_q6 v_q7 v_q8 v_q9 v_q10 v_q11 v_q12 v_q13 v_q14 v_q15 v_q16 v_thrown v_gain v_size v_w v_s v_h v_laidArea v_parts v_isMinus v_readSpot v_isStar v_wantsNumber v_waiting v_shiftX v_shiftY v_times v_dotsLaid v_joinedLaid v_hash v_isThereA v_vA v_spotOfA v_inMiddleA v_tintsA v_bufferA v_valuesA v_ranksA v_oldRanksA v_partA v_allRanksA v_basesA (upd v_isMetA r1_0.toNatClampNeg (vp_nar .boolean 1)) (upd v_metXA r1_0.toNatClampNeg a0) v_metYA v_lineA) H := hP
  have hD : va_D A (wdX5 G v_q0 v_q1 v_q2 v_q3 v_q4 v_q5 v_q6 v_q7 v_q8 v_q9 v_q10 v_q11 v_q12 v_q13 v_q14 v_q15 v_q16 v_thrown v_gain v_size v_w v_s v_h v_laidArea v_parts v_isMinus v_readSpot v_isStar v_wantsNumber v_waiting v_shiftX v_shiftY v_times v_dotsLaid v_joinedLaid v_hash v_isThereA v_vA v_spotOfA v_inMiddleA v_tintsA v_bufferA v_valuesA v_ranksA v_oldRanksA v_partA v_allRanksA v_basesA (upd v_isMetA r1_0.toNatClampNeg (vp_nar .boolean 1)) (upd v_metXA r1_0.toNatClampNeg a0) v_metYA v_lineA) := hD
  refine lv_aload_n hx hb dX5_meet_21 rfl (lv_at hl 1 rfl) ?_
  refine va_get (D := G.1) (ci := 5) (v := .ref v_q15) (C := RX5) (T := TX5) (N := 35) hx hb hts fw_X5_meet_X5 hown hK.1 hP 0 rfl rfl 26 (by decide) (hts (.fieldLink RX5 53 "HalftoneScreensModel" "metY" "[I") lk_X5_meet_f53) (fun _ h9 => h9) rfl dX5_meet_22 ?_
  refine lv_iload_n hx hb dX5_meet_25 rfl (lv_at hl 0 rfl) ?_
  refine lv_iload_n hx hb dX5_meet_26 rfl (lv_at hl 3 rfl) ?_
  obtain ⟨i4, h⟩ := gd_e h
  refine va_iast hx hb hK.1 hP hD hS 15 0 rfl rfl i4 dX5_meet_27 (fun H locs hP hD hS => ?_)
  have hP : va_P G.1 vwCl (wdX5 G v_q0 v_q1 v_q2 v_q3 v_q4 v_q5 v_q6 v_q7 v_q8 v_q9 v_q10 v_q11 v_q12 v_q13 v_q14 v_q15 v_q16 v_thrown v_gain v_size v_w v_s v_h v_laidArea v_parts v_isMinus v_readSpot v_isStar v_wantsNumber v_waiting v_shiftX v_shiftY v_times v_dotsLaid v_joinedLaid v_hash v_isThereA v_vA v_spotOfA v_inMiddleA v_tintsA v_bufferA v_valuesA v_ranksA v_oldRanksA v_partA v_allRanksA v_basesA (upd v_isMetA r1_0.toNatClampNeg (vp_nar .boolean 1)) (upd v_metXA r1_0.toNatClampNeg a0) (upd v_metYA r1_0.toNatClampNeg a1) v_lineA) H := hP
  have hD : va_D A (wdX5 G v_q0 v_q1 v_q2 v_q3 v_q4 v_q5 v_q6 v_q7 v_q8 v_q9 v_q10 v_q11 v_q12 v_q13 v_q14 v_q15 v_q16 v_thrown v_gain v_size v_w v_s v_h v_laidArea v_parts v_isMinus v_readSpot v_isStar v_wantsNumber v_waiting v_shiftX v_shiftY v_times v_dotsLaid v_joinedLaid v_hash v_isThereA v_vA v_spotOfA v_inMiddleA v_tintsA v_bufferA v_valuesA v_ranksA v_oldRanksA v_partA v_allRanksA v_basesA (upd v_isMetA r1_0.toNatClampNeg (vp_nar .boolean 1)) (upd v_metXA r1_0.toNatClampNeg a0) (upd v_metYA r1_0.toNatClampNeg a1) v_lineA) := hD
  refine lv_aload_n hx hb dX5_meet_28 rfl (lv_at hl 1 rfl) ?_
  refine va_get (D := G.1) (ci := 5) (v := .ref v_q16) (C := RX5) (T := TX5) (N := 35) hx hb hts fw_X5_meet_X5 hown hK.1 hP 0 rfl rfl 27 (by decide) (hts (.fieldLink RX5 56 "HalftoneScreensModel" "line" "[I") lk_X5_meet_f56) (fun _ h9 => h9) rfl dX5_meet_29 ?_
  refine lv_aload_n hx hb dX5_meet_32 rfl (lv_at hl 1 rfl) ?_
  refine va_get (D := G.1) (ci := 5) (v := .int v_waiting) (C := RX5) (T := TX5) (N := 35) hx hb hts fw_X5_meet_X5 hown hK.1 hP 0 rfl rfl 28 (by decide) (hts (.fieldLink RX5 213 "HalftoneScreensModel" "waiting" "I") lk_X5_meet_f213) (fun _ h9 => h9) rfl dX5_meet_33 ?_
  refine lv_iload_n hx hb dX5_meet_36 rfl (lv_at hl 0 rfl) ?_
  obtain ⟨i5, h⟩ := gd_e h
  refine va_iast hx hb hK.1 hP hD hS 16 0 rfl rfl i5 dX5_meet_37 (fun H locs hP hD hS => ?_)
  have hP : va_P G.1 vwCl (wdX5 G v_q0 v_q1 v_q2 v_q3 v_q4 v_q5 v_q6 v_q7 v_q8 v_q9 v_q10 v_q11 v_q12 v_q13 v_q14 v_q15 v_q16 v_thrown v_gain v_size v_w v_s v_h v_laidArea v_parts v_isMinus v_readSpot v_isStar v_wantsNumber v_waiting v_shiftX v_shiftY v_times v_dotsLaid v_joinedLaid v_hash v_isThereA v_vA v_spotOfA v_inMiddleA v_tintsA v_bufferA v_valuesA v_ranksA v_oldRanksA v_partA v_allRanksA v_basesA (upd v_isMetA r1_0.toNatClampNeg (vp_nar .boolean 1)) (upd v_metXA r1_0.toNatClampNeg a0) (upd v_metYA r1_0.toNatClampNeg a1) (upd v_lineA v_waiting.toNatClampNeg r1_0)) H := hP
  have hD : va_D A (wdX5 G v_q0 v_q1 v_q2 v_q3 v_q4 v_q5 v_q6 v_q7 v_q8 v_q9 v_q10 v_q11 v_q12 v_q13 v_q14 v_q15 v_q16 v_thrown v_gain v_size v_w v_s v_h v_laidArea v_parts v_isMinus v_readSpot v_isStar v_wantsNumber v_waiting v_shiftX v_shiftY v_times v_dotsLaid v_joinedLaid v_hash v_isThereA v_vA v_spotOfA v_inMiddleA v_tintsA v_bufferA v_valuesA v_ranksA v_oldRanksA v_partA v_allRanksA v_basesA (upd v_isMetA r1_0.toNatClampNeg (vp_nar .boolean 1)) (upd v_metXA r1_0.toNatClampNeg a0) (upd v_metYA r1_0.toNatClampNeg a1) (upd v_lineA v_waiting.toNatClampNeg r1_0)) := hD
  refine lv_aload_n hx hb dX5_meet_38 rfl (lv_at hl 1 rfl) ?_
  refine lv_dup hx hb dX5_meet_39 rfl ?_
  refine va_get (D := G.1) (ci := 5) (v := .int v_waiting) (C := RX5) (T := TX5) (N := 35) hx hb hts fw_X5_meet_X5 hown hK.1 hP 0 rfl rfl 28 (by decide) (hts (.fieldLink RX5 213 "HalftoneScreensModel" "waiting" "I") lk_X5_meet_f213) (fun _ h9 => h9) rfl dX5_meet_40 ?_
  refine lv_iconst (v := 1) hx hb dX5_meet_43 (by decide) ?_
  refine lv_iadd hx hb dX5_meet_44 ?_
  refine lv_topi (fun x6 e6 => ?_)
  replace h := nmB_e e6 h
  refine va_put (D := G.1) (ci := 5) (v := .int x6) (ty := .int) (C := RX5) (T := TX5) (N := 35) hx hb hts fw_X5_meet_X5 tyX5 tyX5_ok nmX5 hown hK.1 hP hD hS 0 rfl rfl 28 (by decide) (hts (.fieldLink RX5 213 "HalftoneScreensModel" "waiting" "I") lk_X5_meet_f213) (fun _ h9 => h9) rfl (tyX5_ok 28 (by decide)) rfl rfl (Nat.le_of_ble_eq_true rfl) dX5_meet_45 (fun H locs hP hD hS => ?_)
  have hP : va_P G.1 vwCl (wdX5 G v_q0 v_q1 v_q2 v_q3 v_q4 v_q5 v_q6 v_q7 v_q8 v_q9 v_q10 v_q11 v_q12 v_q13 v_q14 v_q15 v_q16 v_thrown v_gain v_size v_w v_s v_h v_laidArea v_parts v_isMinus v_readSpot v_isStar v_wantsNumber x6 v_shiftX v_shiftY v_times v_dotsLaid v_joinedLaid v_hash v_isThereA v_vA v_spotOfA v_inMiddleA v_tintsA v_bufferA v_valuesA v_ranksA v_oldRanksA v_partA v_allRanksA v_basesA (upd v_isMetA r1_0.toNatClampNeg (vp_nar .boolean 1)) (upd v_metXA r1_0.toNatClampNeg a0) (upd v_metYA r1_0.toNatClampNeg a1) (upd v_lineA v_waiting.toNatClampNeg r1_0)) H := hP
  have hD : va_D A (wdX5 G v_q0 v_q1 v_q2 v_q3 v_q4 v_q5 v_q6 v_q7 v_q8 v_q9 v_q10 v_q11 v_q12 v_q13 v_q14 v_q15 v_q16 v_thrown v_gain v_size v_w v_s v_h v_laidArea v_parts v_isMinus v_readSpot v_isStar v_wantsNumber x6 v_shiftX v_shiftY v_times v_dotsLaid v_joinedLaid v_hash v_isThereA v_vA v_spotOfA v_inMiddleA v_tintsA v_bufferA v_valuesA v_ranksA v_oldRanksA v_partA v_allRanksA v_basesA (upd v_isMetA r1_0.toNatClampNeg (vp_nar .boolean 1)) (upd v_metXA r1_0.toNatClampNeg a0) (upd v_metYA r1_0.toNatClampNeg a1) (upd v_lineA v_waiting.toNatClampNeg r1_0)) := hD
  obtain ⟨rfl, rfl, rfl, rfl, rfl⟩ := sm5 h
  exact hret _ _ _ _ trivial hP hD hS dX5_meet_48
theorem fw_X5_shift_X5 : ∀ w ∈ wsX50, w ∈ wsX5_shift := fun w h => List.mem_cons_of_mem _ (List.mem_append_right _ h)
theorem lk_X5_shift_f219 : Cond.fieldLink RX5 219 "HalftoneScreensModel" "shiftX" "I" ∈ wsX5_shift := List.mem_of_getElem? (i := 2) rfl
theorem lk_X5_shift_f222 : Cond.fieldLink RX5 222 "HalftoneScreensModel" "shiftY" "I" ∈ wsX5_shift := List.mem_of_getElem? (i := 3) rfl
theorem lk_X5_shift_f216 : Cond.fieldLink RX5 216 "HalftoneScreensModel" "times" "I" ∈ wsX5_shift := List.mem_of_getElem? (i := 1) rfl
abbrev rmX5_shift : Room := { frames := 0, cells := 0, slots := 0, locals := 0 }
set_option maxHeartbeats 4000000 in
set_option maxRecDepth 100000 in
theorem ctX5_shift (l : Launch) (G : GG) (v_q0 : Nat) (v_q1 : Nat) (v_q2 : Nat) (v_q3 : Nat) (v_q4 : Nat) (v_q5 : Nat) (v_q6 : Nat) (v_q7 : Nat) (v_q8 : Nat) (v_q9 : Nat) (v_q10 : Nat) (v_q11 : Nat) (v_q12 : Nat) (v_q13 : Nat) (v_q14 : Nat) (v_q15 : Nat) (v_q16 : Nat) (v_thrown : Int32) (v_gain : Int32) (v_size : Int32) (v_w : Int32) (v_s : Int32) (v_h : Int32) (v_laidArea : Int32) (v_parts : Int32) (v_isMinus : Int32) (v_readSpot : Int32) (v_isStar : Int32) (v_wantsNumber : Int32) (v_waiting : Int32) (v_shiftX : Int32) (v_shiftY : Int32) (v_times : Int32) (v_dotsLaid : Int32) (v_joinedLaid : Int32) (v_hash : Int64) (v_isThereA : (Nat → Int32)) (v_vA : (Nat → Int32)) (v_spotOfA : (Nat → Int32)) (v_inMiddleA : (Nat → Int32)) (v_tintsA : (Nat → Int32)) (v_bufferA : (Nat → Int32)) (v_valuesA : (Nat → Int32)) (v_ranksA : (Nat → Int32)) (v_oldRanksA : (Nat → Int32)) (v_partA : (Nat → Int32)) (v_allRanksA : (Nat → Int32)) (v_basesA : (Nat → Int32)) (v_isMetA : (Nat → Int32)) (v_metXA : (Nat → Int32)) (v_metYA : (Nat → Int32)) (v_lineA : (Nat → Int32)) (a0 : Int32) (a1 : Int32) (o0 : Int32) (o1 : Int32) (o2 : Int32) (h : mX5_shift v_shiftX v_shiftY v_times a0 a1 = some (o0, o1, o2))  : Met l yX5_shift wsX5_shift rmX5_shift (va_Pc [.ref v_q0, .int a0, .int a1] (PreD G (wdX5 G v_q0 v_q1 v_q2 v_q3 v_q4 v_q5 v_q6 v_q7 v_q8 v_q9 v_q10 v_q11 v_q12 v_q13 v_q14 v_q15 v_q16 v_thrown v_gain v_size v_w v_s v_h v_laidArea v_parts v_isMinus v_readSpot v_isStar v_wantsNumber v_waiting v_shiftX v_shiftY v_times v_dotsLaid v_joinedLaid v_hash v_isThereA v_vA v_spotOfA v_inMiddleA v_tintsA v_bufferA v_valuesA v_ranksA v_oldRanksA v_partA v_allRanksA v_basesA v_isMetA v_metXA v_metYA v_lineA) (fun _ => True))) (QwA G (va_A0 (wdX5 G v_q0 v_q1 v_q2 v_q3 v_q4 v_q5 v_q6 v_q7 v_q8 v_q9 v_q10 v_q11 v_q12 v_q13 v_q14 v_q15 v_q16 v_thrown v_gain v_size v_w v_s v_h v_laidArea v_parts v_isMinus v_readSpot v_isStar v_wantsNumber v_waiting v_shiftX v_shiftY v_times v_dotsLaid v_joinedLaid v_hash v_isThereA v_vA v_spotOfA v_inMiddleA v_tintsA v_bufferA v_valuesA v_ranksA v_oldRanksA v_partA v_allRanksA v_basesA v_isMetA v_metXA v_metYA v_lineA)) (wdX5 G v_q0 v_q1 v_q2 v_q3 v_q4 v_q5 v_q6 v_q7 v_q8 v_q9 v_q10 v_q11 v_q12 v_q13 v_q14 v_q15 v_q16 v_thrown v_gain v_size v_w v_s v_h v_laidArea v_parts v_isMinus v_readSpot v_isStar v_wantsNumber v_waiting o0 o1 o2 v_dotsLaid v_joinedLaid v_hash v_isThereA v_vA v_spotOfA v_inMiddleA v_tintsA v_bufferA v_valuesA v_ranksA v_oldRanksA v_partA v_allRanksA v_basesA v_isMetA v_metXA v_metYA v_lineA) none True) 0 0 (va_A0 (wdX5 G v_q0 v_q1 v_q2 v_q3 v_q4 v_q5 v_q6 v_q7 v_q8 v_q9 v_q10 v_q11 v_q12 v_q13 v_q14 v_q15 v_q16 v_thrown v_gain v_size v_w v_s v_h v_laidArea v_parts v_isMinus v_readSpot v_isStar v_wantsNumber v_waiting v_shiftX v_shiftY v_times v_dotsLaid v_joinedLaid v_hash v_isThereA v_vA v_spotOfA v_inMiddleA v_tintsA v_bufferA v_valuesA v_ranksA v_oldRanksA v_partA v_allRanksA v_basesA v_isMetA v_metXA v_metYA v_lineA)) := by
  refine of_wv (cc := cX5_shift) (maxL := 4) (plainFor_of_name (by decide)) rfl (Nat.le_of_ble_eq_true rfl) ?_
  intro p e s m args below meth c ls Q A S hl hP hD hS hK hX hA hret
  obtain ⟨H, hH⟩ : ∃ H, H = s.heap := ⟨_, rfl⟩
  obtain ⟨locs, hlocs⟩ : ∃ L : List Loc, L = [] := ⟨_, rfl⟩
  rw [← hlocs]
  rw [← hlocs] at hS
  have hP : va_P G.1 vwCl (wdX5 G v_q0 v_q1 v_q2 v_q3 v_q4 v_q5 v_q6 v_q7 v_q8 v_q9 v_q10 v_q11 v_q12 v_q13 v_q14 v_q15 v_q16 v_thrown v_gain v_size v_w v_s v_h v_laidArea v_parts v_isMinus v_readSpot v_isStar v_wantsNumber v_waiting v_shiftX v_shiftY v_times v_dotsLaid v_joinedLaid v_hash v_isThereA v_vA v_spotOfA v_inMiddleA v_tintsA v_bufferA v_valuesA v_ranksA v_oldRanksA v_partA v_allRanksA v_basesA v_isMetA v_metXA v_metYA v_lineA) H := by rw [hH]; exact hP
  have hS : va_S A s.heap H locs := by rw [hH]; exact hS
  suffices hgo : W p l e rmX5_shift s m args below meth c H locs 0 0 Q (F0 m 0 ls []) by rw [hH] at hgo; exact hgo
  have S : CallFix p m c cX5_shift 4 s args wsX5_shift RX5 := S
  obtain ⟨hx, hb, hml, hown, hts⟩ := id S
  have hl : lv_has ls 4 [(0, .ref v_q0), (1, .int a0), (2, .int a1)] := hl
  unfold mX5_shift at h
  refine lv_iload_n hx hb dX5_shift_0 rfl (lv_at hl 1 rfl) ?_
  obtain ⟨K1, hK1, h⟩ := jB1_e h
  have J1 : ∀ (j1_0 : Int32) (jz1_0 : isZ j1_0) (H : Heap) (locs : List Loc) (ls : Array Slot), K1 j1_0 = some (o0, o1, o2) → lv_has ls 4 [(0, .ref v_q0), (1, .int a0), (2, .int a1)] → va_P G.1 vwCl (wdX5 G v_q0 v_q1 v_q2 v_q3 v_q4 v_q5 v_q6 v_q7 v_q8 v_q9 v_q10 v_q11 v_q12 v_q13 v_q14 v_q15 v_q16 v_thrown v_gain v_size v_w v_s v_h v_laidArea v_parts v_isMinus v_readSpot v_isStar v_wantsNumber v_waiting v_shiftX v_shiftY v_times v_dotsLaid v_joinedLaid v_hash v_isThereA v_vA v_spotOfA v_inMiddleA v_tintsA v_bufferA v_valuesA v_ranksA v_oldRanksA v_partA v_allRanksA v_basesA v_isMetA v_metXA v_metYA v_lineA) H → va_D A (wdX5 G v_q0 v_q1 v_q2 v_q3 v_q4 v_q5 v_q6 v_q7 v_q8 v_q9 v_q10 v_q11 v_q12 v_q13 v_q14 v_q15 v_q16 v_thrown v_gain v_size v_w v_s v_h v_laidArea v_parts v_isMinus v_readSpot v_isStar v_wantsNumber v_waiting v_shiftX v_shiftY v_times v_dotsLaid v_joinedLaid v_hash v_isThereA v_vA v_spotOfA v_inMiddleA v_tintsA v_bufferA v_valuesA v_ranksA v_oldRanksA v_partA v_allRanksA v_basesA v_isMetA v_metXA v_metYA v_lineA) → va_S A s.heap H locs → W p l e rmX5_shift s m args below meth c H locs 0 0 Q (F0 m 13 ls [.int j1_0]) := by
    intro j1_0 jz1_0 H locs ls h hl hP hD hS
    replace h := (hK1 j1_0).symm.trans h
    refine lv_istore_n (lv' := [(3, .int j1_0), (0, .ref v_q0), (1, .int a0), (2, .int a1)]) hx hb dX5_shift_13 rfl hl (by decide) rfl (fun ls hl => ?_)
    refine lv_iload_n hx hb dX5_shift_14 rfl (lv_at hl 0 rfl) ?_
    refine lv_if_ne (tgt := 43) hx hb dX5_shift_15 (by decide) (fun c4 => ?_) (fun c4 => ?_)
    · replace h := ite_f c4 h
      refine lv_iload_n hx hb dX5_shift_43 rfl (lv_at hl 0 rfl) ?_
      refine lv_if_ne (tgt := 67) hx hb dX5_shift_44 (by decide) (fun c5 => ?_) (fun c5 => ?_)
      · replace h := ite_f c5 h
        obtain ⟨rfl, rfl, rfl⟩ := sm3 h
        exact hret _ _ _ _ trivial hP hD hS dX5_shift_67
      · replace h := ite_t c5 h
        refine lv_aload_n hx hb dX5_shift_47 rfl (lv_at hl 1 rfl) ?_
        refine va_get (D := G.1) (ci := 5) (v := .int v_shiftX) (C := RX5) (T := TX5) (N := 35) hx hb hts fw_X5_shift_X5 hown hK.1 hP 0 rfl rfl 29 (by decide) (hts (.fieldLink RX5 219 "HalftoneScreensModel" "shiftX" "I") lk_X5_shift_f219) (fun _ h9 => h9) rfl dX5_shift_48 ?_
        refine lv_iload_n hx hb dX5_shift_51 rfl (lv_at hl 3 rfl) ?_
        refine lv_imul hx hb dX5_shift_52 ?_
        refine lv_aload_n hx hb dX5_shift_53 rfl (lv_at hl 1 rfl) ?_
        refine va_get (D := G.1) (ci := 5) (v := .int v_shiftY) (C := RX5) (T := TX5) (N := 35) hx hb hts fw_X5_shift_X5 hown hK.1 hP 0 rfl rfl 30 (by decide) (hts (.fieldLink RX5 222 "HalftoneScreensModel" "shiftY" "I") lk_X5_shift_f222) (fun _ h9 => h9) rfl dX5_shift_54 ?_
        refine lv_iload_n hx hb dX5_shift_57 rfl (lv_at hl 2 rfl) ?_
        refine lv_imul hx hb dX5_shift_58 ?_
        refine lv_icmp_eq (tgt := 67) hx hb dX5_shift_59 (by decide) (fun c6 => ?_) (fun c6 => ?_)
        · replace h := ite_t c6 h
          obtain ⟨rfl, rfl, rfl⟩ := sm3 h
          exact hret _ _ _ _ trivial hP hD hS dX5_shift_67
        · replace h := ite_f c6 h
          refine lv_aload_n hx hb dX5_shift_62 rfl (lv_at hl 1 rfl) ?_
          refine lv_iconst (v := 2) hx hb dX5_shift_63 (by decide) ?_
          refine va_put (D := G.1) (ci := 5) (v := .int 2) (ty := .int) (C := RX5) (T := TX5) (N := 35) hx hb hts fw_X5_shift_X5 tyX5 tyX5_ok nmX5 hown hK.1 hP hD hS 0 rfl rfl 31 (by decide) (hts (.fieldLink RX5 216 "HalftoneScreensModel" "times" "I") lk_X5_shift_f216) (fun _ h9 => h9) rfl (tyX5_ok 31 (by decide)) rfl rfl (Nat.le_of_ble_eq_true rfl) dX5_shift_64 (fun H locs hP hD hS => ?_)
          have hP : va_P G.1 vwCl (wdX5 G v_q0 v_q1 v_q2 v_q3 v_q4 v_q5 v_q6 v_q7 v_q8 v_q9 v_q10 v_q11 v_q12 v_q13 v_q14 v_q15 v_q16 v_thrown v_gain v_size v_w v_s v_h v_laidArea v_parts v_isMinus v_readSpot v_isStar v_wantsNumber v_waiting v_shiftX v_shiftY 2 v_dotsLaid v_joinedLaid v_hash v_isThereA v_vA v_spotOfA v_inMiddleA v_tintsA v_bufferA v_valuesA v_ranksA v_oldRanksA v_partA v_allRanksA v_basesA v_isMetA v_metXA v_metYA v_lineA) H := hP
          have hD : va_D A (wdX5 G v_q0 v_q1 v_q2 v_q3 v_q4 v_q5 v_q6 v_q7 v_q8 v_q9 v_q10 v_q11 v_q12 v_q13 v_q14 v_q15 v_q16 v_thrown v_gain v_size v_w v_s v_h v_laidArea v_parts v_isMinus v_readSpot v_isStar v_wantsNumber v_waiting v_shiftX v_shiftY 2 v_dotsLaid v_joinedLaid v_hash v_isThereA v_vA v_spotOfA v_inMiddleA v_tintsA v_bufferA v_valuesA v_ranksA v_oldRanksA v_partA v_allRanksA v_basesA v_isMetA v_metXA v_metYA v_lineA) := hD
          obtain ⟨rfl, rfl, rfl⟩ := sm3 h
          exact hret _ _ _ _ trivial hP hD hS dX5_shift_67
    · replace h := ite_t c4 h
      refine lv_aload_n hx hb dX5_shift_18 rfl (lv_at hl 1 rfl) ?_
      refine va_get (D := G.1) (ci := 5) (v := .int v_times) (C := RX5) (T := TX5) (N := 35) hx hb hts fw_X5_shift_X5 hown hK.1 hP 0 rfl rfl 31 (by decide) (hts (.fieldLink RX5 216 "HalftoneScreensModel" "times" "I") lk_X5_shift_f216) (fun _ h9 => h9) rfl dX5_shift_19 ?_
      refine lv_if_ne (tgt := 43) hx hb dX5_shift_22 (by decide) (fun c7 => ?_) (fun c7 => ?_)
      · replace h := ite_f c7 h
        refine lv_iload_n hx hb dX5_shift_43 rfl (lv_at hl 0 rfl) ?_
        refine lv_if_ne (tgt := 67) hx hb dX5_shift_44 (by decide) (fun c8 => ?_) (fun c8 => ?_)
        · replace h := ite_f c8 h
          obtain ⟨rfl, rfl, rfl⟩ := sm3 h
          exact hret _ _ _ _ trivial hP hD hS dX5_shift_67
        · replace h := ite_t c8 h
          refine lv_aload_n hx hb dX5_shift_47 rfl (lv_at hl 1 rfl) ?_
          refine va_get (D := G.1) (ci := 5) (v := .int v_shiftX) (C := RX5) (T := TX5) (N := 35) hx hb hts fw_X5_shift_X5 hown hK.1 hP 0 rfl rfl 29 (by decide) (hts (.fieldLink RX5 219 "HalftoneScreensModel" "shiftX" "I") lk_X5_shift_f219) (fun _ h9 => h9) rfl dX5_shift_48 ?_
          refine lv_iload_n hx hb dX5_shift_51 rfl (lv_at hl 3 rfl) ?_
          refine lv_imul hx hb dX5_shift_52 ?_
          refine lv_aload_n hx hb dX5_shift_53 rfl (lv_at hl 1 rfl) ?_
          refine va_get (D := G.1) (ci := 5) (v := .int v_shiftY) (C := RX5) (T := TX5) (N := 35) hx hb hts fw_X5_shift_X5 hown hK.1 hP 0 rfl rfl 30 (by decide) (hts (.fieldLink RX5 222 "HalftoneScreensModel" "shiftY" "I") lk_X5_shift_f222) (fun _ h9 => h9) rfl dX5_shift_54 ?_
          refine lv_iload_n hx hb dX5_shift_57 rfl (lv_at hl 2 rfl) ?_
          refine lv_imul hx hb dX5_shift_58 ?_
          refine lv_icmp_eq (tgt := 67) hx hb dX5_shift_59 (by decide) (fun c9 => ?_) (fun c9 => ?_)
          · replace h := ite_t c9 h
            obtain ⟨rfl, rfl, rfl⟩ := sm3 h
            exact hret _ _ _ _ trivial hP hD hS dX5_shift_67
          · replace h := ite_f c9 h
            refine lv_aload_n hx hb dX5_shift_62 rfl (lv_at hl 1 rfl) ?_
            refine lv_iconst (v := 2) hx hb dX5_shift_63 (by decide) ?_
            refine va_put (D := G.1) (ci := 5) (v := .int 2) (ty := .int) (C := RX5) (T := TX5) (N := 35) hx hb hts fw_X5_shift_X5 tyX5 tyX5_ok nmX5 hown hK.1 hP hD hS 0 rfl rfl 31 (by decide) (hts (.fieldLink RX5 216 "HalftoneScreensModel" "times" "I") lk_X5_shift_f216) (fun _ h9 => h9) rfl (tyX5_ok 31 (by decide)) rfl rfl (Nat.le_of_ble_eq_true rfl) dX5_shift_64 (fun H locs hP hD hS => ?_)
            have hP : va_P G.1 vwCl (wdX5 G v_q0 v_q1 v_q2 v_q3 v_q4 v_q5 v_q6 v_q7 v_q8 v_q9 v_q10 v_q11 v_q12 v_q13 v_q14 v_q15 v_q16 v_thrown v_gain v_size v_w v_s v_h v_laidArea v_parts v_isMinus v_readSpot v_isStar v_wantsNumber v_waiting v_shiftX v_shiftY 2 v_dotsLaid v_joinedLaid v_hash v_isThereA v_vA v_spotOfA v_inMiddleA v_tintsA v_bufferA v_valuesA v_ranksA v_oldRanksA v_partA v_allRanksA v_basesA v_isMetA v_metXA v_metYA v_lineA) H := hP
            have hD : va_D A (wdX5 G v_q0 v_q1 v_q2 v_q3 v_q4 v_q5 v_q6 v_q7 v_q8 v_q9 v_q10 v_q11 v_q12 v_q13 v_q14 v_q15 v_q16 v_thrown v_gain v_size v_w v_s v_h v_laidArea v_parts v_isMinus v_readSpot v_isStar v_wantsNumber v_waiting v_shiftX v_shiftY 2 v_dotsLaid v_joinedLaid v_hash v_isThereA v_vA v_spotOfA v_inMiddleA v_tintsA v_bufferA v_valuesA v_ranksA v_oldRanksA v_partA v_allRanksA v_basesA v_isMetA v_metXA v_metYA v_lineA) := hD
            obtain ⟨rfl, rfl, rfl⟩ := sm3 h
            exact hret _ _ _ _ trivial hP hD hS dX5_shift_67
      · replace h := ite_t c7 h
        refine lv_aload_n hx hb dX5_shift_25 rfl (lv_at hl 1 rfl) ?_
        refine lv_iload_n hx hb dX5_shift_26 rfl (lv_at hl 2 rfl) ?_
        refine va_put (D := G.1) (ci := 5) (v := .int a0) (ty := .int) (C := RX5) (T := TX5) (N := 35) hx hb hts fw_X5_shift_X5 tyX5 tyX5_ok nmX5 hown hK.1 hP hD hS 0 rfl rfl 29 (by decide) (hts (.fieldLink RX5 219 "HalftoneScreensModel" "shiftX" "I") lk_X5_shift_f219) (fun _ h9 => h9) rfl (tyX5_ok 29 (by decide)) rfl rfl (Nat.le_of_ble_eq_true rfl) dX5_shift_27 (fun H locs hP hD hS => ?_)
        have hP : va_P G.1 vwCl (wdX5 G v_q0 v_q1 v_q2 v_q3 v_q4 v_q5 v_q6 v_q7 v_q8 v_q9 v_q10 v_q11 v_q12 v_q13 v_q14 v_q15 v_q16 v_thrown v_gain v_size v_w v_s v_h v_laidArea v_parts v_isMinus v_readSpot v_isStar v_wantsNumber v_waiting a0 v_shiftY v_times v_dotsLaid v_joinedLaid v_hash v_isThereA v_vA v_spotOfA v_inMiddleA v_tintsA v_bufferA v_valuesA v_ranksA v_oldRanksA v_partA v_allRanksA v_basesA v_isMetA v_metXA v_metYA v_lineA) H := hP
        have hD : va_D A (wdX5 G v_q0 v_q1 v_q2 v_q3 v_q4 v_q5 v_q6 v_q7 v_q8 v_q9 v_q10 v_q11 v_q12 v_q13 v_q14 v_q15 v_q16 v_thrown v_gain v_size v_w v_s v_h v_laidArea v_parts v_isMinus v_readSpot v_isStar v_wantsNumber v_waiting a0 v_shiftY v_times v_dotsLaid v_joinedLaid v_hash v_isThereA v_vA v_spotOfA v_inMiddleA v_tintsA v_bufferA v_valuesA v_ranksA v_oldRanksA v_partA v_allRanksA v_basesA v_isMetA v_metXA v_metYA v_lineA) := hD
        refine lv_aload_n hx hb dX5_shift_30 rfl (lv_at hl 1 rfl) ?_
        refine lv_iload_n hx hb dX5_shift_31 rfl (lv_at hl 3 rfl) ?_
        refine va_put (D := G.1) (ci := 5) (v := .int a1) (ty := .int) (C := RX5) (T := TX5) (N := 35) hx hb hts fw_X5_shift_X5 tyX5 tyX5_ok nmX5 hown hK.1 hP hD hS 0 rfl rfl 30 (by decide) (hts (.fieldLink RX5 222 "HalftoneScreensModel" "shiftY" "I") lk_X5_shift_f222) (fun _ h9 => h9) rfl (tyX5_ok 30 (by decide)) rfl rfl (Nat.le_of_ble_eq_true rfl) dX5_shift_32 (fun H locs hP hD hS => ?_)
        have hP : va_P G.1 vwCl (wdX5 G v_q0 v_q1 v_q2 v_q3 v_q4 v_q5 v_q6 v_q7 v_q8 v_q9 v_q10 v_q11 v_q12 v_q13 v_q14 v_q15 v_q16 v_thrown v_gain v_size v_w v_s v_h v_laidArea v_parts v_isMinus v_readSpot v_isStar v_wantsNumber v_waiting a0 a1 v_times v_dotsLaid v_joinedLaid v_hash v_isThereA v_vA v_spotOfA v_inMiddleA v_tintsA v_bufferA v_valuesA v_ranksA v_oldRanksA v_partA v_allRanksA v_basesA v_isMetA v_metXA v_metYA v_lineA) H := hP
        have hD : va_D A (wdX5 G v_q0 v_q1 v_q2 v_q3 v_q4 v_q5 v_q6 v_q7 v_q8 v_q9 v_q10 v_q11 v_q12 v_q13 v_q14 v_q15 v_q16 v_thrown v_gain v_size v_w v_s v_h v_laidArea v_parts v_isMinus v_readSpot v_isStar v_wantsNumber v_waiting a0 a1 v_times v_dotsLaid v_joinedLaid v_hash v_isThereA v_vA v_spotOfA v_inMiddleA v_tintsA v_bufferA v_valuesA v_ranksA v_oldRanksA v_partA v_allRanksA v_basesA v_isMetA v_metXA v_metYA v_lineA) := hD
        refine lv_aload_n hx hb dX5_shift_35 rfl (lv_at hl 1 rfl) ?_
        refine lv_iconst (v := 1) hx hb dX5_shift_36 (by decide) ?_
        refine va_put (D := G.1) (ci := 5) (v := .int 1) (ty := .int) (C := RX5) (T := TX5) (N := 35) hx hb hts fw_X5_shift_X5 tyX5 tyX5_ok nmX5 hown hK.1 hP hD hS 0 rfl rfl 31 (by decide) (hts (.fieldLink RX5 216 "HalftoneScreensModel" "times" "I") lk_X5_shift_f216) (fun _ h9 => h9) rfl (tyX5_ok 31 (by decide)) rfl rfl (Nat.le_of_ble_eq_true rfl) dX5_shift_37 (fun H locs hP hD hS => ?_)
        have hP : va_P G.1 vwCl (wdX5 G v_q0 v_q1 v_q2 v_q3 v_q4 v_q5 v_q6 v_q7 v_q8 v_q9 v_q10 v_q11 v_q12 v_q13 v_q14 v_q15 v_q16 v_thrown v_gain v_size v_w v_s v_h v_laidArea v_parts v_isMinus v_readSpot v_isStar v_wantsNumber v_waiting a0 a1 1 v_dotsLaid v_joinedLaid v_hash v_isThereA v_vA v_spotOfA v_inMiddleA v_tintsA v_bufferA v_valuesA v_ranksA v_oldRanksA v_partA v_allRanksA v_basesA v_isMetA v_metXA v_metYA v_lineA) H := hP
        have hD : va_D A (wdX5 G v_q0 v_q1 v_q2 v_q3 v_q4 v_q5 v_q6 v_q7 v_q8 v_q9 v_q10 v_q11 v_q12 v_q13 v_q14 v_q15 v_q16 v_thrown v_gain v_size v_w v_s v_h v_laidArea v_parts v_isMinus v_readSpot v_isStar v_wantsNumber v_waiting a0 a1 1 v_dotsLaid v_joinedLaid v_hash v_isThereA v_vA v_spotOfA v_inMiddleA v_tintsA v_bufferA v_valuesA v_ranksA v_oldRanksA v_partA v_allRanksA v_basesA v_isMetA v_metXA v_metYA v_lineA) := hD
        refine lv_goto (tgt := 67) hx hb dX5_shift_40 (by decide) ?_
        obtain ⟨rfl, rfl, rfl⟩ := sm3 h
        exact hret _ _ _ _ trivial hP hD hS dX5_shift_67
  refine lv_if_ne (tgt := 12) hx hb dX5_shift_1 (by decide) (fun c2 => ?_) (fun c2 => ?_)
  · replace h := ite_f c2 h
    refine lv_iconst (v := 0) hx hb dX5_shift_12 (by decide) ?_
    exact J1 0 isZ0 H locs ls h hl hP hD hS
  · replace h := ite_t c2 h
    refine lv_iload_n hx hb dX5_shift_4 rfl (lv_at hl 2 rfl) ?_
    refine lv_if_ne (tgt := 12) hx hb dX5_shift_5 (by decide) (fun c3 => ?_) (fun c3 => ?_)
    · replace h := ite_f c3 h
      refine lv_iconst (v := 0) hx hb dX5_shift_12 (by decide) ?_
      exact J1 0 isZ0 H locs ls h hl hP hD hS
    · replace h := ite_t c3 h
      refine lv_iconst (v := 1) hx hb dX5_shift_8 (by decide) ?_
      refine lv_goto (tgt := 13) hx hb dX5_shift_9 (by decide) ?_
      exact J1 1 isZ1 H locs ls h hl hP hD hS
theorem fw_X5_follow_X5 : ∀ w ∈ wsX50, w ∈ wsX5_follow := fun w h => List.mem_cons_of_mem _ (List.mem_append_right _ h)
theorem lk_X5_follow_f213 : Cond.fieldLink RX5 213 "HalftoneScreensModel" "waiting" "I" ∈ wsX5_follow := List.mem_of_getElem? (i := 1) rfl
theorem lk_X5_follow_f216 : Cond.fieldLink RX5 216 "HalftoneScreensModel" "times" "I" ∈ wsX5_follow := List.mem_of_getElem? (i := 2) rfl
theorem lk_X5_follow_f89 : Cond.fieldLink RX5 89 "HalftoneScreensModel" "w" "I" ∈ wsX5_follow := List.mem_of_getElem? (i := 3) rfl
theorem lk_X5_follow_f50 : Cond.fieldLink RX5 50 "HalftoneScreensModel" "metX" "[I" ∈ wsX5_follow := List.mem_of_getElem? (i := 4) rfl
theorem lk_X5_follow_f56 : Cond.fieldLink RX5 56 "HalftoneScreensModel" "line" "[I" ∈ wsX5_follow := List.mem_of_getElem? (i := 5) rfl
theorem lk_X5_follow_f53 : Cond.fieldLink RX5 53 "HalftoneScreensModel" "metY" "[I" ∈ wsX5_follow := List.mem_of_getElem? (i := 6) rfl
theorem lk_X5_follow_f32 : Cond.fieldLink RX5 32 "HalftoneScreensModel" "ranks" "[I" ∈ wsX5_follow := List.mem_of_getElem? (i := 7) rfl
theorem lk_X5_follow_f47 : Cond.fieldLink RX5 47 "HalftoneScreensModel" "isMet" "[Z" ∈ wsX5_follow := List.mem_of_getElem? (i := 8) rfl
theorem hsX5_meet : yX5_meet.cls ≠ "java/lang/invoke/MethodHandle" ∧ yX5_meet.cls ≠ "java/lang/invoke/VarHandle" ∧ (parseMethodDescriptor yX5_meet.desc).map (fun d => d.parameters.length) = some 2 := by decide +kernel
theorem hvX5_meet : yX5_meet.cls = RX5 ∧ yX5_meet.cls ≠ "java/lang/invoke/MethodHandle" ∧ yX5_meet.cls ≠ "java/lang/invoke/VarHandle" ∧ (parseMethodDescriptor yX5_meet.desc).map (fun d => d.parameters.length) = some 2 := ⟨rfl, hsX5_meet⟩
theorem hsX5_shift : yX5_shift.cls ≠ "java/lang/invoke/MethodHandle" ∧ yX5_shift.cls ≠ "java/lang/invoke/VarHandle" ∧ (parseMethodDescriptor yX5_shift.desc).map (fun d => d.parameters.length) = some 2 := by decide +kernel
theorem hvX5_shift : yX5_shift.cls = RX5 ∧ yX5_shift.cls ≠ "java/lang/invoke/MethodHandle" ∧ yX5_shift.cls ≠ "java/lang/invoke/VarHandle" ∧ (parseMethodDescriptor yX5_shift.desc).map (fun d => d.parameters.length) = some 2 := ⟨rfl, hsX5_shift⟩
abbrev rmX5_follow : Room := { frames := 4, cells := 0, slots := 0, locals := 89 }
set_option maxHeartbeats 4000000 in
set_option maxRecDepth 100000 in
theorem ctX5_follow (l : Launch) (G : GG) (v_q0 : Nat) (v_q1 : Nat) (v_q2 : Nat) (v_q3 : Nat) (v_q4 : Nat) (v_q5 : Nat) (v_q6 : Nat) (v_q7 : Nat) (v_q8 : Nat) (v_q9 : Nat) (v_q10 : Nat) (v_q11 : Nat) (v_q12 : Nat) (v_q13 : Nat) (v_q14 : Nat) (v_q15 : Nat) (v_q16 : Nat) (v_thrown : Int32) (v_gain : Int32) (v_size : Int32) (v_w : Int32) (v_s : Int32) (v_h : Int32) (v_laidArea : Int32) (v_parts : Int32) (v_isMinus : Int32) (v_readSpot : Int32) (v_isStar : Int32) (v_wantsNumber : Int32) (v_waiting : Int32) (v_shiftX : Int32) (v_shiftY : Int32) (v_times : Int32) (v_dotsLaid : Int32) (v_joinedLaid : Int32) (v_hash : Int64) (v_isThereA : (Nat → Int32)) (v_vA : (Nat → Int32)) (v_spotOfA : (Nat → Int32)) (v_inMiddleA : (Nat → Int32)) (v_tintsA : (Nat → Int32)) (v_bufferA : (Nat → Int32)) (v_valuesA : (Nat → Int32)) (v_ranksA : (Nat → Int32)) (v_oldRanksA : (Nat → Int32)) (v_partA : (Nat → Int32)) (v_allRanksA : (Nat → Int32)) (v_basesA : (Nat → Int32)) (v_isMetA : (Nat → Int32)) (v_metXA : (Nat → Int32)) (v_metYA : (Nat → Int32)) (v_lineA : (Nat → Int32)) (a0 : Int32) (a1 : Int32) (o0 : Int32) (o1 : Int32) (o2 : Int32) (o3 : Int32) (o4 : Int32) (o5 : (Nat → Int32)) (o6 : (Nat → Int32)) (o7 : (Nat → Int32)) (o8 : (Nat → Int32)) (h : mX5_follow v_w v_s v_h v_shiftX v_shiftY v_ranksA v_isMetA v_metXA v_metYA v_lineA a0 a1 = some (o0, o1, o2, o3, o4, o5, o6, o7, o8))  : Met l yX5_follow wsX5_follow rmX5_follow (va_Pc [.ref v_q0, .int a0, .int a1] (PreD G (wdX5 G v_q0 v_q1 v_q2 v_q3 v_q4 v_q5 v_q6 v_q7 v_q8 v_q9 v_q10 v_q11 v_q12 v_q13 v_q14 v_q15 v_q16 v_thrown v_gain v_size v_w v_s v_h v_laidArea v_parts v_isMinus v_readSpot v_isStar v_wantsNumber v_waiting v_shiftX v_shiftY v_times v_dotsLaid v_joinedLaid v_hash v_isThereA v_vA v_spotOfA v_inMiddleA v_tintsA v_bufferA v_valuesA v_ranksA v_oldRanksA v_partA v_allRanksA v_basesA v_isMetA v_metXA v_metYA v_lineA) (fun _ => True))) (QwA G (va_A0 (wdX5 G v_q0 v_q1 v_q2 v_q3 v_q4 v_q5 v_q6 v_q7 v_q8 v_q9 v_q10 v_q11 v_q12 v_q13 v_q14 v_q15 v_q16 v_thrown v_gain v_size v_w v_s v_h v_laidArea v_parts v_isMinus v_readSpot v_isStar v_wantsNumber v_waiting v_shiftX v_shiftY v_times v_dotsLaid v_joinedLaid v_hash v_isThereA v_vA v_spotOfA v_inMiddleA v_tintsA v_bufferA v_valuesA v_ranksA v_oldRanksA v_partA v_allRanksA v_basesA v_isMetA v_metXA v_metYA v_lineA)) (wdX5 G v_q0 v_q1 v_q2 v_q3 v_q4 v_q5 v_q6 v_q7 v_q8 v_q9 v_q10 v_q11 v_q12 v_q13 v_q14 v_q15 v_q16 v_thrown v_gain v_size v_w v_s v_h v_laidArea v_parts v_isMinus v_readSpot v_isStar v_wantsNumber o1 o2 o3 o4 v_dotsLaid v_joinedLaid v_hash v_isThereA v_vA v_spotOfA v_inMiddleA v_tintsA v_bufferA v_valuesA v_ranksA v_oldRanksA v_partA v_allRanksA v_basesA o5 o6 o7 o8) (some (.int o0)) True) 0 0 (va_A0 (wdX5 G v_q0 v_q1 v_q2 v_q3 v_q4 v_q5 v_q6 v_q7 v_q8 v_q9 v_q10 v_q11 v_q12 v_q13 v_q14 v_q15 v_q16 v_thrown v_gain v_size v_w v_s v_h v_laidArea v_parts v_isMinus v_readSpot v_isStar v_wantsNumber v_waiting v_shiftX v_shiftY v_times v_dotsLaid v_joinedLaid v_hash v_isThereA v_vA v_spotOfA v_inMiddleA v_tintsA v_bufferA v_valuesA v_ranksA v_oldRanksA v_partA v_allRanksA v_basesA v_isMetA v_metXA v_metYA v_lineA)) := by
  refine of_wi (cc := cX5_follow) (maxL := 10) (ty := .int) (plainFor_of_name (by decide)) rfl (Nat.le_of_ble_eq_true rfl) ?_
  intro p e s m args below meth c ls Q A S hl hP hD hS hK hX hA hret
  obtain ⟨H, hH⟩ : ∃ H, H = s.heap := ⟨_, rfl⟩
  obtain ⟨locs, hlocs⟩ : ∃ L : List Loc, L = [] := ⟨_, rfl⟩
  rw [← hlocs]
  rw [← hlocs] at hS
  have hP : va_P G.1 vwCl (wdX5 G v_q0 v_q1 v_q2 v_q3 v_q4 v_q5 v_q6 v_q7 v_q8 v_q9 v_q10 v_q11 v_q12 v_q13 v_q14 v_q15 v_q16 v_thrown v_gain v_size v_w v_s v_h v_laidArea v_parts v_isMinus v_readSpot v_isStar v_wantsNumber v_waiting v_shiftX v_shiftY v_times v_dotsLaid v_joinedLaid v_hash v_isThereA v_vA v_spotOfA v_inMiddleA v_tintsA v_bufferA v_valuesA v_ranksA v_oldRanksA v_partA v_allRanksA v_basesA v_isMetA v_metXA v_metYA v_lineA) H := by rw [hH]; exact hP
  have hS : va_S A s.heap H locs := by rw [hH]; exact hS
  suffices hgo : W p l e rmX5_follow s m args below meth c H locs 0 0 Q (F0 m 0 ls []) by rw [hH] at hgo; exact hgo
  have S : CallFix p m c cX5_follow 10 s args wsX5_follow RX5 := S
  obtain ⟨hx, hb, hml, hown, hts⟩ := id S
  have hl : lv_has ls 10 [(0, .ref v_q0), (1, .int a0), (2, .int a1)] := hl
  unfold mX5_follow at h
  refine lv_aload_n hx hb dX5_follow_0 rfl (lv_at hl 0 rfl) ?_
  refine lv_iconst (v := 0) hx hb dX5_follow_1 (by decide) ?_
  refine va_put (D := G.1) (ci := 5) (v := .int 0) (ty := .int) (C := RX5) (T := TX5) (N := 35) hx hb hts fw_X5_follow_X5 tyX5 tyX5_ok nmX5 hown hK.1 hP hD hS 0 rfl rfl 28 (by decide) (hts (.fieldLink RX5 213 "HalftoneScreensModel" "waiting" "I") lk_X5_follow_f213) (fun _ h9 => h9) rfl (tyX5_ok 28 (by decide)) rfl rfl (Nat.le_of_ble_eq_true rfl) dX5_follow_2 (fun H locs hP hD hS => ?_)
  have hP : va_P G.1 vwCl (wdX5 G v_q0 v_q1 v_q2 v_q3 v_q4 v_q5 v_q6 v_q7 v_q8 v_q9 v_q10 v_q11 v_q12 v_q13 v_q14 v_q15 v_q16 v_thrown v_gain v_size v_w v_s v_h v_laidArea v_parts v_isMinus v_readSpot v_isStar v_wantsNumber 0 v_shiftX v_shiftY v_times v_dotsLaid v_joinedLaid v_hash v_isThereA v_vA v_spotOfA v_inMiddleA v_tintsA v_bufferA v_valuesA v_ranksA v_oldRanksA v_partA v_allRanksA v_basesA v_isMetA v_metXA v_metYA v_lineA) H := hP
  have hD : va_D A (wdX5 G v_q0 v_q1 v_q2 v_q3 v_q4 v_q5 v_q6 v_q7 v_q8 v_q9 v_q10 v_q11 v_q12 v_q13 v_q14 v_q15 v_q16 v_thrown v_gain v_size v_w v_s v_h v_laidArea v_parts v_isMinus v_readSpot v_isStar v_wantsNumber 0 v_shiftX v_shiftY v_times v_dotsLaid v_joinedLaid v_hash v_isThereA v_vA v_spotOfA v_inMiddleA v_tintsA v_bufferA v_valuesA v_ranksA v_oldRanksA v_partA v_allRanksA v_basesA v_isMetA v_metXA v_metYA v_lineA) := hD
  refine lv_aload_n hx hb dX5_follow_5 rfl (lv_at hl 0 rfl) ?_
  refine lv_iconst (v := 0) hx hb dX5_follow_6 (by decide) ?_
  refine va_put (D := G.1) (ci := 5) (v := .int 0) (ty := .int) (C := RX5) (T := TX5) (N := 35) hx hb hts fw_X5_follow_X5 tyX5 tyX5_ok nmX5 hown hK.1 hP hD hS 0 rfl rfl 31 (by decide) (hts (.fieldLink RX5 216 "HalftoneScreensModel" "times" "I") lk_X5_follow_f216) (fun _ h9 => h9) rfl (tyX5_ok 31 (by decide)) rfl rfl (Nat.le_of_ble_eq_true rfl) dX5_follow_7 (fun H locs hP hD hS => ?_)
  have hP : va_P G.1 vwCl (wdX5 G v_q0 v_q1 v_q2 v_q3 v_q4 v_q5 v_q6 v_q7 v_q8 v_q9 v_q10 v_q11 v_q12 v_q13 v_q14 v_q15 v_q16 v_thrown v_gain v_size v_w v_s v_h v_laidArea v_parts v_isMinus v_readSpot v_isStar v_wantsNumber 0 v_shiftX v_shiftY 0 v_dotsLaid v_joinedLaid v_hash v_isThereA v_vA v_spotOfA v_inMiddleA v_tintsA v_bufferA v_valuesA v_ranksA v_oldRanksA v_partA v_allRanksA v_basesA v_isMetA v_metXA v_metYA v_lineA) H := hP
  have hD : va_D A (wdX5 G v_q0 v_q1 v_q2 v_q3 v_q4 v_q5 v_q6 v_q7 v_q8 v_q9 v_q10 v_q11 v_q12 v_q13 v_q14 v_q15 v_q16 v_thrown v_gain v_size v_w v_s v_h v_laidArea v_parts v_isMinus v_readSpot v_isStar v_wantsNumber 0 v_shiftX v_shiftY 0 v_dotsLaid v_joinedLaid v_hash v_isThereA v_vA v_spotOfA v_inMiddleA v_tintsA v_bufferA v_valuesA v_ranksA v_oldRanksA v_partA v_allRanksA v_basesA v_isMetA v_metXA v_metYA v_lineA) := hD
  refine lv_aload_n hx hb dX5_follow_10 rfl (lv_at hl 0 rfl) ?_
  refine lv_iload_n hx hb dX5_follow_11 rfl (lv_at hl 1 rfl) ?_
  refine lv_aload_n hx hb dX5_follow_12 rfl (lv_at hl 0 rfl) ?_
  refine va_get (D := G.1) (ci := 5) (v := .int v_w) (C := RX5) (T := TX5) (N := 35) hx hb hts fw_X5_follow_X5 hown hK.1 hP 0 rfl rfl 9 (by decide) (hts (.fieldLink RX5 89 "HalftoneScreensModel" "w" "I") lk_X5_follow_f89) (fun _ h9 => h9) rfl dX5_follow_13 ?_
  obtain ⟨z1, h⟩ := gz_e h
  refine lv_irem hx hb dX5_follow_16 z1 ?_
  refine lv_iload_n hx hb dX5_follow_17 rfl (lv_at hl 1 rfl) ?_
  refine lv_aload_n hx hb dX5_follow_18 rfl (lv_at hl 0 rfl) ?_
  refine va_get (D := G.1) (ci := 5) (v := .int v_w) (C := RX5) (T := TX5) (N := 35) hx hb hts fw_X5_follow_X5 hown hK.1 hP 0 rfl rfl 9 (by decide) (hts (.fieldLink RX5 89 "HalftoneScreensModel" "w" "I") lk_X5_follow_f89) (fun _ h9 => h9) rfl dX5_follow_19 ?_
  obtain ⟨z2, h⟩ := gz_e h
  refine lv_idiv hx hb dX5_follow_22 z2 ?_
  obtain ⟨r3_0, r3_1, r3_2, r3_3, r3_4, g3, h⟩ := bnd5_e h
  refine rwV_same (rest := []) (As := [.int (a0 - a0 / v_w * v_w), .int (a0 / v_w)]) S (ctX5_meet l G v_q0 v_q1 v_q2 v_q3 v_q4 v_q5 v_q6 v_q7 v_q8 v_q9 v_q10 v_q11 v_q12 v_q13 v_q14 v_q15 v_q16 v_thrown v_gain v_size v_w v_s v_h v_laidArea v_parts v_isMinus v_readSpot v_isStar v_wantsNumber 0 v_shiftX v_shiftY 0 v_dotsLaid v_joinedLaid v_hash v_isThereA v_vA v_spotOfA v_inMiddleA v_tintsA v_bufferA v_valuesA v_ranksA v_oldRanksA v_partA v_allRanksA v_basesA v_isMetA v_metXA v_metYA v_lineA (a0 - a0 / v_w * v_w) (a0 / v_w) r3_0 r3_1 r3_2 r3_3 r3_4 g3) (cwV 2 hts gX5_follow_X5_meet rfl rfl rfl hvX5_meet ⟨Nat.le_of_ble_eq_true rfl, Nat.le_of_ble_eq_true rfl⟩) hK hP hD hS xb_triv (fun _ _ _ => trivial) 0 5 rfl rfl rfl rfl hl.1 rfl (Nat.le_of_ble_eq_true rfl) dX5_follow_23 ⟨Nat.le_refl _, Nat.le_refl _⟩ (fun _ H locs hP hD hS => ?_)
  have hP : va_P G.1 vwCl (wdX5 G v_q0 v_q1 v_q2 v_q3 v_q4 v_q5 v_q6 v_q7 v_q8 v_q9 v_q10 v_q11 v_q12 v_q13 v_q14 v_q15 v_q16 v_thrown v_gain v_size v_w v_s v_h v_laidArea v_parts v_isMinus v_readSpot v_isStar v_wantsNumber r3_0 v_shiftX v_shiftY 0 v_dotsLaid v_joinedLaid v_hash v_isThereA v_vA v_spotOfA v_inMiddleA v_tintsA v_bufferA v_valuesA v_ranksA v_oldRanksA v_partA v_allRanksA v_basesA r3_1 r3_2 r3_3 r3_4) H := hP
  have hD : va_D A (wdX5 G v_q0 v_q1 v_q2 v_q3 v_q4 v_q5 v_q6 v_q7 v_q8 v_q9 v_q10 v_q11 v_q12 v_q13 v_q14 v_q15 v_q16 v_thrown v_gain v_size v_w v_s v_h v_laidArea v_parts v_isMinus v_readSpot v_isStar v_wantsNumber r3_0 v_shiftX v_shiftY 0 v_dotsLaid v_joinedLaid v_hash v_isThereA v_vA v_spotOfA v_inMiddleA v_tintsA v_bufferA v_valuesA v_ranksA v_oldRanksA v_partA v_allRanksA v_basesA r3_1 r3_2 r3_3 r3_4) := hD
  refine lv_iconst (v := 0) hx hb dX5_follow_26 (by decide) ?_
  refine lv_istore_n (lv' := [(3, .int 0), (0, .ref v_q0), (1, .int a0), (2, .int a1)]) hx hb dX5_follow_27 rfl hl (by decide) rfl (fun ls hl => ?_)
  obtain ⟨u4_0, u4_1, u4_2, u4_3, u4_4, u4_5, u4_6, u4_7, u4_8, g4, h⟩ := bnd9_e h
  have L4 : ∀ (fu : Nat) (v4_0 : Int32) (v4_1 : Int32) (v4_2 : Int32) (v4_3 : Int32) (v4_4 : Int32) (v4_5 : (Nat → Int32)) (v4_6 : (Nat → Int32)) (v4_7 : (Nat → Int32)) (v4_8 : (Nat → Int32)) (u4_0 : Int32) (u4_1 : Int32) (u4_2 : Int32) (u4_3 : Int32) (u4_4 : Int32) (u4_5 : (Nat → Int32)) (u4_6 : (Nat → Int32)) (u4_7 : (Nat → Int32)) (u4_8 : (Nat → Int32)) (H : Heap) (locs : List Loc) (ls : Array Slot), mX5_follow_L28 v_w v_s v_h v_ranksA a1 fu v4_0 v4_1 v4_2 v4_3 v4_4 v4_5 v4_6 v4_7 v4_8 = some (u4_0, u4_1, u4_2, u4_3, u4_4, u4_5, u4_6, u4_7, u4_8) → lv_has ls 10 [(3, .int v4_0), (0, .ref v_q0), (1, .int a0), (2, .int a1)] → va_P G.1 vwCl (wdX5 G v_q0 v_q1 v_q2 v_q3 v_q4 v_q5 v_q6 v_q7 v_q8 v_q9 v_q10 v_q11 v_q12 v_q13 v_q14 v_q15 v_q16 v_thrown v_gain v_size v_w v_s v_h v_laidArea v_parts v_isMinus v_readSpot v_isStar v_wantsNumber v4_1 v4_2 v4_3 v4_4 v_dotsLaid v_joinedLaid v_hash v_isThereA v_vA v_spotOfA v_inMiddleA v_tintsA v_bufferA v_valuesA v_ranksA v_oldRanksA v_partA v_allRanksA v_basesA v4_5 v4_6 v4_7 v4_8) H → va_D A (wdX5 G v_q0 v_q1 v_q2 v_q3 v_q4 v_q5 v_q6 v_q7 v_q8 v_q9 v_q10 v_q11 v_q12 v_q13 v_q14 v_q15 v_q16 v_thrown v_gain v_size v_w v_s v_h v_laidArea v_parts v_isMinus v_readSpot v_isStar v_wantsNumber v4_1 v4_2 v4_3 v4_4 v_dotsLaid v_joinedLaid v_hash v_isThereA v_vA v_spotOfA v_inMiddleA v_tintsA v_bufferA v_valuesA v_ranksA v_oldRanksA v_partA v_allRanksA v_basesA v4_5 v4_6 v4_7 v4_8) → va_S A s.heap H locs → (∀ (H : Heap) (locs : List Loc) (ls : Array Slot), lv_has ls 10 [(3, .int u4_0), (0, .ref v_q0), (1, .int a0), (2, .int a1)] → va_P G.1 vwCl (wdX5 G v_q0 v_q1 v_q2 v_q3 v_q4 v_q5 v_q6 v_q7 v_q8 v_q9 v_q10 v_q11 v_q12 v_q13 v_q14 v_q15 v_q16 v_thrown v_gain v_size v_w v_s v_h v_laidArea v_parts v_isMinus v_readSpot v_isStar v_wantsNumber u4_1 u4_2 u4_3 u4_4 v_dotsLaid v_joinedLaid v_hash v_isThereA v_vA v_spotOfA v_inMiddleA v_tintsA v_bufferA v_valuesA v_ranksA v_oldRanksA v_partA v_allRanksA v_basesA u4_5 u4_6 u4_7 u4_8) H → va_D A (wdX5 G v_q0 v_q1 v_q2 v_q3 v_q4 v_q5 v_q6 v_q7 v_q8 v_q9 v_q10 v_q11 v_q12 v_q13 v_q14 v_q15 v_q16 v_thrown v_gain v_size v_w v_s v_h v_laidArea v_parts v_isMinus v_readSpot v_isStar v_wantsNumber u4_1 u4_2 u4_3 u4_4 v_dotsLaid v_joinedLaid v_hash v_isThereA v_vA v_spotOfA v_inMiddleA v_tintsA v_bufferA v_valuesA v_ranksA v_oldRanksA v_partA v_allRanksA v_basesA u4_5 u4_6 u4_7 u4_8) → va_S A s.heap H locs → W p l e rmX5_follow s m args below meth c H locs 0 0 Q (F0 m 211 ls [])) → W p l e rmX5_follow s m args below meth c H locs 0 0 Q (F0 m 28 ls []) := by
    intro fu
    induction fu with
    | zero => intro v4_0 v4_1 v4_2 v4_3 v4_4 v4_5 v4_6 v4_7 v4_8 u4_0 u4_1 u4_2 u4_3 u4_4 u4_5 u4_6 u4_7 u4_8 H locs ls h; exact nomatch h
    | succ fu ih =>
      intro v4_0 v4_1 v4_2 v4_3 v4_4 v4_5 v4_6 v4_7 v4_8 u4_0 u4_1 u4_2 u4_3 u4_4 u4_5 u4_6 u4_7 u4_8 H locs ls h hl hP hD hS kE
      rw [mX5_follow_L28] at h
      refine lv_iload_n hx hb dX5_follow_28 rfl (lv_at hl 0 rfl) ?_
      refine lv_aload_n hx hb dX5_follow_29 rfl (lv_at hl 1 rfl) ?_
      refine va_get (D := G.1) (ci := 5) (v := .int v4_1) (C := RX5) (T := TX5) (N := 35) hx hb hts fw_X5_follow_X5 hown hK.1 hP 0 rfl rfl 28 (by decide) (hts (.fieldLink RX5 213 "HalftoneScreensModel" "waiting" "I") lk_X5_follow_f213) (fun _ h9 => h9) rfl dX5_follow_30 ?_
      refine lv_icmp_ge (tgt := 211) hx hb dX5_follow_33 (by decide) (fun c5 => ?_) (fun c5 => ?_)
      · replace h := ite_t c5 h
        obtain ⟨rfl, rfl, rfl, rfl, rfl, rfl, rfl, rfl, rfl⟩ := sm9 h
        exact kE H locs ls hl hP hD hS
      · replace h := ite_f c5 h
        refine lv_aload_n hx hb dX5_follow_36 rfl (lv_at hl 1 rfl) ?_
        refine va_get (D := G.1) (ci := 5) (v := .ref v_q14) (C := RX5) (T := TX5) (N := 35) hx hb hts fw_X5_follow_X5 hown hK.1 hP 0 rfl rfl 25 (by decide) (hts (.fieldLink RX5 50 "HalftoneScreensModel" "metX" "[I") lk_X5_follow_f50) (fun _ h9 => h9) rfl dX5_follow_37 ?_
        refine lv_aload_n hx hb dX5_follow_40 rfl (lv_at hl 1 rfl) ?_
        refine va_get (D := G.1) (ci := 5) (v := .ref v_q16) (C := RX5) (T := TX5) (N := 35) hx hb hts fw_X5_follow_X5 hown hK.1 hP 0 rfl rfl 27 (by decide) (hts (.fieldLink RX5 56 "HalftoneScreensModel" "line" "[I") lk_X5_follow_f56) (fun _ h9 => h9) rfl dX5_follow_41 ?_
        refine lv_iload_n hx hb dX5_follow_44 rfl (lv_at hl 0 rfl) ?_
        obtain ⟨i6, h⟩ := gd_e h
        refine va_iald hx hb hK.1 hP 16 0 rfl rfl i6 dX5_follow_45 ?_
        obtain ⟨i7, h⟩ := gd_e h
        refine va_iald hx hb hK.1 hP 14 0 rfl rfl i7 dX5_follow_46 ?_
        refine lv_topi (fun x8 e8 => ?_)
        replace h := nmB_e e8 h
        refine lv_istore (lv' := [(4, .int x8), (3, .int v4_0), (0, .ref v_q0), (1, .int a0), (2, .int a1)]) hx hb dX5_follow_47 hl (by decide) rfl (fun ls hl => ?_)
        refine lv_aload_n hx hb dX5_follow_49 rfl (lv_at hl 2 rfl) ?_
        refine va_get (D := G.1) (ci := 5) (v := .ref v_q15) (C := RX5) (T := TX5) (N := 35) hx hb hts fw_X5_follow_X5 hown hK.1 hP 0 rfl rfl 26 (by decide) (hts (.fieldLink RX5 53 "HalftoneScreensModel" "metY" "[I") lk_X5_follow_f53) (fun _ h9 => h9) rfl dX5_follow_50 ?_
        refine lv_aload_n hx hb dX5_follow_53 rfl (lv_at hl 2 rfl) ?_
        refine va_get (D := G.1) (ci := 5) (v := .ref v_q16) (C := RX5) (T := TX5) (N := 35) hx hb hts fw_X5_follow_X5 hown hK.1 hP 0 rfl rfl 27 (by decide) (hts (.fieldLink RX5 56 "HalftoneScreensModel" "line" "[I") lk_X5_follow_f56) (fun _ h9 => h9) rfl dX5_follow_54 ?_
        refine lv_iload_n hx hb dX5_follow_57 rfl (lv_at hl 1 rfl) ?_
        obtain ⟨i9, h⟩ := gd_e h
        refine va_iald hx hb hK.1 hP 16 0 rfl rfl i9 dX5_follow_58 ?_
        obtain ⟨i10, h⟩ := gd_e h
        refine va_iald hx hb hK.1 hP 15 0 rfl rfl i10 dX5_follow_59 ?_
        refine lv_topi (fun x11 e11 => ?_)
        replace h := nmB_e e11 h
        refine lv_istore (lv' := [(5, .int x11), (4, .int x8), (3, .int v4_0), (0, .ref v_q0), (1, .int a0), (2, .int a1)]) hx hb dX5_follow_60 hl (by decide) rfl (fun ls hl => ?_)
        refine lv_iconst (v := 0) hx hb dX5_follow_62 (by decide) ?_
        refine lv_istore (lv' := [(6, .int 0), (5, .int x11), (4, .int x8), (3, .int v4_0), (0, .ref v_q0), (1, .int a0), (2, .int a1)]) hx hb dX5_follow_63 hl (by decide) rfl (fun ls hl => ?_)
        obtain ⟨u12_0, u12_1, u12_2, u12_3, u12_4, u12_5, u12_6, u12_7, u12_8, g12, h⟩ := bnd9_e h
        have L12 : ∀ (fu : Nat) (v12_0 : Int32) (v12_1 : Int32) (v12_2 : Int32) (v12_3 : Int32) (v12_4 : Int32) (v12_5 : (Nat → Int32)) (v12_6 : (Nat → Int32)) (v12_7 : (Nat → Int32)) (v12_8 : (Nat → Int32)) (u12_0 : Int32) (u12_1 : Int32) (u12_2 : Int32) (u12_3 : Int32) (u12_4 : Int32) (u12_5 : (Nat → Int32)) (u12_6 : (Nat → Int32)) (u12_7 : (Nat → Int32)) (u12_8 : (Nat → Int32)) (H : Heap) (locs : List Loc) (ls : Array Slot), mX5_follow_L65 v_w v_s v_h v_ranksA a1 x8 x11 fu v12_0 v12_1 v12_2 v12_3 v12_4 v12_5 v12_6 v12_7 v12_8 = some (u12_0, u12_1, u12_2, u12_3, u12_4, u12_5, u12_6, u12_7, u12_8) → lv_has ls 10 [(6, .int v12_0), (5, .int x11), (4, .int x8), (3, .int v4_0), (0, .ref v_q0), (1, .int a0), (2, .int a1)] → va_P G.1 vwCl (wdX5 G v_q0 v_q1 v_q2 v_q3 v_q4 v_q5 v_q6 v_q7 v_q8 v_q9 v_q10 v_q11 v_q12 v_q13 v_q14 v_q15 v_q16 v_thrown v_gain v_size v_w v_s v_h v_laidArea v_parts v_isMinus v_readSpot v_isStar v_wantsNumber v12_1 v12_2 v12_3 v12_4 v_dotsLaid v_joinedLaid v_hash v_isThereA v_vA v_spotOfA v_inMiddleA v_tintsA v_bufferA v_valuesA v_ranksA v_oldRanksA v_partA v_allRanksA v_basesA v12_5 v12_6 v12_7 v12_8) H → va_D A (wdX5 G v_q0 v_q1 v_q2 v_q3 v_q4 v_q5 v_q6 v_q7 v_q8 v_q9 v_q10 v_q11 v_q12 v_q13 v_q14 v_q15 v_q16 v_thrown v_gain v_size v_w v_s v_h v_laidArea v_parts v_isMinus v_readSpot v_isStar v_wantsNumber v12_1 v12_2 v12_3 v12_4 v_dotsLaid v_joinedLaid v_hash v_isThereA v_vA v_spotOfA v_inMiddleA v_tintsA v_bufferA v_valuesA v_ranksA v_oldRanksA v_partA v_allRanksA v_basesA v12_5 v12_6 v12_7 v12_8) → va_S A s.heap H locs → (∀ (H : Heap) (locs : List Loc) (ls : Array Slot), lv_has ls 10 [(6, .int u12_0), (5, .int x11), (4, .int x8), (3, .int v4_0), (0, .ref v_q0), (1, .int a0), (2, .int a1)] → va_P G.1 vwCl (wdX5 G v_q0 v_q1 v_q2 v_q3 v_q4 v_q5 v_q6 v_q7 v_q8 v_q9 v_q10 v_q11 v_q12 v_q13 v_q14 v_q15 v_q16 v_thrown v_gain v_size v_w v_s v_h v_laidArea v_parts v_isMinus v_readSpot v_isStar v_wantsNumber u12_1 u12_2 u12_3 u12_4 v_dotsLaid v_joinedLaid v_hash v_isThereA v_vA v_spotOfA v_inMiddleA v_tintsA v_bufferA v_valuesA v_ranksA v_oldRanksA v_partA v_allRanksA v_basesA u12_5 u12_6 u12_7 u12_8) H → va_D A (wdX5 G v_q0 v_q1 v_q2 v_q3 v_q4 v_q5 v_q6 v_q7 v_q8 v_q9 v_q10 v_q11 v_q12 v_q13 v_q14 v_q15 v_q16 v_thrown v_gain v_size v_w v_s v_h v_laidArea v_parts v_isMinus v_readSpot v_isStar v_wantsNumber u12_1 u12_2 u12_3 u12_4 v_dotsLaid v_joinedLaid v_hash v_isThereA v_vA v_spotOfA v_inMiddleA v_tintsA v_bufferA v_valuesA v_ranksA v_oldRanksA v_partA v_allRanksA v_basesA u12_5 u12_6 u12_7 u12_8) → va_S A s.heap H locs → W p l e rmX5_follow s m args below meth c H locs 0 0 Q (F0 m 205 ls [])) → W p l e rmX5_follow s m args below meth c H locs 0 0 Q (F0 m 65 ls []) := by
          intro fu
          induction fu with
          | zero => intro v12_0 v12_1 v12_2 v12_3 v12_4 v12_5 v12_6 v12_7 v12_8 u12_0 u12_1 u12_2 u12_3 u12_4 u12_5 u12_6 u12_7 u12_8 H locs ls h; exact nomatch h
          | succ fu ih =>
            intro v12_0 v12_1 v12_2 v12_3 v12_4 v12_5 v12_6 v12_7 v12_8 u12_0 u12_1 u12_2 u12_3 u12_4 u12_5 u12_6 u12_7 u12_8 H locs ls h hl hP hD hS kE
            rw [mX5_follow_L65] at h
            refine lv_iload hx hb dX5_follow_65 (lv_at hl 0 rfl) ?_
            refine lv_iconst (v := 4) hx hb dX5_follow_67 (by decide) ?_
            refine lv_icmp_ge (tgt := 205) hx hb dX5_follow_68 (by decide) (fun c13 => ?_) (fun c13 => ?_)
            · replace h := ite_t c13 h
              obtain ⟨rfl, rfl, rfl, rfl, rfl, rfl, rfl, rfl, rfl⟩ := sm9 h
              exact kE H locs ls hl hP hD hS
            · replace h := ite_f c13 h
              refine lv_iload hx hb dX5_follow_71 (lv_at hl 2 rfl) ?_
              refine lv_iload hx hb dX5_follow_73 (lv_at hl 0 rfl) ?_
              obtain ⟨K14, hK14, h⟩ := jB1_e h
              have J14 : ∀ (j14_0 : Int32) (H : Heap) (locs : List Loc) (ls : Array Slot), K14 j14_0 = some (u12_0, u12_1, u12_2, u12_3, u12_4, u12_5, u12_6, u12_7, u12_8) → lv_has ls 10 [(6, .int v12_0), (5, .int x11), (4, .int x8), (3, .int v4_0), (0, .ref v_q0), (1, .int a0), (2, .int a1)] → va_P G.1 vwCl (wdX5 G v_q0 v_q1 v_q2 v_q3 v_q4 v_q5 v_q6 v_q7 v_q8 v_q9 v_q10 v_q11 v_q12 v_q13 v_q14 v_q15 v_q16 v_thrown v_gain v_size v_w v_s v_h v_laidArea v_parts v_isMinus v_readSpot v_isStar v_wantsNumber v12_1 v12_2 v12_3 v12_4 v_dotsLaid v_joinedLaid v_hash v_isThereA v_vA v_spotOfA v_inMiddleA v_tintsA v_bufferA v_valuesA v_ranksA v_oldRanksA v_partA v_allRanksA v_basesA v12_5 v12_6 v12_7 v12_8) H → va_D A (wdX5 G v_q0 v_q1 v_q2 v_q3 v_q4 v_q5 v_q6 v_q7 v_q8 v_q9 v_q10 v_q11 v_q12 v_q13 v_q14 v_q15 v_q16 v_thrown v_gain v_size v_w v_s v_h v_laidArea v_parts v_isMinus v_readSpot v_isStar v_wantsNumber v12_1 v12_2 v12_3 v12_4 v_dotsLaid v_joinedLaid v_hash v_isThereA v_vA v_spotOfA v_inMiddleA v_tintsA v_bufferA v_valuesA v_ranksA v_oldRanksA v_partA v_allRanksA v_basesA v12_5 v12_6 v12_7 v12_8) → va_S A s.heap H locs → W p l e rmX5_follow s m args below meth c H locs 0 0 Q (F0 m 93 ls [.int j14_0, .int x8]) := by
                intro j14_0 H locs ls h hl hP hD hS
                replace h := (hK14 j14_0).symm.trans h
                refine lv_iadd hx hb dX5_follow_93 ?_
                refine lv_topi (fun x17 e17 => ?_)
                replace h := nmB_e e17 h
                refine lv_istore (lv' := [(7, .int x17), (6, .int v12_0), (5, .int x11), (4, .int x8), (3, .int v4_0), (0, .ref v_q0), (1, .int a0), (2, .int a1)]) hx hb dX5_follow_94 hl (by decide) rfl (fun ls hl => ?_)
                refine lv_iload hx hb dX5_follow_96 (lv_at hl 2 rfl) ?_
                refine lv_iload hx hb dX5_follow_98 (lv_at hl 1 rfl) ?_
                refine lv_iconst (v := 2) hx hb dX5_follow_100 (by decide) ?_
                obtain ⟨K18, hK18, h⟩ := jB1_e h
                have J18 : ∀ (j18_0 : Int32) (H : Heap) (locs : List Loc) (ls : Array Slot), K18 j18_0 = some (u12_0, u12_1, u12_2, u12_3, u12_4, u12_5, u12_6, u12_7, u12_8) → lv_has ls 10 [(7, .int x17), (6, .int v12_0), (5, .int x11), (4, .int x8), (3, .int v4_0), (0, .ref v_q0), (1, .int a0), (2, .int a1)] → va_P G.1 vwCl (wdX5 G v_q0 v_q1 v_q2 v_q3 v_q4 v_q5 v_q6 v_q7 v_q8 v_q9 v_q10 v_q11 v_q12 v_q13 v_q14 v_q15 v_q16 v_thrown v_gain v_size v_w v_s v_h v_laidArea v_parts v_isMinus v_readSpot v_isStar v_wantsNumber v12_1 v12_2 v12_3 v12_4 v_dotsLaid v_joinedLaid v_hash v_isThereA v_vA v_spotOfA v_inMiddleA v_tintsA v_bufferA v_valuesA v_ranksA v_oldRanksA v_partA v_allRanksA v_basesA v12_5 v12_6 v12_7 v12_8) H → va_D A (wdX5 G v_q0 v_q1 v_q2 v_q3 v_q4 v_q5 v_q6 v_q7 v_q8 v_q9 v_q10 v_q11 v_q12 v_q13 v_q14 v_q15 v_q16 v_thrown v_gain v_size v_w v_s v_h v_laidArea v_parts v_isMinus v_readSpot v_isStar v_wantsNumber v12_1 v12_2 v12_3 v12_4 v_dotsLaid v_joinedLaid v_hash v_isThereA v_vA v_spotOfA v_inMiddleA v_tintsA v_bufferA v_valuesA v_ranksA v_oldRanksA v_partA v_allRanksA v_basesA v12_5 v12_6 v12_7 v12_8) → va_S A s.heap H locs → W p l e rmX5_follow s m args below meth c H locs 0 0 Q (F0 m 119 ls [.int j18_0, .int x11]) := by
                  intro j18_0 H locs ls h hl hP hD hS
                  replace h := (hK18 j18_0).symm.trans h
                  refine lv_iadd hx hb dX5_follow_119 ?_
                  refine lv_topi (fun x21 e21 => ?_)
                  replace h := nmB_e e21 h
                  refine lv_istore (lv' := [(8, .int x21), (7, .int x17), (6, .int v12_0), (5, .int x11), (4, .int x8), (3, .int v4_0), (0, .ref v_q0), (1, .int a0), (2, .int a1)]) hx hb dX5_follow_120 hl (by decide) rfl (fun ls hl => ?_)
                  refine lv_aload_n hx hb dX5_follow_122 rfl (lv_at hl 6 rfl) ?_
                  refine lv_iload hx hb dX5_follow_123 (lv_at hl 1 rfl) ?_
                  refine lv_iload hx hb dX5_follow_125 (lv_at hl 0 rfl) ?_
                  obtain ⟨r22_0, g22, h⟩ := bnd1_e h
                  refine roVi1 (rest := []) (As := [.int x17, .int x21]) S (ctX5_placeAt l G v_q0 v_q1 v_q2 v_q3 v_q4 v_q5 v_q6 v_q7 v_q8 v_q9 v_q10 v_q11 v_q12 v_q13 v_q14 v_q15 v_q16 v_thrown v_gain v_size v_w v_s v_h v_laidArea v_parts v_isMinus v_readSpot v_isStar v_wantsNumber v12_1 v12_2 v12_3 v12_4 v_dotsLaid v_joinedLaid v_hash v_isThereA v_vA v_spotOfA v_inMiddleA v_tintsA v_bufferA v_valuesA v_ranksA v_oldRanksA v_partA v_allRanksA v_basesA v12_5 v12_6 v12_7 v12_8 x17 x21 r22_0 g22) (cwV 2 hts gX5_follow_X5_placeAt rfl rfl rfl hvX5_placeAt ⟨Nat.le_of_ble_eq_true rfl, Nat.le_of_ble_eq_true rfl⟩) hK hP [0, 1, 2, 3, 4, 5, 6, 7, 8, 9, 10, 11, 12, 13, 14, 15, 16] rfl 0 5 rfl rfl rfl rfl hl.1 rfl (Nat.le_of_ble_eq_true rfl) dX5_follow_127 ⟨Nat.le_refl _, Nat.le_refl _⟩ (fun _ => ?_)
                  refine lv_istore (lv' := [(9, .int r22_0), (8, .int x21), (7, .int x17), (6, .int v12_0), (5, .int x11), (4, .int x8), (3, .int v4_0), (0, .ref v_q0), (1, .int a0), (2, .int a1)]) hx hb dX5_follow_130 hl (by decide) rfl (fun ls hl => ?_)
                  refine lv_aload_n hx hb dX5_follow_132 rfl (lv_at hl 7 rfl) ?_
                  refine va_get (D := G.1) (ci := 5) (v := .ref v_q8) (C := RX5) (T := TX5) (N := 35) hx hb hts fw_X5_follow_X5 hown hK.1 hP 0 rfl rfl 13 (by decide) (hts (.fieldLink RX5 32 "HalftoneScreensModel" "ranks" "[I") lk_X5_follow_f32) (fun _ h9 => h9) rfl dX5_follow_133 ?_
                  refine lv_iload hx hb dX5_follow_136 (lv_at hl 0 rfl) ?_
                  obtain ⟨i23, h⟩ := gd_e h
                  refine va_iald hx hb hK.1 hP 8 0 rfl rfl i23 dX5_follow_138 ?_
                  refine lv_iload_n hx hb dX5_follow_139 rfl (lv_at hl 9 rfl) ?_
                  refine lv_icmp_ge (tgt := 180) hx hb dX5_follow_140 (by decide) (fun c24 => ?_) (fun c24 => ?_)
                  · replace h := ite_t c24 h
                    refine lv_aload_n hx hb dX5_follow_180 rfl (lv_at hl 7 rfl) ?_
                    refine va_get (D := G.1) (ci := 5) (v := .ref v_q8) (C := RX5) (T := TX5) (N := 35) hx hb hts fw_X5_follow_X5 hown hK.1 hP 0 rfl rfl 13 (by decide) (hts (.fieldLink RX5 32 "HalftoneScreensModel" "ranks" "[I") lk_X5_follow_f32) (fun _ h9 => h9) rfl dX5_follow_181 ?_
                    refine lv_iload hx hb dX5_follow_184 (lv_at hl 0 rfl) ?_
                    obtain ⟨i25, h⟩ := gd_e h
                    refine va_iald hx hb hK.1 hP 8 0 rfl rfl i25 dX5_follow_186 ?_
                    refine lv_iload_n hx hb dX5_follow_187 rfl (lv_at hl 9 rfl) ?_
                    refine lv_icmp_ge (tgt := 199) hx hb dX5_follow_188 (by decide) (fun c26 => ?_) (fun c26 => ?_)
                    · replace h := ite_t c26 h
                      obtain ⟨x27, e27⟩ : ∃ y : Int32, y = v12_0 + 1 := ⟨_, rfl⟩
                      replace h := nmB_e e27 h
                      refine lv_iinc (v := x27) (lv' := [(6, .int x27), (9, .int r22_0), (8, .int x21), (7, .int x17), (5, .int x11), (4, .int x8), (3, .int v4_0), (0, .ref v_q0), (1, .int a0), (2, .int a1)]) hx hb dX5_follow_199 hl (k := 3) rfl (by rw [e27]; rfl) (by decide) rfl (fun ls hl => ?_)
                      refine lv_goto (tgt := 65) hx hb dX5_follow_202 (by decide) ?_
                      exact ih x27 v12_1 v12_2 v12_3 v12_4 v12_5 v12_6 v12_7 v12_8 u12_0 u12_1 u12_2 u12_3 u12_4 u12_5 u12_6 u12_7 u12_8 H locs ls h (lv_sub hl [0, 4, 5, 6, 7, 8, 9] rfl) hP hD hS kE
                    · replace h := ite_f c26 h
                      refine lv_aload_n hx hb dX5_follow_191 rfl (lv_at hl 7 rfl) ?_
                      refine lv_iload hx hb dX5_follow_192 (lv_at hl 2 rfl) ?_
                      refine lv_iload hx hb dX5_follow_194 (lv_at hl 1 rfl) ?_
                      obtain ⟨r28_0, r28_1, r28_2, r28_3, r28_4, g28, h⟩ := bnd5_e h
                      refine rwV_same (rest := []) (As := [.int x17, .int x21]) S (ctX5_meet l G v_q0 v_q1 v_q2 v_q3 v_q4 v_q5 v_q6 v_q7 v_q8 v_q9 v_q10 v_q11 v_q12 v_q13 v_q14 v_q15 v_q16 v_thrown v_gain v_size v_w v_s v_h v_laidArea v_parts v_isMinus v_readSpot v_isStar v_wantsNumber v12_1 v12_2 v12_3 v12_4 v_dotsLaid v_joinedLaid v_hash v_isThereA v_vA v_spotOfA v_inMiddleA v_tintsA v_bufferA v_valuesA v_ranksA v_oldRanksA v_partA v_allRanksA v_basesA v12_5 v12_6 v12_7 v12_8 x17 x21 r28_0 r28_1 r28_2 r28_3 r28_4 g28) (cwV 2 hts gX5_follow_X5_meet rfl rfl rfl hvX5_meet ⟨Nat.le_of_ble_eq_true rfl, Nat.le_of_ble_eq_true rfl⟩) hK hP hD hS xb_triv (fun _ _ _ => trivial) 0 5 rfl rfl rfl rfl hl.1 rfl (Nat.le_of_ble_eq_true rfl) dX5_follow_196 ⟨Nat.le_refl _, Nat.le_refl _⟩ (fun _ H locs hP hD hS => ?_)
                      have hP : va_P G.1 vwCl (wdX5 G v_q0 v_q1 v_q2 v_q3 v_q4 v_q5 v_q6 v_q7 v_q8 v_q9 v_q10 v_q11 v_q12 v_q13 v_q14 v_q15 v_q16 v_thrown v_gain v_size v_w v_s v_h v_laidArea v_parts v_isMinus v_readSpot v_isStar v_wantsNumber r28_0 v12_2 v12_3 v12_4 v_dotsLaid v_joinedLaid v_hash v_isThereA v_vA v_spotOfA v_inMiddleA v_tintsA v_bufferA v_valuesA v_ranksA v_oldRanksA v_partA v_allRanksA v_basesA r28_1 r28_2 r28_3 r28_4) H := hP
                      have hD : va_D A (wdX5 G v_q0 v_q1 v_q2 v_q3 v_q4 v_q5 v_q6 v_q7 v_q8 v_q9 v_q10 v_q11 v_q12 v_q13 v_q14 v_q15 v_q16 v_thrown v_gain v_size v_w v_s v_h v_laidArea v_parts v_isMinus v_readSpot v_isStar v_wantsNumber r28_0 v12_2 v12_3 v12_4 v_dotsLaid v_joinedLaid v_hash v_isThereA v_vA v_spotOfA v_inMiddleA v_tintsA v_bufferA v_valuesA v_ranksA v_oldRanksA v_partA v_allRanksA v_basesA r28_1 r28_2 r28_3 r28_4) := hD
                      obtain ⟨x29, e29⟩ : ∃ y : Int32, y = v12_0 + 1 := ⟨_, rfl⟩
                      replace h := nmB_e e29 h
                      refine lv_iinc (v := x29) (lv' := [(6, .int x29), (9, .int r22_0), (8, .int x21), (7, .int x17), (5, .int x11), (4, .int x8), (3, .int v4_0), (0, .ref v_q0), (1, .int a0), (2, .int a1)]) hx hb dX5_follow_199 hl (k := 3) rfl (by rw [e29]; rfl) (by decide) rfl (fun ls hl => ?_)
                      refine lv_goto (tgt := 65) hx hb dX5_follow_202 (by decide) ?_
                      exact ih x29 r28_0 v12_2 v12_3 v12_4 r28_1 r28_2 r28_3 r28_4 u12_0 u12_1 u12_2 u12_3 u12_4 u12_5 u12_6 u12_7 u12_8 H locs ls h (lv_sub hl [0, 4, 5, 6, 7, 8, 9] rfl) hP hD hS kE
                  · replace h := ite_f c24 h
                    refine lv_aload_n hx hb dX5_follow_143 rfl (lv_at hl 7 rfl) ?_
                    refine va_get (D := G.1) (ci := 5) (v := .ref v_q13) (C := RX5) (T := TX5) (N := 35) hx hb hts fw_X5_follow_X5 hown hK.1 hP 0 rfl rfl 24 (by decide) (hts (.fieldLink RX5 47 "HalftoneScreensModel" "isMet" "[Z") lk_X5_follow_f47) (fun _ h9 => h9) rfl dX5_follow_144 ?_
                    refine lv_iload hx hb dX5_follow_147 (lv_at hl 0 rfl) ?_
                    obtain ⟨i30, h⟩ := gd_e h
                    refine va_zald hx hb hK.1 hP 13 1 rfl rfl i30 dX5_follow_149 ?_
                    refine lv_if_eq (tgt := 180) hx hb dX5_follow_150 (by decide) (fun c31 => ?_) (fun c31 => ?_)
                    · replace h := ite_t c31 h
                      refine lv_aload_n hx hb dX5_follow_180 rfl (lv_at hl 7 rfl) ?_
                      refine va_get (D := G.1) (ci := 5) (v := .ref v_q8) (C := RX5) (T := TX5) (N := 35) hx hb hts fw_X5_follow_X5 hown hK.1 hP 0 rfl rfl 13 (by decide) (hts (.fieldLink RX5 32 "HalftoneScreensModel" "ranks" "[I") lk_X5_follow_f32) (fun _ h9 => h9) rfl dX5_follow_181 ?_
                      refine lv_iload hx hb dX5_follow_184 (lv_at hl 0 rfl) ?_
                      obtain ⟨i32, h⟩ := gd_e h
                      refine va_iald hx hb hK.1 hP 8 0 rfl rfl i32 dX5_follow_186 ?_
                      refine lv_iload_n hx hb dX5_follow_187 rfl (lv_at hl 9 rfl) ?_
                      refine lv_icmp_ge (tgt := 199) hx hb dX5_follow_188 (by decide) (fun c33 => ?_) (fun c33 => ?_)
                      · replace h := ite_t c33 h
                        obtain ⟨x34, e34⟩ : ∃ y : Int32, y = v12_0 + 1 := ⟨_, rfl⟩
                        replace h := nmB_e e34 h
                        refine lv_iinc (v := x34) (lv' := [(6, .int x34), (9, .int r22_0), (8, .int x21), (7, .int x17), (5, .int x11), (4, .int x8), (3, .int v4_0), (0, .ref v_q0), (1, .int a0), (2, .int a1)]) hx hb dX5_follow_199 hl (k := 3) rfl (by rw [e34]; rfl) (by decide) rfl (fun ls hl => ?_)
                        refine lv_goto (tgt := 65) hx hb dX5_follow_202 (by decide) ?_
                        exact ih x34 v12_1 v12_2 v12_3 v12_4 v12_5 v12_6 v12_7 v12_8 u12_0 u12_1 u12_2 u12_3 u12_4 u12_5 u12_6 u12_7 u12_8 H locs ls h (lv_sub hl [0, 4, 5, 6, 7, 8, 9] rfl) hP hD hS kE
                      · replace h := ite_f c33 h
                        refine lv_aload_n hx hb dX5_follow_191 rfl (lv_at hl 7 rfl) ?_
                        refine lv_iload hx hb dX5_follow_192 (lv_at hl 2 rfl) ?_
                        refine lv_iload hx hb dX5_follow_194 (lv_at hl 1 rfl) ?_
                        obtain ⟨r35_0, r35_1, r35_2, r35_3, r35_4, g35, h⟩ := bnd5_e h
                        refine rwV_same (rest := []) (As := [.int x17, .int x21]) S (ctX5_meet l G v_q0 v_q1 v_q2 v_q3 v_q4 v_q5 v_q6 v_q7 v_q8 v_q9 v_q10 v_q11 v_q12 v_q13 v_q14 v_q15 v_q16 v_thrown v_gain v_size v_w v_s v_h v_laidArea v_parts v_isMinus v_readSpot v_isStar v_wantsNumber v12_1 v12_2 v12_3 v12_4 v_dotsLaid v_joinedLaid v_hash v_isThereA v_vA v_spotOfA v_inMiddleA v_tintsA v_bufferA v_valuesA v_ranksA v_oldRanksA v_partA v_allRanksA v_basesA v12_5 v12_6 v12_7 v12_8 x17 x21 r35_0 r35_1 r35_2 r35_3 r35_4 g35) (cwV 2 hts gX5_follow_X5_meet rfl rfl rfl hvX5_meet ⟨Nat.le_of_ble_eq_true rfl, Nat.le_of_ble_eq_true rfl⟩) hK hP hD hS xb_triv (fun _ _ _ => trivial) 0 5 rfl rfl rfl rfl hl.1 rfl (Nat.le_of_ble_eq_true rfl) dX5_follow_196 ⟨Nat.le_refl _, Nat.le_refl _⟩ (fun _ H locs hP hD hS => ?_)
                        have hP : va_P G.1 vwCl (wdX5 G v_q0 v_q1 v_q2 v_q3 v_q4 v_q5 v_q6 v_q7 v_q8 v_q9 v_q10 v_q11 v_q12 v_q13 v_q14 v_q15 v_q16 v_thrown v_gain v_size v_w v_s v_h v_laidArea v_parts v_isMinus v_readSpot v_isStar v_wantsNumber r35_0 v12_2 v12_3 v12_4 v_dotsLaid v_joinedLaid v_hash v_isThereA v_vA v_spotOfA v_inMiddleA v_tintsA v_bufferA v_valuesA v_ranksA v_oldRanksA v_partA v_allRanksA v_basesA r35_1 r35_2 r35_3 r35_4) H := hP
                        have hD : va_D A (wdX5 G v_q0 v_q1 v_q2 v_q3 v_q4 v_q5 v_q6 v_q7 v_q8 v_q9 v_q10 v_q11 v_q12 v_q13 v_q14 v_q15 v_q16 v_thrown v_gain v_size v_w v_s v_h v_laidArea v_parts v_isMinus v_readSpot v_isStar v_wantsNumber r35_0 v12_2 v12_3 v12_4 v_dotsLaid v_joinedLaid v_hash v_isThereA v_vA v_spotOfA v_inMiddleA v_tintsA v_bufferA v_valuesA v_ranksA v_oldRanksA v_partA v_allRanksA v_basesA r35_1 r35_2 r35_3 r35_4) := hD
                        obtain ⟨x36, e36⟩ : ∃ y : Int32, y = v12_0 + 1 := ⟨_, rfl⟩
                        replace h := nmB_e e36 h
                        refine lv_iinc (v := x36) (lv' := [(6, .int x36), (9, .int r22_0), (8, .int x21), (7, .int x17), (5, .int x11), (4, .int x8), (3, .int v4_0), (0, .ref v_q0), (1, .int a0), (2, .int a1)]) hx hb dX5_follow_199 hl (k := 3) rfl (by rw [e36]; rfl) (by decide) rfl (fun ls hl => ?_)
                        refine lv_goto (tgt := 65) hx hb dX5_follow_202 (by decide) ?_
                        exact ih x36 r35_0 v12_2 v12_3 v12_4 r35_1 r35_2 r35_3 r35_4 u12_0 u12_1 u12_2 u12_3 u12_4 u12_5 u12_6 u12_7 u12_8 H locs ls h (lv_sub hl [0, 4, 5, 6, 7, 8, 9] rfl) hP hD hS kE
                    · replace h := ite_f c31 h
                      refine lv_aload_n hx hb dX5_follow_153 rfl (lv_at hl 7 rfl) ?_
                      refine lv_iload hx hb dX5_follow_154 (lv_at hl 2 rfl) ?_
                      refine lv_aload_n hx hb dX5_follow_156 rfl (lv_at hl 7 rfl) ?_
                      refine va_get (D := G.1) (ci := 5) (v := .ref v_q14) (C := RX5) (T := TX5) (N := 35) hx hb hts fw_X5_follow_X5 hown hK.1 hP 0 rfl rfl 25 (by decide) (hts (.fieldLink RX5 50 "HalftoneScreensModel" "metX" "[I") lk_X5_follow_f50) (fun _ h9 => h9) rfl dX5_follow_157 ?_
                      refine lv_iload hx hb dX5_follow_160 (lv_at hl 0 rfl) ?_
                      obtain ⟨i37, h⟩ := gd_e h
                      refine va_iald hx hb hK.1 hP 14 0 rfl rfl i37 dX5_follow_162 ?_
                      refine lv_isub hx hb dX5_follow_163 ?_
                      refine lv_iload hx hb dX5_follow_164 (lv_at hl 1 rfl) ?_
                      refine lv_aload_n hx hb dX5_follow_166 rfl (lv_at hl 7 rfl) ?_
                      refine va_get (D := G.1) (ci := 5) (v := .ref v_q15) (C := RX5) (T := TX5) (N := 35) hx hb hts fw_X5_follow_X5 hown hK.1 hP 0 rfl rfl 26 (by decide) (hts (.fieldLink RX5 53 "HalftoneScreensModel" "metY" "[I") lk_X5_follow_f53) (fun _ h9 => h9) rfl dX5_follow_167 ?_
                      refine lv_iload hx hb dX5_follow_170 (lv_at hl 0 rfl) ?_
                      obtain ⟨i38, h⟩ := gd_e h
                      refine va_iald hx hb hK.1 hP 15 0 rfl rfl i38 dX5_follow_172 ?_
                      refine lv_isub hx hb dX5_follow_173 ?_
                      obtain ⟨r39_0, r39_1, r39_2, g39, h⟩ := bnd3_e h
                      refine rwV_same (rest := []) (As := [.int (x17 - (v12_6 r22_0.toNatClampNeg)), .int (x21 - (v12_7 r22_0.toNatClampNeg))]) S (ctX5_shift l G v_q0 v_q1 v_q2 v_q3 v_q4 v_q5 v_q6 v_q7 v_q8 v_q9 v_q10 v_q11 v_q12 v_q13 v_q14 v_q15 v_q16 v_thrown v_gain v_size v_w v_s v_h v_laidArea v_parts v_isMinus v_readSpot v_isStar v_wantsNumber v12_1 v12_2 v12_3 v12_4 v_dotsLaid v_joinedLaid v_hash v_isThereA v_vA v_spotOfA v_inMiddleA v_tintsA v_bufferA v_valuesA v_ranksA v_oldRanksA v_partA v_allRanksA v_basesA v12_5 v12_6 v12_7 v12_8 (x17 - (v12_6 r22_0.toNatClampNeg)) (x21 - (v12_7 r22_0.toNatClampNeg)) r39_0 r39_1 r39_2 g39) (cwV 2 hts gX5_follow_X5_shift rfl rfl rfl hvX5_shift ⟨Nat.le_of_ble_eq_true rfl, Nat.le_of_ble_eq_true rfl⟩) hK hP hD hS xb_triv (fun _ _ _ => trivial) 0 5 rfl rfl rfl rfl hl.1 rfl (Nat.le_of_ble_eq_true rfl) dX5_follow_174 ⟨Nat.le_refl _, Nat.le_refl _⟩ (fun _ H locs hP hD hS => ?_)
                      have hP : va_P G.1 vwCl (wdX5 G v_q0 v_q1 v_q2 v_q3 v_q4 v_q5 v_q6 v_q7 v_q8 v_q9 v_q10 v_q11 v_q12 v_q13 v_q14 v_q15 v_q16 v_thrown v_gain v_size v_w v_s v_h v_laidArea v_parts v_isMinus v_readSpot v_isStar v_wantsNumber v12_1 r39_0 r39_1 r39_2 v_dotsLaid v_joinedLaid v_hash v_isThereA v_vA v_spotOfA v_inMiddleA v_tintsA v_bufferA v_valuesA v_ranksA v_oldRanksA v_partA v_allRanksA v_basesA v12_5 v12_6 v12_7 v12_8) H := hP
                      have hD : va_D A (wdX5 G v_q0 v_q1 v_q2 v_q3 v_q4 v_q5 v_q6 v_q7 v_q8 v_q9 v_q10 v_q11 v_q12 v_q13 v_q14 v_q15 v_q16 v_thrown v_gain v_size v_w v_s v_h v_laidArea v_parts v_isMinus v_readSpot v_isStar v_wantsNumber v12_1 r39_0 r39_1 r39_2 v_dotsLaid v_joinedLaid v_hash v_isThereA v_vA v_spotOfA v_inMiddleA v_tintsA v_bufferA v_valuesA v_ranksA v_oldRanksA v_partA v_allRanksA v_basesA v12_5 v12_6 v12_7 v12_8) := hD
                      refine lv_goto (tgt := 199) hx hb dX5_follow_177 (by decide) ?_
                      obtain ⟨x40, e40⟩ : ∃ y : Int32, y = v12_0 + 1 := ⟨_, rfl⟩
                      replace h := nmB_e e40 h
                      refine lv_iinc (v := x40) (lv' := [(6, .int x40), (9, .int r22_0), (8, .int x21), (7, .int x17), (5, .int x11), (4, .int x8), (3, .int v4_0), (0, .ref v_q0), (1, .int a0), (2, .int a1)]) hx hb dX5_follow_199 hl (k := 3) rfl (by rw [e40]; rfl) (by decide) rfl (fun ls hl => ?_)
                      refine lv_goto (tgt := 65) hx hb dX5_follow_202 (by decide) ?_
                      exact ih x40 v12_1 r39_0 r39_1 r39_2 v12_5 v12_6 v12_7 v12_8 u12_0 u12_1 u12_2 u12_3 u12_4 u12_5 u12_6 u12_7 u12_8 H locs ls h (lv_sub hl [0, 4, 5, 6, 7, 8, 9] rfl) hP hD hS kE
                refine lv_icmp_ne (tgt := 108) hx hb dX5_follow_101 (by decide) (fun c19 => ?_) (fun c19 => ?_)
                · replace h := ite_f c19 h
                  refine lv_iload hx hb dX5_follow_108 (lv_at hl 1 rfl) ?_
                  refine lv_iconst (v := 3) hx hb dX5_follow_110 (by decide) ?_
                  refine lv_icmp_ne (tgt := 118) hx hb dX5_follow_111 (by decide) (fun c20 => ?_) (fun c20 => ?_)
                  · replace h := ite_f c20 h
                    refine lv_iconst (v := 0) hx hb dX5_follow_118 (by decide) ?_
                    exact J18 0 H locs ls h hl hP hD hS
                  · replace h := ite_t c20 h
                    refine lv_iconst (v := (-1)) hx hb dX5_follow_114 (by decide) ?_
                    refine lv_goto (tgt := 119) hx hb dX5_follow_115 (by decide) ?_
                    exact J18 (-1) H locs ls h hl hP hD hS
                · replace h := ite_t c19 h
                  refine lv_iconst (v := 1) hx hb dX5_follow_104 (by decide) ?_
                  refine lv_goto (tgt := 119) hx hb dX5_follow_105 (by decide) ?_
                  exact J18 1 H locs ls h hl hP hD hS
              refine lv_if_ne (tgt := 82) hx hb dX5_follow_75 (by decide) (fun c15 => ?_) (fun c15 => ?_)
              · replace h := ite_f c15 h
                refine lv_iload hx hb dX5_follow_82 (lv_at hl 0 rfl) ?_
                refine lv_iconst (v := 1) hx hb dX5_follow_84 (by decide) ?_
                refine lv_icmp_ne (tgt := 92) hx hb dX5_follow_85 (by decide) (fun c16 => ?_) (fun c16 => ?_)
                · replace h := ite_f c16 h
                  refine lv_iconst (v := 0) hx hb dX5_follow_92 (by decide) ?_
                  exact J14 0 H locs ls h hl hP hD hS
                · replace h := ite_t c16 h
                  refine lv_iconst (v := (-1)) hx hb dX5_follow_88 (by decide) ?_
                  refine lv_goto (tgt := 93) hx hb dX5_follow_89 (by decide) ?_
                  exact J14 (-1) H locs ls h hl hP hD hS
              · replace h := ite_t c15 h
                refine lv_iconst (v := 1) hx hb dX5_follow_78 (by decide) ?_
                refine lv_goto (tgt := 93) hx hb dX5_follow_79 (by decide) ?_
                exact J14 1 H locs ls h hl hP hD hS
        refine L12 FU 0 v4_1 v4_2 v4_3 v4_4 v4_5 v4_6 v4_7 v4_8 u12_0 u12_1 u12_2 u12_3 u12_4 u12_5 u12_6 u12_7 u12_8 H locs ls g12 hl hP hD hS (fun H locs ls hl hP hD hS => ?_)
        obtain ⟨x41, e41⟩ : ∃ y : Int32, y = v4_0 + 1 := ⟨_, rfl⟩
        replace h := nmB_e e41 h
        refine lv_iinc (v := x41) (lv' := [(3, .int x41), (6, .int u12_0), (5, .int x11), (4, .int x8), (0, .ref v_q0), (1, .int a0), (2, .int a1)]) hx hb dX5_follow_205 hl (k := 3) rfl (by rw [e41]; rfl) (by decide) rfl (fun ls hl => ?_)
        refine lv_goto (tgt := 28) hx hb dX5_follow_208 (by decide) ?_
        exact ih x41 u12_1 u12_2 u12_3 u12_4 u12_5 u12_6 u12_7 u12_8 u4_0 u4_1 u4_2 u4_3 u4_4 u4_5 u4_6 u4_7 u4_8 H locs ls h (lv_sub hl [0, 4, 5, 6] rfl) hP hD hS kE
  refine L4 FU 0 r3_0 v_shiftX v_shiftY 0 r3_1 r3_2 r3_3 r3_4 u4_0 u4_1 u4_2 u4_3 u4_4 u4_5 u4_6 u4_7 u4_8 H locs ls g4 hl hP hD hS (fun H locs ls hl hP hD hS => ?_)
  refine lv_aload_n hx hb dX5_follow_211 rfl (lv_at hl 1 rfl) ?_
  refine va_get (D := G.1) (ci := 5) (v := .int u4_4) (C := RX5) (T := TX5) (N := 35) hx hb hts fw_X5_follow_X5 hown hK.1 hP 0 rfl rfl 31 (by decide) (hts (.fieldLink RX5 216 "HalftoneScreensModel" "times" "I") lk_X5_follow_f216) (fun _ h9 => h9) rfl dX5_follow_212 ?_
  obtain ⟨rfl, rfl, rfl, rfl, rfl, rfl, rfl, rfl, rfl⟩ := sm9 h
  exact hret _ _ _ _ _ rfl trivial rfl hP hD hS dX5_follow_215
theorem fw_X5_layDots_X5 : ∀ w ∈ wsX50, w ∈ wsX5_layDots := fun w h => List.mem_cons_of_mem _ (List.mem_append_right _ h)
theorem lk_X5_layDots_f231 : Cond.fieldLink RX5 231 "HalftoneScreensModel" "dotsLaid" "I" ∈ wsX5_layDots := List.mem_of_getElem? (i := 1) rfl
theorem lk_X5_layDots_f234 : Cond.fieldLink RX5 234 "HalftoneScreensModel" "joinedLaid" "I" ∈ wsX5_layDots := List.mem_of_getElem? (i := 2) rfl
theorem lk_X5_layDots_f113 : Cond.fieldLink RX5 113 "HalftoneScreensModel" "laidArea" "I" ∈ wsX5_layDots := List.mem_of_getElem? (i := 3) rfl
theorem lk_X5_layDots_f47 : Cond.fieldLink RX5 47 "HalftoneScreensModel" "isMet" "[Z" ∈ wsX5_layDots := List.mem_of_getElem? (i := 4) rfl
theorem lk_X5_layDots_f32 : Cond.fieldLink RX5 32 "HalftoneScreensModel" "ranks" "[I" ∈ wsX5_layDots := List.mem_of_getElem? (i := 5) rfl
theorem hsX5_follow : yX5_follow.cls ≠ "java/lang/invoke/MethodHandle" ∧ yX5_follow.cls ≠ "java/lang/invoke/VarHandle" ∧ (parseMethodDescriptor yX5_follow.desc).map (fun d => d.parameters.length) = some 2 := by decide +kernel
theorem hvX5_follow : yX5_follow.cls = RX5 ∧ yX5_follow.cls ≠ "java/lang/invoke/MethodHandle" ∧ yX5_follow.cls ≠ "java/lang/invoke/VarHandle" ∧ (parseMethodDescriptor yX5_follow.desc).map (fun d => d.parameters.length) = some 2 := ⟨rfl, hsX5_follow⟩
abbrev rmX5_layDots : Room := { frames := 5, cells := 0, slots := 0, locals := 118 }
set_option maxHeartbeats 4000000 in
set_option maxRecDepth 100000 in
theorem ctX5_layDots (l : Launch) (G : GG) (v_q0 : Nat) (v_q1 : Nat) (v_q2 : Nat) (v_q3 : Nat) (v_q4 : Nat) (v_q5 : Nat) (v_q6 : Nat) (v_q7 : Nat) (v_q8 : Nat) (v_q9 : Nat) (v_q10 : Nat) (v_q11 : Nat) (v_q12 : Nat) (v_q13 : Nat) (v_q14 : Nat) (v_q15 : Nat) (v_q16 : Nat) (v_thrown : Int32) (v_gain : Int32) (v_size : Int32) (v_w : Int32) (v_s : Int32) (v_h : Int32) (v_laidArea : Int32) (v_parts : Int32) (v_isMinus : Int32) (v_readSpot : Int32) (v_isStar : Int32) (v_wantsNumber : Int32) (v_waiting : Int32) (v_shiftX : Int32) (v_shiftY : Int32) (v_times : Int32) (v_dotsLaid : Int32) (v_joinedLaid : Int32) (v_hash : Int64) (v_isThereA : (Nat → Int32)) (v_vA : (Nat → Int32)) (v_spotOfA : (Nat → Int32)) (v_inMiddleA : (Nat → Int32)) (v_tintsA : (Nat → Int32)) (v_bufferA : (Nat → Int32)) (v_valuesA : (Nat → Int32)) (v_ranksA : (Nat → Int32)) (v_oldRanksA : (Nat → Int32)) (v_partA : (Nat → Int32)) (v_allRanksA : (Nat → Int32)) (v_basesA : (Nat → Int32)) (v_isMetA : (Nat → Int32)) (v_metXA : (Nat → Int32)) (v_metYA : (Nat → Int32)) (v_lineA : (Nat → Int32)) (a0 : Int32) (o0 : Int32) (o1 : Int32) (o2 : Int32) (o3 : Int32) (o4 : Int32) (o5 : Int32) (o6 : (Nat → Int32)) (o7 : (Nat → Int32)) (o8 : (Nat → Int32)) (o9 : (Nat → Int32)) (h : mX5_layDots v_w v_s v_h v_laidArea v_waiting v_shiftX v_shiftY v_times v_ranksA v_isMetA v_metXA v_metYA v_lineA a0 = some (o0, o1, o2, o3, o4, o5, o6, o7, o8, o9))  : Met l yX5_layDots wsX5_layDots rmX5_layDots (va_Pc [.ref v_q0, .int a0] (PreD G (wdX5 G v_q0 v_q1 v_q2 v_q3 v_q4 v_q5 v_q6 v_q7 v_q8 v_q9 v_q10 v_q11 v_q12 v_q13 v_q14 v_q15 v_q16 v_thrown v_gain v_size v_w v_s v_h v_laidArea v_parts v_isMinus v_readSpot v_isStar v_wantsNumber v_waiting v_shiftX v_shiftY v_times v_dotsLaid v_joinedLaid v_hash v_isThereA v_vA v_spotOfA v_inMiddleA v_tintsA v_bufferA v_valuesA v_ranksA v_oldRanksA v_partA v_allRanksA v_basesA v_isMetA v_metXA v_metYA v_lineA) (fun _ => True))) (QwA G (va_A0 (wdX5 G v_q0 v_q1 v_q2 v_q3 v_q4 v_q5 v_q6 v_q7 v_q8 v_q9 v_q10 v_q11 v_q12 v_q13 v_q14 v_q15 v_q16 v_thrown v_gain v_size v_w v_s v_h v_laidArea v_parts v_isMinus v_readSpot v_isStar v_wantsNumber v_waiting v_shiftX v_shiftY v_times v_dotsLaid v_joinedLaid v_hash v_isThereA v_vA v_spotOfA v_inMiddleA v_tintsA v_bufferA v_valuesA v_ranksA v_oldRanksA v_partA v_allRanksA v_basesA v_isMetA v_metXA v_metYA v_lineA)) (wdX5 G v_q0 v_q1 v_q2 v_q3 v_q4 v_q5 v_q6 v_q7 v_q8 v_q9 v_q10 v_q11 v_q12 v_q13 v_q14 v_q15 v_q16 v_thrown v_gain v_size v_w v_s v_h v_laidArea v_parts v_isMinus v_readSpot v_isStar v_wantsNumber o0 o1 o2 o3 o4 o5 v_hash v_isThereA v_vA v_spotOfA v_inMiddleA v_tintsA v_bufferA v_valuesA v_ranksA v_oldRanksA v_partA v_allRanksA v_basesA o6 o7 o8 o9) none True) 0 0 (va_A0 (wdX5 G v_q0 v_q1 v_q2 v_q3 v_q4 v_q5 v_q6 v_q7 v_q8 v_q9 v_q10 v_q11 v_q12 v_q13 v_q14 v_q15 v_q16 v_thrown v_gain v_size v_w v_s v_h v_laidArea v_parts v_isMinus v_readSpot v_isStar v_wantsNumber v_waiting v_shiftX v_shiftY v_times v_dotsLaid v_joinedLaid v_hash v_isThereA v_vA v_spotOfA v_inMiddleA v_tintsA v_bufferA v_valuesA v_ranksA v_oldRanksA v_partA v_allRanksA v_basesA v_isMetA v_metXA v_metYA v_lineA)) := by
  refine of_wv (cc := cX5_layDots) (maxL := 4) (plainFor_of_name (by decide)) rfl (Nat.le_of_ble_eq_true rfl) ?_
  intro p e s m args below meth c ls Q A S hl hP hD hS hK hX hA hret
  obtain ⟨H, hH⟩ : ∃ H, H = s.heap := ⟨_, rfl⟩
  obtain ⟨locs, hlocs⟩ : ∃ L : List Loc, L = [] := ⟨_, rfl⟩
  rw [← hlocs]
  rw [← hlocs] at hS
  have hP : va_P G.1 vwCl (wdX5 G v_q0 v_q1 v_q2 v_q3 v_q4 v_q5 v_q6 v_q7 v_q8 v_q9 v_q10 v_q11 v_q12 v_q13 v_q14 v_q15 v_q16 v_thrown v_gain v_size v_w v_s v_h v_laidArea v_parts v_isMinus v_readSpot v_isStar v_wantsNumber v_waiting v_shiftX v_shiftY v_times v_dotsLaid v_joinedLaid v_hash v_isThereA v_vA v_spotOfA v_inMiddleA v_tintsA v_bufferA v_valuesA v_ranksA v_oldRanksA v_partA v_allRanksA v_basesA v_isMetA v_metXA v_metYA v_lineA) H := by rw [hH]; exact hP
  have hS : va_S A s.heap H locs := by rw [hH]; exact hS
  suffices hgo : W p l e rmX5_layDots s m args below meth c H locs 0 0 Q (F0 m 0 ls []) by rw [hH] at hgo; exact hgo
  have S : CallFix p m c cX5_layDots 4 s args wsX5_layDots RX5 := S
  obtain ⟨hx, hb, hml, hown, hts⟩ := id S
  have hl : lv_has ls 4 [(0, .ref v_q0), (1, .int a0)] := hl
  unfold mX5_layDots at h
  refine lv_aload_n hx hb dX5_layDots_0 rfl (lv_at hl 0 rfl) ?_
  refine lv_iconst (v := 0) hx hb dX5_layDots_1 (by decide) ?_
  refine va_put (D := G.1) (ci := 5) (v := .int 0) (ty := .int) (C := RX5) (T := TX5) (N := 35) hx hb hts fw_X5_layDots_X5 tyX5 tyX5_ok nmX5 hown hK.1 hP hD hS 0 rfl rfl 32 (by decide) (hts (.fieldLink RX5 231 "HalftoneScreensModel" "dotsLaid" "I") lk_X5_layDots_f231) (fun _ h9 => h9) rfl (tyX5_ok 32 (by decide)) rfl rfl (Nat.le_of_ble_eq_true rfl) dX5_layDots_2 (fun H locs hP hD hS => ?_)
  have hP : va_P G.1 vwCl (wdX5 G v_q0 v_q1 v_q2 v_q3 v_q4 v_q5 v_q6 v_q7 v_q8 v_q9 v_q10 v_q11 v_q12 v_q13 v_q14 v_q15 v_q16 v_thrown v_gain v_size v_w v_s v_h v_laidArea v_parts v_isMinus v_readSpot v_isStar v_wantsNumber v_waiting v_shiftX v_shiftY v_times 0 v_joinedLaid v_hash v_isThereA v_vA v_spotOfA v_inMiddleA v_tintsA v_bufferA v_valuesA v_ranksA v_oldRanksA v_partA v_allRanksA v_basesA v_isMetA v_metXA v_metYA v_lineA) H := hP
  have hD : va_D A (wdX5 G v_q0 v_q1 v_q2 v_q3 v_q4 v_q5 v_q6 v_q7 v_q8 v_q9 v_q10 v_q11 v_q12 v_q13 v_q14 v_q15 v_q16 v_thrown v_gain v_size v_w v_s v_h v_laidArea v_parts v_isMinus v_readSpot v_isStar v_wantsNumber v_waiting v_shiftX v_shiftY v_times 0 v_joinedLaid v_hash v_isThereA v_vA v_spotOfA v_inMiddleA v_tintsA v_bufferA v_valuesA v_ranksA v_oldRanksA v_partA v_allRanksA v_basesA v_isMetA v_metXA v_metYA v_lineA) := hD
  refine lv_aload_n hx hb dX5_layDots_5 rfl (lv_at hl 0 rfl) ?_
  refine lv_iconst (v := 0) hx hb dX5_layDots_6 (by decide) ?_
  refine va_put (D := G.1) (ci := 5) (v := .int 0) (ty := .int) (C := RX5) (T := TX5) (N := 35) hx hb hts fw_X5_layDots_X5 tyX5 tyX5_ok nmX5 hown hK.1 hP hD hS 0 rfl rfl 33 (by decide) (hts (.fieldLink RX5 234 "HalftoneScreensModel" "joinedLaid" "I") lk_X5_layDots_f234) (fun _ h9 => h9) rfl (tyX5_ok 33 (by decide)) rfl rfl (Nat.le_of_ble_eq_true rfl) dX5_layDots_7 (fun H locs hP hD hS => ?_)
  have hP : va_P G.1 vwCl (wdX5 G v_q0 v_q1 v_q2 v_q3 v_q4 v_q5 v_q6 v_q7 v_q8 v_q9 v_q10 v_q11 v_q12 v_q13 v_q14 v_q15 v_q16 v_thrown v_gain v_size v_w v_s v_h v_laidArea v_parts v_isMinus v_readSpot v_isStar v_wantsNumber v_waiting v_shiftX v_shiftY v_times 0 0 v_hash v_isThereA v_vA v_spotOfA v_inMiddleA v_tintsA v_bufferA v_valuesA v_ranksA v_oldRanksA v_partA v_allRanksA v_basesA v_isMetA v_metXA v_metYA v_lineA) H := hP
  have hD : va_D A (wdX5 G v_q0 v_q1 v_q2 v_q3 v_q4 v_q5 v_q6 v_q7 v_q8 v_q9 v_q10 v_q11 v_q12 v_q13 v_q14 v_q15 v_q16 v_thrown v_gain v_size v_w v_s v_h v_laidArea v_parts v_isMinus v_readSpot v_isStar v_wantsNumber v_waiting v_shiftX v_shiftY v_times 0 0 v_hash v_isThereA v_vA v_spotOfA v_inMiddleA v_tintsA v_bufferA v_valuesA v_ranksA v_oldRanksA v_partA v_allRanksA v_basesA v_isMetA v_metXA v_metYA v_lineA) := hD
  refine lv_iconst (v := 0) hx hb dX5_layDots_10 (by decide) ?_
  refine lv_istore_n (lv' := [(2, .int 0), (0, .ref v_q0), (1, .int a0)]) hx hb dX5_layDots_11 rfl hl (by decide) rfl (fun ls hl => ?_)
  obtain ⟨u1_0, u1_1, g1, h⟩ := bnd2_e h
  have L1 : ∀ (fu : Nat) (v1_0 : Int32) (v1_1 : (Nat → Int32)) (u1_0 : Int32) (u1_1 : (Nat → Int32)) (H : Heap) (locs : List Loc) (ls : Array Slot), mX5_layDots_L12 v_laidArea fu v1_0 v1_1 = some (u1_0, u1_1) → lv_has ls 4 [(2, .int v1_0), (0, .ref v_q0), (1, .int a0)] → va_P G.1 vwCl (wdX5 G v_q0 v_q1 v_q2 v_q3 v_q4 v_q5 v_q6 v_q7 v_q8 v_q9 v_q10 v_q11 v_q12 v_q13 v_q14 v_q15 v_q16 v_thrown v_gain v_size v_w v_s v_h v_laidArea v_parts v_isMinus v_readSpot v_isStar v_wantsNumber v_waiting v_shiftX v_shiftY v_times 0 0 v_hash v_isThereA v_vA v_spotOfA v_inMiddleA v_tintsA v_bufferA v_valuesA v_ranksA v_oldRanksA v_partA v_allRanksA v_basesA v1_1 v_metXA v_metYA v_lineA) H → va_D A (wdX5 G v_q0 v_q1 v_q2 v_q3 v_q4 v_q5 v_q6 v_q7 v_q8 v_q9 v_q10 v_q11 v_q12 v_q13 v_q14 v_q15 v_q16 v_thrown v_gain v_size v_w v_s v_h v_laidArea v_parts v_isMinus v_readSpot v_isStar v_wantsNumber v_waiting v_shiftX v_shiftY v_times 0 0 v_hash v_isThereA v_vA v_spotOfA v_inMiddleA v_tintsA v_bufferA v_valuesA v_ranksA v_oldRanksA v_partA v_allRanksA v_basesA v1_1 v_metXA v_metYA v_lineA) → va_S A s.heap H locs → (∀ (H : Heap) (locs : List Loc) (ls : Array Slot), lv_has ls 4 [(2, .int u1_0), (0, .ref v_q0), (1, .int a0)] → va_P G.1 vwCl (wdX5 G v_q0 v_q1 v_q2 v_q3 v_q4 v_q5 v_q6 v_q7 v_q8 v_q9 v_q10 v_q11 v_q12 v_q13 v_q14 v_q15 v_q16 v_thrown v_gain v_size v_w v_s v_h v_laidArea v_parts v_isMinus v_readSpot v_isStar v_wantsNumber v_waiting v_shiftX v_shiftY v_times 0 0 v_hash v_isThereA v_vA v_spotOfA v_inMiddleA v_tintsA v_bufferA v_valuesA v_ranksA v_oldRanksA v_partA v_allRanksA v_basesA u1_1 v_metXA v_metYA v_lineA) H → va_D A (wdX5 G v_q0 v_q1 v_q2 v_q3 v_q4 v_q5 v_q6 v_q7 v_q8 v_q9 v_q10 v_q11 v_q12 v_q13 v_q14 v_q15 v_q16 v_thrown v_gain v_size v_w v_s v_h v_laidArea v_parts v_isMinus v_readSpot v_isStar v_wantsNumber v_waiting v_shiftX v_shiftY v_times 0 0 v_hash v_isThereA v_vA v_spotOfA v_inMiddleA v_tintsA v_bufferA v_valuesA v_ranksA v_oldRanksA v_partA v_allRanksA v_basesA u1_1 v_metXA v_metYA v_lineA) → va_S A s.heap H locs → W p l e rmX5_layDots s m args below meth c H locs 0 0 Q (F0 m 33 ls [])) → W p l e rmX5_layDots s m args below meth c H locs 0 0 Q (F0 m 12 ls []) := by
    intro fu
    induction fu with
    | zero => intro v1_0 v1_1 u1_0 u1_1 H locs ls h; exact nomatch h
    | succ fu ih =>
      intro v1_0 v1_1 u1_0 u1_1 H locs ls h hl hP hD hS kE
      rw [mX5_layDots_L12] at h
      refine lv_iload_n hx hb dX5_layDots_12 rfl (lv_at hl 0 rfl) ?_
      refine lv_aload_n hx hb dX5_layDots_13 rfl (lv_at hl 1 rfl) ?_
      refine va_get (D := G.1) (ci := 5) (v := .int v_laidArea) (C := RX5) (T := TX5) (N := 35) hx hb hts fw_X5_layDots_X5 hown hK.1 hP 0 rfl rfl 14 (by decide) (hts (.fieldLink RX5 113 "HalftoneScreensModel" "laidArea" "I") lk_X5_layDots_f113) (fun _ h9 => h9) rfl dX5_layDots_14 ?_
      refine lv_icmp_ge (tgt := 33) hx hb dX5_layDots_17 (by decide) (fun c2 => ?_) (fun c2 => ?_)
      · replace h := ite_t c2 h
        obtain ⟨rfl, rfl⟩ := sm2 h
        exact kE H locs ls hl hP hD hS
      · replace h := ite_f c2 h
        refine lv_aload_n hx hb dX5_layDots_20 rfl (lv_at hl 1 rfl) ?_
        refine va_get (D := G.1) (ci := 5) (v := .ref v_q13) (C := RX5) (T := TX5) (N := 35) hx hb hts fw_X5_layDots_X5 hown hK.1 hP 0 rfl rfl 24 (by decide) (hts (.fieldLink RX5 47 "HalftoneScreensModel" "isMet" "[Z") lk_X5_layDots_f47) (fun _ h9 => h9) rfl dX5_layDots_21 ?_
        refine lv_iload_n hx hb dX5_layDots_24 rfl (lv_at hl 0 rfl) ?_
        refine lv_iconst (v := 0) hx hb dX5_layDots_25 (by decide) ?_
        obtain ⟨i3, h⟩ := gd_e h
        refine va_zast hx hb hK.1 hP hD hS 13 1 rfl rfl i3 dX5_layDots_26 (fun H locs hP hD hS => ?_)
        have hP : va_P G.1 vwCl (wdX5 G v_q0 v_q1 v_q2 v_q3 v_q4 v_q5 v_q6 v_q7 v_q8 v_q9 v_q10 v_q11 v_q12 v_q13 v_q14 v_q15 v_q16 v_thrown v_gain v_size v_w v_s v_h v_laidArea v_parts v_isMinus v_readSpot v_isStar v_wantsNumber v_waiting v_shiftX v_shiftY v_times 0 0 v_hash v_isThereA v_vA v_spotOfA v_inMiddleA v_tintsA v_bufferA v_valuesA v_ranksA v_oldRanksA v_partA v_allRanksA v_basesA (upd v1_1 v1_0.toNatClampNeg (vp_nar .boolean 0)) v_metXA v_metYA v_lineA) H := hP
        have hD : va_D A (wdX5 G v_q0 v_q1 v_q2 v_q3 v_q4 v_q5 v_q6 v_q7 v_q8 v_q9 v_q10 v_q11 v_q12 v_q13 v_q14 v_q15 v_q16 v_thrown v_gain v_size v_w v_s v_h v_laidArea v_parts v_isMinus v_readSpot v_isStar v_wantsNumber v_waiting v_shiftX v_shiftY v_times 0 0 v_hash v_isThereA v_vA v_spotOfA v_inMiddleA v_tintsA v_bufferA v_valuesA v_ranksA v_oldRanksA v_partA v_allRanksA v_basesA (upd v1_1 v1_0.toNatClampNeg (vp_nar .boolean 0)) v_metXA v_metYA v_lineA) := hD
        obtain ⟨x4, e4⟩ : ∃ y : Int32, y = v1_0 + 1 := ⟨_, rfl⟩
        replace h := nmB_e e4 h
        refine lv_iinc (v := x4) (lv' := [(2, .int x4), (0, .ref v_q0), (1, .int a0)]) hx hb dX5_layDots_27 hl (k := 0) rfl (by rw [e4]; rfl) (by decide) rfl (fun ls hl => ?_)
        refine lv_goto (tgt := 12) hx hb dX5_layDots_30 (by decide) ?_
        exact ih x4 (upd v1_1 v1_0.toNatClampNeg (vp_nar .boolean 0)) u1_0 u1_1 H locs ls h hl hP hD hS kE
  refine L1 FU 0 v_isMetA u1_0 u1_1 H locs ls g1 hl hP hD hS (fun H locs ls hl hP hD hS => ?_)
  refine lv_iconst (v := 0) hx hb dX5_layDots_33 (by decide) ?_
  refine lv_istore_n (lv' := [(2, .int 0), (0, .ref v_q0), (1, .int a0)]) hx hb dX5_layDots_34 rfl hl (by decide) rfl (fun ls hl => ?_)
  obtain ⟨u5_0, u5_1, u5_2, u5_3, u5_4, u5_5, u5_6, u5_7, u5_8, u5_9, u5_10, g5, h⟩ := bnd11_e h
  have L5 : ∀ (fu : Nat) (v5_0 : Int32) (v5_1 : Int32) (v5_2 : Int32) (v5_3 : Int32) (v5_4 : Int32) (v5_5 : Int32) (v5_6 : Int32) (v5_7 : (Nat → Int32)) (v5_8 : (Nat → Int32)) (v5_9 : (Nat → Int32)) (v5_10 : (Nat → Int32)) (u5_0 : Int32) (u5_1 : Int32) (u5_2 : Int32) (u5_3 : Int32) (u5_4 : Int32) (u5_5 : Int32) (u5_6 : Int32) (u5_7 : (Nat → Int32)) (u5_8 : (Nat → Int32)) (u5_9 : (Nat → Int32)) (u5_10 : (Nat → Int32)) (H : Heap) (locs : List Loc) (ls : Array Slot), mX5_layDots_L35 v_w v_s v_h v_laidArea v_ranksA a0 fu v5_0 v5_1 v5_2 v5_3 v5_4 v5_5 v5_6 v5_7 v5_8 v5_9 v5_10 = some (u5_0, u5_1, u5_2, u5_3, u5_4, u5_5, u5_6, u5_7, u5_8, u5_9, u5_10) → lv_has ls 4 [(2, .int v5_0), (0, .ref v_q0), (1, .int a0)] → va_P G.1 vwCl (wdX5 G v_q0 v_q1 v_q2 v_q3 v_q4 v_q5 v_q6 v_q7 v_q8 v_q9 v_q10 v_q11 v_q12 v_q13 v_q14 v_q15 v_q16 v_thrown v_gain v_size v_w v_s v_h v_laidArea v_parts v_isMinus v_readSpot v_isStar v_wantsNumber v5_1 v5_2 v5_3 v5_4 v5_5 v5_6 v_hash v_isThereA v_vA v_spotOfA v_inMiddleA v_tintsA v_bufferA v_valuesA v_ranksA v_oldRanksA v_partA v_allRanksA v_basesA v5_7 v5_8 v5_9 v5_10) H → va_D A (wdX5 G v_q0 v_q1 v_q2 v_q3 v_q4 v_q5 v_q6 v_q7 v_q8 v_q9 v_q10 v_q11 v_q12 v_q13 v_q14 v_q15 v_q16 v_thrown v_gain v_size v_w v_s v_h v_laidArea v_parts v_isMinus v_readSpot v_isStar v_wantsNumber v5_1 v5_2 v5_3 v5_4 v5_5 v5_6 v_hash v_isThereA v_vA v_spotOfA v_inMiddleA v_tintsA v_bufferA v_valuesA v_ranksA v_oldRanksA v_partA v_allRanksA v_basesA v5_7 v5_8 v5_9 v5_10) → va_S A s.heap H locs → (∀ (H : Heap) (locs : List Loc) (ls : Array Slot), lv_has ls 4 [(2, .int u5_0), (0, .ref v_q0), (1, .int a0)] → va_P G.1 vwCl (wdX5 G v_q0 v_q1 v_q2 v_q3 v_q4 v_q5 v_q6 v_q7 v_q8 v_q9 v_q10 v_q11 v_q12 v_q13 v_q14 v_q15 v_q16 v_thrown v_gain v_size v_w v_s v_h v_laidArea v_parts v_isMinus v_readSpot v_isStar v_wantsNumber u5_1 u5_2 u5_3 u5_4 u5_5 u5_6 v_hash v_isThereA v_vA v_spotOfA v_inMiddleA v_tintsA v_bufferA v_valuesA v_ranksA v_oldRanksA v_partA v_allRanksA v_basesA u5_7 u5_8 u5_9 u5_10) H → va_D A (wdX5 G v_q0 v_q1 v_q2 v_q3 v_q4 v_q5 v_q6 v_q7 v_q8 v_q9 v_q10 v_q11 v_q12 v_q13 v_q14 v_q15 v_q16 v_thrown v_gain v_size v_w v_s v_h v_laidArea v_parts v_isMinus v_readSpot v_isStar v_wantsNumber u5_1 u5_2 u5_3 u5_4 u5_5 u5_6 v_hash v_isThereA v_vA v_spotOfA v_inMiddleA v_tintsA v_bufferA v_valuesA v_ranksA v_oldRanksA v_partA v_allRanksA v_basesA u5_7 u5_8 u5_9 u5_10) → va_S A s.heap H locs → W p l e rmX5_layDots s m args below meth c H locs 0 0 Q (F0 m 105 ls [])) → W p l e rmX5_layDots s m args below meth c H locs 0 0 Q (F0 m 35 ls []) := by
    intro fu
    induction fu with
    | zero => intro v5_0 v5_1 v5_2 v5_3 v5_4 v5_5 v5_6 v5_7 v5_8 v5_9 v5_10 u5_0 u5_1 u5_2 u5_3 u5_4 u5_5 u5_6 u5_7 u5_8 u5_9 u5_10 H locs ls h; exact nomatch h
    | succ fu ih =>
      intro v5_0 v5_1 v5_2 v5_3 v5_4 v5_5 v5_6 v5_7 v5_8 v5_9 v5_10 u5_0 u5_1 u5_2 u5_3 u5_4 u5_5 u5_6 u5_7 u5_8 u5_9 u5_10 H locs ls h hl hP hD hS kE
      rw [mX5_layDots_L35] at h
      refine lv_iload_n hx hb dX5_layDots_35 rfl (lv_at hl 0 rfl) ?_
      refine lv_aload_n hx hb dX5_layDots_36 rfl (lv_at hl 1 rfl) ?_
      refine va_get (D := G.1) (ci := 5) (v := .int v_laidArea) (C := RX5) (T := TX5) (N := 35) hx hb hts fw_X5_layDots_X5 hown hK.1 hP 0 rfl rfl 14 (by decide) (hts (.fieldLink RX5 113 "HalftoneScreensModel" "laidArea" "I") lk_X5_layDots_f113) (fun _ h9 => h9) rfl dX5_layDots_37 ?_
      refine lv_icmp_ge (tgt := 105) hx hb dX5_layDots_40 (by decide) (fun c6 => ?_) (fun c6 => ?_)
      · replace h := ite_t c6 h
        obtain ⟨rfl, rfl, rfl, rfl, rfl, rfl, rfl, rfl, rfl, rfl, rfl⟩ := sm11 h
        exact kE H locs ls hl hP hD hS
      · replace h := ite_f c6 h
        refine lv_aload_n hx hb dX5_layDots_43 rfl (lv_at hl 1 rfl) ?_
        refine va_get (D := G.1) (ci := 5) (v := .ref v_q8) (C := RX5) (T := TX5) (N := 35) hx hb hts fw_X5_layDots_X5 hown hK.1 hP 0 rfl rfl 13 (by decide) (hts (.fieldLink RX5 32 "HalftoneScreensModel" "ranks" "[I") lk_X5_layDots_f32) (fun _ h9 => h9) rfl dX5_layDots_44 ?_
        refine lv_iload_n hx hb dX5_layDots_47 rfl (lv_at hl 0 rfl) ?_
        obtain ⟨i7, h⟩ := gd_e h
        refine va_iald hx hb hK.1 hP 8 0 rfl rfl i7 dX5_layDots_48 ?_
        refine lv_iload_n hx hb dX5_layDots_49 rfl (lv_at hl 2 rfl) ?_
        refine lv_icmp_ge (tgt := 99) hx hb dX5_layDots_50 (by decide) (fun c8 => ?_) (fun c8 => ?_)
        · replace h := ite_t c8 h
          obtain ⟨x9, e9⟩ : ∃ y : Int32, y = v5_0 + 1 := ⟨_, rfl⟩
          replace h := nmB_e e9 h
          refine lv_iinc (v := x9) (lv' := [(2, .int x9), (0, .ref v_q0), (1, .int a0)]) hx hb dX5_layDots_99 hl (k := 0) rfl (by rw [e9]; rfl) (by decide) rfl (fun ls hl => ?_)
          refine lv_goto (tgt := 35) hx hb dX5_layDots_102 (by decide) ?_
          exact ih x9 v5_1 v5_2 v5_3 v5_4 v5_5 v5_6 v5_7 v5_8 v5_9 v5_10 u5_0 u5_1 u5_2 u5_3 u5_4 u5_5 u5_6 u5_7 u5_8 u5_9 u5_10 H locs ls h hl hP hD hS kE
        · replace h := ite_f c8 h
          refine lv_aload_n hx hb dX5_layDots_53 rfl (lv_at hl 1 rfl) ?_
          refine va_get (D := G.1) (ci := 5) (v := .ref v_q13) (C := RX5) (T := TX5) (N := 35) hx hb hts fw_X5_layDots_X5 hown hK.1 hP 0 rfl rfl 24 (by decide) (hts (.fieldLink RX5 47 "HalftoneScreensModel" "isMet" "[Z") lk_X5_layDots_f47) (fun _ h9 => h9) rfl dX5_layDots_54 ?_
          refine lv_iload_n hx hb dX5_layDots_57 rfl (lv_at hl 0 rfl) ?_
          obtain ⟨i10, h⟩ := gd_e h
          refine va_zald hx hb hK.1 hP 13 1 rfl rfl i10 dX5_layDots_58 ?_
          refine lv_if_ne (tgt := 99) hx hb dX5_layDots_59 (by decide) (fun c11 => ?_) (fun c11 => ?_)
          · replace h := ite_f c11 h
            obtain ⟨x12, e12⟩ : ∃ y : Int32, y = v5_0 + 1 := ⟨_, rfl⟩
            replace h := nmB_e e12 h
            refine lv_iinc (v := x12) (lv' := [(2, .int x12), (0, .ref v_q0), (1, .int a0)]) hx hb dX5_layDots_99 hl (k := 0) rfl (by rw [e12]; rfl) (by decide) rfl (fun ls hl => ?_)
            refine lv_goto (tgt := 35) hx hb dX5_layDots_102 (by decide) ?_
            exact ih x12 v5_1 v5_2 v5_3 v5_4 v5_5 v5_6 v5_7 v5_8 v5_9 v5_10 u5_0 u5_1 u5_2 u5_3 u5_4 u5_5 u5_6 u5_7 u5_8 u5_9 u5_10 H locs ls h hl hP hD hS kE
          · replace h := ite_t c11 h
            refine lv_aload_n hx hb dX5_layDots_62 rfl (lv_at hl 1 rfl) ?_
            refine lv_iload_n hx hb dX5_layDots_63 rfl (lv_at hl 0 rfl) ?_
            refine lv_iload_n hx hb dX5_layDots_64 rfl (lv_at hl 2 rfl) ?_
            obtain ⟨r13_0, r13_1, r13_2, r13_3, r13_4, r13_5, r13_6, r13_7, r13_8, g13, h⟩ := bnd9_e h
            refine rwV_same (rest := []) (As := [.int v5_0, .int a0]) S (ctX5_follow l G v_q0 v_q1 v_q2 v_q3 v_q4 v_q5 v_q6 v_q7 v_q8 v_q9 v_q10 v_q11 v_q12 v_q13 v_q14 v_q15 v_q16 v_thrown v_gain v_size v_w v_s v_h v_laidArea v_parts v_isMinus v_readSpot v_isStar v_wantsNumber v5_1 v5_2 v5_3 v5_4 v5_5 v5_6 v_hash v_isThereA v_vA v_spotOfA v_inMiddleA v_tintsA v_bufferA v_valuesA v_ranksA v_oldRanksA v_partA v_allRanksA v_basesA v5_7 v5_8 v5_9 v5_10 v5_0 a0 r13_0 r13_1 r13_2 r13_3 r13_4 r13_5 r13_6 r13_7 r13_8 g13) (cwV 2 hts gX5_layDots_X5_follow rfl rfl rfl hvX5_follow ⟨Nat.le_of_ble_eq_true rfl, Nat.le_of_ble_eq_true rfl⟩) hK hP hD hS xb_triv (fun _ _ _ => trivial) 0 5 rfl rfl rfl rfl hl.1 rfl (Nat.le_of_ble_eq_true rfl) dX5_layDots_65 ⟨Nat.le_refl _, Nat.le_refl _⟩ (fun _ H locs hP hD hS => ?_)
            have hP : va_P G.1 vwCl (wdX5 G v_q0 v_q1 v_q2 v_q3 v_q4 v_q5 v_q6 v_q7 v_q8 v_q9 v_q10 v_q11 v_q12 v_q13 v_q14 v_q15 v_q16 v_thrown v_gain v_size v_w v_s v_h v_laidArea v_parts v_isMinus v_readSpot v_isStar v_wantsNumber r13_1 r13_2 r13_3 r13_4 v5_5 v5_6 v_hash v_isThereA v_vA v_spotOfA v_inMiddleA v_tintsA v_bufferA v_valuesA v_ranksA v_oldRanksA v_partA v_allRanksA v_basesA r13_5 r13_6 r13_7 r13_8) H := hP
            have hD : va_D A (wdX5 G v_q0 v_q1 v_q2 v_q3 v_q4 v_q5 v_q6 v_q7 v_q8 v_q9 v_q10 v_q11 v_q12 v_q13 v_q14 v_q15 v_q16 v_thrown v_gain v_size v_w v_s v_h v_laidArea v_parts v_isMinus v_readSpot v_isStar v_wantsNumber r13_1 r13_2 r13_3 r13_4 v5_5 v5_6 v_hash v_isThereA v_vA v_spotOfA v_inMiddleA v_tintsA v_bufferA v_valuesA v_ranksA v_oldRanksA v_partA v_allRanksA v_basesA r13_5 r13_6 r13_7 r13_8) := hD
            refine lv_istore_n (lv' := [(3, .int r13_0), (2, .int v5_0), (0, .ref v_q0), (1, .int a0)]) hx hb dX5_layDots_68 rfl hl (by decide) rfl (fun ls hl => ?_)
            refine lv_aload_n hx hb dX5_layDots_69 rfl (lv_at hl 2 rfl) ?_
            refine lv_iload_n hx hb dX5_layDots_70 rfl (lv_at hl 0 rfl) ?_
            refine lv_aload_n hx hb dX5_layDots_71 rfl (lv_at hl 2 rfl) ?_
            refine va_get (D := G.1) (ci := 5) (v := .int v5_6) (C := RX5) (T := TX5) (N := 35) hx hb hts fw_X5_layDots_X5 hown hK.1 hP 0 rfl rfl 33 (by decide) (hts (.fieldLink RX5 234 "HalftoneScreensModel" "joinedLaid" "I") lk_X5_layDots_f234) (fun _ h9 => h9) rfl dX5_layDots_72 ?_
            refine lv_icmp_le (tgt := 82) hx hb dX5_layDots_75 (by decide) (fun c14 => ?_) (fun c14 => ?_)
            · replace h := ite_t c14 h
              refine lv_aload_n hx hb dX5_layDots_82 rfl (lv_at hl 2 rfl) ?_
              refine va_get (D := G.1) (ci := 5) (v := .int v5_6) (C := RX5) (T := TX5) (N := 35) hx hb hts fw_X5_layDots_X5 hown hK.1 hP 0 rfl rfl 33 (by decide) (hts (.fieldLink RX5 234 "HalftoneScreensModel" "joinedLaid" "I") lk_X5_layDots_f234) (fun _ h9 => h9) rfl dX5_layDots_83 ?_
              refine va_put (D := G.1) (ci := 5) (v := .int v5_6) (ty := .int) (C := RX5) (T := TX5) (N := 35) hx hb hts fw_X5_layDots_X5 tyX5 tyX5_ok nmX5 hown hK.1 hP hD hS 0 rfl rfl 33 (by decide) (hts (.fieldLink RX5 234 "HalftoneScreensModel" "joinedLaid" "I") lk_X5_layDots_f234) (fun _ h9 => h9) rfl (tyX5_ok 33 (by decide)) rfl rfl (Nat.le_of_ble_eq_true rfl) dX5_layDots_86 (fun H locs hP hD hS => ?_)
              have hP : va_P G.1 vwCl (wdX5 G v_q0 v_q1 v_q2 v_q3 v_q4 v_q5 v_q6 v_q7 v_q8 v_q9 v_q10 v_q11 v_q12 v_q13 v_q14 v_q15 v_q16 v_thrown v_gain v_size v_w v_s v_h v_laidArea v_parts v_isMinus v_readSpot v_isStar v_wantsNumber r13_1 r13_2 r13_3 r13_4 v5_5 v5_6 v_hash v_isThereA v_vA v_spotOfA v_inMiddleA v_tintsA v_bufferA v_valuesA v_ranksA v_oldRanksA v_partA v_allRanksA v_basesA r13_5 r13_6 r13_7 r13_8) H := hP
              have hD : va_D A (wdX5 G v_q0 v_q1 v_q2 v_q3 v_q4 v_q5 v_q6 v_q7 v_q8 v_q9 v_q10 v_q11 v_q12 v_q13 v_q14 v_q15 v_q16 v_thrown v_gain v_size v_w v_s v_h v_laidArea v_parts v_isMinus v_readSpot v_isStar v_wantsNumber r13_1 r13_2 r13_3 r13_4 v5_5 v5_6 v_hash v_isThereA v_vA v_spotOfA v_inMiddleA v_tintsA v_bufferA v_valuesA v_ranksA v_oldRanksA v_partA v_allRanksA v_basesA r13_5 r13_6 r13_7 r13_8) := hD
              refine lv_aload_n hx hb dX5_layDots_89 rfl (lv_at hl 2 rfl) ?_
              refine lv_dup hx hb dX5_layDots_90 rfl ?_
              refine va_get (D := G.1) (ci := 5) (v := .int v5_5) (C := RX5) (T := TX5) (N := 35) hx hb hts fw_X5_layDots_X5 hown hK.1 hP 0 rfl rfl 32 (by decide) (hts (.fieldLink RX5 231 "HalftoneScreensModel" "dotsLaid" "I") lk_X5_layDots_f231) (fun _ h9 => h9) rfl dX5_layDots_91 ?_
              refine lv_iconst (v := 1) hx hb dX5_layDots_94 (by decide) ?_
              refine lv_iadd hx hb dX5_layDots_95 ?_
              refine lv_topi (fun x15 e15 => ?_)
              replace h := nmB_e e15 h
              refine va_put (D := G.1) (ci := 5) (v := .int x15) (ty := .int) (C := RX5) (T := TX5) (N := 35) hx hb hts fw_X5_layDots_X5 tyX5 tyX5_ok nmX5 hown hK.1 hP hD hS 0 rfl rfl 32 (by decide) (hts (.fieldLink RX5 231 "HalftoneScreensModel" "dotsLaid" "I") lk_X5_layDots_f231) (fun _ h9 => h9) rfl (tyX5_ok 32 (by decide)) rfl rfl (Nat.le_of_ble_eq_true rfl) dX5_layDots_96 (fun H locs hP hD hS => ?_)
              have hP : va_P G.1 vwCl (wdX5 G v_q0 v_q1 v_q2 v_q3 v_q4 v_q5 v_q6 v_q7 v_q8 v_q9 v_q10 v_q11 v_q12 v_q13 v_q14 v_q15 v_q16 v_thrown v_gain v_size v_w v_s v_h v_laidArea v_parts v_isMinus v_readSpot v_isStar v_wantsNumber r13_1 r13_2 r13_3 r13_4 x15 v5_6 v_hash v_isThereA v_vA v_spotOfA v_inMiddleA v_tintsA v_bufferA v_valuesA v_ranksA v_oldRanksA v_partA v_allRanksA v_basesA r13_5 r13_6 r13_7 r13_8) H := hP
              have hD : va_D A (wdX5 G v_q0 v_q1 v_q2 v_q3 v_q4 v_q5 v_q6 v_q7 v_q8 v_q9 v_q10 v_q11 v_q12 v_q13 v_q14 v_q15 v_q16 v_thrown v_gain v_size v_w v_s v_h v_laidArea v_parts v_isMinus v_readSpot v_isStar v_wantsNumber r13_1 r13_2 r13_3 r13_4 x15 v5_6 v_hash v_isThereA v_vA v_spotOfA v_inMiddleA v_tintsA v_bufferA v_valuesA v_ranksA v_oldRanksA v_partA v_allRanksA v_basesA r13_5 r13_6 r13_7 r13_8) := hD
              obtain ⟨x16, e16⟩ : ∃ y : Int32, y = v5_0 + 1 := ⟨_, rfl⟩
              replace h := nmB_e e16 h
              refine lv_iinc (v := x16) (lv' := [(2, .int x16), (3, .int r13_0), (0, .ref v_q0), (1, .int a0)]) hx hb dX5_layDots_99 hl (k := 1) rfl (by rw [e16]; rfl) (by decide) rfl (fun ls hl => ?_)
              refine lv_goto (tgt := 35) hx hb dX5_layDots_102 (by decide) ?_
              exact ih x16 r13_1 r13_2 r13_3 r13_4 x15 v5_6 r13_5 r13_6 r13_7 r13_8 u5_0 u5_1 u5_2 u5_3 u5_4 u5_5 u5_6 u5_7 u5_8 u5_9 u5_10 H locs ls h (lv_sub hl [0, 2, 3] rfl) hP hD hS kE
            · replace h := ite_f c14 h
              refine lv_iload_n hx hb dX5_layDots_78 rfl (lv_at hl 0 rfl) ?_
              refine lv_goto (tgt := 86) hx hb dX5_layDots_79 (by decide) ?_
              refine va_put (D := G.1) (ci := 5) (v := .int r13_0) (ty := .int) (C := RX5) (T := TX5) (N := 35) hx hb hts fw_X5_layDots_X5 tyX5 tyX5_ok nmX5 hown hK.1 hP hD hS 0 rfl rfl 33 (by decide) (hts (.fieldLink RX5 234 "HalftoneScreensModel" "joinedLaid" "I") lk_X5_layDots_f234) (fun _ h9 => h9) rfl (tyX5_ok 33 (by decide)) rfl rfl (Nat.le_of_ble_eq_true rfl) dX5_layDots_86 (fun H locs hP hD hS => ?_)
              have hP : va_P G.1 vwCl (wdX5 G v_q0 v_q1 v_q2 v_q3 v_q4 v_q5 v_q6 v_q7 v_q8 v_q9 v_q10 v_q11 v_q12 v_q13 v_q14 v_q15 v_q16 v_thrown v_gain v_size v_w v_s v_h v_laidArea v_parts v_isMinus v_readSpot v_isStar v_wantsNumber r13_1 r13_2 r13_3 r13_4 v5_5 r13_0 v_hash v_isThereA v_vA v_spotOfA v_inMiddleA v_tintsA v_bufferA v_valuesA v_ranksA v_oldRanksA v_partA v_allRanksA v_basesA r13_5 r13_6 r13_7 r13_8) H := hP
              have hD : va_D A (wdX5 G v_q0 v_q1 v_q2 v_q3 v_q4 v_q5 v_q6 v_q7 v_q8 v_q9 v_q10 v_q11 v_q12 v_q13 v_q14 v_q15 v_q16 v_thrown v_gain v_size v_w v_s v_h v_laidArea v_parts v_isMinus v_readSpot v_isStar v_wantsNumber r13_1 r13_2 r13_3 r13_4 v5_5 r13_0 v_hash v_isThereA v_vA v_spotOfA v_inMiddleA v_tintsA v_bufferA v_valuesA v_ranksA v_oldRanksA v_partA v_allRanksA v_basesA r13_5 r13_6 r13_7 r13_8) := hD
              refine lv_aload_n hx hb dX5_layDots_89 rfl (lv_at hl 2 rfl) ?_
              refine lv_dup hx hb dX5_layDots_90 rfl ?_
              refine va_get (D := G.1) (ci := 5) (v := .int v5_5) (C := RX5) (T := TX5) (N := 35) hx hb hts fw_X5_layDots_X5 hown hK.1 hP 0 rfl rfl 32 (by decide) (hts (.fieldLink RX5 231 "HalftoneScreensModel" "dotsLaid" "I") lk_X5_layDots_f231) (fun _ h9 => h9) rfl dX5_layDots_91 ?_
              refine lv_iconst (v := 1) hx hb dX5_layDots_94 (by decide) ?_
              refine lv_iadd hx hb dX5_layDots_95 ?_
              refine lv_topi (fun x17 e17 => ?_)
              replace h := nmB_e e17 h
              refine va_put (D := G.1) (ci := 5) (v := .int x17) (ty := .int) (C := RX5) (T := TX5) (N := 35) hx hb hts fw_X5_layDots_X5 tyX5 tyX5_ok nmX5 hown hK.1 hP hD hS 0 rfl rfl 32 (by decide) (hts (.fieldLink RX5 231 "HalftoneScreensModel" "dotsLaid" "I") lk_X5_layDots_f231) (fun _ h9 => h9) rfl (tyX5_ok 32 (by decide)) rfl rfl (Nat.le_of_ble_eq_true rfl) dX5_layDots_96 (fun H locs hP hD hS => ?_)
              have hP : va_P G.1 vwCl (wdX5 G v_q0 v_q1 v_q2 v_q3 v_q4 v_q5 v_q6 v_q7 v_q8 v_q9 v_q10 v_q11 v_q12 v_q13 v_q14 v_q15 v_q16 v_thrown v_gain v_size v_w v_s v_h v_laidArea v_parts v_isMinus v_readSpot v_isStar v_wantsNumber r13_1 r13_2 r13_3 r13_4 x17 r13_0 v_hash v_isThereA v_vA v_spotOfA v_inMiddleA v_tintsA v_bufferA v_valuesA v_ranksA v_oldRanksA v_partA v_allRanksA v_basesA r13_5 r13_6 r13_7 r13_8) H := hP
              have hD : va_D A (wdX5 G v_q0 v_q1 v_q2 v_q3 v_q4 v_q5 v_q6 v_q7 v_q8 v_q9 v_q10 v_q11 v_q12 v_q13 v_q14 v_q15 v_q16 v_thrown v_gain v_size v_w v_s v_h v_laidArea v_parts v_isMinus v_readSpot v_isStar v_wantsNumber r13_1 r13_2 r13_3 r13_4 x17 r13_0 v_hash v_isThereA v_vA v_spotOfA v_inMiddleA v_tintsA v_bufferA v_valuesA v_ranksA v_oldRanksA v_partA v_allRanksA v_basesA r13_5 r13_6 r13_7 r13_8) := hD
              obtain ⟨x18, e18⟩ : ∃ y : Int32, y = v5_0 + 1 := ⟨_, rfl⟩
              replace h := nmB_e e18 h
              refine lv_iinc (v := x18) (lv' := [(2, .int x18), (3, .int r13_0), (0, .ref v_q0), (1, .int a0)]) hx hb dX5_layDots_99 hl (k := 1) rfl (by rw [e18]; rfl) (by decide) rfl (fun ls hl => ?_)
              refine lv_goto (tgt := 35) hx hb dX5_layDots_102 (by decide) ?_
              exact ih x18 r13_1 r13_2 r13_3 r13_4 x17 r13_0 r13_5 r13_6 r13_7 r13_8 u5_0 u5_1 u5_2 u5_3 u5_4 u5_5 u5_6 u5_7 u5_8 u5_9 u5_10 H locs ls h (lv_sub hl [0, 2, 3] rfl) hP hD hS kE
  refine L5 FU 0 v_waiting v_shiftX v_shiftY v_times 0 0 u1_1 v_metXA v_metYA v_lineA u5_0 u5_1 u5_2 u5_3 u5_4 u5_5 u5_6 u5_7 u5_8 u5_9 u5_10 H locs ls g5 hl hP hD hS (fun H locs ls hl hP hD hS => ?_)
  obtain ⟨rfl, rfl, rfl, rfl, rfl, rfl, rfl, rfl, rfl, rfl⟩ := sm10 h
  exact hret _ _ _ _ trivial hP hD hS dX5_layDots_105
theorem fw_X5_dots_X5 : ∀ w ∈ wsX50, w ∈ wsX5_dots := fun w h => List.mem_cons_of_mem _ (List.mem_append_right _ h)
theorem lk_X5_dots_f59 : Cond.fieldLink RX5 59 "HalftoneScreensModel" "thrown" "I" ∈ wsX5_dots := List.mem_of_getElem? (i := 1) rfl
theorem lk_X5_dots_f231 : Cond.fieldLink RX5 231 "HalftoneScreensModel" "dotsLaid" "I" ∈ wsX5_dots := List.mem_of_getElem? (i := 2) rfl
theorem hsX5_layDots : yX5_layDots.cls ≠ "java/lang/invoke/MethodHandle" ∧ yX5_layDots.cls ≠ "java/lang/invoke/VarHandle" ∧ (parseMethodDescriptor yX5_layDots.desc).map (fun d => d.parameters.length) = some 1 := by decide +kernel
theorem hvX5_layDots : yX5_layDots.cls = RX5 ∧ yX5_layDots.cls ≠ "java/lang/invoke/MethodHandle" ∧ yX5_layDots.cls ≠ "java/lang/invoke/VarHandle" ∧ (parseMethodDescriptor yX5_layDots.desc).map (fun d => d.parameters.length) = some 1 := ⟨rfl, hsX5_layDots⟩
theorem hsX5_steppedWrong : yX5_steppedWrong.cls ≠ "java/lang/invoke/MethodHandle" ∧ yX5_steppedWrong.cls ≠ "java/lang/invoke/VarHandle" ∧ (parseMethodDescriptor yX5_steppedWrong.desc).map (fun d => d.parameters.length) = some 2 := by decide +kernel
theorem hvX5_steppedWrong : yX5_steppedWrong.cls = RX5 ∧ yX5_steppedWrong.cls ≠ "java/lang/invoke/MethodHandle" ∧ yX5_steppedWrong.cls ≠ "java/lang/invoke/VarHandle" ∧ (parseMethodDescriptor yX5_steppedWrong.desc).map (fun d => d.parameters.length) = some 2 := ⟨rfl, hsX5_steppedWrong⟩
abbrev rmX5_dots : Room := { frames := 6, cells := 0, slots := 0, locals := 141 }
set_option maxHeartbeats 4000000 in
set_option maxRecDepth 100000 in
theorem ctX5_dots (l : Launch) (G : GG) (v_q0 : Nat) (v_q1 : Nat) (v_q2 : Nat) (v_q3 : Nat) (v_q4 : Nat) (v_q5 : Nat) (v_q6 : Nat) (v_q7 : Nat) (v_q8 : Nat) (v_q9 : Nat) (v_q10 : Nat) (v_q11 : Nat) (v_q12 : Nat) (v_q13 : Nat) (v_q14 : Nat) (v_q15 : Nat) (v_q16 : Nat) (v_thrown : Int32) (v_gain : Int32) (v_size : Int32) (v_w : Int32) (v_s : Int32) (v_h : Int32) (v_laidArea : Int32) (v_parts : Int32) (v_isMinus : Int32) (v_readSpot : Int32) (v_isStar : Int32) (v_wantsNumber : Int32) (v_waiting : Int32) (v_shiftX : Int32) (v_shiftY : Int32) (v_times : Int32) (v_dotsLaid : Int32) (v_joinedLaid : Int32) (v_hash : Int64) (v_isThereA : (Nat → Int32)) (v_vA : (Nat → Int32)) (v_spotOfA : (Nat → Int32)) (v_inMiddleA : (Nat → Int32)) (v_tintsA : (Nat → Int32)) (v_bufferA : (Nat → Int32)) (v_valuesA : (Nat → Int32)) (v_ranksA : (Nat → Int32)) (v_oldRanksA : (Nat → Int32)) (v_partA : (Nat → Int32)) (v_allRanksA : (Nat → Int32)) (v_basesA : (Nat → Int32)) (v_isMetA : (Nat → Int32)) (v_metXA : (Nat → Int32)) (v_metYA : (Nat → Int32)) (v_lineA : (Nat → Int32)) (a0 : Int32) (a1 : Int32) (o0 : Int32) (o1 : Int32) (o2 : Int32) (o3 : Int32) (o4 : Int32) (o5 : Int32) (o6 : Int32) (o7 : Int32) (o8 : Int32) (o9 : Int32) (o10 : Int32) (o11 : Int32) (o12 : (Nat → Int32)) (o13 : (Nat → Int32)) (o14 : (Nat → Int32)) (o15 : (Nat → Int32)) (o16 : (Nat → Int32)) (o17 : (Nat → Int32)) (h : mX5_dots v_w v_s v_h v_laidArea v_waiting v_shiftX v_shiftY v_times v_dotsLaid v_joinedLaid v_isThereA v_vA v_spotOfA v_inMiddleA v_valuesA v_ranksA v_isMetA v_metXA v_metYA v_lineA a0 a1 = some (o0, o1, o2, o3, o4, o5, o6, o7, o8, o9, o10, o11, o12, o13, o14, o15, o16, o17))  : Met l yX5_dots wsX5_dots rmX5_dots (va_Pc [.ref v_q0, .int a0, .int a1] (PreD G (wdX5 G v_q0 v_q1 v_q2 v_q3 v_q4 v_q5 v_q6 v_q7 v_q8 v_q9 v_q10 v_q11 v_q12 v_q13 v_q14 v_q15 v_q16 v_thrown v_gain v_size v_w v_s v_h v_laidArea v_parts v_isMinus v_readSpot v_isStar v_wantsNumber v_waiting v_shiftX v_shiftY v_times v_dotsLaid v_joinedLaid v_hash v_isThereA v_vA v_spotOfA v_inMiddleA v_tintsA v_bufferA v_valuesA v_ranksA v_oldRanksA v_partA v_allRanksA v_basesA v_isMetA v_metXA v_metYA v_lineA) (fun _ => True))) (QwA G (va_A0 (wdX5 G v_q0 v_q1 v_q2 v_q3 v_q4 v_q5 v_q6 v_q7 v_q8 v_q9 v_q10 v_q11 v_q12 v_q13 v_q14 v_q15 v_q16 v_thrown v_gain v_size v_w v_s v_h v_laidArea v_parts v_isMinus v_readSpot v_isStar v_wantsNumber v_waiting v_shiftX v_shiftY v_times v_dotsLaid v_joinedLaid v_hash v_isThereA v_vA v_spotOfA v_inMiddleA v_tintsA v_bufferA v_valuesA v_ranksA v_oldRanksA v_partA v_allRanksA v_basesA v_isMetA v_metXA v_metYA v_lineA)) (wdX5 G v_q0 v_q1 v_q2 v_q3 v_q4 v_q5 v_q6 v_q7 v_q8 v_q9 v_q10 v_q11 v_q12 v_q13 v_q14 v_q15 v_q16 o1 v_gain v_size o2 o3 o4 o5 v_parts v_isMinus v_readSpot v_isStar v_wantsNumber o6 o7 o8 o9 o10 o11 v_hash v_isThereA v_vA v_spotOfA v_inMiddleA v_tintsA v_bufferA o12 o13 v_oldRanksA v_partA v_allRanksA v_basesA o14 o15 o16 o17) (some (.int o0)) True) 0 0 (va_A0 (wdX5 G v_q0 v_q1 v_q2 v_q3 v_q4 v_q5 v_q6 v_q7 v_q8 v_q9 v_q10 v_q11 v_q12 v_q13 v_q14 v_q15 v_q16 v_thrown v_gain v_size v_w v_s v_h v_laidArea v_parts v_isMinus v_readSpot v_isStar v_wantsNumber v_waiting v_shiftX v_shiftY v_times v_dotsLaid v_joinedLaid v_hash v_isThereA v_vA v_spotOfA v_inMiddleA v_tintsA v_bufferA v_valuesA v_ranksA v_oldRanksA v_partA v_allRanksA v_basesA v_isMetA v_metXA v_metYA v_lineA)) := by
  refine of_wi (cc := cX5_dots) (maxL := 3) (ty := .int) (plainFor_of_name (by decide)) rfl (Nat.le_of_ble_eq_true rfl) ?_
  intro p e s m args below meth c ls Q A S hl hP hD hS hK hX hA hret
  obtain ⟨H, hH⟩ : ∃ H, H = s.heap := ⟨_, rfl⟩
  obtain ⟨locs, hlocs⟩ : ∃ L : List Loc, L = [] := ⟨_, rfl⟩
  rw [← hlocs]
  rw [← hlocs] at hS
  have hP : va_P G.1 vwCl (wdX5 G v_q0 v_q1 v_q2 v_q3 v_q4 v_q5 v_q6 v_q7 v_q8 v_q9 v_q10 v_q11 v_q12 v_q13 v_q14 v_q15 v_q16 v_thrown v_gain v_size v_w v_s v_h v_laidArea v_parts v_isMinus v_readSpot v_isStar v_wantsNumber v_waiting v_shiftX v_shiftY v_times v_dotsLaid v_joinedLaid v_hash v_isThereA v_vA v_spotOfA v_inMiddleA v_tintsA v_bufferA v_valuesA v_ranksA v_oldRanksA v_partA v_allRanksA v_basesA v_isMetA v_metXA v_metYA v_lineA) H := by rw [hH]; exact hP
  have hS : va_S A s.heap H locs := by rw [hH]; exact hS
  suffices hgo : W p l e rmX5_dots s m args below meth c H locs 0 0 Q (F0 m 0 ls []) by rw [hH] at hgo; exact hgo
  have S : CallFix p m c cX5_dots 3 s args wsX5_dots RX5 := S
  obtain ⟨hx, hb, hml, hown, hts⟩ := id S
  have hl : lv_has ls 3 [(0, .ref v_q0), (1, .int a0), (2, .int a1)] := hl
  unfold mX5_dots at h
  refine lv_aload_n hx hb dX5_dots_0 rfl (lv_at hl 0 rfl) ?_
  refine lv_aload_n hx hb dX5_dots_1 rfl (lv_at hl 0 rfl) ?_
  refine lv_iload_n hx hb dX5_dots_2 rfl (lv_at hl 1 rfl) ?_
  refine lv_iload_n hx hb dX5_dots_3 rfl (lv_at hl 2 rfl) ?_
  obtain ⟨r1_0, g1, h⟩ := bnd1_e h
  refine roVi1 (rest := [.ref v_q0]) (As := [.int a0, .int a1]) S (ctX5_steppedWrong l G v_q0 v_q1 v_q2 v_q3 v_q4 v_q5 v_q6 v_q7 v_q8 v_q9 v_q10 v_q11 v_q12 v_q13 v_q14 v_q15 v_q16 v_thrown v_gain v_size v_w v_s v_h v_laidArea v_parts v_isMinus v_readSpot v_isStar v_wantsNumber v_waiting v_shiftX v_shiftY v_times v_dotsLaid v_joinedLaid v_hash v_isThereA v_vA v_spotOfA v_inMiddleA v_tintsA v_bufferA v_valuesA v_ranksA v_oldRanksA v_partA v_allRanksA v_basesA v_isMetA v_metXA v_metYA v_lineA a0 a1 r1_0 g1) (cwV 2 hts gX5_dots_X5_steppedWrong rfl rfl rfl hvX5_steppedWrong ⟨Nat.le_of_ble_eq_true rfl, Nat.le_of_ble_eq_true rfl⟩) hK hP [0, 1, 2, 3, 4, 5, 6, 7, 8, 9, 10, 11, 12, 13, 14, 15, 16] rfl 0 5 rfl rfl rfl rfl hl.1 rfl (Nat.le_of_ble_eq_true rfl) dX5_dots_4 ⟨Nat.le_refl _, Nat.le_refl _⟩ (fun _ => ?_)
  refine va_put (D := G.1) (ci := 5) (v := .int r1_0) (ty := .int) (C := RX5) (T := TX5) (N := 35) hx hb hts fw_X5_dots_X5 tyX5 tyX5_ok nmX5 hown hK.1 hP hD hS 0 rfl rfl 0 (by decide) (hts (.fieldLink RX5 59 "HalftoneScreensModel" "thrown" "I") lk_X5_dots_f59) (fun _ h9 => h9) rfl (tyX5_ok 0 (by decide)) rfl rfl (Nat.le_of_ble_eq_true rfl) dX5_dots_7 (fun H locs hP hD hS => ?_)
  have hP : va_P G.1 vwCl (wdX5 G v_q0 v_q1 v_q2 v_q3 v_q4 v_q5 v_q6 v_q7 v_q8 v_q9 v_q10 v_q11 v_q12 v_q13 v_q14 v_q15 v_q16 r1_0 v_gain v_size v_w v_s v_h v_laidArea v_parts v_isMinus v_readSpot v_isStar v_wantsNumber v_waiting v_shiftX v_shiftY v_times v_dotsLaid v_joinedLaid v_hash v_isThereA v_vA v_spotOfA v_inMiddleA v_tintsA v_bufferA v_valuesA v_ranksA v_oldRanksA v_partA v_allRanksA v_basesA v_isMetA v_metXA v_metYA v_lineA) H := hP
  have hD : va_D A (wdX5 G v_q0 v_q1 v_q2 v_q3 v_q4 v_q5 v_q6 v_q7 v_q8 v_q9 v_q10 v_q11 v_q12 v_q13 v_q14 v_q15 v_q16 r1_0 v_gain v_size v_w v_s v_h v_laidArea v_parts v_isMinus v_readSpot v_isStar v_wantsNumber v_waiting v_shiftX v_shiftY v_times v_dotsLaid v_joinedLaid v_hash v_isThereA v_vA v_spotOfA v_inMiddleA v_tintsA v_bufferA v_valuesA v_ranksA v_oldRanksA v_partA v_allRanksA v_basesA v_isMetA v_metXA v_metYA v_lineA) := hD
  refine lv_aload_n hx hb dX5_dots_10 rfl (lv_at hl 0 rfl) ?_
  refine va_get (D := G.1) (ci := 5) (v := .int r1_0) (C := RX5) (T := TX5) (N := 35) hx hb hts fw_X5_dots_X5 hown hK.1 hP 0 rfl rfl 0 (by decide) (hts (.fieldLink RX5 59 "HalftoneScreensModel" "thrown" "I") lk_X5_dots_f59) (fun _ h9 => h9) rfl dX5_dots_11 ?_
  refine lv_if_le (tgt := 19) hx hb dX5_dots_14 (by decide) (fun c2 => ?_) (fun c2 => ?_)
  · replace h := ite_t c2 h
    refine lv_aload_n hx hb dX5_dots_19 rfl (lv_at hl 0 rfl) ?_
    refine lv_iload_n hx hb dX5_dots_20 rfl (lv_at hl 1 rfl) ?_
    obtain ⟨r3_0, r3_1, r3_2, r3_3, r3_4, r3_5, g3, h⟩ := bnd6_e h
    refine rwV_same (rest := []) (As := [.int a0]) S (ctX5_layGrowth l G v_q0 v_q1 v_q2 v_q3 v_q4 v_q5 v_q6 v_q7 v_q8 v_q9 v_q10 v_q11 v_q12 v_q13 v_q14 v_q15 v_q16 r1_0 v_gain v_size v_w v_s v_h v_laidArea v_parts v_isMinus v_readSpot v_isStar v_wantsNumber v_waiting v_shiftX v_shiftY v_times v_dotsLaid v_joinedLaid v_hash v_isThereA v_vA v_spotOfA v_inMiddleA v_tintsA v_bufferA v_valuesA v_ranksA v_oldRanksA v_partA v_allRanksA v_basesA v_isMetA v_metXA v_metYA v_lineA a0 r3_0 r3_1 r3_2 r3_3 r3_4 r3_5 g3) (cwV 1 hts gX5_dots_X5_layGrowth rfl rfl rfl hvX5_layGrowth ⟨Nat.le_of_ble_eq_true rfl, Nat.le_of_ble_eq_true rfl⟩) hK hP hD hS xb_triv (fun _ _ _ => trivial) 0 5 rfl rfl rfl rfl hl.1 rfl (Nat.le_of_ble_eq_true rfl) dX5_dots_21 ⟨Nat.le_refl _, Nat.le_refl _⟩ (fun _ H locs hP hD hS => ?_)
    have hP : va_P G.1 vwCl (wdX5 G v_q0 v_q1 v_q2 v_q3 v_q4 v_q5 v_q6 v_q7 v_q8 v_q9 v_q10 v_q11 v_q12 v_q13 v_q14 v_q15 v_q16 r1_0 v_gain v_size r3_0 r3_1 r3_2 r3_3 v_parts v_isMinus v_readSpot v_isStar v_wantsNumber v_waiting v_shiftX v_shiftY v_times v_dotsLaid v_joinedLaid v_hash v_isThereA v_vA v_spotOfA v_inMiddleA v_tintsA v_bufferA r3_4 r3_5 v_oldRanksA v_partA v_allRanksA v_basesA v_isMetA v_metXA v_metYA v_lineA) H := hP
    have hD : va_D A (wdX5 G v_q0 v_q1 v_q2 v_q3 v_q4 v_q5 v_q6 v_q7 v_q8 v_q9 v_q10 v_q11 v_q12 v_q13 v_q14 v_q15 v_q16 r1_0 v_gain v_size r3_0 r3_1 r3_2 r3_3 v_parts v_isMinus v_readSpot v_isStar v_wantsNumber v_waiting v_shiftX v_shiftY v_times v_dotsLaid v_joinedLaid v_hash v_isThereA v_vA v_spotOfA v_inMiddleA v_tintsA v_bufferA r3_4 r3_5 v_oldRanksA v_partA v_allRanksA v_basesA v_isMetA v_metXA v_metYA v_lineA) := hD
    refine lv_aload_n hx hb dX5_dots_24 rfl (lv_at hl 0 rfl) ?_
    refine lv_iload_n hx hb dX5_dots_25 rfl (lv_at hl 2 rfl) ?_
    obtain ⟨r4_0, r4_1, r4_2, r4_3, r4_4, r4_5, r4_6, r4_7, r4_8, r4_9, g4, h⟩ := bnd10_e h
    refine rwV_same (rest := []) (As := [.int a1]) S (ctX5_layDots l G v_q0 v_q1 v_q2 v_q3 v_q4 v_q5 v_q6 v_q7 v_q8 v_q9 v_q10 v_q11 v_q12 v_q13 v_q14 v_q15 v_q16 r1_0 v_gain v_size r3_0 r3_1 r3_2 r3_3 v_parts v_isMinus v_readSpot v_isStar v_wantsNumber v_waiting v_shiftX v_shiftY v_times v_dotsLaid v_joinedLaid v_hash v_isThereA v_vA v_spotOfA v_inMiddleA v_tintsA v_bufferA r3_4 r3_5 v_oldRanksA v_partA v_allRanksA v_basesA v_isMetA v_metXA v_metYA v_lineA a1 r4_0 r4_1 r4_2 r4_3 r4_4 r4_5 r4_6 r4_7 r4_8 r4_9 g4) (cwV 1 hts gX5_dots_X5_layDots rfl rfl rfl hvX5_layDots ⟨Nat.le_of_ble_eq_true rfl, Nat.le_of_ble_eq_true rfl⟩) hK hP hD hS xb_triv (fun _ _ _ => trivial) 0 5 rfl rfl rfl rfl hl.1 rfl (Nat.le_of_ble_eq_true rfl) dX5_dots_26 ⟨Nat.le_refl _, Nat.le_refl _⟩ (fun _ H locs hP hD hS => ?_)
    have hP : va_P G.1 vwCl (wdX5 G v_q0 v_q1 v_q2 v_q3 v_q4 v_q5 v_q6 v_q7 v_q8 v_q9 v_q10 v_q11 v_q12 v_q13 v_q14 v_q15 v_q16 r1_0 v_gain v_size r3_0 r3_1 r3_2 r3_3 v_parts v_isMinus v_readSpot v_isStar v_wantsNumber r4_0 r4_1 r4_2 r4_3 r4_4 r4_5 v_hash v_isThereA v_vA v_spotOfA v_inMiddleA v_tintsA v_bufferA r3_4 r3_5 v_oldRanksA v_partA v_allRanksA v_basesA r4_6 r4_7 r4_8 r4_9) H := hP
    have hD : va_D A (wdX5 G v_q0 v_q1 v_q2 v_q3 v_q4 v_q5 v_q6 v_q7 v_q8 v_q9 v_q10 v_q11 v_q12 v_q13 v_q14 v_q15 v_q16 r1_0 v_gain v_size r3_0 r3_1 r3_2 r3_3 v_parts v_isMinus v_readSpot v_isStar v_wantsNumber r4_0 r4_1 r4_2 r4_3 r4_4 r4_5 v_hash v_isThereA v_vA v_spotOfA v_inMiddleA v_tintsA v_bufferA r3_4 r3_5 v_oldRanksA v_partA v_allRanksA v_basesA r4_6 r4_7 r4_8 r4_9) := hD
    refine lv_aload_n hx hb dX5_dots_29 rfl (lv_at hl 0 rfl) ?_
    refine va_get (D := G.1) (ci := 5) (v := .int r4_4) (C := RX5) (T := TX5) (N := 35) hx hb hts fw_X5_dots_X5 hown hK.1 hP 0 rfl rfl 32 (by decide) (hts (.fieldLink RX5 231 "HalftoneScreensModel" "dotsLaid" "I") lk_X5_dots_f231) (fun _ h9 => h9) rfl dX5_dots_30 ?_
    obtain ⟨rfl, rfl, rfl, rfl, rfl, rfl, rfl, rfl, rfl, rfl, rfl, rfl, rfl, rfl, rfl, rfl, rfl, rfl⟩ := sm18 h
    exact hret _ _ _ _ _ rfl trivial rfl hP hD hS dX5_dots_33
  · replace h := ite_f c2 h
    refine lv_iconst (v := 0) hx hb dX5_dots_17 (by decide) ?_
    obtain ⟨rfl, rfl, rfl, rfl, rfl, rfl, rfl, rfl, rfl, rfl, rfl, rfl, rfl, rfl, rfl, rfl, rfl, rfl⟩ := sm18 h
    exact hret _ _ _ _ _ rfl trivial rfl hP hD hS dX5_dots_18
theorem fw_X5_joined_X5 : ∀ w ∈ wsX50, w ∈ wsX5_joined := fun w h => List.mem_cons_of_mem _ (List.mem_append_right _ h)
theorem lk_X5_joined_f59 : Cond.fieldLink RX5 59 "HalftoneScreensModel" "thrown" "I" ∈ wsX5_joined := List.mem_of_getElem? (i := 1) rfl
theorem lk_X5_joined_f234 : Cond.fieldLink RX5 234 "HalftoneScreensModel" "joinedLaid" "I" ∈ wsX5_joined := List.mem_of_getElem? (i := 2) rfl
abbrev rmX5_joined : Room := { frames := 6, cells := 0, slots := 0, locals := 141 }
set_option maxHeartbeats 4000000 in
set_option maxRecDepth 100000 in
theorem ctX5_joined (l : Launch) (G : GG) (v_q0 : Nat) (v_q1 : Nat) (v_q2 : Nat) (v_q3 : Nat) (v_q4 : Nat) (v_q5 : Nat) (v_q6 : Nat) (v_q7 : Nat) (v_q8 : Nat) (v_q9 : Nat) (v_q10 : Nat) (v_q11 : Nat) (v_q12 : Nat) (v_q13 : Nat) (v_q14 : Nat) (v_q15 : Nat) (v_q16 : Nat) (v_thrown : Int32) (v_gain : Int32) (v_size : Int32) (v_w : Int32) (v_s : Int32) (v_h : Int32) (v_laidArea : Int32) (v_parts : Int32) (v_isMinus : Int32) (v_readSpot : Int32) (v_isStar : Int32) (v_wantsNumber : Int32) (v_waiting : Int32) (v_shiftX : Int32) (v_shiftY : Int32) (v_times : Int32) (v_dotsLaid : Int32) (v_joinedLaid : Int32) (v_hash : Int64) (v_isThereA : (Nat → Int32)) (v_vA : (Nat → Int32)) (v_spotOfA : (Nat → Int32)) (v_inMiddleA : (Nat → Int32)) (v_tintsA : (Nat → Int32)) (v_bufferA : (Nat → Int32)) (v_valuesA : (Nat → Int32)) (v_ranksA : (Nat → Int32)) (v_oldRanksA : (Nat → Int32)) (v_partA : (Nat → Int32)) (v_allRanksA : (Nat → Int32)) (v_basesA : (Nat → Int32)) (v_isMetA : (Nat → Int32)) (v_metXA : (Nat → Int32)) (v_metYA : (Nat → Int32)) (v_lineA : (Nat → Int32)) (a0 : Int32) (a1 : Int32) (o0 : Int32) (o1 : Int32) (o2 : Int32) (o3 : Int32) (o4 : Int32) (o5 : Int32) (o6 : Int32) (o7 : Int32) (o8 : Int32) (o9 : Int32) (o10 : Int32) (o11 : Int32) (o12 : (Nat → Int32)) (o13 : (Nat → Int32)) (o14 : (Nat → Int32)) (o15 : (Nat → Int32)) (o16 : (Nat → Int32)) (o17 : (Nat → Int32)) (h : mX5_joined v_w v_s v_h v_laidArea v_waiting v_shiftX v_shiftY v_times v_dotsLaid v_joinedLaid v_isThereA v_vA v_spotOfA v_inMiddleA v_valuesA v_ranksA v_isMetA v_metXA v_metYA v_lineA a0 a1 = some (o0, o1, o2, o3, o4, o5, o6, o7, o8, o9, o10, o11, o12, o13, o14, o15, o16, o17))  : Met l yX5_joined wsX5_joined rmX5_joined (va_Pc [.ref v_q0, .int a0, .int a1] (PreD G (wdX5 G v_q0 v_q1 v_q2 v_q3 v_q4 v_q5 v_q6 v_q7 v_q8 v_q9 v_q10 v_q11 v_q12 v_q13 v_q14 v_q15 v_q16 v_thrown v_gain v_size v_w v_s v_h v_laidArea v_parts v_isMinus v_readSpot v_isStar v_wantsNumber v_waiting v_shiftX v_shiftY v_times v_dotsLaid v_joinedLaid v_hash v_isThereA v_vA v_spotOfA v_inMiddleA v_tintsA v_bufferA v_valuesA v_ranksA v_oldRanksA v_partA v_allRanksA v_basesA v_isMetA v_metXA v_metYA v_lineA) (fun _ => True))) (QwA G (va_A0 (wdX5 G v_q0 v_q1 v_q2 v_q3 v_q4 v_q5 v_q6 v_q7 v_q8 v_q9 v_q10 v_q11 v_q12 v_q13 v_q14 v_q15 v_q16 v_thrown v_gain v_size v_w v_s v_h v_laidArea v_parts v_isMinus v_readSpot v_isStar v_wantsNumber v_waiting v_shiftX v_shiftY v_times v_dotsLaid v_joinedLaid v_hash v_isThereA v_vA v_spotOfA v_inMiddleA v_tintsA v_bufferA v_valuesA v_ranksA v_oldRanksA v_partA v_allRanksA v_basesA v_isMetA v_metXA v_metYA v_lineA)) (wdX5 G v_q0 v_q1 v_q2 v_q3 v_q4 v_q5 v_q6 v_q7 v_q8 v_q9 v_q10 v_q11 v_q12 v_q13 v_q14 v_q15 v_q16 o1 v_gain v_size o2 o3 o4 o5 v_parts v_isMinus v_readSpot v_isStar v_wantsNumber o6 o7 o8 o9 o10 o11 v_hash v_isThereA v_vA v_spotOfA v_inMiddleA v_tintsA v_bufferA o12 o13 v_oldRanksA v_partA v_allRanksA v_basesA o14 o15 o16 o17) (some (.int o0)) True) 0 0 (va_A0 (wdX5 G v_q0 v_q1 v_q2 v_q3 v_q4 v_q5 v_q6 v_q7 v_q8 v_q9 v_q10 v_q11 v_q12 v_q13 v_q14 v_q15 v_q16 v_thrown v_gain v_size v_w v_s v_h v_laidArea v_parts v_isMinus v_readSpot v_isStar v_wantsNumber v_waiting v_shiftX v_shiftY v_times v_dotsLaid v_joinedLaid v_hash v_isThereA v_vA v_spotOfA v_inMiddleA v_tintsA v_bufferA v_valuesA v_ranksA v_oldRanksA v_partA v_allRanksA v_basesA v_isMetA v_metXA v_metYA v_lineA)) := by
  refine of_wi (cc := cX5_joined) (maxL := 3) (ty := .int) (plainFor_of_name (by decide)) rfl (Nat.le_of_ble_eq_true rfl) ?_
  intro p e s m args below meth c ls Q A S hl hP hD hS hK hX hA hret
  obtain ⟨H, hH⟩ : ∃ H, H = s.heap := ⟨_, rfl⟩
  obtain ⟨locs, hlocs⟩ : ∃ L : List Loc, L = [] := ⟨_, rfl⟩
  rw [← hlocs]
  rw [← hlocs] at hS
  have hP : va_P G.1 vwCl (wdX5 G v_q0 v_q1 v_q2 v_q3 v_q4 v_q5 v_q6 v_q7 v_q8 v_q9 v_q10 v_q11 v_q12 v_q13 v_q14 v_q15 v_q16 v_thrown v_gain v_size v_w v_s v_h v_laidArea v_parts v_isMinus v_readSpot v_isStar v_wantsNumber v_waiting v_shiftX v_shiftY v_times v_dotsLaid v_joinedLaid v_hash v_isThereA v_vA v_spotOfA v_inMiddleA v_tintsA v_bufferA v_valuesA v_ranksA v_oldRanksA v_partA v_allRanksA v_basesA v_isMetA v_metXA v_metYA v_lineA) H := by rw [hH]; exact hP
  have hS : va_S A s.heap H locs := by rw [hH]; exact hS
  suffices hgo : W p l e rmX5_joined s m args below meth c H locs 0 0 Q (F0 m 0 ls []) by rw [hH] at hgo; exact hgo
  have S : CallFix p m c cX5_joined 3 s args wsX5_joined RX5 := S
  obtain ⟨hx, hb, hml, hown, hts⟩ := id S
  have hl : lv_has ls 3 [(0, .ref v_q0), (1, .int a0), (2, .int a1)] := hl
  unfold mX5_joined at h
  refine lv_aload_n hx hb dX5_joined_0 rfl (lv_at hl 0 rfl) ?_
  refine lv_aload_n hx hb dX5_joined_1 rfl (lv_at hl 0 rfl) ?_
  refine lv_iload_n hx hb dX5_joined_2 rfl (lv_at hl 1 rfl) ?_
  refine lv_iload_n hx hb dX5_joined_3 rfl (lv_at hl 2 rfl) ?_
  obtain ⟨r1_0, g1, h⟩ := bnd1_e h
  refine roVi1 (rest := [.ref v_q0]) (As := [.int a0, .int a1]) S (ctX5_steppedWrong l G v_q0 v_q1 v_q2 v_q3 v_q4 v_q5 v_q6 v_q7 v_q8 v_q9 v_q10 v_q11 v_q12 v_q13 v_q14 v_q15 v_q16 v_thrown v_gain v_size v_w v_s v_h v_laidArea v_parts v_isMinus v_readSpot v_isStar v_wantsNumber v_waiting v_shiftX v_shiftY v_times v_dotsLaid v_joinedLaid v_hash v_isThereA v_vA v_spotOfA v_inMiddleA v_tintsA v_bufferA v_valuesA v_ranksA v_oldRanksA v_partA v_allRanksA v_basesA v_isMetA v_metXA v_metYA v_lineA a0 a1 r1_0 g1) (cwV 2 hts gX5_joined_X5_steppedWrong rfl rfl rfl hvX5_steppedWrong ⟨Nat.le_of_ble_eq_true rfl, Nat.le_of_ble_eq_true rfl⟩) hK hP [0, 1, 2, 3, 4, 5, 6, 7, 8, 9, 10, 11, 12, 13, 14, 15, 16] rfl 0 5 rfl rfl rfl rfl hl.1 rfl (Nat.le_of_ble_eq_true rfl) dX5_joined_4 ⟨Nat.le_refl _, Nat.le_refl _⟩ (fun _ => ?_)
  refine va_put (D := G.1) (ci := 5) (v := .int r1_0) (ty := .int) (C := RX5) (T := TX5) (N := 35) hx hb hts fw_X5_joined_X5 tyX5 tyX5_ok nmX5 hown hK.1 hP hD hS 0 rfl rfl 0 (by decide) (hts (.fieldLink RX5 59 "HalftoneScreensModel" "thrown" "I") lk_X5_joined_f59) (fun _ h9 => h9) rfl (tyX5_ok 0 (by decide)) rfl rfl (Nat.le_of_ble_eq_true rfl) dX5_joined_7 (fun H locs hP hD hS => ?_)
  have hP : va_P G.1 vwCl (wdX5 G v_q0 v_q1 v_q2 v_q3 v_q4 v_q5 v_q6 v_q7 v_q8 v_q9 v_q10 v_q11 v_q12 v_q13 v_q14 v_q15 v_q16 r1_0 v_gain v_size v_w v_s v_h v_laidArea v_parts v_isMinus v_readSpot v_isStar v_wantsNumber v_waiting v_shiftX v_shiftY v_times v_dotsLaid v_joinedLaid v_hash v_isThereA v_vA v_spotOfA v_inMiddleA v_tintsA v_bufferA v_valuesA v_ranksA v_oldRanksA v_partA v_allRanksA v_basesA v_isMetA v_metXA v_metYA v_lineA) H := hP
  have hD : va_D A (wdX5 G v_q0 v_q1 v_q2 v_q3 v_q4 v_q5 v_q6 v_q7 v_q8 v_q9 v_q10 v_q11 v_q12 v_q13 v_q14 v_q15 v_q16 r1_0 v_gain v_size v_w v_s v_h v_laidArea v_parts v_isMinus v_readSpot v_isStar v_wantsNumber v_waiting v_shiftX v_shiftY v_times v_dotsLaid v_joinedLaid v_hash v_isThereA v_vA v_spotOfA v_inMiddleA v_tintsA v_bufferA v_valuesA v_ranksA v_oldRanksA v_partA v_allRanksA v_basesA v_isMetA v_metXA v_metYA v_lineA) := hD
  refine lv_aload_n hx hb dX5_joined_10 rfl (lv_at hl 0 rfl) ?_
  refine va_get (D := G.1) (ci := 5) (v := .int r1_0) (C := RX5) (T := TX5) (N := 35) hx hb hts fw_X5_joined_X5 hown hK.1 hP 0 rfl rfl 0 (by decide) (hts (.fieldLink RX5 59 "HalftoneScreensModel" "thrown" "I") lk_X5_joined_f59) (fun _ h9 => h9) rfl dX5_joined_11 ?_
  refine lv_if_le (tgt := 19) hx hb dX5_joined_14 (by decide) (fun c2 => ?_) (fun c2 => ?_)
  · replace h := ite_t c2 h
    refine lv_aload_n hx hb dX5_joined_19 rfl (lv_at hl 0 rfl) ?_
    refine lv_iload_n hx hb dX5_joined_20 rfl (lv_at hl 1 rfl) ?_
    obtain ⟨r3_0, r3_1, r3_2, r3_3, r3_4, r3_5, g3, h⟩ := bnd6_e h
    refine rwV_same (rest := []) (As := [.int a0]) S (ctX5_layGrowth l G v_q0 v_q1 v_q2 v_q3 v_q4 v_q5 v_q6 v_q7 v_q8 v_q9 v_q10 v_q11 v_q12 v_q13 v_q14 v_q15 v_q16 r1_0 v_gain v_size v_w v_s v_h v_laidArea v_parts v_isMinus v_readSpot v_isStar v_wantsNumber v_waiting v_shiftX v_shiftY v_times v_dotsLaid v_joinedLaid v_hash v_isThereA v_vA v_spotOfA v_inMiddleA v_tintsA v_bufferA v_valuesA v_ranksA v_oldRanksA v_partA v_allRanksA v_basesA v_isMetA v_metXA v_metYA v_lineA a0 r3_0 r3_1 r3_2 r3_3 r3_4 r3_5 g3) (cwV 1 hts gX5_joined_X5_layGrowth rfl rfl rfl hvX5_layGrowth ⟨Nat.le_of_ble_eq_true rfl, Nat.le_of_ble_eq_true rfl⟩) hK hP hD hS xb_triv (fun _ _ _ => trivial) 0 5 rfl rfl rfl rfl hl.1 rfl (Nat.le_of_ble_eq_true rfl) dX5_joined_21 ⟨Nat.le_refl _, Nat.le_refl _⟩ (fun _ H locs hP hD hS => ?_)
    have hP : va_P G.1 vwCl (wdX5 G v_q0 v_q1 v_q2 v_q3 v_q4 v_q5 v_q6 v_q7 v_q8 v_q9 v_q10 v_q11 v_q12 v_q13 v_q14 v_q15 v_q16 r1_0 v_gain v_size r3_0 r3_1 r3_2 r3_3 v_parts v_isMinus v_readSpot v_isStar v_wantsNumber v_waiting v_shiftX v_shiftY v_times v_dotsLaid v_joinedLaid v_hash v_isThereA v_vA v_spotOfA v_inMiddleA v_tintsA v_bufferA r3_4 r3_5 v_oldRanksA v_partA v_allRanksA v_basesA v_isMetA v_metXA v_metYA v_lineA) H := hP
    have hD : va_D A (wdX5 G v_q0 v_q1 v_q2 v_q3 v_q4 v_q5 v_q6 v_q7 v_q8 v_q9 v_q10 v_q11 v_q12 v_q13 v_q14 v_q15 v_q16 r1_0 v_gain v_size r3_0 r3_1 r3_2 r3_3 v_parts v_isMinus v_readSpot v_isStar v_wantsNumber v_waiting v_shiftX v_shiftY v_times v_dotsLaid v_joinedLaid v_hash v_isThereA v_vA v_spotOfA v_inMiddleA v_tintsA v_bufferA r3_4 r3_5 v_oldRanksA v_partA v_allRanksA v_basesA v_isMetA v_metXA v_metYA v_lineA) := hD
    refine lv_aload_n hx hb dX5_joined_24 rfl (lv_at hl 0 rfl) ?_
    refine lv_iload_n hx hb dX5_joined_25 rfl (lv_at hl 2 rfl) ?_
    obtain ⟨r4_0, r4_1, r4_2, r4_3, r4_4, r4_5, r4_6, r4_7, r4_8, r4_9, g4, h⟩ := bnd10_e h
    refine rwV_same (rest := []) (As := [.int a1]) S (ctX5_layDots l G v_q0 v_q1 v_q2 v_q3 v_q4 v_q5 v_q6 v_q7 v_q8 v_q9 v_q10 v_q11 v_q12 v_q13 v_q14 v_q15 v_q16 r1_0 v_gain v_size r3_0 r3_1 r3_2 r3_3 v_parts v_isMinus v_readSpot v_isStar v_wantsNumber v_waiting v_shiftX v_shiftY v_times v_dotsLaid v_joinedLaid v_hash v_isThereA v_vA v_spotOfA v_inMiddleA v_tintsA v_bufferA r3_4 r3_5 v_oldRanksA v_partA v_allRanksA v_basesA v_isMetA v_metXA v_metYA v_lineA a1 r4_0 r4_1 r4_2 r4_3 r4_4 r4_5 r4_6 r4_7 r4_8 r4_9 g4) (cwV 1 hts gX5_joined_X5_layDots rfl rfl rfl hvX5_layDots ⟨Nat.le_of_ble_eq_true rfl, Nat.le_of_ble_eq_true rfl⟩) hK hP hD hS xb_triv (fun _ _ _ => trivial) 0 5 rfl rfl rfl rfl hl.1 rfl (Nat.le_of_ble_eq_true rfl) dX5_joined_26 ⟨Nat.le_refl _, Nat.le_refl _⟩ (fun _ H locs hP hD hS => ?_)
    have hP : va_P G.1 vwCl (wdX5 G v_q0 v_q1 v_q2 v_q3 v_q4 v_q5 v_q6 v_q7 v_q8 v_q9 v_q10 v_q11 v_q12 v_q13 v_q14 v_q15 v_q16 r1_0 v_gain v_size r3_0 r3_1 r3_2 r3_3 v_parts v_isMinus v_readSpot v_isStar v_wantsNumber r4_0 r4_1 r4_2 r4_3 r4_4 r4_5 v_hash v_isThereA v_vA v_spotOfA v_inMiddleA v_tintsA v_bufferA r3_4 r3_5 v_oldRanksA v_partA v_allRanksA v_basesA r4_6 r4_7 r4_8 r4_9) H := hP
    have hD : va_D A (wdX5 G v_q0 v_q1 v_q2 v_q3 v_q4 v_q5 v_q6 v_q7 v_q8 v_q9 v_q10 v_q11 v_q12 v_q13 v_q14 v_q15 v_q16 r1_0 v_gain v_size r3_0 r3_1 r3_2 r3_3 v_parts v_isMinus v_readSpot v_isStar v_wantsNumber r4_0 r4_1 r4_2 r4_3 r4_4 r4_5 v_hash v_isThereA v_vA v_spotOfA v_inMiddleA v_tintsA v_bufferA r3_4 r3_5 v_oldRanksA v_partA v_allRanksA v_basesA r4_6 r4_7 r4_8 r4_9) := hD
    refine lv_aload_n hx hb dX5_joined_29 rfl (lv_at hl 0 rfl) ?_
    refine va_get (D := G.1) (ci := 5) (v := .int r4_5) (C := RX5) (T := TX5) (N := 35) hx hb hts fw_X5_joined_X5 hown hK.1 hP 0 rfl rfl 33 (by decide) (hts (.fieldLink RX5 234 "HalftoneScreensModel" "joinedLaid" "I") lk_X5_joined_f234) (fun _ h9 => h9) rfl dX5_joined_30 ?_
    obtain ⟨rfl, rfl, rfl, rfl, rfl, rfl, rfl, rfl, rfl, rfl, rfl, rfl, rfl, rfl, rfl, rfl, rfl, rfl⟩ := sm18 h
    exact hret _ _ _ _ _ rfl trivial rfl hP hD hS dX5_joined_33
  · replace h := ite_f c2 h
    refine lv_iconst (v := 0) hx hb dX5_joined_17 (by decide) ?_
    obtain ⟨rfl, rfl, rfl, rfl, rfl, rfl, rfl, rfl, rfl, rfl, rfl, rfl, rfl, rfl, rfl, rfl, rfl, rfl⟩ := sm18 h
    exact hret _ _ _ _ _ rfl trivial rfl hP hD hS dX5_joined_18
theorem fw_X5_firstJoined_X5 : ∀ w ∈ wsX50, w ∈ wsX5_firstJoined := fun w h => List.mem_cons_of_mem _ (List.mem_append_right _ h)
theorem lk_X5_firstJoined_f59 : Cond.fieldLink RX5 59 "HalftoneScreensModel" "thrown" "I" ∈ wsX5_firstJoined := List.mem_of_getElem? (i := 1) rfl
theorem lk_X5_firstJoined_f234 : Cond.fieldLink RX5 234 "HalftoneScreensModel" "joinedLaid" "I" ∈ wsX5_firstJoined := List.mem_of_getElem? (i := 2) rfl
abbrev rmX5_firstJoined : Room := { frames := 6, cells := 0, slots := 0, locals := 141 }
set_option maxHeartbeats 4000000 in
set_option maxRecDepth 100000 in
theorem ctX5_firstJoined (l : Launch) (G : GG) (v_q0 : Nat) (v_q1 : Nat) (v_q2 : Nat) (v_q3 : Nat) (v_q4 : Nat) (v_q5 : Nat) (v_q6 : Nat) (v_q7 : Nat) (v_q8 : Nat) (v_q9 : Nat) (v_q10 : Nat) (v_q11 : Nat) (v_q12 : Nat) (v_q13 : Nat) (v_q14 : Nat) (v_q15 : Nat) (v_q16 : Nat) (v_thrown : Int32) (v_gain : Int32) (v_size : Int32) (v_w : Int32) (v_s : Int32) (v_h : Int32) (v_laidArea : Int32) (v_parts : Int32) (v_isMinus : Int32) (v_readSpot : Int32) (v_isStar : Int32) (v_wantsNumber : Int32) (v_waiting : Int32) (v_shiftX : Int32) (v_shiftY : Int32) (v_times : Int32) (v_dotsLaid : Int32) (v_joinedLaid : Int32) (v_hash : Int64) (v_isThereA : (Nat → Int32)) (v_vA : (Nat → Int32)) (v_spotOfA : (Nat → Int32)) (v_inMiddleA : (Nat → Int32)) (v_tintsA : (Nat → Int32)) (v_bufferA : (Nat → Int32)) (v_valuesA : (Nat → Int32)) (v_ranksA : (Nat → Int32)) (v_oldRanksA : (Nat → Int32)) (v_partA : (Nat → Int32)) (v_allRanksA : (Nat → Int32)) (v_basesA : (Nat → Int32)) (v_isMetA : (Nat → Int32)) (v_metXA : (Nat → Int32)) (v_metYA : (Nat → Int32)) (v_lineA : (Nat → Int32)) (a0 : Int32) (a1 : Int32) (o0 : Int32) (o1 : Int32) (o2 : Int32) (o3 : Int32) (o4 : Int32) (o5 : Int32) (o6 : Int32) (o7 : Int32) (o8 : Int32) (o9 : Int32) (o10 : Int32) (o11 : Int32) (o12 : (Nat → Int32)) (o13 : (Nat → Int32)) (o14 : (Nat → Int32)) (o15 : (Nat → Int32)) (o16 : (Nat → Int32)) (o17 : (Nat → Int32)) (h : mX5_firstJoined v_w v_s v_h v_laidArea v_waiting v_shiftX v_shiftY v_times v_dotsLaid v_joinedLaid v_isThereA v_vA v_spotOfA v_inMiddleA v_valuesA v_ranksA v_isMetA v_metXA v_metYA v_lineA a0 a1 = some (o0, o1, o2, o3, o4, o5, o6, o7, o8, o9, o10, o11, o12, o13, o14, o15, o16, o17))  : Met l yX5_firstJoined wsX5_firstJoined rmX5_firstJoined (va_Pc [.ref v_q0, .int a0, .int a1] (PreD G (wdX5 G v_q0 v_q1 v_q2 v_q3 v_q4 v_q5 v_q6 v_q7 v_q8 v_q9 v_q10 v_q11 v_q12 v_q13 v_q14 v_q15 v_q16 v_thrown v_gain v_size v_w v_s v_h v_laidArea v_parts v_isMinus v_readSpot v_isStar v_wantsNumber v_waiting v_shiftX v_shiftY v_times v_dotsLaid v_joinedLaid v_hash v_isThereA v_vA v_spotOfA v_inMiddleA v_tintsA v_bufferA v_valuesA v_ranksA v_oldRanksA v_partA v_allRanksA v_basesA v_isMetA v_metXA v_metYA v_lineA) (fun _ => True))) (QwA G (va_A0 (wdX5 G v_q0 v_q1 v_q2 v_q3 v_q4 v_q5 v_q6 v_q7 v_q8 v_q9 v_q10 v_q11 v_q12 v_q13 v_q14 v_q15 v_q16 v_thrown v_gain v_size v_w v_s v_h v_laidArea v_parts v_isMinus v_readSpot v_isStar v_wantsNumber v_waiting v_shiftX v_shiftY v_times v_dotsLaid v_joinedLaid v_hash v_isThereA v_vA v_spotOfA v_inMiddleA v_tintsA v_bufferA v_valuesA v_ranksA v_oldRanksA v_partA v_allRanksA v_basesA v_isMetA v_metXA v_metYA v_lineA)) (wdX5 G v_q0 v_q1 v_q2 v_q3 v_q4 v_q5 v_q6 v_q7 v_q8 v_q9 v_q10 v_q11 v_q12 v_q13 v_q14 v_q15 v_q16 o1 v_gain v_size o2 o3 o4 o5 v_parts v_isMinus v_readSpot v_isStar v_wantsNumber o6 o7 o8 o9 o10 o11 v_hash v_isThereA v_vA v_spotOfA v_inMiddleA v_tintsA v_bufferA o12 o13 v_oldRanksA v_partA v_allRanksA v_basesA o14 o15 o16 o17) (some (.int o0)) True) 0 0 (va_A0 (wdX5 G v_q0 v_q1 v_q2 v_q3 v_q4 v_q5 v_q6 v_q7 v_q8 v_q9 v_q10 v_q11 v_q12 v_q13 v_q14 v_q15 v_q16 v_thrown v_gain v_size v_w v_s v_h v_laidArea v_parts v_isMinus v_readSpot v_isStar v_wantsNumber v_waiting v_shiftX v_shiftY v_times v_dotsLaid v_joinedLaid v_hash v_isThereA v_vA v_spotOfA v_inMiddleA v_tintsA v_bufferA v_valuesA v_ranksA v_oldRanksA v_partA v_allRanksA v_basesA v_isMetA v_metXA v_metYA v_lineA)) := by
  refine of_wi (cc := cX5_firstJoined) (maxL := 4) (ty := .int) (plainFor_of_name (by decide)) rfl (Nat.le_of_ble_eq_true rfl) ?_
  intro p e s m args below meth c ls Q A S hl hP hD hS hK hX hA hret
  obtain ⟨H, hH⟩ : ∃ H, H = s.heap := ⟨_, rfl⟩
  obtain ⟨locs, hlocs⟩ : ∃ L : List Loc, L = [] := ⟨_, rfl⟩
  rw [← hlocs]
  rw [← hlocs] at hS
  have hP : va_P G.1 vwCl (wdX5 G v_q0 v_q1 v_q2 v_q3 v_q4 v_q5 v_q6 v_q7 v_q8 v_q9 v_q10 v_q11 v_q12 v_q13 v_q14 v_q15 v_q16 v_thrown v_gain v_size v_w v_s v_h v_laidArea v_parts v_isMinus v_readSpot v_isStar v_wantsNumber v_waiting v_shiftX v_shiftY v_times v_dotsLaid v_joinedLaid v_hash v_isThereA v_vA v_spotOfA v_inMiddleA v_tintsA v_bufferA v_valuesA v_ranksA v_oldRanksA v_partA v_allRanksA v_basesA v_isMetA v_metXA v_metYA v_lineA) H := by rw [hH]; exact hP
  have hS : va_S A s.heap H locs := by rw [hH]; exact hS
  suffices hgo : W p l e rmX5_firstJoined s m args below meth c H locs 0 0 Q (F0 m 0 ls []) by rw [hH] at hgo; exact hgo
  have S : CallFix p m c cX5_firstJoined 4 s args wsX5_firstJoined RX5 := S
  obtain ⟨hx, hb, hml, hown, hts⟩ := id S
  have hl : lv_has ls 4 [(0, .ref v_q0), (1, .int a0), (2, .int a1)] := hl
  unfold mX5_firstJoined at h
  refine lv_aload_n hx hb dX5_firstJoined_0 rfl (lv_at hl 0 rfl) ?_
  refine lv_aload_n hx hb dX5_firstJoined_1 rfl (lv_at hl 0 rfl) ?_
  refine lv_iload_n hx hb dX5_firstJoined_2 rfl (lv_at hl 1 rfl) ?_
  refine lv_iload_n hx hb dX5_firstJoined_3 rfl (lv_at hl 2 rfl) ?_
  refine lv_iconst (v := 1) hx hb dX5_firstJoined_4 (by decide) ?_
  refine lv_iconst (v := 2) hx hb dX5_firstJoined_5 (by decide) ?_
  obtain ⟨r1_0, g1, h⟩ := bnd1_e h
  refine roSi1 (rest := [.int a0, .ref v_q0, .ref v_q0]) (As := [.int a1, .int 1, .int 2]) S (ctX5_within l G a1 1 2 r1_0 g1) (va_cwS 3 hts gX5_firstJoined_X5_within rfl rfl rfl hsX5_within ⟨Nat.le_of_ble_eq_true rfl, Nat.le_of_ble_eq_true rfl⟩) hK hP [] rfl rfl hl.1 rfl (Nat.le_of_ble_eq_true rfl) dX5_firstJoined_6 ⟨Nat.le_refl _, Nat.le_refl _⟩ (fun hz1 => ?_)
  obtain ⟨r2_0, g2, h⟩ := bnd1_e h
  refine roVi1 (rest := [.ref v_q0]) (As := [.int a0, .int r1_0]) S (ctX5_wrong l G v_q0 v_q1 v_q2 v_q3 v_q4 v_q5 v_q6 v_q7 v_q8 v_q9 v_q10 v_q11 v_q12 v_q13 v_q14 v_q15 v_q16 v_thrown v_gain v_size v_w v_s v_h v_laidArea v_parts v_isMinus v_readSpot v_isStar v_wantsNumber v_waiting v_shiftX v_shiftY v_times v_dotsLaid v_joinedLaid v_hash v_isThereA v_vA v_spotOfA v_inMiddleA v_tintsA v_bufferA v_valuesA v_ranksA v_oldRanksA v_partA v_allRanksA v_basesA v_isMetA v_metXA v_metYA v_lineA a0 r1_0 r2_0 g2) (cwV 2 hts gX5_firstJoined_X5_wrong rfl rfl rfl hvX5_wrong ⟨Nat.le_of_ble_eq_true rfl, Nat.le_of_ble_eq_true rfl⟩) hK hP [0, 1, 2, 3, 4, 5, 6, 7, 8, 9, 10, 11, 12, 13, 14, 15, 16] rfl 0 5 rfl rfl rfl rfl hl.1 rfl (Nat.le_of_ble_eq_true rfl) dX5_firstJoined_9 ⟨Nat.le_refl _, Nat.le_refl _⟩ (fun _ => ?_)
  refine va_put (D := G.1) (ci := 5) (v := .int r2_0) (ty := .int) (C := RX5) (T := TX5) (N := 35) hx hb hts fw_X5_firstJoined_X5 tyX5 tyX5_ok nmX5 hown hK.1 hP hD hS 0 rfl rfl 0 (by decide) (hts (.fieldLink RX5 59 "HalftoneScreensModel" "thrown" "I") lk_X5_firstJoined_f59) (fun _ h9 => h9) rfl (tyX5_ok 0 (by decide)) rfl rfl (Nat.le_of_ble_eq_true rfl) dX5_firstJoined_12 (fun H locs hP hD hS => ?_)
  have hP : va_P G.1 vwCl (wdX5 G v_q0 v_q1 v_q2 v_q3 v_q4 v_q5 v_q6 v_q7 v_q8 v_q9 v_q10 v_q11 v_q12 v_q13 v_q14 v_q15 v_q16 r2_0 v_gain v_size v_w v_s v_h v_laidArea v_parts v_isMinus v_readSpot v_isStar v_wantsNumber v_waiting v_shiftX v_shiftY v_times v_dotsLaid v_joinedLaid v_hash v_isThereA v_vA v_spotOfA v_inMiddleA v_tintsA v_bufferA v_valuesA v_ranksA v_oldRanksA v_partA v_allRanksA v_basesA v_isMetA v_metXA v_metYA v_lineA) H := hP
  have hD : va_D A (wdX5 G v_q0 v_q1 v_q2 v_q3 v_q4 v_q5 v_q6 v_q7 v_q8 v_q9 v_q10 v_q11 v_q12 v_q13 v_q14 v_q15 v_q16 r2_0 v_gain v_size v_w v_s v_h v_laidArea v_parts v_isMinus v_readSpot v_isStar v_wantsNumber v_waiting v_shiftX v_shiftY v_times v_dotsLaid v_joinedLaid v_hash v_isThereA v_vA v_spotOfA v_inMiddleA v_tintsA v_bufferA v_valuesA v_ranksA v_oldRanksA v_partA v_allRanksA v_basesA v_isMetA v_metXA v_metYA v_lineA) := hD
  refine lv_aload_n hx hb dX5_firstJoined_15 rfl (lv_at hl 0 rfl) ?_
  refine va_get (D := G.1) (ci := 5) (v := .int r2_0) (C := RX5) (T := TX5) (N := 35) hx hb hts fw_X5_firstJoined_X5 hown hK.1 hP 0 rfl rfl 0 (by decide) (hts (.fieldLink RX5 59 "HalftoneScreensModel" "thrown" "I") lk_X5_firstJoined_f59) (fun _ h9 => h9) rfl dX5_firstJoined_16 ?_
  refine lv_if_le (tgt := 24) hx hb dX5_firstJoined_19 (by decide) (fun c3 => ?_) (fun c3 => ?_)
  · replace h := ite_t c3 h
    refine lv_aload_n hx hb dX5_firstJoined_24 rfl (lv_at hl 0 rfl) ?_
    refine lv_iload_n hx hb dX5_firstJoined_25 rfl (lv_at hl 1 rfl) ?_
    obtain ⟨r4_0, r4_1, r4_2, r4_3, r4_4, r4_5, g4, h⟩ := bnd6_e h
    refine rwV_same (rest := []) (As := [.int a0]) S (ctX5_layGrowth l G v_q0 v_q1 v_q2 v_q3 v_q4 v_q5 v_q6 v_q7 v_q8 v_q9 v_q10 v_q11 v_q12 v_q13 v_q14 v_q15 v_q16 r2_0 v_gain v_size v_w v_s v_h v_laidArea v_parts v_isMinus v_readSpot v_isStar v_wantsNumber v_waiting v_shiftX v_shiftY v_times v_dotsLaid v_joinedLaid v_hash v_isThereA v_vA v_spotOfA v_inMiddleA v_tintsA v_bufferA v_valuesA v_ranksA v_oldRanksA v_partA v_allRanksA v_basesA v_isMetA v_metXA v_metYA v_lineA a0 r4_0 r4_1 r4_2 r4_3 r4_4 r4_5 g4) (cwV 1 hts gX5_firstJoined_X5_layGrowth rfl rfl rfl hvX5_layGrowth ⟨Nat.le_of_ble_eq_true rfl, Nat.le_of_ble_eq_true rfl⟩) hK hP hD hS xb_triv (fun _ _ _ => trivial) 0 5 rfl rfl rfl rfl hl.1 rfl (Nat.le_of_ble_eq_true rfl) dX5_firstJoined_26 ⟨Nat.le_refl _, Nat.le_refl _⟩ (fun _ H locs hP hD hS => ?_)
    have hP : va_P G.1 vwCl (wdX5 G v_q0 v_q1 v_q2 v_q3 v_q4 v_q5 v_q6 v_q7 v_q8 v_q9 v_q10 v_q11 v_q12 v_q13 v_q14 v_q15 v_q16 r2_0 v_gain v_size r4_0 r4_1 r4_2 r4_3 v_parts v_isMinus v_readSpot v_isStar v_wantsNumber v_waiting v_shiftX v_shiftY v_times v_dotsLaid v_joinedLaid v_hash v_isThereA v_vA v_spotOfA v_inMiddleA v_tintsA v_bufferA r4_4 r4_5 v_oldRanksA v_partA v_allRanksA v_basesA v_isMetA v_metXA v_metYA v_lineA) H := hP
    have hD : va_D A (wdX5 G v_q0 v_q1 v_q2 v_q3 v_q4 v_q5 v_q6 v_q7 v_q8 v_q9 v_q10 v_q11 v_q12 v_q13 v_q14 v_q15 v_q16 r2_0 v_gain v_size r4_0 r4_1 r4_2 r4_3 v_parts v_isMinus v_readSpot v_isStar v_wantsNumber v_waiting v_shiftX v_shiftY v_times v_dotsLaid v_joinedLaid v_hash v_isThereA v_vA v_spotOfA v_inMiddleA v_tintsA v_bufferA r4_4 r4_5 v_oldRanksA v_partA v_allRanksA v_basesA v_isMetA v_metXA v_metYA v_lineA) := hD
    refine lv_iconst (v := 0) hx hb dX5_firstJoined_29 (by decide) ?_
    refine lv_istore_n (lv' := [(3, .int 0), (0, .ref v_q0), (1, .int a0), (2, .int a1)]) hx hb dX5_firstJoined_30 rfl hl (by decide) rfl (fun ls hl => ?_)
    refine lv_aload_n hx hb dX5_firstJoined_31 rfl (lv_at hl 1 rfl) ?_
    refine lv_iconst (v := 0) hx hb dX5_firstJoined_32 (by decide) ?_
    obtain ⟨r5_0, r5_1, r5_2, r5_3, r5_4, r5_5, r5_6, r5_7, r5_8, r5_9, g5, h⟩ := bnd10_e h
    refine rwV_same (rest := []) (As := [.int 0]) S (ctX5_layDots l G v_q0 v_q1 v_q2 v_q3 v_q4 v_q5 v_q6 v_q7 v_q8 v_q9 v_q10 v_q11 v_q12 v_q13 v_q14 v_q15 v_q16 r2_0 v_gain v_size r4_0 r4_1 r4_2 r4_3 v_parts v_isMinus v_readSpot v_isStar v_wantsNumber v_waiting v_shiftX v_shiftY v_times v_dotsLaid v_joinedLaid v_hash v_isThereA v_vA v_spotOfA v_inMiddleA v_tintsA v_bufferA r4_4 r4_5 v_oldRanksA v_partA v_allRanksA v_basesA v_isMetA v_metXA v_metYA v_lineA 0 r5_0 r5_1 r5_2 r5_3 r5_4 r5_5 r5_6 r5_7 r5_8 r5_9 g5) (cwV 1 hts gX5_firstJoined_X5_layDots rfl rfl rfl hvX5_layDots ⟨Nat.le_of_ble_eq_true rfl, Nat.le_of_ble_eq_true rfl⟩) hK hP hD hS xb_triv (fun _ _ _ => trivial) 0 5 rfl rfl rfl rfl hl.1 rfl (Nat.le_of_ble_eq_true rfl) dX5_firstJoined_33 ⟨Nat.le_refl _, Nat.le_refl _⟩ (fun _ H locs hP hD hS => ?_)
    have hP : va_P G.1 vwCl (wdX5 G v_q0 v_q1 v_q2 v_q3 v_q4 v_q5 v_q6 v_q7 v_q8 v_q9 v_q10 v_q11 v_q12 v_q13 v_q14 v_q15 v_q16 r2_0 v_gain v_size r4_0 r4_1 r4_2 r4_3 v_parts v_isMinus v_readSpot v_isStar v_wantsNumber r5_0 r5_1 r5_2 r5_3 r5_4 r5_5 v_hash v_isThereA v_vA v_spotOfA v_inMiddleA v_tintsA v_bufferA r4_4 r4_5 v_oldRanksA v_partA v_allRanksA v_basesA r5_6 r5_7 r5_8 r5_9) H := hP
    have hD : va_D A (wdX5 G v_q0 v_q1 v_q2 v_q3 v_q4 v_q5 v_q6 v_q7 v_q8 v_q9 v_q10 v_q11 v_q12 v_q13 v_q14 v_q15 v_q16 r2_0 v_gain v_size r4_0 r4_1 r4_2 r4_3 v_parts v_isMinus v_readSpot v_isStar v_wantsNumber r5_0 r5_1 r5_2 r5_3 r5_4 r5_5 v_hash v_isThereA v_vA v_spotOfA v_inMiddleA v_tintsA v_bufferA r4_4 r4_5 v_oldRanksA v_partA v_allRanksA v_basesA r5_6 r5_7 r5_8 r5_9) := hD
    obtain ⟨u6_0, u6_1, u6_2, u6_3, u6_4, u6_5, u6_6, u6_7, u6_8, u6_9, u6_10, g6, h⟩ := bnd11_e h
    have L6 : ∀ (fu : Nat) (v6_0 : Int32) (v6_1 : Int32) (v6_2 : Int32) (v6_3 : Int32) (v6_4 : Int32) (v6_5 : Int32) (v6_6 : Int32) (v6_7 : (Nat → Int32)) (v6_8 : (Nat → Int32)) (v6_9 : (Nat → Int32)) (v6_10 : (Nat → Int32)) (u6_0 : Int32) (u6_1 : Int32) (u6_2 : Int32) (u6_3 : Int32) (u6_4 : Int32) (u6_5 : Int32) (u6_6 : Int32) (u6_7 : (Nat → Int32)) (u6_8 : (Nat → Int32)) (u6_9 : (Nat → Int32)) (u6_10 : (Nat → Int32)) (H : Heap) (locs : List Loc) (ls : Array Slot), mX5_firstJoined_L36 a1 r4_0 r4_1 r4_2 r4_3 r4_5 fu v6_0 v6_1 v6_2 v6_3 v6_4 v6_5 v6_6 v6_7 v6_8 v6_9 v6_10 = some (u6_0, u6_1, u6_2, u6_3, u6_4, u6_5, u6_6, u6_7, u6_8, u6_9, u6_10) → lv_has ls 4 [(3, .int v6_0), (0, .ref v_q0), (1, .int a0), (2, .int a1)] → va_P G.1 vwCl (wdX5 G v_q0 v_q1 v_q2 v_q3 v_q4 v_q5 v_q6 v_q7 v_q8 v_q9 v_q10 v_q11 v_q12 v_q13 v_q14 v_q15 v_q16 r2_0 v_gain v_size r4_0 r4_1 r4_2 r4_3 v_parts v_isMinus v_readSpot v_isStar v_wantsNumber v6_1 v6_2 v6_3 v6_4 v6_5 v6_6 v_hash v_isThereA v_vA v_spotOfA v_inMiddleA v_tintsA v_bufferA r4_4 r4_5 v_oldRanksA v_partA v_allRanksA v_basesA v6_7 v6_8 v6_9 v6_10) H → va_D A (wdX5 G v_q0 v_q1 v_q2 v_q3 v_q4 v_q5 v_q6 v_q7 v_q8 v_q9 v_q10 v_q11 v_q12 v_q13 v_q14 v_q15 v_q16 r2_0 v_gain v_size r4_0 r4_1 r4_2 r4_3 v_parts v_isMinus v_readSpot v_isStar v_wantsNumber v6_1 v6_2 v6_3 v6_4 v6_5 v6_6 v_hash v_isThereA v_vA v_spotOfA v_inMiddleA v_tintsA v_bufferA r4_4 r4_5 v_oldRanksA v_partA v_allRanksA v_basesA v6_7 v6_8 v6_9 v6_10) → va_S A s.heap H locs → (∀ (H : Heap) (locs : List Loc) (ls : Array Slot), lv_has ls 4 [(3, .int u6_0), (0, .ref v_q0), (1, .int a0), (2, .int a1)] → va_P G.1 vwCl (wdX5 G v_q0 v_q1 v_q2 v_q3 v_q4 v_q5 v_q6 v_q7 v_q8 v_q9 v_q10 v_q11 v_q12 v_q13 v_q14 v_q15 v_q16 r2_0 v_gain v_size r4_0 r4_1 r4_2 r4_3 v_parts v_isMinus v_readSpot v_isStar v_wantsNumber u6_1 u6_2 u6_3 u6_4 u6_5 u6_6 v_hash v_isThereA v_vA v_spotOfA v_inMiddleA v_tintsA v_bufferA r4_4 r4_5 v_oldRanksA v_partA v_allRanksA v_basesA u6_7 u6_8 u6_9 u6_10) H → va_D A (wdX5 G v_q0 v_q1 v_q2 v_q3 v_q4 v_q5 v_q6 v_q7 v_q8 v_q9 v_q10 v_q11 v_q12 v_q13 v_q14 v_q15 v_q16 r2_0 v_gain v_size r4_0 r4_1 r4_2 r4_3 v_parts v_isMinus v_readSpot v_isStar v_wantsNumber u6_1 u6_2 u6_3 u6_4 u6_5 u6_6 v_hash v_isThereA v_vA v_spotOfA v_inMiddleA v_tintsA v_bufferA r4_4 r4_5 v_oldRanksA v_partA v_allRanksA v_basesA u6_7 u6_8 u6_9 u6_10) → va_S A s.heap H locs → W p l e rmX5_firstJoined s m args below meth c H locs 0 0 Q (F0 m 55 ls [])) → W p l e rmX5_firstJoined s m args below meth c H locs 0 0 Q (F0 m 36 ls []) := by
      intro fu
      induction fu with
      | zero => intro v6_0 v6_1 v6_2 v6_3 v6_4 v6_5 v6_6 v6_7 v6_8 v6_9 v6_10 u6_0 u6_1 u6_2 u6_3 u6_4 u6_5 u6_6 u6_7 u6_8 u6_9 u6_10 H locs ls h; exact nomatch h
      | succ fu ih =>
        intro v6_0 v6_1 v6_2 v6_3 v6_4 v6_5 v6_6 v6_7 v6_8 v6_9 v6_10 u6_0 u6_1 u6_2 u6_3 u6_4 u6_5 u6_6 u6_7 u6_8 u6_9 u6_10 H locs ls h hl hP hD hS kE
        rw [mX5_firstJoined_L36] at h
        refine lv_aload_n hx hb dX5_firstJoined_36 rfl (lv_at hl 1 rfl) ?_
        refine va_get (D := G.1) (ci := 5) (v := .int v6_6) (C := RX5) (T := TX5) (N := 35) hx hb hts fw_X5_firstJoined_X5 hown hK.1 hP 0 rfl rfl 33 (by decide) (hts (.fieldLink RX5 234 "HalftoneScreensModel" "joinedLaid" "I") lk_X5_firstJoined_f234) (fun _ h9 => h9) rfl dX5_firstJoined_37 ?_
        refine lv_iload_n hx hb dX5_firstJoined_40 rfl (lv_at hl 3 rfl) ?_
        refine lv_icmp_ge (tgt := 55) hx hb dX5_firstJoined_41 (by decide) (fun c7 => ?_) (fun c7 => ?_)
        · replace h := ite_t c7 h
          obtain ⟨rfl, rfl, rfl, rfl, rfl, rfl, rfl, rfl, rfl, rfl, rfl⟩ := sm11 h
          exact kE H locs ls hl hP hD hS
        · replace h := ite_f c7 h
          obtain ⟨x8, e8⟩ : ∃ y : Int32, y = v6_0 + 1 := ⟨_, rfl⟩
          replace h := nmB_e e8 h
          refine lv_iinc (v := x8) (lv' := [(3, .int x8), (0, .ref v_q0), (1, .int a0), (2, .int a1)]) hx hb dX5_firstJoined_44 hl (k := 0) rfl (by rw [e8]; rfl) (by decide) rfl (fun ls hl => ?_)
          refine lv_aload_n hx hb dX5_firstJoined_47 rfl (lv_at hl 1 rfl) ?_
          refine lv_iload_n hx hb dX5_firstJoined_48 rfl (lv_at hl 0 rfl) ?_
          obtain ⟨r9_0, r9_1, r9_2, r9_3, r9_4, r9_5, r9_6, r9_7, r9_8, r9_9, g9, h⟩ := bnd10_e h
          refine rwV_same (rest := []) (As := [.int x8]) S (ctX5_layDots l G v_q0 v_q1 v_q2 v_q3 v_q4 v_q5 v_q6 v_q7 v_q8 v_q9 v_q10 v_q11 v_q12 v_q13 v_q14 v_q15 v_q16 r2_0 v_gain v_size r4_0 r4_1 r4_2 r4_3 v_parts v_isMinus v_readSpot v_isStar v_wantsNumber v6_1 v6_2 v6_3 v6_4 v6_5 v6_6 v_hash v_isThereA v_vA v_spotOfA v_inMiddleA v_tintsA v_bufferA r4_4 r4_5 v_oldRanksA v_partA v_allRanksA v_basesA v6_7 v6_8 v6_9 v6_10 x8 r9_0 r9_1 r9_2 r9_3 r9_4 r9_5 r9_6 r9_7 r9_8 r9_9 g9) (cwV 1 hts gX5_firstJoined_X5_layDots rfl rfl rfl hvX5_layDots ⟨Nat.le_of_ble_eq_true rfl, Nat.le_of_ble_eq_true rfl⟩) hK hP hD hS xb_triv (fun _ _ _ => trivial) 0 5 rfl rfl rfl rfl hl.1 rfl (Nat.le_of_ble_eq_true rfl) dX5_firstJoined_49 ⟨Nat.le_refl _, Nat.le_refl _⟩ (fun _ H locs hP hD hS => ?_)
          have hP : va_P G.1 vwCl (wdX5 G v_q0 v_q1 v_q2 v_q3 v_q4 v_q5 v_q6 v_q7 v_q8 v_q9 v_q10 v_q11 v_q12 v_q13 v_q14 v_q15 v_q16 r2_0 v_gain v_size r4_0 r4_1 r4_2 r4_3 v_parts v_isMinus v_readSpot v_isStar v_wantsNumber r9_0 r9_1 r9_2 r9_3 r9_4 r9_5 v_hash v_isThereA v_vA v_spotOfA v_inMiddleA v_tintsA v_bufferA r4_4 r4_5 v_oldRanksA v_partA v_allRanksA v_basesA r9_6 r9_7 r9_8 r9_9) H := hP
          have hD : va_D A (wdX5 G v_q0 v_q1 v_q2 v_q3 v_q4 v_q5 v_q6 v_q7 v_q8 v_q9 v_q10 v_q11 v_q12 v_q13 v_q14 v_q15 v_q16 r2_0 v_gain v_size r4_0 r4_1 r4_2 r4_3 v_parts v_isMinus v_readSpot v_isStar v_wantsNumber r9_0 r9_1 r9_2 r9_3 r9_4 r9_5 v_hash v_isThereA v_vA v_spotOfA v_inMiddleA v_tintsA v_bufferA r4_4 r4_5 v_oldRanksA v_partA v_allRanksA v_basesA r9_6 r9_7 r9_8 r9_9) := hD
          refine lv_goto (tgt := 36) hx hb dX5_firstJoined_52 (by decide) ?_
          exact ih x8 r9_0 r9_1 r9_2 r9_3 r9_4 r9_5 r9_6 r9_7 r9_8 r9_9 u6_0 u6_1 u6_2 u6_3 u6_4 u6_5 u6_6 u6_7 u6_8 u6_9 u6_10 H locs ls h hl hP hD hS kE
    refine L6 FU 0 r5_0 r5_1 r5_2 r5_3 r5_4 r5_5 r5_6 r5_7 r5_8 r5_9 u6_0 u6_1 u6_2 u6_3 u6_4 u6_5 u6_6 u6_7 u6_8 u6_9 u6_10 H locs ls g6 hl hP hD hS (fun H locs ls hl hP hD hS => ?_)
    refine lv_iload_n hx hb dX5_firstJoined_55 rfl (lv_at hl 0 rfl) ?_
    obtain ⟨rfl, rfl, rfl, rfl, rfl, rfl, rfl, rfl, rfl, rfl, rfl, rfl, rfl, rfl, rfl, rfl, rfl, rfl⟩ := sm18 h
    exact hret _ _ _ _ _ rfl trivial rfl hP hD hS dX5_firstJoined_56
  · replace h := ite_f c3 h
    refine lv_iconst (v := 0) hx hb dX5_firstJoined_22 (by decide) ?_
    obtain ⟨rfl, rfl, rfl, rfl, rfl, rfl, rfl, rfl, rfl, rfl, rfl, rfl, rfl, rfl, rfl, rfl, rfl, rfl⟩ := sm18 h
    exact hret _ _ _ _ _ rfl trivial rfl hP hD hS dX5_firstJoined_23
theorem fw_X5_strength_X5 : ∀ w ∈ wsX50, w ∈ wsX5_strength := fun w h => List.mem_cons_of_mem _ (List.mem_append_right _ h)
theorem lk_X5_strength_f59 : Cond.fieldLink RX5 59 "HalftoneScreensModel" "thrown" "I" ∈ wsX5_strength := List.mem_of_getElem? (i := 1) rfl
theorem hsX5_strengthOf : yX5_strengthOf.cls ≠ "java/lang/invoke/MethodHandle" ∧ yX5_strengthOf.cls ≠ "java/lang/invoke/VarHandle" ∧ (parseMethodDescriptor yX5_strengthOf.desc).map (fun d => d.parameters.length) = some 1 := by decide +kernel
theorem hvX5_strengthOf : yX5_strengthOf.cls = RX5 ∧ yX5_strengthOf.cls ≠ "java/lang/invoke/MethodHandle" ∧ yX5_strengthOf.cls ≠ "java/lang/invoke/VarHandle" ∧ (parseMethodDescriptor yX5_strengthOf.desc).map (fun d => d.parameters.length) = some 1 := ⟨rfl, hsX5_strengthOf⟩
abbrev rmX5_strength : Room := { frames := 5, cells := 0, slots := 0, locals := 130 }
set_option maxHeartbeats 4000000 in
set_option maxRecDepth 100000 in
theorem ctX5_strength (l : Launch) (G : GG) (v_q0 : Nat) (v_q1 : Nat) (v_q2 : Nat) (v_q3 : Nat) (v_q4 : Nat) (v_q5 : Nat) (v_q6 : Nat) (v_q7 : Nat) (v_q8 : Nat) (v_q9 : Nat) (v_q10 : Nat) (v_q11 : Nat) (v_q12 : Nat) (v_q13 : Nat) (v_q14 : Nat) (v_q15 : Nat) (v_q16 : Nat) (v_thrown : Int32) (v_gain : Int32) (v_size : Int32) (v_w : Int32) (v_s : Int32) (v_h : Int32) (v_laidArea : Int32) (v_parts : Int32) (v_isMinus : Int32) (v_readSpot : Int32) (v_isStar : Int32) (v_wantsNumber : Int32) (v_waiting : Int32) (v_shiftX : Int32) (v_shiftY : Int32) (v_times : Int32) (v_dotsLaid : Int32) (v_joinedLaid : Int32) (v_hash : Int64) (v_isThereA : (Nat → Int32)) (v_vA : (Nat → Int32)) (v_spotOfA : (Nat → Int32)) (v_inMiddleA : (Nat → Int32)) (v_tintsA : (Nat → Int32)) (v_bufferA : (Nat → Int32)) (v_valuesA : (Nat → Int32)) (v_ranksA : (Nat → Int32)) (v_oldRanksA : (Nat → Int32)) (v_partA : (Nat → Int32)) (v_allRanksA : (Nat → Int32)) (v_basesA : (Nat → Int32)) (v_isMetA : (Nat → Int32)) (v_metXA : (Nat → Int32)) (v_metYA : (Nat → Int32)) (v_lineA : (Nat → Int32)) (a0 : Int32) (a1 : Int32) (o0 : Int32) (o1 : Int32) (o2 : Int32) (o3 : Int32) (o4 : Int32) (o5 : Int32) (o6 : (Nat → Int32)) (o7 : (Nat → Int32)) (h : mX5_strength v_gain v_w v_s v_h v_laidArea v_isThereA v_vA v_spotOfA v_inMiddleA v_valuesA v_ranksA a0 a1 = some (o0, o1, o2, o3, o4, o5, o6, o7))  : Met l yX5_strength wsX5_strength rmX5_strength (va_Pc [.ref v_q0, .int a0, .int a1] (PreD G (wdX5 G v_q0 v_q1 v_q2 v_q3 v_q4 v_q5 v_q6 v_q7 v_q8 v_q9 v_q10 v_q11 v_q12 v_q13 v_q14 v_q15 v_q16 v_thrown v_gain v_size v_w v_s v_h v_laidArea v_parts v_isMinus v_readSpot v_isStar v_wantsNumber v_waiting v_shiftX v_shiftY v_times v_dotsLaid v_joinedLaid v_hash v_isThereA v_vA v_spotOfA v_inMiddleA v_tintsA v_bufferA v_valuesA v_ranksA v_oldRanksA v_partA v_allRanksA v_basesA v_isMetA v_metXA v_metYA v_lineA) (fun _ => True))) (QwA G (va_A0 (wdX5 G v_q0 v_q1 v_q2 v_q3 v_q4 v_q5 v_q6 v_q7 v_q8 v_q9 v_q10 v_q11 v_q12 v_q13 v_q14 v_q15 v_q16 v_thrown v_gain v_size v_w v_s v_h v_laidArea v_parts v_isMinus v_readSpot v_isStar v_wantsNumber v_waiting v_shiftX v_shiftY v_times v_dotsLaid v_joinedLaid v_hash v_isThereA v_vA v_spotOfA v_inMiddleA v_tintsA v_bufferA v_valuesA v_ranksA v_oldRanksA v_partA v_allRanksA v_basesA v_isMetA v_metXA v_metYA v_lineA)) (wdX5 G v_q0 v_q1 v_q2 v_q3 v_q4 v_q5 v_q6 v_q7 v_q8 v_q9 v_q10 v_q11 v_q12 v_q13 v_q14 v_q15 v_q16 o1 v_gain v_size o2 o3 o4 o5 v_parts v_isMinus v_readSpot v_isStar v_wantsNumber v_waiting v_shiftX v_shiftY v_times v_dotsLaid v_joinedLaid v_hash v_isThereA v_vA v_spotOfA v_inMiddleA v_tintsA v_bufferA o6 o7 v_oldRanksA v_partA v_allRanksA v_basesA v_isMetA v_metXA v_metYA v_lineA) (some (.int o0)) True) 0 0 (va_A0 (wdX5 G v_q0 v_q1 v_q2 v_q3 v_q4 v_q5 v_q6 v_q7 v_q8 v_q9 v_q10 v_q11 v_q12 v_q13 v_q14 v_q15 v_q16 v_thrown v_gain v_size v_w v_s v_h v_laidArea v_parts v_isMinus v_readSpot v_isStar v_wantsNumber v_waiting v_shiftX v_shiftY v_times v_dotsLaid v_joinedLaid v_hash v_isThereA v_vA v_spotOfA v_inMiddleA v_tintsA v_bufferA v_valuesA v_ranksA v_oldRanksA v_partA v_allRanksA v_basesA v_isMetA v_metXA v_metYA v_lineA)) := by
  refine of_wi (cc := cX5_strength) (maxL := 3) (ty := .int) (plainFor_of_name (by decide)) rfl (Nat.le_of_ble_eq_true rfl) ?_
  intro p e s m args below meth c ls Q A S hl hP hD hS hK hX hA hret
  obtain ⟨H, hH⟩ : ∃ H, H = s.heap := ⟨_, rfl⟩
  obtain ⟨locs, hlocs⟩ : ∃ L : List Loc, L = [] := ⟨_, rfl⟩
  rw [← hlocs]
  rw [← hlocs] at hS
  have hP : va_P G.1 vwCl (wdX5 G v_q0 v_q1 v_q2 v_q3 v_q4 v_q5 v_q6 v_q7 v_q8 v_q9 v_q10 v_q11 v_q12 v_q13 v_q14 v_q15 v_q16 v_thrown v_gain v_size v_w v_s v_h v_laidArea v_parts v_isMinus v_readSpot v_isStar v_wantsNumber v_waiting v_shiftX v_shiftY v_times v_dotsLaid v_joinedLaid v_hash v_isThereA v_vA v_spotOfA v_inMiddleA v_tintsA v_bufferA v_valuesA v_ranksA v_oldRanksA v_partA v_allRanksA v_basesA v_isMetA v_metXA v_metYA v_lineA) H := by rw [hH]; exact hP
  have hS : va_S A s.heap H locs := by rw [hH]; exact hS
  suffices hgo : W p l e rmX5_strength s m args below meth c H locs 0 0 Q (F0 m 0 ls []) by rw [hH] at hgo; exact hgo
  have S : CallFix p m c cX5_strength 3 s args wsX5_strength RX5 := S
  obtain ⟨hx, hb, hml, hown, hts⟩ := id S
  have hl : lv_has ls 3 [(0, .ref v_q0), (1, .int a0), (2, .int a1)] := hl
  unfold mX5_strength at h
  refine lv_aload_n hx hb dX5_strength_0 rfl (lv_at hl 0 rfl) ?_
  refine lv_aload_n hx hb dX5_strength_1 rfl (lv_at hl 0 rfl) ?_
  refine lv_iload_n hx hb dX5_strength_2 rfl (lv_at hl 1 rfl) ?_
  refine lv_iload_n hx hb dX5_strength_3 rfl (lv_at hl 2 rfl) ?_
  obtain ⟨r1_0, g1, h⟩ := bnd1_e h
  refine roVi1 (rest := [.ref v_q0]) (As := [.int a0, .int a1]) S (ctX5_steppedWrong l G v_q0 v_q1 v_q2 v_q3 v_q4 v_q5 v_q6 v_q7 v_q8 v_q9 v_q10 v_q11 v_q12 v_q13 v_q14 v_q15 v_q16 v_thrown v_gain v_size v_w v_s v_h v_laidArea v_parts v_isMinus v_readSpot v_isStar v_wantsNumber v_waiting v_shiftX v_shiftY v_times v_dotsLaid v_joinedLaid v_hash v_isThereA v_vA v_spotOfA v_inMiddleA v_tintsA v_bufferA v_valuesA v_ranksA v_oldRanksA v_partA v_allRanksA v_basesA v_isMetA v_metXA v_metYA v_lineA a0 a1 r1_0 g1) (cwV 2 hts gX5_strength_X5_steppedWrong rfl rfl rfl hvX5_steppedWrong ⟨Nat.le_of_ble_eq_true rfl, Nat.le_of_ble_eq_true rfl⟩) hK hP [0, 1, 2, 3, 4, 5, 6, 7, 8, 9, 10, 11, 12, 13, 14, 15, 16] rfl 0 5 rfl rfl rfl rfl hl.1 rfl (Nat.le_of_ble_eq_true rfl) dX5_strength_4 ⟨Nat.le_refl _, Nat.le_refl _⟩ (fun _ => ?_)
  refine va_put (D := G.1) (ci := 5) (v := .int r1_0) (ty := .int) (C := RX5) (T := TX5) (N := 35) hx hb hts fw_X5_strength_X5 tyX5 tyX5_ok nmX5 hown hK.1 hP hD hS 0 rfl rfl 0 (by decide) (hts (.fieldLink RX5 59 "HalftoneScreensModel" "thrown" "I") lk_X5_strength_f59) (fun _ h9 => h9) rfl (tyX5_ok 0 (by decide)) rfl rfl (Nat.le_of_ble_eq_true rfl) dX5_strength_7 (fun H locs hP hD hS => ?_)
  have hP : va_P G.1 vwCl (wdX5 G v_q0 v_q1 v_q2 v_q3 v_q4 v_q5 v_q6 v_q7 v_q8 v_q9 v_q10 v_q11 v_q12 v_q13 v_q14 v_q15 v_q16 r1_0 v_gain v_size v_w v_s v_h v_laidArea v_parts v_isMinus v_readSpot v_isStar v_wantsNumber v_waiting v_shiftX v_shiftY v_times v_dotsLaid v_joinedLaid v_hash v_isThereA v_vA v_spotOfA v_inMiddleA v_tintsA v_bufferA v_valuesA v_ranksA v_oldRanksA v_partA v_allRanksA v_basesA v_isMetA v_metXA v_metYA v_lineA) H := hP
  have hD : va_D A (wdX5 G v_q0 v_q1 v_q2 v_q3 v_q4 v_q5 v_q6 v_q7 v_q8 v_q9 v_q10 v_q11 v_q12 v_q13 v_q14 v_q15 v_q16 r1_0 v_gain v_size v_w v_s v_h v_laidArea v_parts v_isMinus v_readSpot v_isStar v_wantsNumber v_waiting v_shiftX v_shiftY v_times v_dotsLaid v_joinedLaid v_hash v_isThereA v_vA v_spotOfA v_inMiddleA v_tintsA v_bufferA v_valuesA v_ranksA v_oldRanksA v_partA v_allRanksA v_basesA v_isMetA v_metXA v_metYA v_lineA) := hD
  refine lv_aload_n hx hb dX5_strength_10 rfl (lv_at hl 0 rfl) ?_
  refine va_get (D := G.1) (ci := 5) (v := .int r1_0) (C := RX5) (T := TX5) (N := 35) hx hb hts fw_X5_strength_X5 hown hK.1 hP 0 rfl rfl 0 (by decide) (hts (.fieldLink RX5 59 "HalftoneScreensModel" "thrown" "I") lk_X5_strength_f59) (fun _ h9 => h9) rfl dX5_strength_11 ?_
  refine lv_if_le (tgt := 19) hx hb dX5_strength_14 (by decide) (fun c2 => ?_) (fun c2 => ?_)
  · replace h := ite_t c2 h
    refine lv_aload_n hx hb dX5_strength_19 rfl (lv_at hl 0 rfl) ?_
    refine lv_iload_n hx hb dX5_strength_20 rfl (lv_at hl 1 rfl) ?_
    obtain ⟨r3_0, r3_1, r3_2, r3_3, r3_4, r3_5, g3, h⟩ := bnd6_e h
    refine rwV_same (rest := []) (As := [.int a0]) S (ctX5_layGrowth l G v_q0 v_q1 v_q2 v_q3 v_q4 v_q5 v_q6 v_q7 v_q8 v_q9 v_q10 v_q11 v_q12 v_q13 v_q14 v_q15 v_q16 r1_0 v_gain v_size v_w v_s v_h v_laidArea v_parts v_isMinus v_readSpot v_isStar v_wantsNumber v_waiting v_shiftX v_shiftY v_times v_dotsLaid v_joinedLaid v_hash v_isThereA v_vA v_spotOfA v_inMiddleA v_tintsA v_bufferA v_valuesA v_ranksA v_oldRanksA v_partA v_allRanksA v_basesA v_isMetA v_metXA v_metYA v_lineA a0 r3_0 r3_1 r3_2 r3_3 r3_4 r3_5 g3) (cwV 1 hts gX5_strength_X5_layGrowth rfl rfl rfl hvX5_layGrowth ⟨Nat.le_of_ble_eq_true rfl, Nat.le_of_ble_eq_true rfl⟩) hK hP hD hS xb_triv (fun _ _ _ => trivial) 0 5 rfl rfl rfl rfl hl.1 rfl (Nat.le_of_ble_eq_true rfl) dX5_strength_21 ⟨Nat.le_refl _, Nat.le_refl _⟩ (fun _ H locs hP hD hS => ?_)
    have hP : va_P G.1 vwCl (wdX5 G v_q0 v_q1 v_q2 v_q3 v_q4 v_q5 v_q6 v_q7 v_q8 v_q9 v_q10 v_q11 v_q12 v_q13 v_q14 v_q15 v_q16 r1_0 v_gain v_size r3_0 r3_1 r3_2 r3_3 v_parts v_isMinus v_readSpot v_isStar v_wantsNumber v_waiting v_shiftX v_shiftY v_times v_dotsLaid v_joinedLaid v_hash v_isThereA v_vA v_spotOfA v_inMiddleA v_tintsA v_bufferA r3_4 r3_5 v_oldRanksA v_partA v_allRanksA v_basesA v_isMetA v_metXA v_metYA v_lineA) H := hP
    have hD : va_D A (wdX5 G v_q0 v_q1 v_q2 v_q3 v_q4 v_q5 v_q6 v_q7 v_q8 v_q9 v_q10 v_q11 v_q12 v_q13 v_q14 v_q15 v_q16 r1_0 v_gain v_size r3_0 r3_1 r3_2 r3_3 v_parts v_isMinus v_readSpot v_isStar v_wantsNumber v_waiting v_shiftX v_shiftY v_times v_dotsLaid v_joinedLaid v_hash v_isThereA v_vA v_spotOfA v_inMiddleA v_tintsA v_bufferA r3_4 r3_5 v_oldRanksA v_partA v_allRanksA v_basesA v_isMetA v_metXA v_metYA v_lineA) := hD
    refine lv_aload_n hx hb dX5_strength_24 rfl (lv_at hl 0 rfl) ?_
    refine lv_iload_n hx hb dX5_strength_25 rfl (lv_at hl 2 rfl) ?_
    obtain ⟨r4_0, g4, h⟩ := bnd1_e h
    refine roVi1 (rest := []) (As := [.int a1]) S (ctX5_strengthOf l G v_q0 v_q1 v_q2 v_q3 v_q4 v_q5 v_q6 v_q7 v_q8 v_q9 v_q10 v_q11 v_q12 v_q13 v_q14 v_q15 v_q16 r1_0 v_gain v_size r3_0 r3_1 r3_2 r3_3 v_parts v_isMinus v_readSpot v_isStar v_wantsNumber v_waiting v_shiftX v_shiftY v_times v_dotsLaid v_joinedLaid v_hash v_isThereA v_vA v_spotOfA v_inMiddleA v_tintsA v_bufferA r3_4 r3_5 v_oldRanksA v_partA v_allRanksA v_basesA v_isMetA v_metXA v_metYA v_lineA a1 r4_0 g4) (cwV 1 hts gX5_strength_X5_strengthOf rfl rfl rfl hvX5_strengthOf ⟨Nat.le_of_ble_eq_true rfl, Nat.le_of_ble_eq_true rfl⟩) hK hP [0, 1, 2, 3, 4, 5, 6, 7, 8, 9, 10, 11, 12, 13, 14, 15, 16] rfl 0 5 rfl rfl rfl rfl hl.1 rfl (Nat.le_of_ble_eq_true rfl) dX5_strength_26 ⟨Nat.le_refl _, Nat.le_refl _⟩ (fun _ => ?_)
    obtain ⟨rfl, rfl, rfl, rfl, rfl, rfl, rfl, rfl⟩ := sm8 h
    exact hret _ _ _ _ _ rfl trivial rfl hP hD hS dX5_strength_29
  · replace h := ite_f c2 h
    refine lv_iconst (v := 0) hx hb dX5_strength_17 (by decide) ?_
    obtain ⟨rfl, rfl, rfl, rfl, rfl, rfl, rfl, rfl⟩ := sm8 h
    exact hret _ _ _ _ _ rfl trivial rfl hP hD hS dX5_strength_18
theorem fw_X5_meanStrength_X5 : ∀ w ∈ wsX50, w ∈ wsX5_meanStrength := fun w h => List.mem_cons_of_mem _ (List.mem_append_right _ h)
theorem lk_X5_meanStrength_f59 : Cond.fieldLink RX5 59 "HalftoneScreensModel" "thrown" "I" ∈ wsX5_meanStrength := List.mem_of_getElem? (i := 1) rfl
theorem lk_X5_meanStrength_f23 : Cond.fieldLink RX5 23 "HalftoneScreensModel" "tints" "[I" ∈ wsX5_meanStrength := List.mem_of_getElem? (i := 2) rfl
theorem lk_X5_meanStrength_f113 : Cond.fieldLink RX5 113 "HalftoneScreensModel" "laidArea" "I" ∈ wsX5_meanStrength := List.mem_of_getElem? (i := 3) rfl
abbrev rmX5_meanStrength : Room := { frames := 5, cells := 0, slots := 0, locals := 130 }
set_option maxHeartbeats 4000000 in
set_option maxRecDepth 100000 in
theorem ctX5_meanStrength (l : Launch) (G : GG) (v_q0 : Nat) (v_q1 : Nat) (v_q2 : Nat) (v_q3 : Nat) (v_q4 : Nat) (v_q5 : Nat) (v_q6 : Nat) (v_q7 : Nat) (v_q8 : Nat) (v_q9 : Nat) (v_q10 : Nat) (v_q11 : Nat) (v_q12 : Nat) (v_q13 : Nat) (v_q14 : Nat) (v_q15 : Nat) (v_q16 : Nat) (v_thrown : Int32) (v_gain : Int32) (v_size : Int32) (v_w : Int32) (v_s : Int32) (v_h : Int32) (v_laidArea : Int32) (v_parts : Int32) (v_isMinus : Int32) (v_readSpot : Int32) (v_isStar : Int32) (v_wantsNumber : Int32) (v_waiting : Int32) (v_shiftX : Int32) (v_shiftY : Int32) (v_times : Int32) (v_dotsLaid : Int32) (v_joinedLaid : Int32) (v_hash : Int64) (v_isThereA : (Nat → Int32)) (v_vA : (Nat → Int32)) (v_spotOfA : (Nat → Int32)) (v_inMiddleA : (Nat → Int32)) (v_tintsA : (Nat → Int32)) (v_bufferA : (Nat → Int32)) (v_valuesA : (Nat → Int32)) (v_ranksA : (Nat → Int32)) (v_oldRanksA : (Nat → Int32)) (v_partA : (Nat → Int32)) (v_allRanksA : (Nat → Int32)) (v_basesA : (Nat → Int32)) (v_isMetA : (Nat → Int32)) (v_metXA : (Nat → Int32)) (v_metYA : (Nat → Int32)) (v_lineA : (Nat → Int32)) (a0 : Int32) (o0 : UInt64) (o1 : Int32) (o2 : Int32) (o3 : Int32) (o4 : Int32) (o5 : Int32) (o6 : (Nat → Int32)) (o7 : (Nat → Int32)) (h : mX5_meanStrength v_gain v_w v_s v_h v_laidArea v_isThereA v_vA v_spotOfA v_inMiddleA v_tintsA v_valuesA v_ranksA a0 = some (o0, o1, o2, o3, o4, o5, o6, o7))  : Met l yX5_meanStrength wsX5_meanStrength rmX5_meanStrength (va_Pc [.ref v_q0, .int a0] (PreD G (wdX5 G v_q0 v_q1 v_q2 v_q3 v_q4 v_q5 v_q6 v_q7 v_q8 v_q9 v_q10 v_q11 v_q12 v_q13 v_q14 v_q15 v_q16 v_thrown v_gain v_size v_w v_s v_h v_laidArea v_parts v_isMinus v_readSpot v_isStar v_wantsNumber v_waiting v_shiftX v_shiftY v_times v_dotsLaid v_joinedLaid v_hash v_isThereA v_vA v_spotOfA v_inMiddleA v_tintsA v_bufferA v_valuesA v_ranksA v_oldRanksA v_partA v_allRanksA v_basesA v_isMetA v_metXA v_metYA v_lineA) (fun _ => True))) (QwA G (va_A0 (wdX5 G v_q0 v_q1 v_q2 v_q3 v_q4 v_q5 v_q6 v_q7 v_q8 v_q9 v_q10 v_q11 v_q12 v_q13 v_q14 v_q15 v_q16 v_thrown v_gain v_size v_w v_s v_h v_laidArea v_parts v_isMinus v_readSpot v_isStar v_wantsNumber v_waiting v_shiftX v_shiftY v_times v_dotsLaid v_joinedLaid v_hash v_isThereA v_vA v_spotOfA v_inMiddleA v_tintsA v_bufferA v_valuesA v_ranksA v_oldRanksA v_partA v_allRanksA v_basesA v_isMetA v_metXA v_metYA v_lineA)) (wdX5 G v_q0 v_q1 v_q2 v_q3 v_q4 v_q5 v_q6 v_q7 v_q8 v_q9 v_q10 v_q11 v_q12 v_q13 v_q14 v_q15 v_q16 o1 v_gain v_size o2 o3 o4 o5 v_parts v_isMinus v_readSpot v_isStar v_wantsNumber v_waiting v_shiftX v_shiftY v_times v_dotsLaid v_joinedLaid v_hash v_isThereA v_vA v_spotOfA v_inMiddleA v_tintsA v_bufferA o6 o7 v_oldRanksA v_partA v_allRanksA v_basesA v_isMetA v_metXA v_metYA v_lineA) (some (.double o0)) True) 0 0 (va_A0 (wdX5 G v_q0 v_q1 v_q2 v_q3 v_q4 v_q5 v_q6 v_q7 v_q8 v_q9 v_q10 v_q11 v_q12 v_q13 v_q14 v_q15 v_q16 v_thrown v_gain v_size v_w v_s v_h v_laidArea v_parts v_isMinus v_readSpot v_isStar v_wantsNumber v_waiting v_shiftX v_shiftY v_times v_dotsLaid v_joinedLaid v_hash v_isThereA v_vA v_spotOfA v_inMiddleA v_tintsA v_bufferA v_valuesA v_ranksA v_oldRanksA v_partA v_allRanksA v_basesA v_isMetA v_metXA v_metYA v_lineA)) := by
  refine of_wd (cc := cX5_meanStrength) (maxL := 2) (plainFor_of_name (by decide)) rfl (Nat.le_of_ble_eq_true rfl) ?_
  intro p e s m args below meth c ls Q A S hl hP hD hS hK hX hA hret
  obtain ⟨H, hH⟩ : ∃ H, H = s.heap := ⟨_, rfl⟩
  obtain ⟨locs, hlocs⟩ : ∃ L : List Loc, L = [] := ⟨_, rfl⟩
  rw [← hlocs]
  rw [← hlocs] at hS
  have hP : va_P G.1 vwCl (wdX5 G v_q0 v_q1 v_q2 v_q3 v_q4 v_q5 v_q6 v_q7 v_q8 v_q9 v_q10 v_q11 v_q12 v_q13 v_q14 v_q15 v_q16 v_thrown v_gain v_size v_w v_s v_h v_laidArea v_parts v_isMinus v_readSpot v_isStar v_wantsNumber v_waiting v_shiftX v_shiftY v_times v_dotsLaid v_joinedLaid v_hash v_isThereA v_vA v_spotOfA v_inMiddleA v_tintsA v_bufferA v_valuesA v_ranksA v_oldRanksA v_partA v_allRanksA v_basesA v_isMetA v_metXA v_metYA v_lineA) H := by rw [hH]; exact hP
  have hS : va_S A s.heap H locs := by rw [hH]; exact hS
  suffices hgo : W p l e rmX5_meanStrength s m args below meth c H locs 0 0 Q (F0 m 0 ls []) by rw [hH] at hgo; exact hgo
  have S : CallFix p m c cX5_meanStrength 2 s args wsX5_meanStrength RX5 := S
  obtain ⟨hx, hb, hml, hown, hts⟩ := id S
  have hl : lv_has ls 2 [(0, .ref v_q0), (1, .int a0)] := hl
  unfold mX5_meanStrength at h
  refine lv_aload_n hx hb dX5_meanStrength_0 rfl (lv_at hl 0 rfl) ?_
  refine lv_aload_n hx hb dX5_meanStrength_1 rfl (lv_at hl 0 rfl) ?_
  refine lv_iload_n hx hb dX5_meanStrength_2 rfl (lv_at hl 1 rfl) ?_
  obtain ⟨r1_0, g1, h⟩ := bnd1_e h
  refine roVi1 (rest := [.ref v_q0]) (As := [.int a0]) S (ctX5_missing l G v_q0 v_q1 v_q2 v_q3 v_q4 v_q5 v_q6 v_q7 v_q8 v_q9 v_q10 v_q11 v_q12 v_q13 v_q14 v_q15 v_q16 v_thrown v_gain v_size v_w v_s v_h v_laidArea v_parts v_isMinus v_readSpot v_isStar v_wantsNumber v_waiting v_shiftX v_shiftY v_times v_dotsLaid v_joinedLaid v_hash v_isThereA v_vA v_spotOfA v_inMiddleA v_tintsA v_bufferA v_valuesA v_ranksA v_oldRanksA v_partA v_allRanksA v_basesA v_isMetA v_metXA v_metYA v_lineA a0 r1_0 g1) (cwV 1 hts gX5_meanStrength_X5_missing rfl rfl rfl hvX5_missing ⟨Nat.le_of_ble_eq_true rfl, Nat.le_of_ble_eq_true rfl⟩) hK hP [0, 1, 2, 3, 4, 5, 6, 7, 8, 9, 10, 11, 12, 13, 14, 15, 16] rfl 0 5 rfl rfl rfl rfl hl.1 rfl (Nat.le_of_ble_eq_true rfl) dX5_meanStrength_3 ⟨Nat.le_refl _, Nat.le_refl _⟩ (fun _ => ?_)
  refine va_put (D := G.1) (ci := 5) (v := .int r1_0) (ty := .int) (C := RX5) (T := TX5) (N := 35) hx hb hts fw_X5_meanStrength_X5 tyX5 tyX5_ok nmX5 hown hK.1 hP hD hS 0 rfl rfl 0 (by decide) (hts (.fieldLink RX5 59 "HalftoneScreensModel" "thrown" "I") lk_X5_meanStrength_f59) (fun _ h9 => h9) rfl (tyX5_ok 0 (by decide)) rfl rfl (Nat.le_of_ble_eq_true rfl) dX5_meanStrength_6 (fun H locs hP hD hS => ?_)
  have hP : va_P G.1 vwCl (wdX5 G v_q0 v_q1 v_q2 v_q3 v_q4 v_q5 v_q6 v_q7 v_q8 v_q9 v_q10 v_q11 v_q12 v_q13 v_q14 v_q15 v_q16 r1_0 v_gain v_size v_w v_s v_h v_laidArea v_parts v_isMinus v_readSpot v_isStar v_wantsNumber v_waiting v_shiftX v_shiftY v_times v_dotsLaid v_joinedLaid v_hash v_isThereA v_vA v_spotOfA v_inMiddleA v_tintsA v_bufferA v_valuesA v_ranksA v_oldRanksA v_partA v_allRanksA v_basesA v_isMetA v_metXA v_metYA v_lineA) H := hP
  have hD : va_D A (wdX5 G v_q0 v_q1 v_q2 v_q3 v_q4 v_q5 v_q6 v_q7 v_q8 v_q9 v_q10 v_q11 v_q12 v_q13 v_q14 v_q15 v_q16 r1_0 v_gain v_size v_w v_s v_h v_laidArea v_parts v_isMinus v_readSpot v_isStar v_wantsNumber v_waiting v_shiftX v_shiftY v_times v_dotsLaid v_joinedLaid v_hash v_isThereA v_vA v_spotOfA v_inMiddleA v_tintsA v_bufferA v_valuesA v_ranksA v_oldRanksA v_partA v_allRanksA v_basesA v_isMetA v_metXA v_metYA v_lineA) := hD
  refine lv_aload_n hx hb dX5_meanStrength_9 rfl (lv_at hl 0 rfl) ?_
  refine va_get (D := G.1) (ci := 5) (v := .int r1_0) (C := RX5) (T := TX5) (N := 35) hx hb hts fw_X5_meanStrength_X5 hown hK.1 hP 0 rfl rfl 0 (by decide) (hts (.fieldLink RX5 59 "HalftoneScreensModel" "thrown" "I") lk_X5_meanStrength_f59) (fun _ h9 => h9) rfl dX5_meanStrength_10 ?_
  refine lv_if_le (tgt := 18) hx hb dX5_meanStrength_13 (by decide) (fun c2 => ?_) (fun c2 => ?_)
  · replace h := ite_t c2 h
    refine lv_aload_n hx hb dX5_meanStrength_18 rfl (lv_at hl 0 rfl) ?_
    refine lv_iload_n hx hb dX5_meanStrength_19 rfl (lv_at hl 1 rfl) ?_
    obtain ⟨r3_0, r3_1, r3_2, r3_3, r3_4, r3_5, g3, h⟩ := bnd6_e h
    refine rwV_same (rest := []) (As := [.int a0]) S (ctX5_layGrowth l G v_q0 v_q1 v_q2 v_q3 v_q4 v_q5 v_q6 v_q7 v_q8 v_q9 v_q10 v_q11 v_q12 v_q13 v_q14 v_q15 v_q16 r1_0 v_gain v_size v_w v_s v_h v_laidArea v_parts v_isMinus v_readSpot v_isStar v_wantsNumber v_waiting v_shiftX v_shiftY v_times v_dotsLaid v_joinedLaid v_hash v_isThereA v_vA v_spotOfA v_inMiddleA v_tintsA v_bufferA v_valuesA v_ranksA v_oldRanksA v_partA v_allRanksA v_basesA v_isMetA v_metXA v_metYA v_lineA a0 r3_0 r3_1 r3_2 r3_3 r3_4 r3_5 g3) (cwV 1 hts gX5_meanStrength_X5_layGrowth rfl rfl rfl hvX5_layGrowth ⟨Nat.le_of_ble_eq_true rfl, Nat.le_of_ble_eq_true rfl⟩) hK hP hD hS xb_triv (fun _ _ _ => trivial) 0 5 rfl rfl rfl rfl hl.1 rfl (Nat.le_of_ble_eq_true rfl) dX5_meanStrength_20 ⟨Nat.le_refl _, Nat.le_refl _⟩ (fun _ H locs hP hD hS => ?_)
    have hP : va_P G.1 vwCl (wdX5 G v_q0 v_q1 v_q2 v_q3 v_q4 v_q5 v_q6 v_q7 v_q8 v_q9 v_q10 v_q11 v_q12 v_q13 v_q14 v_q15 v_q16 r1_0 v_gain v_size r3_0 r3_1 r3_2 r3_3 v_parts v_isMinus v_readSpot v_isStar v_wantsNumber v_waiting v_shiftX v_shiftY v_times v_dotsLaid v_joinedLaid v_hash v_isThereA v_vA v_spotOfA v_inMiddleA v_tintsA v_bufferA r3_4 r3_5 v_oldRanksA v_partA v_allRanksA v_basesA v_isMetA v_metXA v_metYA v_lineA) H := hP
    have hD : va_D A (wdX5 G v_q0 v_q1 v_q2 v_q3 v_q4 v_q5 v_q6 v_q7 v_q8 v_q9 v_q10 v_q11 v_q12 v_q13 v_q14 v_q15 v_q16 r1_0 v_gain v_size r3_0 r3_1 r3_2 r3_3 v_parts v_isMinus v_readSpot v_isStar v_wantsNumber v_waiting v_shiftX v_shiftY v_times v_dotsLaid v_joinedLaid v_hash v_isThereA v_vA v_spotOfA v_inMiddleA v_tintsA v_bufferA r3_4 r3_5 v_oldRanksA v_partA v_allRanksA v_basesA v_isMetA v_metXA v_metYA v_lineA) := hD
    refine lv_aload_n hx hb dX5_meanStrength_23 rfl (lv_at hl 0 rfl) ?_
    refine lv_aload_n hx hb dX5_meanStrength_24 rfl (lv_at hl 0 rfl) ?_
    refine va_get (D := G.1) (ci := 5) (v := .ref v_q5) (C := RX5) (T := TX5) (N := 35) hx hb hts fw_X5_meanStrength_X5 hown hK.1 hP 0 rfl rfl 5 (by decide) (hts (.fieldLink RX5 23 "HalftoneScreensModel" "tints" "[I") lk_X5_meanStrength_f23) (fun _ h9 => h9) rfl dX5_meanStrength_25 ?_
    refine lv_iload_n hx hb dX5_meanStrength_28 rfl (lv_at hl 1 rfl) ?_
    obtain ⟨i4, h⟩ := gd_e h
    refine va_iald hx hb hK.1 hP 5 0 rfl rfl i4 dX5_meanStrength_29 ?_
    obtain ⟨r5_0, g5, h⟩ := bnd1_e h
    refine roVi1 (rest := []) (As := [.int (v_tintsA a0.toNatClampNeg)]) S (ctX5_strengthOf l G v_q0 v_q1 v_q2 v_q3 v_q4 v_q5 v_q6 v_q7 v_q8 v_q9 v_q10 v_q11 v_q12 v_q13 v_q14 v_q15 v_q16 r1_0 v_gain v_size r3_0 r3_1 r3_2 r3_3 v_parts v_isMinus v_readSpot v_isStar v_wantsNumber v_waiting v_shiftX v_shiftY v_times v_dotsLaid v_joinedLaid v_hash v_isThereA v_vA v_spotOfA v_inMiddleA v_tintsA v_bufferA r3_4 r3_5 v_oldRanksA v_partA v_allRanksA v_basesA v_isMetA v_metXA v_metYA v_lineA (v_tintsA a0.toNatClampNeg) r5_0 g5) (cwV 1 hts gX5_meanStrength_X5_strengthOf rfl rfl rfl hvX5_strengthOf ⟨Nat.le_of_ble_eq_true rfl, Nat.le_of_ble_eq_true rfl⟩) hK hP [0, 1, 2, 3, 4, 5, 6, 7, 8, 9, 10, 11, 12, 13, 14, 15, 16] rfl 0 5 rfl rfl rfl rfl hl.1 rfl (Nat.le_of_ble_eq_true rfl) dX5_meanStrength_30 ⟨Nat.le_refl _, Nat.le_refl _⟩ (fun _ => ?_)
    refine lv_i2d hx hb dX5_meanStrength_33 ?_
    refine lv_aload_n hx hb dX5_meanStrength_34 rfl (lv_at hl 0 rfl) ?_
    refine va_get (D := G.1) (ci := 5) (v := .int r3_3) (C := RX5) (T := TX5) (N := 35) hx hb hts fw_X5_meanStrength_X5 hown hK.1 hP 0 rfl rfl 14 (by decide) (hts (.fieldLink RX5 113 "HalftoneScreensModel" "laidArea" "I") lk_X5_meanStrength_f113) (fun _ h9 => h9) rfl dX5_meanStrength_35 ?_
    refine lv_i2d hx hb dX5_meanStrength_38 ?_
    obtain ⟨z6, h⟩ := gz_e h
    refine lv_ddiv hx hb dX5_meanStrength_39 (nn_div _ z6) ?_
    obtain ⟨rfl, rfl, rfl, rfl, rfl, rfl, rfl, rfl⟩ := sm8 h
    exact hret _ _ _ _ _ rfl trivial hP hD hS dX5_meanStrength_40
  · replace h := ite_f c2 h
    refine lv_dconst0 hx hb dX5_meanStrength_16 ?_
    obtain ⟨rfl, rfl, rfl, rfl, rfl, rfl, rfl, rfl⟩ := sm8 h
    exact hret _ _ _ _ _ rfl trivial hP hD hS dX5_meanStrength_17
