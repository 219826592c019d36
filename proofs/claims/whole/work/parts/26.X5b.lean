-- contracts of the methods (laid by program from the listing)
theorem fw_X5_layGrowth_X5 : ∀ w ∈ wsX50, w ∈ wsX5_layGrowth := fun w h => List.mem_cons_of_mem _ (List.mem_append_right _ h)
theorem lk_X5_layGrowth_f113 : Cond.fieldLink RX5 113 "HalftoneScreensModel" "laidArea" "I" ∈ wsX5_layGrowth := List.mem_of_getElem? (i := 1) rfl
theorem lk_X5_layGrowth_f29 : Cond.fieldLink RX5 29 "HalftoneScreensModel" "values" "[I" ∈ wsX5_layGrowth := List.mem_of_getElem? (i := 2) rfl
theorem lk_X5_layGrowth_f89 : Cond.fieldLink RX5 89 "HalftoneScreensModel" "w" "I" ∈ wsX5_layGrowth := List.mem_of_getElem? (i := 3) rfl
theorem lk_X5_layGrowth_f32 : Cond.fieldLink RX5 32 "HalftoneScreensModel" "ranks" "[I" ∈ wsX5_layGrowth := List.mem_of_getElem? (i := 4) rfl
theorem hsX5_layScreen : yX5_layScreen.cls ≠ "java/lang/invoke/MethodHandle" ∧ yX5_layScreen.cls ≠ "java/lang/invoke/VarHandle" ∧ (parseMethodDescriptor yX5_layScreen.desc).map (fun d => d.parameters.length) = some 1 := by decide +kernel
theorem hvX5_layScreen : yX5_layScreen.cls = RX5 ∧ yX5_layScreen.cls ≠ "java/lang/invoke/MethodHandle" ∧ yX5_layScreen.cls ≠ "java/lang/invoke/VarHandle" ∧ (parseMethodDescriptor yX5_layScreen.desc).map (fun d => d.parameters.length) = some 1 := ⟨rfl, hsX5_layScreen⟩
theorem hsX5_valueAt : yX5_valueAt.cls ≠ "java/lang/invoke/MethodHandle" ∧ yX5_valueAt.cls ≠ "java/lang/invoke/VarHandle" ∧ (parseMethodDescriptor yX5_valueAt.desc).map (fun d => d.parameters.length) = some 3 := by decide +kernel
theorem hvX5_valueAt : yX5_valueAt.cls = RX5 ∧ yX5_valueAt.cls ≠ "java/lang/invoke/MethodHandle" ∧ yX5_valueAt.cls ≠ "java/lang/invoke/VarHandle" ∧ (parseMethodDescriptor yX5_valueAt.desc).map (fun d => d.parameters.length) = some 3 := ⟨rfl, hsX5_valueAt⟩
abbrev rmX5_layGrowth : Room := { frames := 4, cells := 0, slots := 0, locals := 107 }
set_option maxHeartbeats 4000000 in
set_option maxRecDepth 100000 in
theorem ctX5_layGrowth (l : Launch) (G : GG) (v_q0 : Nat) (v_q1 : Nat) (v_q2 : Nat) (v_q3 : Nat) (v_q4 : Nat) (v_q5 : Nat) (v_q6 : Nat) (v_q7 : Nat) (v_q8 : Nat) (v_q9 : Nat) (v_q10 : Nat) (v_q11 : Nat) (v_q12 : Nat) (v_q13 : Nat) (v_q14 : Nat) (v_q15 : Nat) (v_q16 : Nat) (v_thrown : Int32) (v_gain : Int32) (v_size : Int32) (v_w : Int32) (v_s : Int32) (v_h : Int32) (v_laidArea : Int32) (v_parts : Int32) (v_isMinus : Int32) (v_readSpot : Int32) (v_isStar : Int32) (v_wantsNumber : Int32) (v_waiting : Int32) (v_shiftX : Int32) (v_shiftY : Int32) (v_times : Int32) (v_dotsLaid : Int32) (v_joinedLaid : Int32) (v_hash : Int64) (v_isThereA : (Nat → Int32)) (v_vA : (Nat → Int32)) (v_spotOfA : (Nat → Int32)) (v_inMiddleA : (Nat → Int32)) (v_tintsA : (Nat → Int32)) (v_bufferA : (Nat → Int32)) (v_valuesA : (Nat → Int32)) (v_ranksA : (Nat → Int32)) (v_oldRanksA : (Nat → Int32)) (v_partA : (Nat → Int32)) (v_allRanksA : (Nat → Int32)) (v_basesA : (Nat → Int32)) (v_isMetA : (Nat → Int32)) (v_metXA : (Nat → Int32)) (v_metYA : (Nat → Int32)) (v_lineA : (Nat → Int32)) (a0 : Int32) (o0 : Int32) (o1 : Int32) (o2 : Int32) (o3 : Int32) (o4 : (Nat → Int32)) (o5 : (Nat → Int32)) (h : mX5_layGrowth v_vA v_spotOfA v_inMiddleA v_valuesA v_ranksA a0 = some (o0, o1, o2, o3, o4, o5))  : Met l yX5_layGrowth wsX5_layGrowth rmX5_layGrowth (va_Pc [.ref v_q0, .int a0] (PreD G (wdX5 G v_q0 v_q1 v_q2 v_q3 v_q4 v_q5 v_q6 v_q7 v_q8 v_q9 v_q10 v_q11 v_q12 v_q13 v_q14 v_q15 v_q16 v_thrown v_gain v_size v_w v_s v_h v_laidArea v_parts v_isMinus v_readSpot v_isStar v_wantsNumber v_waiting v_shiftX v_shiftY v_times v_dotsLaid v_joinedLaid v_hash v_isThereA v_vA v_spotOfA v_inMiddleA v_tintsA v_bufferA v_valuesA v_ranksA v_oldRanksA v_partA v_allRanksA v_basesA v_isMetA v_metXA v_metYA v_lineA) (fun _ => True))) (QwA G (va_A0 (wdX5 G v_q0 v_q1 v_q2 v_q3 v_q4 v_q5 v_q6 v_q7 v_q8 v_q9 v_q10 v_q11 v_q12 v_q13 v_q14 v_q15 v_q16 v_thrown v_gain v_size v_w v_s v_h v_laidArea v_parts v_isMinus v_readSpot v_isStar v_wantsNumber v_waiting v_shiftX v_shiftY v_times v_dotsLaid v_joinedLaid v_hash v_isThereA v_vA v_spotOfA v_inMiddleA v_tintsA v_bufferA v_valuesA v_ranksA v_oldRanksA v_partA v_allRanksA v_basesA v_isMetA v_metXA v_metYA v_lineA)) (wdX5 G v_q0 v_q1 v_q2 v_q3 v_q4 v_q5 v_q6 v_q7 v_q8 v_q9 v_q10 v_q11 v_q12 v_q13 v_q14 v_q15 v_q16 v_thrown v_gain v_size o0 o1 o2 o3 v_parts v_isMinus v_readSpot v_isStar v_wantsNumber v_waiting v_shiftX v_shiftY v_times v_dotsLaid v_joinedLaid v_hash v_isThereA v_vA v_spotOfA v_inMiddleA v_tintsA v_bufferA o4 o5 v_oldRanksA v_partA v_allRanksA v_basesA v_isMetA v_metXA v_metYA v_lineA) none True) 0 0 (va_A0 (wdX5 G v_q0 v_q1 v_q2 v_q3 v_q4 v_q5 v_q6 v_q7 v_q8 v_q9 v_q10 v_q11 v_q12 v_q13 v_q14 v_q15 v_q16 v_thrown v_gain v_size v_w v_s v_h v_laidArea v_parts v_isMinus v_readSpot v_isStar v_wantsNumber v_waiting v_shiftX v_shiftY v_times v_dotsLaid v_joinedLaid v_hash v_isThereA v_vA v_spotOfA v_inMiddleA v_tintsA v_bufferA v_valuesA v_ranksA v_oldRanksA v_partA v_allRanksA v_basesA v_isMetA v_metXA v_metYA v_lineA)) := by
  refine of_wv (cc := cX5_layGrowth) (maxL := 4) (plainFor_of_name (by decide)) rfl (Nat.le_of_ble_eq_true rfl) ?_
  intro p e s m args below meth c ls Q A S hl hP hD hS hK hX hA hret
  obtain ⟨H, hH⟩ : ∃ H, H = s.heap := ⟨_, rfl⟩
  obtain ⟨locs, hlocs⟩ : ∃ L : List Loc, L = [] := ⟨_, rfl⟩
  rw [← hlocs]
  rw [← hlocs] at hS
  have hP : va_P G.1 vwCl (wdX5 G v_q0 v_q1 v_q2 v_q3 v_q4 v_q5 v_q6 v_q7 v_q8 v_q9 v_q10 v_q11 v_q12 v_q13 v_q14 v_q15 v_q16 v_thrown v_gain v_size v_w v_s v_h v_laidArea v_parts v_isMinus v_readSpot v_isStar v_wantsNumber v_waiting v_shiftX v_shiftY v_times v_dotsLaid v_joinedLaid v_hash v_isThereA v_vA v_spotOfA v_inMiddleA v_tintsA v_bufferA v_valuesA v_ranksA v_oldRanksA v_partA v_allRanksA v_basesA v_isMetA v_metXA v_metYA v_lineA) H := by rw [hH]; exact hP
  have hS : va_S A s.heap H locs := by rw [hH]; exact hS
  suffices hgo : W p l e rmX5_layGrowth s m args below meth c H locs 0 0 Q (F0 m 0 ls []) by rw [hH] at hgo; exact hgo
  have S : CallFix p m c cX5_layGrowth 4 s args wsX5_layGrowth RX5 := S
  obtain ⟨hx, hb, hml, hown, hts⟩ := id S
  have hl : lv_has ls 4 [(0, .ref v_q0), (1, .int a0)] := hl
  unfold mX5_layGrowth at h
  refine lv_aload_n hx hb dX5_layGrowth_0 rfl (lv_at hl 0 rfl) ?_
  refine lv_iload_n hx hb dX5_layGrowth_1 rfl (lv_at hl 1 rfl) ?_
  obtain ⟨r1_0, r1_1, r1_2, g1, h⟩ := bnd3_e h
  refine rwV_same (rest := []) (As := [.int a0]) S (ctX5_layScreen l G v_q0 v_q1 v_q2 v_q3 v_q4 v_q5 v_q6 v_q7 v_q8 v_q9 v_q10 v_q11 v_q12 v_q13 v_q14 v_q15 v_q16 v_thrown v_gain v_size v_w v_s v_h v_laidArea v_parts v_isMinus v_readSpot v_isStar v_wantsNumber v_waiting v_shiftX v_shiftY v_times v_dotsLaid v_joinedLaid v_hash v_isThereA v_vA v_spotOfA v_inMiddleA v_tintsA v_bufferA v_valuesA v_ranksA v_oldRanksA v_partA v_allRanksA v_basesA v_isMetA v_metXA v_metYA v_lineA a0 r1_0 r1_1 r1_2 g1) (cwV 1 hts gX5_layGrowth_X5_layScreen rfl rfl rfl hvX5_layScreen ⟨Nat.le_of_ble_eq_true rfl, Nat.le_of_ble_eq_true rfl⟩) hK hP hD hS xb_triv (fun _ _ _ => trivial) 0 5 rfl rfl rfl rfl hl.1 rfl (Nat.le_of_ble_eq_true rfl) dX5_layGrowth_2 ⟨Nat.le_refl _, Nat.le_refl _⟩ (fun _ H locs hP hD hS => ?_)
  have hP : va_P G.1 vwCl (wdX5 G v_q0 v_q1 v_q2 v_q3 v_q4 v_q5 v_q6 v_q7 v_q8 v_q9 v_q10 v_q11 v_q12 v_q13 v_q14 v_q15 v_q16 v_thrown v_gain v_size r1_0 r1_1 r1_2 v_laidArea v_parts v_isMinus v_readSpot v_isStar v_wantsNumber v_waiting v_shiftX v_shiftY v_times v_dotsLaid v_joinedLaid v_hash v_isThereA v_vA v_spotOfA v_inMiddleA v_tintsA v_bufferA v_valuesA v_ranksA v_oldRanksA v_partA v_allRanksA v_basesA v_isMetA v_metXA v_metYA v_lineA) H := hP
  have hD : va_D A (wdX5 G v_q0 v_q1 v_q2 v_q3 v_q4 v_q5 v_q6 v_q7 v_q8 v_q9 v_q10 v_q11 v_q12 v_q13 v_q14 v_q15 v_q16 v_thrown v_gain v_size r1_0 r1_1 r1_2 v_laidArea v_parts v_isMinus v_readSpot v_isStar v_wantsNumber v_waiting v_shiftX v_shiftY v_times v_dotsLaid v_joinedLaid v_hash v_isThereA v_vA v_spotOfA v_inMiddleA v_tintsA v_bufferA v_valuesA v_ranksA v_oldRanksA v_partA v_allRanksA v_basesA v_isMetA v_metXA v_metYA v_lineA) := hD
  refine lv_aload_n hx hb dX5_layGrowth_5 rfl (lv_at hl 0 rfl) ?_
  refine lv_aload_n hx hb dX5_layGrowth_6 rfl (lv_at hl 0 rfl) ?_
  refine lv_iload_n hx hb dX5_layGrowth_7 rfl (lv_at hl 1 rfl) ?_
  obtain ⟨r2_0, g2, h⟩ := bnd1_e h
  refine roVi1 (rest := [.ref v_q0]) (As := [.int a0]) S (ctX5_areaIn l G v_q0 v_q1 v_q2 v_q3 v_q4 v_q5 v_q6 v_q7 v_q8 v_q9 v_q10 v_q11 v_q12 v_q13 v_q14 v_q15 v_q16 v_thrown v_gain v_size r1_0 r1_1 r1_2 v_laidArea v_parts v_isMinus v_readSpot v_isStar v_wantsNumber v_waiting v_shiftX v_shiftY v_times v_dotsLaid v_joinedLaid v_hash v_isThereA v_vA v_spotOfA v_inMiddleA v_tintsA v_bufferA v_valuesA v_ranksA v_oldRanksA v_partA v_allRanksA v_basesA v_isMetA v_metXA v_metYA v_lineA a0 r2_0 g2) (cwV 1 hts gX5_layGrowth_X5_areaIn rfl rfl rfl hvX5_areaIn ⟨Nat.le_of_ble_eq_true rfl, Nat.le_of_ble_eq_true rfl⟩) hK hP [0, 1, 2, 3, 4, 5, 6, 7, 8, 9, 10, 11, 12, 13, 14, 15, 16] rfl 0 5 rfl rfl rfl rfl hl.1 rfl (Nat.le_of_ble_eq_true rfl) dX5_layGrowth_8 ⟨Nat.le_refl _, Nat.le_refl _⟩ (fun _ => ?_)
  refine va_put (D := G.1) (ci := 5) (v := .int r2_0) (ty := .int) (C := RX5) (T := TX5) (N := 35) hx hb hts fw_X5_layGrowth_X5 tyX5 tyX5_ok nmX5 hown hK.1 hP hD hS 0 rfl rfl 14 (by decide) (hts (.fieldLink RX5 113 "HalftoneScreensModel" "laidArea" "I") lk_X5_layGrowth_f113) (fun _ h9 => h9) rfl (tyX5_ok 14 (by decide)) rfl rfl (Nat.le_of_ble_eq_true rfl) dX5_layGrowth_11 (fun H locs hP hD hS => ?_)
  have hP : va_P G.1 vwCl (wdX5 G v_q0 v_q1 v_q2 v_q3 v_q4 v_q5 v_q6 v_q7 v_q8 v_q9 v_q10 v_q11 v_q12 v_q13 v_q14 v_q15 v_q16 v_thrown v_gain v_size r1_0 r1_1 r1_2 r2_0 v_parts v_isMinus v_readSpot v_isStar v_wantsNumber v_waiting v_shiftX v_shiftY v_times v_dotsLaid v_joinedLaid v_hash v_isThereA v_vA v_spotOfA v_inMiddleA v_tintsA v_bufferA v_valuesA v_ranksA v_oldRanksA v_partA v_allRanksA v_basesA v_isMetA v_metXA v_metYA v_lineA) H := hP
  have hD : va_D A (wdX5 G v_q0 v_q1 v_q2 v_q3 v_q4 v_q5 v_q6 v_q7 v_q8 v_q9 v_q10 v_q11 v_q12 v_q13 v_q14 v_q15 v_q16 v_thrown v_gain v_size r1_0 r1_1 r1_2 r2_0 v_parts v_isMinus v_readSpot v_isStar v_wantsNumber v_waiting v_shiftX v_shiftY v_times v_dotsLaid v_joinedLaid v_hash v_isThereA v_vA v_spotOfA v_inMiddleA v_tintsA v_bufferA v_valuesA v_ranksA v_oldRanksA v_partA v_allRanksA v_basesA v_isMetA v_metXA v_metYA v_lineA) := hD
  refine lv_iconst (v := 0) hx hb dX5_layGrowth_14 (by decide) ?_
  refine lv_istore_n (lv' := [(2, .int 0), (0, .ref v_q0), (1, .int a0)]) hx hb dX5_layGrowth_15 rfl hl (by decide) rfl (fun ls hl => ?_)
  obtain ⟨u3_0, u3_1, g3, h⟩ := bnd2_e h
  have L3 : ∀ (fu : Nat) (v3_0 : Int32) (v3_1 : (Nat → Int32)) (u3_0 : Int32) (u3_1 : (Nat → Int32)) (H : Heap) (locs : List Loc) (ls : Array Slot), mX5_layGrowth_L16 v_vA v_spotOfA v_inMiddleA a0 r1_0 r1_1 r1_2 r2_0 fu v3_0 v3_1 = some (u3_0, u3_1) → lv_has ls 4 [(2, .int v3_0), (0, .ref v_q0), (1, .int a0)] → va_P G.1 vwCl (wdX5 G v_q0 v_q1 v_q2 v_q3 v_q4 v_q5 v_q6 v_q7 v_q8 v_q9 v_q10 v_q11 v_q12 v_q13 v_q14 v_q15 v_q16 v_thrown v_gain v_size r1_0 r1_1 r1_2 r2_0 v_parts v_isMinus v_readSpot v_isStar v_wantsNumber v_waiting v_shiftX v_shiftY v_times v_dotsLaid v_joinedLaid v_hash v_isThereA v_vA v_spotOfA v_inMiddleA v_tintsA v_bufferA v3_1 v_ranksA v_oldRanksA v_partA v_allRanksA v_basesA v_isMetA v_metXA v_metYA v_lineA) H → va_D A (wdX5 G v_q0 v_q1 v_q2 v_q3 v_q4 v_q5 v_q6 v_q7 v_q8 v_q9 v_q10 v_q11 v_q12 v_q13 v_q14 v_q15 v_q16 v_thrown v_gain v_size r1_0 r1_1 r1_2 r2_0 v_parts v_isMinus v_readSpot v_isStar v_wantsNumber v_waiting v_shiftX v_shiftY v_times v_dotsLaid v_joinedLaid v_hash v_isThereA v_vA v_spotOfA v_inMiddleA v_tintsA v_bufferA v3_1 v_ranksA v_oldRanksA v_partA v_allRanksA v_basesA v_isMetA v_metXA v_metYA v_lineA) → va_S A s.heap H locs → (∀ (H : Heap) (locs : List Loc) (ls : Array Slot), lv_has ls 4 [(2, .int u3_0), (0, .ref v_q0), (1, .int a0)] → va_P G.1 vwCl (wdX5 G v_q0 v_q1 v_q2 v_q3 v_q4 v_q5 v_q6 v_q7 v_q8 v_q9 v_q10 v_q11 v_q12 v_q13 v_q14 v_q15 v_q16 v_thrown v_gain v_size r1_0 r1_1 r1_2 r2_0 v_parts v_isMinus v_readSpot v_isStar v_wantsNumber v_waiting v_shiftX v_shiftY v_times v_dotsLaid v_joinedLaid v_hash v_isThereA v_vA v_spotOfA v_inMiddleA v_tintsA v_bufferA u3_1 v_ranksA v_oldRanksA v_partA v_allRanksA v_basesA v_isMetA v_metXA v_metYA v_lineA) H → va_D A (wdX5 G v_q0 v_q1 v_q2 v_q3 v_q4 v_q5 v_q6 v_q7 v_q8 v_q9 v_q10 v_q11 v_q12 v_q13 v_q14 v_q15 v_q16 v_thrown v_gain v_size r1_0 r1_1 r1_2 r2_0 v_parts v_isMinus v_readSpot v_isStar v_wantsNumber v_waiting v_shiftX v_shiftY v_times v_dotsLaid v_joinedLaid v_hash v_isThereA v_vA v_spotOfA v_inMiddleA v_tintsA v_bufferA u3_1 v_ranksA v_oldRanksA v_partA v_allRanksA v_basesA v_isMetA v_metXA v_metYA v_lineA) → va_S A s.heap H locs → W p l e rmX5_layGrowth s m args below meth c H locs 0 0 Q (F0 m 53 ls [])) → W p l e rmX5_layGrowth s m args below meth c H locs 0 0 Q (F0 m 16 ls []) := by
    intro fu
    induction fu with
    | zero => intro v3_0 v3_1 u3_0 u3_1 H locs ls h; exact nomatch h
    | succ fu ih =>
      intro v3_0 v3_1 u3_0 u3_1 H locs ls h hl hP hD hS kE
      rw [mX5_layGrowth_L16] at h
      refine lv_iload_n hx hb dX5_layGrowth_16 rfl (lv_at hl 0 rfl) ?_
      refine lv_aload_n hx hb dX5_layGrowth_17 rfl (lv_at hl 1 rfl) ?_
      refine va_get (D := G.1) (ci := 5) (v := .int r2_0) (C := RX5) (T := TX5) (N := 35) hx hb hts fw_X5_layGrowth_X5 hown hK.1 hP 0 rfl rfl 14 (by decide) (hts (.fieldLink RX5 113 "HalftoneScreensModel" "laidArea" "I") lk_X5_layGrowth_f113) (fun _ h9 => h9) rfl dX5_layGrowth_18 ?_
      refine lv_icmp_ge (tgt := 53) hx hb dX5_layGrowth_21 (by decide) (fun c4 => ?_) (fun c4 => ?_)
      · replace h := ite_t c4 h
        obtain ⟨rfl, rfl⟩ := sm2 h
        exact kE H locs ls hl hP hD hS
      · replace h := ite_f c4 h
        refine lv_aload_n hx hb dX5_layGrowth_24 rfl (lv_at hl 1 rfl) ?_
        refine va_get (D := G.1) (ci := 5) (v := .ref v_q7) (C := RX5) (T := TX5) (N := 35) hx hb hts fw_X5_layGrowth_X5 hown hK.1 hP 0 rfl rfl 12 (by decide) (hts (.fieldLink RX5 29 "HalftoneScreensModel" "values" "[I") lk_X5_layGrowth_f29) (fun _ h9 => h9) rfl dX5_layGrowth_25 ?_
        refine lv_iload_n hx hb dX5_layGrowth_28 rfl (lv_at hl 0 rfl) ?_
        refine lv_aload_n hx hb dX5_layGrowth_29 rfl (lv_at hl 1 rfl) ?_
        refine lv_iload_n hx hb dX5_layGrowth_30 rfl (lv_at hl 2 rfl) ?_
        refine lv_iload_n hx hb dX5_layGrowth_31 rfl (lv_at hl 0 rfl) ?_
        refine lv_aload_n hx hb dX5_layGrowth_32 rfl (lv_at hl 1 rfl) ?_
        refine va_get (D := G.1) (ci := 5) (v := .int r1_0) (C := RX5) (T := TX5) (N := 35) hx hb hts fw_X5_layGrowth_X5 hown hK.1 hP 0 rfl rfl 9 (by decide) (hts (.fieldLink RX5 89 "HalftoneScreensModel" "w" "I") lk_X5_layGrowth_f89) (fun _ h9 => h9) rfl dX5_layGrowth_33 ?_
        obtain ⟨z5, h⟩ := gz_e h
        refine lv_irem hx hb dX5_layGrowth_36 z5 ?_
        refine lv_iload_n hx hb dX5_layGrowth_37 rfl (lv_at hl 0 rfl) ?_
        refine lv_aload_n hx hb dX5_layGrowth_38 rfl (lv_at hl 1 rfl) ?_
        refine va_get (D := G.1) (ci := 5) (v := .int r1_0) (C := RX5) (T := TX5) (N := 35) hx hb hts fw_X5_layGrowth_X5 hown hK.1 hP 0 rfl rfl 9 (by decide) (hts (.fieldLink RX5 89 "HalftoneScreensModel" "w" "I") lk_X5_layGrowth_f89) (fun _ h9 => h9) rfl dX5_layGrowth_39 ?_
        obtain ⟨z6, h⟩ := gz_e h
        refine lv_idiv hx hb dX5_layGrowth_42 z6 ?_
        obtain ⟨r7_0, g7, h⟩ := bnd1_e h
        refine roVi1 (rest := [.int v3_0, .ref v_q7]) (As := [.int a0, .int (v3_0 - v3_0 / r1_0 * r1_0), .int (v3_0 / r1_0)]) S (ctX5_valueAt l G v_q0 v_q1 v_q2 v_q3 v_q4 v_q5 v_q6 v_q7 v_q8 v_q9 v_q10 v_q11 v_q12 v_q13 v_q14 v_q15 v_q16 v_thrown v_gain v_size r1_0 r1_1 r1_2 r2_0 v_parts v_isMinus v_readSpot v_isStar v_wantsNumber v_waiting v_shiftX v_shiftY v_times v_dotsLaid v_joinedLaid v_hash v_isThereA v_vA v_spotOfA v_inMiddleA v_tintsA v_bufferA v3_1 v_ranksA v_oldRanksA v_partA v_allRanksA v_basesA v_isMetA v_metXA v_metYA v_lineA a0 (v3_0 - v3_0 / r1_0 * r1_0) (v3_0 / r1_0) r7_0 g7) (cwV 3 hts gX5_layGrowth_X5_valueAt rfl rfl rfl hvX5_valueAt ⟨Nat.le_of_ble_eq_true rfl, Nat.le_of_ble_eq_true rfl⟩) hK hP [0, 1, 2, 3, 4, 5, 6, 7, 8, 9, 10, 11, 12, 13, 14, 15, 16] rfl 0 5 rfl rfl rfl rfl hl.1 rfl (Nat.le_of_ble_eq_true rfl) dX5_layGrowth_43 ⟨Nat.le_refl _, Nat.le_refl _⟩ (fun _ => ?_)
        obtain ⟨i8, h⟩ := gd_e h
        refine va_iast hx hb hK.1 hP hD hS 7 0 rfl rfl i8 dX5_layGrowth_46 (fun H locs hP hD hS => ?_)
        have hP : va_P G.1 vwCl (wdX5 G v_q0 v_q1 v_q2 v_q3 v_q4 v_q5 v_q6 v_q7 v_q8 v_q9 v_q10 v_q11 v_q12 v_q13 v_q14 v_q15 v_q16 v_thrown v_gain v_size r1_0 r1_1 r1_2 r2_0 v_parts v_isMinus v_readSpot v_isStar v_wantsNumber v_waiting v_shiftX v_shiftY v_times v_dotsLaid v_joinedLaid v_hash v_isThereA v_vA v_spotOfA v_inMiddleA v_tintsA v_bufferA (upd v3_1 v3_0.toNatClampNeg r7_0) v_ranksA v_oldRanksA v_partA v_allRanksA v_basesA v_isMetA v_metXA v_metYA v_lineA) H := hP
        have hD : va_D A (wdX5 G v_q0 v_q1 v_q2 v_q3 v_q4 v_q5 v_q6 v_q7 v_q8 v_q9 v_q10 v_q11 v_q12 v_q13 v_q14 v_q15 v_q16 v_thrown v_gain v_size r1_0 r1_1 r1_2 r2_0 v_parts v_isMinus v_readSpot v_isStar v_wantsNumber v_waiting v_shiftX v_shiftY v_times v_dotsLaid v_joinedLaid v_hash v_isThereA v_vA v_spotOfA v_inMiddleA v_tintsA v_bufferA (upd v3_1 v3_0.toNatClampNeg r7_0) v_ranksA v_oldRanksA v_partA v_allRanksA v_basesA v_isMetA v_metXA v_metYA v_lineA) := hD
        obtain ⟨x9, e9⟩ : ∃ y : Int32, y = v3_0 + 1 := ⟨_, rfl⟩
        replace h := nmB_e e9 h
        refine lv_iinc (v := x9) (lv' := [(2, .int x9), (0, .ref v_q0), (1, .int a0)]) hx hb dX5_layGrowth_47 hl (k := 0) rfl (by rw [e9]; rfl) (by decide) rfl (fun ls hl => ?_)
        refine lv_goto (tgt := 16) hx hb dX5_layGrowth_50 (by decide) ?_
        exact ih x9 (upd v3_1 v3_0.toNatClampNeg r7_0) u3_0 u3_1 H locs ls h hl hP hD hS kE
  refine L3 FU 0 v_valuesA u3_0 u3_1 H locs ls g3 hl hP hD hS (fun H locs ls hl hP hD hS => ?_)
  refine lv_iconst (v := 0) hx hb dX5_layGrowth_53 (by decide) ?_
  refine lv_istore_n (lv' := [(2, .int 0), (0, .ref v_q0), (1, .int a0)]) hx hb dX5_layGrowth_54 rfl hl (by decide) rfl (fun ls hl => ?_)
  obtain ⟨u10_0, u10_1, g10, h⟩ := bnd2_e h
  have L10 : ∀ (fu : Nat) (v10_0 : Int32) (v10_1 : (Nat → Int32)) (u10_0 : Int32) (u10_1 : (Nat → Int32)) (H : Heap) (locs : List Loc) (ls : Array Slot), mX5_layGrowth_L55 r2_0 u3_1 fu v10_0 v10_1 = some (u10_0, u10_1) → lv_has ls 4 [(2, .int v10_0), (0, .ref v_q0), (1, .int a0)] → va_P G.1 vwCl (wdX5 G v_q0 v_q1 v_q2 v_q3 v_q4 v_q5 v_q6 v_q7 v_q8 v_q9 v_q10 v_q11 v_q12 v_q13 v_q14 v_q15 v_q16 v_thrown v_gain v_size r1_0 r1_1 r1_2 r2_0 v_parts v_isMinus v_readSpot v_isStar v_wantsNumber v_waiting v_shiftX v_shiftY v_times v_dotsLaid v_joinedLaid v_hash v_isThereA v_vA v_spotOfA v_inMiddleA v_tintsA v_bufferA u3_1 v10_1 v_oldRanksA v_partA v_allRanksA v_basesA v_isMetA v_metXA v_metYA v_lineA) H → va_D A (wdX5 G v_q0 v_q1 v_q2 v_q3 v_q4 v_q5 v_q6 v_q7 v_q8 v_q9 v_q10 v_q11 v_q12 v_q13 v_q14 v_q15 v_q16 v_thrown v_gain v_size r1_0 r1_1 r1_2 r2_0 v_parts v_isMinus v_readSpot v_isStar v_wantsNumber v_waiting v_shiftX v_shiftY v_times v_dotsLaid v_joinedLaid v_hash v_isThereA v_vA v_spotOfA v_inMiddleA v_tintsA v_bufferA u3_1 v10_1 v_oldRanksA v_partA v_allRanksA v_basesA v_isMetA v_metXA v_metYA v_lineA) → va_S A s.heap H locs → (∀ (H : Heap) (locs : List Loc) (ls : Array Slot), lv_has ls 4 [(2, .int u10_0), (0, .ref v_q0), (1, .int a0)] → va_P G.1 vwCl (wdX5 G v_q0 v_q1 v_q2 v_q3 v_q4 v_q5 v_q6 v_q7 v_q8 v_q9 v_q10 v_q11 v_q12 v_q13 v_q14 v_q15 v_q16 v_thrown v_gain v_size r1_0 r1_1 r1_2 r2_0 v_parts v_isMinus v_readSpot v_isStar v_wantsNumber v_waiting v_shiftX v_shiftY v_times v_dotsLaid v_joinedLaid v_hash v_isThereA v_vA v_spotOfA v_inMiddleA v_tintsA v_bufferA u3_1 u10_1 v_oldRanksA v_partA v_allRanksA v_basesA v_isMetA v_metXA v_metYA v_lineA) H → va_D A (wdX5 G v_q0 v_q1 v_q2 v_q3 v_q4 v_q5 v_q6 v_q7 v_q8 v_q9 v_q10 v_q11 v_q12 v_q13 v_q14 v_q15 v_q16 v_thrown v_gain v_size r1_0 r1_1 r1_2 r2_0 v_parts v_isMinus v_readSpot v_isStar v_wantsNumber v_waiting v_shiftX v_shiftY v_times v_dotsLaid v_joinedLaid v_hash v_isThereA v_vA v_spotOfA v_inMiddleA v_tintsA v_bufferA u3_1 u10_1 v_oldRanksA v_partA v_allRanksA v_basesA v_isMetA v_metXA v_metYA v_lineA) → va_S A s.heap H locs → W p l e rmX5_layGrowth s m args below meth c H locs 0 0 Q (F0 m 141 ls [])) → W p l e rmX5_layGrowth s m args below meth c H locs 0 0 Q (F0 m 55 ls []) := by
    intro fu
    induction fu with
    | zero => intro v10_0 v10_1 u10_0 u10_1 H locs ls h; exact nomatch h
    | succ fu ih =>
      intro v10_0 v10_1 u10_0 u10_1 H locs ls h hl hP hD hS kE
      rw [mX5_layGrowth_L55] at h
      refine lv_iload_n hx hb dX5_layGrowth_55 rfl (lv_at hl 0 rfl) ?_
      refine lv_aload_n hx hb dX5_layGrowth_56 rfl (lv_at hl 1 rfl) ?_
      refine va_get (D := G.1) (ci := 5) (v := .int r2_0) (C := RX5) (T := TX5) (N := 35) hx hb hts fw_X5_layGrowth_X5 hown hK.1 hP 0 rfl rfl 14 (by decide) (hts (.fieldLink RX5 113 "HalftoneScreensModel" "laidArea" "I") lk_X5_layGrowth_f113) (fun _ h9 => h9) rfl dX5_layGrowth_57 ?_
      refine lv_icmp_ge (tgt := 141) hx hb dX5_layGrowth_60 (by decide) (fun c11 => ?_) (fun c11 => ?_)
      · replace h := ite_t c11 h
        obtain ⟨rfl, rfl⟩ := sm2 h
        exact kE H locs ls hl hP hD hS
      · replace h := ite_f c11 h
        refine lv_aload_n hx hb dX5_layGrowth_63 rfl (lv_at hl 1 rfl) ?_
        refine va_get (D := G.1) (ci := 5) (v := .ref v_q8) (C := RX5) (T := TX5) (N := 35) hx hb hts fw_X5_layGrowth_X5 hown hK.1 hP 0 rfl rfl 13 (by decide) (hts (.fieldLink RX5 32 "HalftoneScreensModel" "ranks" "[I") lk_X5_layGrowth_f32) (fun _ h9 => h9) rfl dX5_layGrowth_64 ?_
        refine lv_iload_n hx hb dX5_layGrowth_67 rfl (lv_at hl 0 rfl) ?_
        refine lv_iconst (v := 0) hx hb dX5_layGrowth_68 (by decide) ?_
        obtain ⟨i12, h⟩ := gd_e h
        refine va_iast hx hb hK.1 hP hD hS 8 0 rfl rfl i12 dX5_layGrowth_69 (fun H locs hP hD hS => ?_)
        have hP : va_P G.1 vwCl (wdX5 G v_q0 v_q1 v_q2 v_q3 v_q4 v_q5 v_q6 v_q7 v_q8 v_q9 v_q10 v_q11 v_q12 v_q13 v_q14 v_q15 v_q16 v_thrown v_gain v_size r1_0 r1_1 r1_2 r2_0 v_parts v_isMinus v_readSpot v_isStar v_wantsNumber v_waiting v_shiftX v_shiftY v_times v_dotsLaid v_joinedLaid v_hash v_isThereA v_vA v_spotOfA v_inMiddleA v_tintsA v_bufferA u3_1 (upd v10_1 v10_0.toNatClampNeg 0) v_oldRanksA v_partA v_allRanksA v_basesA v_isMetA v_metXA v_metYA v_lineA) H := hP
        have hD : va_D A (wdX5 G v_q0 v_q1 v_q2 v_q3 v_q4 v_q5 v_q6 v_q7 v_q8 v_q9 v_q10 v_q11 v_q12 v_q13 v_q14 v_q15 v_q16 v_thrown v_gain v_size r1_0 r1_1 r1_2 r2_0 v_parts v_isMinus v_readSpot v_isStar v_wantsNumber v_waiting v_shiftX v_shiftY v_times v_dotsLaid v_joinedLaid v_hash v_isThereA v_vA v_spotOfA v_inMiddleA v_tintsA v_bufferA u3_1 (upd v10_1 v10_0.toNatClampNeg 0) v_oldRanksA v_partA v_allRanksA v_basesA v_isMetA v_metXA v_metYA v_lineA) := hD
        refine lv_iconst (v := 0) hx hb dX5_layGrowth_70 (by decide) ?_
        refine lv_istore_n (lv' := [(3, .int 0), (2, .int v10_0), (0, .ref v_q0), (1, .int a0)]) hx hb dX5_layGrowth_71 rfl hl (by decide) rfl (fun ls hl => ?_)
        obtain ⟨u13_0, u13_1, g13, h⟩ := bnd2_e h
        have L13 : ∀ (fu : Nat) (v13_0 : Int32) (v13_1 : (Nat → Int32)) (u13_0 : Int32) (u13_1 : (Nat → Int32)) (H : Heap) (locs : List Loc) (ls : Array Slot), mX5_layGrowth_L72 r2_0 u3_1 v10_0 fu v13_0 v13_1 = some (u13_0, u13_1) → lv_has ls 4 [(3, .int v13_0), (2, .int v10_0), (0, .ref v_q0), (1, .int a0)] → va_P G.1 vwCl (wdX5 G v_q0 v_q1 v_q2 v_q3 v_q4 v_q5 v_q6 v_q7 v_q8 v_q9 v_q10 v_q11 v_q12 v_q13 v_q14 v_q15 v_q16 v_thrown v_gain v_size r1_0 r1_1 r1_2 r2_0 v_parts v_isMinus v_readSpot v_isStar v_wantsNumber v_waiting v_shiftX v_shiftY v_times v_dotsLaid v_joinedLaid v_hash v_isThereA v_vA v_spotOfA v_inMiddleA v_tintsA v_bufferA u3_1 v13_1 v_oldRanksA v_partA v_allRanksA v_basesA v_isMetA v_metXA v_metYA v_lineA) H → va_D A (wdX5 G v_q0 v_q1 v_q2 v_q3 v_q4 v_q5 v_q6 v_q7 v_q8 v_q9 v_q10 v_q11 v_q12 v_q13 v_q14 v_q15 v_q16 v_thrown v_gain v_size r1_0 r1_1 r1_2 r2_0 v_parts v_isMinus v_readSpot v_isStar v_wantsNumber v_waiting v_shiftX v_shiftY v_times v_dotsLaid v_joinedLaid v_hash v_isThereA v_vA v_spotOfA v_inMiddleA v_tintsA v_bufferA u3_1 v13_1 v_oldRanksA v_partA v_allRanksA v_basesA v_isMetA v_metXA v_metYA v_lineA) → va_S A s.heap H locs → (∀ (H : Heap) (locs : List Loc) (ls : Array Slot), lv_has ls 4 [(3, .int u13_0), (2, .int v10_0), (0, .ref v_q0), (1, .int a0)] → va_P G.1 vwCl (wdX5 G v_q0 v_q1 v_q2 v_q3 v_q4 v_q5 v_q6 v_q7 v_q8 v_q9 v_q10 v_q11 v_q12 v_q13 v_q14 v_q15 v_q16 v_thrown v_gain v_size r1_0 r1_1 r1_2 r2_0 v_parts v_isMinus v_readSpot v_isStar v_wantsNumber v_waiting v_shiftX v_shiftY v_times v_dotsLaid v_joinedLaid v_hash v_isThereA v_vA v_spotOfA v_inMiddleA v_tintsA v_bufferA u3_1 u13_1 v_oldRanksA v_partA v_allRanksA v_basesA v_isMetA v_metXA v_metYA v_lineA) H → va_D A (wdX5 G v_q0 v_q1 v_q2 v_q3 v_q4 v_q5 v_q6 v_q7 v_q8 v_q9 v_q10 v_q11 v_q12 v_q13 v_q14 v_q15 v_q16 v_thrown v_gain v_size r1_0 r1_1 r1_2 r2_0 v_parts v_isMinus v_readSpot v_isStar v_wantsNumber v_waiting v_shiftX v_shiftY v_times v_dotsLaid v_joinedLaid v_hash v_isThereA v_vA v_spotOfA v_inMiddleA v_tintsA v_bufferA u3_1 u13_1 v_oldRanksA v_partA v_allRanksA v_basesA v_isMetA v_metXA v_metYA v_lineA) → va_S A s.heap H locs → W p l e rmX5_layGrowth s m args below meth c H locs 0 0 Q (F0 m 135 ls [])) → W p l e rmX5_layGrowth s m args below meth c H locs 0 0 Q (F0 m 72 ls []) := by
          intro fu
          induction fu with
          | zero => intro v13_0 v13_1 u13_0 u13_1 H locs ls h; exact nomatch h
          | succ fu ih =>
            intro v13_0 v13_1 u13_0 u13_1 H locs ls h hl hP hD hS kE
            rw [mX5_layGrowth_L72] at h
            refine lv_iload_n hx hb dX5_layGrowth_72 rfl (lv_at hl 0 rfl) ?_
            refine lv_aload_n hx hb dX5_layGrowth_73 rfl (lv_at hl 2 rfl) ?_
            refine va_get (D := G.1) (ci := 5) (v := .int r2_0) (C := RX5) (T := TX5) (N := 35) hx hb hts fw_X5_layGrowth_X5 hown hK.1 hP 0 rfl rfl 14 (by decide) (hts (.fieldLink RX5 113 "HalftoneScreensModel" "laidArea" "I") lk_X5_layGrowth_f113) (fun _ h9 => h9) rfl dX5_layGrowth_74 ?_
            refine lv_icmp_ge (tgt := 135) hx hb dX5_layGrowth_77 (by decide) (fun c14 => ?_) (fun c14 => ?_)
            · replace h := ite_t c14 h
              obtain ⟨rfl, rfl⟩ := sm2 h
              exact kE H locs ls hl hP hD hS
            · replace h := ite_f c14 h
              refine lv_aload_n hx hb dX5_layGrowth_80 rfl (lv_at hl 2 rfl) ?_
              refine va_get (D := G.1) (ci := 5) (v := .ref v_q8) (C := RX5) (T := TX5) (N := 35) hx hb hts fw_X5_layGrowth_X5 hown hK.1 hP 0 rfl rfl 13 (by decide) (hts (.fieldLink RX5 32 "HalftoneScreensModel" "ranks" "[I") lk_X5_layGrowth_f32) (fun _ h9 => h9) rfl dX5_layGrowth_81 ?_
              refine lv_iload_n hx hb dX5_layGrowth_84 rfl (lv_at hl 1 rfl) ?_
              refine lv_dup2_11 hx hb dX5_layGrowth_85 rfl rfl ?_
              obtain ⟨i15, h⟩ := gd_e h
              refine va_iald hx hb hK.1 hP 8 0 rfl rfl i15 dX5_layGrowth_86 ?_
              refine lv_aload_n hx hb dX5_layGrowth_87 rfl (lv_at hl 2 rfl) ?_
              refine va_get (D := G.1) (ci := 5) (v := .ref v_q7) (C := RX5) (T := TX5) (N := 35) hx hb hts fw_X5_layGrowth_X5 hown hK.1 hP 0 rfl rfl 12 (by decide) (hts (.fieldLink RX5 29 "HalftoneScreensModel" "values" "[I") lk_X5_layGrowth_f29) (fun _ h9 => h9) rfl dX5_layGrowth_88 ?_
              refine lv_iload_n hx hb dX5_layGrowth_91 rfl (lv_at hl 0 rfl) ?_
              obtain ⟨i16, h⟩ := gd_e h
              refine va_iald hx hb hK.1 hP 7 0 rfl rfl i16 dX5_layGrowth_92 ?_
              refine lv_aload_n hx hb dX5_layGrowth_93 rfl (lv_at hl 2 rfl) ?_
              refine va_get (D := G.1) (ci := 5) (v := .ref v_q7) (C := RX5) (T := TX5) (N := 35) hx hb hts fw_X5_layGrowth_X5 hown hK.1 hP 0 rfl rfl 12 (by decide) (hts (.fieldLink RX5 29 "HalftoneScreensModel" "values" "[I") lk_X5_layGrowth_f29) (fun _ h9 => h9) rfl dX5_layGrowth_94 ?_
              refine lv_iload_n hx hb dX5_layGrowth_97 rfl (lv_at hl 1 rfl) ?_
              obtain ⟨i17, h⟩ := gd_e h
              refine va_iald hx hb hK.1 hP 7 0 rfl rfl i17 dX5_layGrowth_98 ?_
              refine lv_icmp_lt (tgt := 122) hx hb dX5_layGrowth_99 (by decide) (fun c18 => ?_) (fun c18 => ?_)
              · replace h := ite_t c18 h
                refine lv_iconst (v := 1) hx hb dX5_layGrowth_122 (by decide) ?_
                refine lv_goto (tgt := 127) hx hb dX5_layGrowth_123 (by decide) ?_
                refine lv_iadd hx hb dX5_layGrowth_127 ?_
                refine lv_topi (fun x19 e19 => ?_)
                replace h := nmB_e e19 h
                obtain ⟨i20, h⟩ := gd_e h
                refine va_iast hx hb hK.1 hP hD hS 8 0 rfl rfl i20 dX5_layGrowth_128 (fun H locs hP hD hS => ?_)
                have hP : va_P G.1 vwCl (wdX5 G v_q0 v_q1 v_q2 v_q3 v_q4 v_q5 v_q6 v_q7 v_q8 v_q9 v_q10 v_q11 v_q12 v_q13 v_q14 v_q15 v_q16 v_thrown v_gain v_size r1_0 r1_1 r1_2 r2_0 v_parts v_isMinus v_readSpot v_isStar v_wantsNumber v_waiting v_shiftX v_shiftY v_times v_dotsLaid v_joinedLaid v_hash v_isThereA v_vA v_spotOfA v_inMiddleA v_tintsA v_bufferA u3_1 (upd v13_1 v10_0.toNatClampNeg x19) v_oldRanksA v_partA v_allRanksA v_basesA v_isMetA v_metXA v_metYA v_lineA) H := hP
                have hD : va_D A (wdX5 G v_q0 v_q1 v_q2 v_q3 v_q4 v_q5 v_q6 v_q7 v_q8 v_q9 v_q10 v_q11 v_q12 v_q13 v_q14 v_q15 v_q16 v_thrown v_gain v_size r1_0 r1_1 r1_2 r2_0 v_parts v_isMinus v_readSpot v_isStar v_wantsNumber v_waiting v_shiftX v_shiftY v_times v_dotsLaid v_joinedLaid v_hash v_isThereA v_vA v_spotOfA v_inMiddleA v_tintsA v_bufferA u3_1 (upd v13_1 v10_0.toNatClampNeg x19) v_oldRanksA v_partA v_allRanksA v_basesA v_isMetA v_metXA v_metYA v_lineA) := hD
                obtain ⟨x21, e21⟩ : ∃ y : Int32, y = v13_0 + 1 := ⟨_, rfl⟩
                replace h := nmB_e e21 h
                refine lv_iinc (v := x21) (lv' := [(3, .int x21), (2, .int v10_0), (0, .ref v_q0), (1, .int a0)]) hx hb dX5_layGrowth_129 hl (k := 0) rfl (by rw [e21]; rfl) (by decide) rfl (fun ls hl => ?_)
                refine lv_goto (tgt := 72) hx hb dX5_layGrowth_132 (by decide) ?_
                exact ih x21 (upd v13_1 v10_0.toNatClampNeg x19) u13_0 u13_1 H locs ls h hl hP hD hS kE
              · replace h := ite_f c18 h
                refine lv_aload_n hx hb dX5_layGrowth_102 rfl (lv_at hl 2 rfl) ?_
                refine va_get (D := G.1) (ci := 5) (v := .ref v_q7) (C := RX5) (T := TX5) (N := 35) hx hb hts fw_X5_layGrowth_X5 hown hK.1 hP 0 rfl rfl 12 (by decide) (hts (.fieldLink RX5 29 "HalftoneScreensModel" "values" "[I") lk_X5_layGrowth_f29) (fun _ h9 => h9) rfl dX5_layGrowth_103 ?_
                refine lv_iload_n hx hb dX5_layGrowth_106 rfl (lv_at hl 0 rfl) ?_
                obtain ⟨i22, h⟩ := gd_e h
                refine va_iald hx hb hK.1 hP 7 0 rfl rfl i22 dX5_layGrowth_107 ?_
                refine lv_aload_n hx hb dX5_layGrowth_108 rfl (lv_at hl 2 rfl) ?_
                refine va_get (D := G.1) (ci := 5) (v := .ref v_q7) (C := RX5) (T := TX5) (N := 35) hx hb hts fw_X5_layGrowth_X5 hown hK.1 hP 0 rfl rfl 12 (by decide) (hts (.fieldLink RX5 29 "HalftoneScreensModel" "values" "[I") lk_X5_layGrowth_f29) (fun _ h9 => h9) rfl dX5_layGrowth_109 ?_
                refine lv_iload_n hx hb dX5_layGrowth_112 rfl (lv_at hl 1 rfl) ?_
                obtain ⟨i23, h⟩ := gd_e h
                refine va_iald hx hb hK.1 hP 7 0 rfl rfl i23 dX5_layGrowth_113 ?_
                refine lv_icmp_ne (tgt := 126) hx hb dX5_layGrowth_114 (by decide) (fun c24 => ?_) (fun c24 => ?_)
                · replace h := ite_f c24 h
                  refine lv_iconst (v := 0) hx hb dX5_layGrowth_126 (by decide) ?_
                  refine lv_iadd hx hb dX5_layGrowth_127 ?_
                  refine lv_topi (fun x25 e25 => ?_)
                  replace h := nmB_e e25 h
                  obtain ⟨i26, h⟩ := gd_e h
                  refine va_iast hx hb hK.1 hP hD hS 8 0 rfl rfl i26 dX5_layGrowth_128 (fun H locs hP hD hS => ?_)
                  have hP : va_P G.1 vwCl (wdX5 G v_q0 v_q1 v_q2 v_q3 v_q4 v_q5 v_q6 v_q7 v_q8 v_q9 v_q10 v_q11 v_q12 v_q13 v_q14 v_q15 v_q16 v_thrown v_gain v_size r1_0 r1_1 r1_2 r2_0 v_parts v_isMinus v_readSpot v_isStar v_wantsNumber v_waiting v_shiftX v_shiftY v_times v_dotsLaid v_joinedLaid v_hash v_isThereA v_vA v_spotOfA v_inMiddleA v_tintsA v_bufferA u3_1 (upd v13_1 v10_0.toNatClampNeg x25) v_oldRanksA v_partA v_allRanksA v_basesA v_isMetA v_metXA v_metYA v_lineA) H := hP
                  have hD : va_D A (wdX5 G v_q0 v_q1 v_q2 v_q3 v_q4 v_q5 v_q6 v_q7 v_q8 v_q9 v_q10 v_q11 v_q12 v_q13 v_q14 v_q15 v_q16 v_thrown v_gain v_size r1_0 r1_1 r1_2 r2_0 v_parts v_isMinus v_readSpot v_isStar v_wantsNumber v_waiting v_shiftX v_shiftY v_times v_dotsLaid v_joinedLaid v_hash v_isThereA v_vA v_spotOfA v_inMiddleA v_tintsA v_bufferA u3_1 (upd v13_1 v10_0.toNatClampNeg x25) v_oldRanksA v_partA v_allRanksA v_basesA v_isMetA v_metXA v_metYA v_lineA) := hD
                  obtain ⟨x27, e27⟩ : ∃ y : Int32, y = v13_0 + 1 := ⟨_, rfl⟩
                  replace h := nmB_e e27 h
                  refine lv_iinc (v := x27) (lv' := [(3, .int x27), (2, .int v10_0), (0, .ref v_q0), (1, .int a0)]) hx hb dX5_layGrowth_129 hl (k := 0) rfl (by rw [e27]; rfl) (by decide) rfl (fun ls hl => ?_)
                  refine lv_goto (tgt := 72) hx hb dX5_layGrowth_132 (by decide) ?_
                  exact ih x27 (upd v13_1 v10_0.toNatClampNeg x25) u13_0 u13_1 H locs ls h hl hP hD hS kE
                · replace h := ite_t c24 h
                  refine lv_iload_n hx hb dX5_layGrowth_117 rfl (lv_at hl 0 rfl) ?_
                  refine lv_iload_n hx hb dX5_layGrowth_118 rfl (lv_at hl 1 rfl) ?_
                  refine lv_icmp_ge (tgt := 126) hx hb dX5_layGrowth_119 (by decide) (fun c28 => ?_) (fun c28 => ?_)
                  · replace h := ite_t c28 h
                    refine lv_iconst (v := 0) hx hb dX5_layGrowth_126 (by decide) ?_
                    refine lv_iadd hx hb dX5_layGrowth_127 ?_
                    refine lv_topi (fun x29 e29 => ?_)
                    replace h := nmB_e e29 h
                    obtain ⟨i30, h⟩ := gd_e h
                    refine va_iast hx hb hK.1 hP hD hS 8 0 rfl rfl i30 dX5_layGrowth_128 (fun H locs hP hD hS => ?_)
                    have hP : va_P G.1 vwCl (wdX5 G v_q0 v_q1 v_q2 v_q3 v_q4 v_q5 v_q6 v_q7 v_q8 v_q9 v_q10 v_q11 v_q12 v_q13 v_q14 v_q15 v_q16 v_thrown v_gain v_size r1_0 r1_1 r1_2 r2_0 v_parts v_isMinus v_readSpot v_isStar v_wantsNumber v_waiting v_shiftX v_shiftY v_times v_dotsLaid v_joinedLaid v_hash v_isThereA v_vA v_spotOfA v_inMiddleA v_tintsA v_bufferA u3_1 (upd v13_1 v10_0.toNatClampNeg x29) v_oldRanksA v_partA v_allRanksA v_basesA v_isMetA v_metXA v_metYA v_lineA) H := hP
                    have hD : va_D A (wdX5 G v_q0 v_q1 v_q2 v_q3 v_q4 v_q5 v_q6 v_q7 v_q8 v_q9 v_q10 v_q11 v_q12 v_q13 v_q14 v_q15 v_q16 v_thrown v_gain v_size r1_0 r1_1 r1_2 r2_0 v_parts v_isMinus v_readSpot v_isStar v_wantsNumber v_waiting v_shiftX v_shiftY v_times v_dotsLaid v_joinedLaid v_hash v_isThereA v_vA v_spotOfA v_inMiddleA v_tintsA v_bufferA u3_1 (upd v13_1 v10_0.toNatClampNeg x29) v_oldRanksA v_partA v_allRanksA v_basesA v_isMetA v_metXA v_metYA v_lineA) := hD
                    obtain ⟨x31, e31⟩ : ∃ y : Int32, y = v13_0 + 1 := ⟨_, rfl⟩
                    replace h := nmB_e e31 h
                    refine lv_iinc (v := x31) (lv' := [(3, .int x31), (2, .int v10_0), (0, .ref v_q0), (1, .int a0)]) hx hb dX5_layGrowth_129 hl (k := 0) rfl (by rw [e31]; rfl) (by decide) rfl (fun ls hl => ?_)
                    refine lv_goto (tgt := 72) hx hb dX5_layGrowth_132 (by decide) ?_
                    exact ih x31 (upd v13_1 v10_0.toNatClampNeg x29) u13_0 u13_1 H locs ls h hl hP hD hS kE
                  · replace h := ite_f c28 h
                    refine lv_iconst (v := 1) hx hb dX5_layGrowth_122 (by decide) ?_
                    refine lv_goto (tgt := 127) hx hb dX5_layGrowth_123 (by decide) ?_
                    refine lv_iadd hx hb dX5_layGrowth_127 ?_
                    refine lv_topi (fun x32 e32 => ?_)
                    replace h := nmB_e e32 h
                    obtain ⟨i33, h⟩ := gd_e h
                    refine va_iast hx hb hK.1 hP hD hS 8 0 rfl rfl i33 dX5_layGrowth_128 (fun H locs hP hD hS => ?_)
                    have hP : va_P G.1 vwCl (wdX5 G v_q0 v_q1 v_q2 v_q3 v_q4 v_q5 v_q6 v_q7 v_q8 v_q9 v_q10 v_q11 v_q12 v_q13 v_q14 v_q15 v_q16 v_thrown v_gain v_size r1_0 r1_1 r1_2 r2_0 v_parts v_isMinus v_readSpot v_isStar v_wantsNumber v_waiting v_shiftX v_shiftY v_times v_dotsLaid v_joinedLaid v_hash v_isThereA v_vA v_spotOfA v_inMiddleA v_tintsA v_bufferA u3_1 (upd v13_1 v10_0.toNatClampNeg x32) v_oldRanksA v_partA v_allRanksA v_basesA v_isMetA v_metXA v_metYA v_lineA) H := hP
                    have hD : va_D A (wdX5 G v_q0 v_q1 v_q2 v_q3 v_q4 v_q5 v_q6 v_q7 v_q8 v_q9 v_q10 v_q11 v_q12 v_q13 v_q14 v_q15 v_q16 v_thrown v_gain v_size r1_0 r1_1 r1_2 r2_0 v_parts v_isMinus v_readSpot v_isStar v_wantsNumber v_waiting v_shiftX v_shiftY v_times v_dotsLaid v_joinedLaid v_hash v_isThereA v_vA v_spotOfA v_inMiddleA v_tintsA v_bufferA u3_1 (upd v13_1 v10_0.toNatClampNeg x32) v_oldRanksA v_partA v_allRanksA v_basesA v_isMetA v_metXA v_metYA v_lineA) := hD
                    obtain ⟨x34, e34⟩ : ∃ y : Int32, y = v13_0 + 1 := ⟨_, rfl⟩
                    replace h := nmB_e e34 h
                    refine lv_iinc (v := x34) (lv' := [(3, .int x34), (2, .int v10_0), (0, .ref v_q0), (1, .int a0)]) hx hb dX5_layGrowth_129 hl (k := 0) rfl (by rw [e34]; rfl) (by decide) rfl (fun ls hl => ?_)
                    refine lv_goto (tgt := 72) hx hb dX5_layGrowth_132 (by decide) ?_
                    exact ih x34 (upd v13_1 v10_0.toNatClampNeg x32) u13_0 u13_1 H locs ls h hl hP hD hS kE
        refine L13 FU 0 (upd v10_1 v10_0.toNatClampNeg 0) u13_0 u13_1 H locs ls g13 hl hP hD hS (fun H locs ls hl hP hD hS => ?_)
        obtain ⟨x35, e35⟩ : ∃ y : Int32, y = v10_0 + 1 := ⟨_, rfl⟩
        replace h := nmB_e e35 h
        refine lv_iinc (v := x35) (lv' := [(2, .int x35), (3, .int u13_0), (0, .ref v_q0), (1, .int a0)]) hx hb dX5_layGrowth_135 hl (k := 1) rfl (by rw [e35]; rfl) (by decide) rfl (fun ls hl => ?_)
        refine lv_goto (tgt := 55) hx hb dX5_layGrowth_138 (by decide) ?_
        exact ih x35 u13_1 u10_0 u10_1 H locs ls h (lv_sub hl [0, 2, 3] rfl) hP hD hS kE
  refine L10 FU 0 v_ranksA u10_0 u10_1 H locs ls g10 hl hP hD hS (fun H locs ls hl hP hD hS => ?_)
  obtain ⟨rfl, rfl, rfl, rfl, rfl, rfl⟩ := sm6 h
  exact hret _ _ _ _ trivial hP hD hS dX5_layGrowth_141
theorem fw_X5_keepRanks_X5 : ∀ w ∈ wsX50, w ∈ wsX5_keepRanks := fun w h => List.mem_cons_of_mem _ (List.mem_append_right _ h)
theorem lk_X5_keepRanks_f113 : Cond.fieldLink RX5 113 "HalftoneScreensModel" "laidArea" "I" ∈ wsX5_keepRanks := List.mem_of_getElem? (i := 1) rfl
theorem lk_X5_keepRanks_f35 : Cond.fieldLink RX5 35 "HalftoneScreensModel" "oldRanks" "[I" ∈ wsX5_keepRanks := List.mem_of_getElem? (i := 2) rfl
theorem lk_X5_keepRanks_f32 : Cond.fieldLink RX5 32 "HalftoneScreensModel" "ranks" "[I" ∈ wsX5_keepRanks := List.mem_of_getElem? (i := 3) rfl
theorem hsX5_layGrowth : yX5_layGrowth.cls ≠ "java/lang/invoke/MethodHandle" ∧ yX5_layGrowth.cls ≠ "java/lang/invoke/VarHandle" ∧ (parseMethodDescriptor yX5_layGrowth.desc).map (fun d => d.parameters.length) = some 1 := by decide +kernel
theorem hvX5_layGrowth : yX5_layGrowth.cls = RX5 ∧ yX5_layGrowth.cls ≠ "java/lang/invoke/MethodHandle" ∧ yX5_layGrowth.cls ≠ "java/lang/invoke/VarHandle" ∧ (parseMethodDescriptor yX5_layGrowth.desc).map (fun d => d.parameters.length) = some 1 := ⟨rfl, hsX5_layGrowth⟩
abbrev rmX5_keepRanks : Room := { frames := 5, cells := 0, slots := 0, locals := 130 }
set_option maxHeartbeats 4000000 in
set_option maxRecDepth 100000 in
theorem ctX5_keepRanks (l : Launch) (G : GG) (v_q0 : Nat) (v_q1 : Nat) (v_q2 : Nat) (v_q3 : Nat) (v_q4 : Nat) (v_q5 : Nat) (v_q6 : Nat) (v_q7 : Nat) (v_q8 : Nat) (v_q9 : Nat) (v_q10 : Nat) (v_q11 : Nat) (v_q12 : Nat) (v_q13 : Nat) (v_q14 : Nat) (v_q15 : Nat) (v_q16 : Nat) (v_thrown : Int32) (v_gain : Int32) (v_size : Int32) (v_w : Int32) (v_s : Int32) (v_h : Int32) (v_laidArea : Int32) (v_parts : Int32) (v_isMinus : Int32) (v_readSpot : Int32) (v_isStar : Int32) (v_wantsNumber : Int32) (v_waiting : Int32) (v_shiftX : Int32) (v_shiftY : Int32) (v_times : Int32) (v_dotsLaid : Int32) (v_joinedLaid : Int32) (v_hash : Int64) (v_isThereA : (Nat → Int32)) (v_vA : (Nat → Int32)) (v_spotOfA : (Nat → Int32)) (v_inMiddleA : (Nat → Int32)) (v_tintsA : (Nat → Int32)) (v_bufferA : (Nat → Int32)) (v_valuesA : (Nat → Int32)) (v_ranksA : (Nat → Int32)) (v_oldRanksA : (Nat → Int32)) (v_partA : (Nat → Int32)) (v_allRanksA : (Nat → Int32)) (v_basesA : (Nat → Int32)) (v_isMetA : (Nat → Int32)) (v_metXA : (Nat → Int32)) (v_metYA : (Nat → Int32)) (v_lineA : (Nat → Int32)) (a0 : Int32) (o0 : Int32) (o1 : Int32) (o2 : Int32) (o3 : Int32) (o4 : (Nat → Int32)) (o5 : (Nat → Int32)) (o6 : (Nat → Int32)) (h : mX5_keepRanks v_vA v_spotOfA v_inMiddleA v_valuesA v_ranksA v_oldRanksA a0 = some (o0, o1, o2, o3, o4, o5, o6))  : Met l yX5_keepRanks wsX5_keepRanks rmX5_keepRanks (va_Pc [.ref v_q0, .int a0] (PreD G (wdX5 G v_q0 v_q1 v_q2 v_q3 v_q4 v_q5 v_q6 v_q7 v_q8 v_q9 v_q10 v_q11 v_q12 v_q13 v_q14 v_q15 v_q16 v_thrown v_gain v_size v_w v_s v_h v_laidArea v_parts v_isMinus v_readSpot v_isStar v_wantsNumber v_waiting v_shiftX v_shiftY v_times v_dotsLaid v_joinedLaid v_hash v_isThereA v_vA v_spotOfA v_inMiddleA v_tintsA v_bufferA v_valuesA v_ranksA v_oldRanksA v_partA v_allRanksA v_basesA v_isMetA v_metXA v_metYA v_lineA) (fun _ => True))) (QwA G (va_A0 (wdX5 G v_q0 v_q1 v_q2 v_q3 v_q4 v_q5 v_q6 v_q7 v_q8 v_q9 v_q10 v_q11 v_q12 v_q13 v_q14 v_q15 v_q16 v_thrown v_gain v_size v_w v_s v_h v_laidArea v_parts v_isMinus v_readSpot v_isStar v_wantsNumber v_waiting v_shiftX v_shiftY v_times v_dotsLaid v_joinedLaid v_hash v_isThereA v_vA v_spotOfA v_inMiddleA v_tintsA v_bufferA v_valuesA v_ranksA v_oldRanksA v_partA v_allRanksA v_basesA v_isMetA v_metXA v_metYA v_lineA)) (wdX5 G v_q0 v_q1 v_q2 v_q3 v_q4 v_q5 v_q6 v_q7 v_q8 v_q9 v_q10 v_q11 v_q12 v_q13 v_q14 v_q15 v_q16 v_thrown v_gain v_size o0 o1 o2 o3 v_parts v_isMinus v_readSpot v_isStar v_wantsNumber v_waiting v_shiftX v_shiftY v_times v_dotsLaid v_joinedLaid v_hash v_isThereA v_vA v_spotOfA v_inMiddleA v_tintsA v_bufferA o4 o5 o6 v_partA v_allRanksA v_basesA v_isMetA v_metXA v_metYA v_lineA) none True) 0 0 (va_A0 (wdX5 G v_q0 v_q1 v_q2 v_q3 v_q4 v_q5 v_q6 v_q7 v_q8 v_q9 v_q10 v_q11 v_q12 v_q13 v_q14 v_q15 v_q16 v_thrown v_gain v_size v_w v_s v_h v_laidArea v_parts v_isMinus v_readSpot v_isStar v_wantsNumber v_waiting v_shiftX v_shiftY v_times v_dotsLaid v_joinedLaid v_hash v_isThereA v_vA v_spotOfA v_inMiddleA v_tintsA v_bufferA v_valuesA v_ranksA v_oldRanksA v_partA v_allRanksA v_basesA v_isMetA v_metXA v_metYA v_lineA)) := by
  refine of_wv (cc := cX5_keepRanks) (maxL := 3) (plainFor_of_name (by decide)) rfl (Nat.le_of_ble_eq_true rfl) ?_
  intro p e s m args below meth c ls Q A S hl hP hD hS hK hX hA hret
  obtain ⟨H, hH⟩ : ∃ H, H = s.heap := ⟨_, rfl⟩
  obtain ⟨locs, hlocs⟩ : ∃ L : List Loc, L = [] := ⟨_, rfl⟩
  rw [← hlocs]
  rw [← hlocs] at hS
  have hP : va_P G.1 vwCl (wdX5 G v_q0 v_q1 v_q2 v_q3 v_q4 v_q5 v_q6 v_q7 v_q8 v_q9 v_q10 v_q11 v_q12 v_q13 v_q14 v_q15 v_q16 v_thrown v_gain v_size v_w v_s v_h v_laidArea v_parts v_isMinus v_readSpot v_isStar v_wantsNumber v_waiting v_shiftX v_shiftY v_times v_dotsLaid v_joinedLaid v_hash v_isThereA v_vA v_spotOfA v_inMiddleA v_tintsA v_bufferA v_valuesA v_ranksA v_oldRanksA v_partA v_allRanksA v_basesA v_isMetA v_metXA v_metYA v_lineA) H := by rw [hH]; exact hP
  have hS : va_S A s.heap H locs := by rw [hH]; exact hS
  suffices hgo : W p l e rmX5_keepRanks s m args below meth c H locs 0 0 Q (F0 m 0 ls []) by rw [hH] at hgo; exact hgo
  have S : CallFix p m c cX5_keepRanks 3 s args wsX5_keepRanks RX5 := S
  obtain ⟨hx, hb, hml, hown, hts⟩ := id S
  have hl : lv_has ls 3 [(0, .ref v_q0), (1, .int a0)] := hl
  unfold mX5_keepRanks at h
  refine lv_aload_n hx hb dX5_keepRanks_0 rfl (lv_at hl 0 rfl) ?_
  refine lv_iload_n hx hb dX5_keepRanks_1 rfl (lv_at hl 1 rfl) ?_
  obtain ⟨r1_0, r1_1, r1_2, r1_3, r1_4, r1_5, g1, h⟩ := bnd6_e h
  refine rwV_same (rest := []) (As := [.int a0]) S (ctX5_layGrowth l G v_q0 v_q1 v_q2 v_q3 v_q4 v_q5 v_q6 v_q7 v_q8 v_q9 v_q10 v_q11 v_q12 v_q13 v_q14 v_q15 v_q16 v_thrown v_gain v_size v_w v_s v_h v_laidArea v_parts v_isMinus v_readSpot v_isStar v_wantsNumber v_waiting v_shiftX v_shiftY v_times v_dotsLaid v_joinedLaid v_hash v_isThereA v_vA v_spotOfA v_inMiddleA v_tintsA v_bufferA v_valuesA v_ranksA v_oldRanksA v_partA v_allRanksA v_basesA v_isMetA v_metXA v_metYA v_lineA a0 r1_0 r1_1 r1_2 r1_3 r1_4 r1_5 g1) (cwV 1 hts gX5_keepRanks_X5_layGrowth rfl rfl rfl hvX5_layGrowth ⟨Nat.le_of_ble_eq_true rfl, Nat.le_of_ble_eq_true rfl⟩) hK hP hD hS xb_triv (fun _ _ _ => trivial) 0 5 rfl rfl rfl rfl hl.1 rfl (Nat.le_of_ble_eq_true rfl) dX5_keepRanks_2 ⟨Nat.le_refl _, Nat.le_refl _⟩ (fun _ H locs hP hD hS => ?_)
  have hP : va_P G.1 vwCl (wdX5 G v_q0 v_q1 v_q2 v_q3 v_q4 v_q5 v_q6 v_q7 v_q8 v_q9 v_q10 v_q11 v_q12 v_q13 v_q14 v_q15 v_q16 v_thrown v_gain v_size r1_0 r1_1 r1_2 r1_3 v_parts v_isMinus v_readSpot v_isStar v_wantsNumber v_waiting v_shiftX v_shiftY v_times v_dotsLaid v_joinedLaid v_hash v_isThereA v_vA v_spotOfA v_inMiddleA v_tintsA v_bufferA r1_4 r1_5 v_oldRanksA v_partA v_allRanksA v_basesA v_isMetA v_metXA v_metYA v_lineA) H := hP
  have hD : va_D A (wdX5 G v_q0 v_q1 v_q2 v_q3 v_q4 v_q5 v_q6 v_q7 v_q8 v_q9 v_q10 v_q11 v_q12 v_q13 v_q14 v_q15 v_q16 v_thrown v_gain v_size r1_0 r1_1 r1_2 r1_3 v_parts v_isMinus v_readSpot v_isStar v_wantsNumber v_waiting v_shiftX v_shiftY v_times v_dotsLaid v_joinedLaid v_hash v_isThereA v_vA v_spotOfA v_inMiddleA v_tintsA v_bufferA r1_4 r1_5 v_oldRanksA v_partA v_allRanksA v_basesA v_isMetA v_metXA v_metYA v_lineA) := hD
  refine lv_iconst (v := 0) hx hb dX5_keepRanks_5 (by decide) ?_
  refine lv_istore_n (lv' := [(2, .int 0), (0, .ref v_q0), (1, .int a0)]) hx hb dX5_keepRanks_6 rfl hl (by decide) rfl (fun ls hl => ?_)
  obtain ⟨u2_0, u2_1, g2, h⟩ := bnd2_e h
  have L2 : ∀ (fu : Nat) (v2_0 : Int32) (v2_1 : (Nat → Int32)) (u2_0 : Int32) (u2_1 : (Nat → Int32)) (H : Heap) (locs : List Loc) (ls : Array Slot), mX5_keepRanks_L7 r1_3 r1_5 fu v2_0 v2_1 = some (u2_0, u2_1) → lv_has ls 3 [(2, .int v2_0), (0, .ref v_q0), (1, .int a0)] → va_P G.1 vwCl (wdX5 G v_q0 v_q1 v_q2 v_q3 v_q4 v_q5 v_q6 v_q7 v_q8 v_q9 v_q10 v_q11 v_q12 v_q13 v_q14 v_q15 v_q16 v_thrown v_gain v_size r1_0 r1_1 r1_2 r1_3 v_parts v_isMinus v_readSpot v_isStar v_wantsNumber v_waiting v_shiftX v_shiftY v_times v_dotsLaid v_joinedLaid v_hash v_isThereA v_vA v_spotOfA v_inMiddleA v_tintsA v_bufferA r1_4 r1_5 v2_1 v_partA v_allRanksA v_basesA v_isMetA v_metXA v_metYA v_lineA) H → va_D A (wdX5 G v_q0 v_q1 v_q2 v_q3 v_q4 v_q5 v_q6 v_q7 v_q8 v_q9 v_q10 v_q11 v_q12 v_q13 v_q14 v_q15 v_q16 v_thrown v_gain v_size r1_0 r1_1 r1_2 r1_3 v_parts v_isMinus v_readSpot v_isStar v_wantsNumber v_waiting v_shiftX v_shiftY v_times v_dotsLaid v_joinedLaid v_hash v_isThereA v_vA v_spotOfA v_inMiddleA v_tintsA v_bufferA r1_4 r1_5 v2_1 v_partA v_allRanksA v_basesA v_isMetA v_metXA v_metYA v_lineA) → va_S A s.heap H locs → (∀ (H : Heap) (locs : List Loc) (ls : Array Slot), lv_has ls 3 [(2, .int u2_0), (0, .ref v_q0), (1, .int a0)] → va_P G.1 vwCl (wdX5 G v_q0 v_q1 v_q2 v_q3 v_q4 v_q5 v_q6 v_q7 v_q8 v_q9 v_q10 v_q11 v_q12 v_q13 v_q14 v_q15 v_q16 v_thrown v_gain v_size r1_0 r1_1 r1_2 r1_3 v_parts v_isMinus v_readSpot v_isStar v_wantsNumber v_waiting v_shiftX v_shiftY v_times v_dotsLaid v_joinedLaid v_hash v_isThereA v_vA v_spotOfA v_inMiddleA v_tintsA v_bufferA r1_4 r1_5 u2_1 v_partA v_allRanksA v_basesA v_isMetA v_metXA v_metYA v_lineA) H → va_D A (wdX5 G v_q0 v_q1 v_q2 v_q3 v_q4 v_q5 v_q6 v_q7 v_q8 v_q9 v_q10 v_q11 v_q12 v_q13 v_q14 v_q15 v_q16 v_thrown v_gain v_size r1_0 r1_1 r1_2 r1_3 v_parts v_isMinus v_readSpot v_isStar v_wantsNumber v_waiting v_shiftX v_shiftY v_times v_dotsLaid v_joinedLaid v_hash v_isThereA v_vA v_spotOfA v_inMiddleA v_tintsA v_bufferA r1_4 r1_5 u2_1 v_partA v_allRanksA v_basesA v_isMetA v_metXA v_metYA v_lineA) → va_S A s.heap H locs → W p l e rmX5_keepRanks s m args below meth c H locs 0 0 Q (F0 m 33 ls [])) → W p l e rmX5_keepRanks s m args below meth c H locs 0 0 Q (F0 m 7 ls []) := by
    intro fu
    induction fu with
    | zero => intro v2_0 v2_1 u2_0 u2_1 H locs ls h; exact nomatch h
    | succ fu ih =>
      intro v2_0 v2_1 u2_0 u2_1 H locs ls h hl hP hD hS kE
      rw [mX5_keepRanks_L7] at h
      refine lv_iload_n hx hb dX5_keepRanks_7 rfl (lv_at hl 0 rfl) ?_
      refine lv_aload_n hx hb dX5_keepRanks_8 rfl (lv_at hl 1 rfl) ?_
      refine va_get (D := G.1) (ci := 5) (v := .int r1_3) (C := RX5) (T := TX5) (N := 35) hx hb hts fw_X5_keepRanks_X5 hown hK.1 hP 0 rfl rfl 14 (by decide) (hts (.fieldLink RX5 113 "HalftoneScreensModel" "laidArea" "I") lk_X5_keepRanks_f113) (fun _ h9 => h9) rfl dX5_keepRanks_9 ?_
      refine lv_icmp_ge (tgt := 33) hx hb dX5_keepRanks_12 (by decide) (fun c3 => ?_) (fun c3 => ?_)
      · replace h := ite_t c3 h
        obtain ⟨rfl, rfl⟩ := sm2 h
        exact kE H locs ls hl hP hD hS
      · replace h := ite_f c3 h
        refine lv_aload_n hx hb dX5_keepRanks_15 rfl (lv_at hl 1 rfl) ?_
        refine va_get (D := G.1) (ci := 5) (v := .ref v_q9) (C := RX5) (T := TX5) (N := 35) hx hb hts fw_X5_keepRanks_X5 hown hK.1 hP 0 rfl rfl 15 (by decide) (hts (.fieldLink RX5 35 "HalftoneScreensModel" "oldRanks" "[I") lk_X5_keepRanks_f35) (fun _ h9 => h9) rfl dX5_keepRanks_16 ?_
        refine lv_iload_n hx hb dX5_keepRanks_19 rfl (lv_at hl 0 rfl) ?_
        refine lv_aload_n hx hb dX5_keepRanks_20 rfl (lv_at hl 1 rfl) ?_
        refine va_get (D := G.1) (ci := 5) (v := .ref v_q8) (C := RX5) (T := TX5) (N := 35) hx hb hts fw_X5_keepRanks_X5 hown hK.1 hP 0 rfl rfl 13 (by decide) (hts (.fieldLink RX5 32 "HalftoneScreensModel" "ranks" "[I") lk_X5_keepRanks_f32) (fun _ h9 => h9) rfl dX5_keepRanks_21 ?_
        refine lv_iload_n hx hb dX5_keepRanks_24 rfl (lv_at hl 0 rfl) ?_
        obtain ⟨i4, h⟩ := gd_e h
        refine va_iald hx hb hK.1 hP 8 0 rfl rfl i4 dX5_keepRanks_25 ?_
        refine lv_topi (fun x5 e5 => ?_)
        replace h := nmB_e e5 h
        obtain ⟨i6, h⟩ := gd_e h
        refine va_iast hx hb hK.1 hP hD hS 9 0 rfl rfl i6 dX5_keepRanks_26 (fun H locs hP hD hS => ?_)
        have hP : va_P G.1 vwCl (wdX5 G v_q0 v_q1 v_q2 v_q3 v_q4 v_q5 v_q6 v_q7 v_q8 v_q9 v_q10 v_q11 v_q12 v_q13 v_q14 v_q15 v_q16 v_thrown v_gain v_size r1_0 r1_1 r1_2 r1_3 v_parts v_isMinus v_readSpot v_isStar v_wantsNumber v_waiting v_shiftX v_shiftY v_times v_dotsLaid v_joinedLaid v_hash v_isThereA v_vA v_spotOfA v_inMiddleA v_tintsA v_bufferA r1_4 r1_5 (upd v2_1 v2_0.toNatClampNeg x5) v_partA v_allRanksA v_basesA v_isMetA v_metXA v_metYA v_lineA) H := hP
        have hD : va_D A (wdX5 G v_q0 v_q1 v_q2 v_q3 v_q4 v_q5 v_q6 v_q7 v_q8 v_q9 v_q10 v_q11 v_q12 v_q13 v_q14 v_q15 v_q16 v_thrown v_gain v_size r1_0 r1_1 r1_2 r1_3 v_parts v_isMinus v_readSpot v_isStar v_wantsNumber v_waiting v_shiftX v_shiftY v_times v_dotsLaid v_joinedLaid v_hash v_isThereA v_vA v_spotOfA v_inMiddleA v_tintsA v_bufferA r1_4 r1_5 (upd v2_1 v2_0.toNatClampNeg x5) v_partA v_allRanksA v_basesA v_isMetA v_metXA v_metYA v_lineA) := hD
        obtain ⟨x7, e7⟩ : ∃ y : Int32, y = v2_0 + 1 := ⟨_, rfl⟩
        replace h := nmB_e e7 h
        refine lv_iinc (v := x7) (lv' := [(2, .int x7), (0, .ref v_q0), (1, .int a0)]) hx hb dX5_keepRanks_27 hl (k := 0) rfl (by rw [e7]; rfl) (by decide) rfl (fun ls hl => ?_)
        refine lv_goto (tgt := 7) hx hb dX5_keepRanks_30 (by decide) ?_
        exact ih x7 (upd v2_1 v2_0.toNatClampNeg x5) u2_0 u2_1 H locs ls h hl hP hD hS kE
  refine L2 FU 0 v_oldRanksA u2_0 u2_1 H locs ls g2 hl hP hD hS (fun H locs ls hl hP hD hS => ?_)
  obtain ⟨rfl, rfl, rfl, rfl, rfl, rfl, rfl⟩ := sm7 h
  exact hret _ _ _ _ trivial hP hD hS dX5_keepRanks_33
theorem fw_X5_otherRanks_X5 : ∀ w ∈ wsX50, w ∈ wsX5_otherRanks := fun w h => List.mem_cons_of_mem _ (List.mem_append_right _ h)
theorem lk_X5_otherRanks_f113 : Cond.fieldLink RX5 113 "HalftoneScreensModel" "laidArea" "I" ∈ wsX5_otherRanks := List.mem_of_getElem? (i := 1) rfl
theorem lk_X5_otherRanks_f32 : Cond.fieldLink RX5 32 "HalftoneScreensModel" "ranks" "[I" ∈ wsX5_otherRanks := List.mem_of_getElem? (i := 2) rfl
theorem lk_X5_otherRanks_f35 : Cond.fieldLink RX5 35 "HalftoneScreensModel" "oldRanks" "[I" ∈ wsX5_otherRanks := List.mem_of_getElem? (i := 3) rfl
abbrev rmX5_otherRanks : Room := { frames := 5, cells := 0, slots := 0, locals := 130 }
set_option maxHeartbeats 4000000 in
set_option maxRecDepth 100000 in
theorem ctX5_otherRanks (l : Launch) (G : GG) (v_q0 : Nat) (v_q1 : Nat) (v_q2 : Nat) (v_q3 : Nat) (v_q4 : Nat) (v_q5 : Nat) (v_q6 : Nat) (v_q7 : Nat) (v_q8 : Nat) (v_q9 : Nat) (v_q10 : Nat) (v_q11 : Nat) (v_q12 : Nat) (v_q13 : Nat) (v_q14 : Nat) (v_q15 : Nat) (v_q16 : Nat) (v_thrown : Int32) (v_gain : Int32) (v_size : Int32) (v_w : Int32) (v_s : Int32) (v_h : Int32) (v_laidArea : Int32) (v_parts : Int32) (v_isMinus : Int32) (v_readSpot : Int32) (v_isStar : Int32) (v_wantsNumber : Int32) (v_waiting : Int32) (v_shiftX : Int32) (v_shiftY : Int32) (v_times : Int32) (v_dotsLaid : Int32) (v_joinedLaid : Int32) (v_hash : Int64) (v_isThereA : (Nat → Int32)) (v_vA : (Nat → Int32)) (v_spotOfA : (Nat → Int32)) (v_inMiddleA : (Nat → Int32)) (v_tintsA : (Nat → Int32)) (v_bufferA : (Nat → Int32)) (v_valuesA : (Nat → Int32)) (v_ranksA : (Nat → Int32)) (v_oldRanksA : (Nat → Int32)) (v_partA : (Nat → Int32)) (v_allRanksA : (Nat → Int32)) (v_basesA : (Nat → Int32)) (v_isMetA : (Nat → Int32)) (v_metXA : (Nat → Int32)) (v_metYA : (Nat → Int32)) (v_lineA : (Nat → Int32)) (a0 : Int32) (o0 : Int32) (o1 : Int32) (o2 : Int32) (o3 : Int32) (o4 : Int32) (o5 : (Nat → Int32)) (o6 : (Nat → Int32)) (h : mX5_otherRanks v_vA v_spotOfA v_inMiddleA v_valuesA v_ranksA v_oldRanksA a0 = some (o0, o1, o2, o3, o4, o5, o6))  : Met l yX5_otherRanks wsX5_otherRanks rmX5_otherRanks (va_Pc [.ref v_q0, .int a0] (PreD G (wdX5 G v_q0 v_q1 v_q2 v_q3 v_q4 v_q5 v_q6 v_q7 v_q8 v_q9 v_q10 v_q11 v_q12 v_q13 v_q14 v_q15 v_q16 v_thrown v_gain v_size v_w v_s v_h v_laidArea v_parts v_isMinus v_readSpot v_isStar v_wantsNumber v_waiting v_shiftX v_shiftY v_times v_dotsLaid v_joinedLaid v_hash v_isThereA v_vA v_spotOfA v_inMiddleA v_tintsA v_bufferA v_valuesA v_ranksA v_oldRanksA v_partA v_allRanksA v_basesA v_isMetA v_metXA v_metYA v_lineA) (fun _ => True))) (QwA G (va_A0 (wdX5 G v_q0 v_q1 v_q2 v_q3 v_q4 v_q5 v_q6 v_q7 v_q8 v_q9 v_q10 v_q11 v_q12 v_q13 v_q14 v_q15 v_q16 v_thrown v_gain v_size v_w v_s v_h v_laidArea v_parts v_isMinus v_readSpot v_isStar v_wantsNumber v_waiting v_shiftX v_shiftY v_times v_dotsLaid v_joinedLaid v_hash v_isThereA v_vA v_spotOfA v_inMiddleA v_tintsA v_bufferA v_valuesA v_ranksA v_oldRanksA v_partA v_allRanksA v_basesA v_isMetA v_metXA v_metYA v_lineA)) (wdX5 G v_q0 v_q1 v_q2 v_q3 v_q4 v_q5 v_q6 v_q7 v_q8 v_q9 v_q10 v_q11 v_q12 v_q13 v_q14 v_q15 v_q16 v_thrown v_gain v_size o1 o2 o3 o4 v_parts v_isMinus v_readSpot v_isStar v_wantsNumber v_waiting v_shiftX v_shiftY v_times v_dotsLaid v_joinedLaid v_hash v_isThereA v_vA v_spotOfA v_inMiddleA v_tintsA v_bufferA o5 o6 v_oldRanksA v_partA v_allRanksA v_basesA v_isMetA v_metXA v_metYA v_lineA) (some (.int o0)) True) 0 0 (va_A0 (wdX5 G v_q0 v_q1 v_q2 v_q3 v_q4 v_q5 v_q6 v_q7 v_q8 v_q9 v_q10 v_q11 v_q12 v_q13 v_q14 v_q15 v_q16 v_thrown v_gain v_size v_w v_s v_h v_laidArea v_parts v_isMinus v_readSpot v_isStar v_wantsNumber v_waiting v_shiftX v_shiftY v_times v_dotsLaid v_joinedLaid v_hash v_isThereA v_vA v_spotOfA v_inMiddleA v_tintsA v_bufferA v_valuesA v_ranksA v_oldRanksA v_partA v_allRanksA v_basesA v_isMetA v_metXA v_metYA v_lineA)) := by
  refine of_wi (cc := cX5_otherRanks) (maxL := 4) (ty := .int) (plainFor_of_name (by decide)) rfl (Nat.le_of_ble_eq_true rfl) ?_
  intro p e s m args below meth c ls Q A S hl hP hD hS hK hX hA hret
  obtain ⟨H, hH⟩ : ∃ H, H = s.heap := ⟨_, rfl⟩
  obtain ⟨locs, hlocs⟩ : ∃ L : List Loc, L = [] := ⟨_, rfl⟩
  rw [← hlocs]
  rw [← hlocs] at hS
  have hP : va_P G.1 vwCl (wdX5 G v_q0 v_q1 v_q2 v_q3 v_q4 v_q5 v_q6 v_q7 v_q8 v_q9 v_q10 v_q11 v_q12 v_q13 v_q14 v_q15 v_q16 v_thrown v_gain v_size v_w v_s v_h v_laidArea v_parts v_isMinus v_readSpot v_isStar v_wantsNumber v_waiting v_shiftX v_shiftY v_times v_dotsLaid v_joinedLaid v_hash v_isThereA v_vA v_spotOfA v_inMiddleA v_tintsA v_bufferA v_valuesA v_ranksA v_oldRanksA v_partA v_allRanksA v_basesA v_isMetA v_metXA v_metYA v_lineA) H := by rw [hH]; exact hP
  have hS : va_S A s.heap H locs := by rw [hH]; exact hS
  suffices hgo : W p l e rmX5_otherRanks s m args below meth c H locs 0 0 Q (F0 m 0 ls []) by rw [hH] at hgo; exact hgo
  have S : CallFix p m c cX5_otherRanks 4 s args wsX5_otherRanks RX5 := S
  obtain ⟨hx, hb, hml, hown, hts⟩ := id S
  have hl : lv_has ls 4 [(0, .ref v_q0), (1, .int a0)] := hl
  unfold mX5_otherRanks at h
  refine lv_aload_n hx hb dX5_otherRanks_0 rfl (lv_at hl 0 rfl) ?_
  refine lv_iload_n hx hb dX5_otherRanks_1 rfl (lv_at hl 1 rfl) ?_
  obtain ⟨r1_0, r1_1, r1_2, r1_3, r1_4, r1_5, g1, h⟩ := bnd6_e h
  refine rwV_same (rest := []) (As := [.int a0]) S (ctX5_layGrowth l G v_q0 v_q1 v_q2 v_q3 v_q4 v_q5 v_q6 v_q7 v_q8 v_q9 v_q10 v_q11 v_q12 v_q13 v_q14 v_q15 v_q16 v_thrown v_gain v_size v_w v_s v_h v_laidArea v_parts v_isMinus v_readSpot v_isStar v_wantsNumber v_waiting v_shiftX v_shiftY v_times v_dotsLaid v_joinedLaid v_hash v_isThereA v_vA v_spotOfA v_inMiddleA v_tintsA v_bufferA v_valuesA v_ranksA v_oldRanksA v_partA v_allRanksA v_basesA v_isMetA v_metXA v_metYA v_lineA a0 r1_0 r1_1 r1_2 r1_3 r1_4 r1_5 g1) (cwV 1 hts gX5_otherRanks_X5_layGrowth rfl rfl rfl hvX5_layGrowth ⟨Nat.le_of_ble_eq_true rfl, Nat.le_of_ble_eq_true rfl⟩) hK hP hD hS xb_triv (fun _ _ _ => trivial) 0 5 rfl rfl rfl rfl hl.1 rfl (Nat.le_of_ble_eq_true rfl) dX5_otherRanks_2 ⟨Nat.le_refl _, Nat.le_refl _⟩ (fun _ H locs hP hD hS => ?_)
  have hP : va_P G.1 vwCl (wdX5 G v_q0 v_q1 v_q2 v_q3 v_q4 v_q5 v_q6 v_q7 v_q8 v_q9 v_q10 v_q11 v_q12 v_q13 v_q14 v_q15 v_q16 v_thrown v_gain v_size r1_0 r1_1 r1_2 r1_3 v_parts v_isMinus v_readSpot v_isStar v_wantsNumber v_waiting v_shiftX v_shiftY v_times v_dotsLaid v_joinedLaid v_hash v_isThereA v_vA v_spotOfA v_inMiddleA v_tintsA v_bufferA r1_4 r1_5 v_oldRanksA v_partA v_allRanksA v_basesA v_isMetA v_metXA v_metYA v_lineA) H := hP
  have hD : va_D A (wdX5 G v_q0 v_q1 v_q2 v_q3 v_q4 v_q5 v_q6 v_q7 v_q8 v_q9 v_q10 v_q11 v_q12 v_q13 v_q14 v_q15 v_q16 v_thrown v_gain v_size r1_0 r1_1 r1_2 r1_3 v_parts v_isMinus v_readSpot v_isStar v_wantsNumber v_waiting v_shiftX v_shiftY v_times v_dotsLaid v_joinedLaid v_hash v_isThereA v_vA v_spotOfA v_inMiddleA v_tintsA v_bufferA r1_4 r1_5 v_oldRanksA v_partA v_allRanksA v_basesA v_isMetA v_metXA v_metYA v_lineA) := hD
  refine lv_iconst (v := 0) hx hb dX5_otherRanks_5 (by decide) ?_
  refine lv_istore_n (lv' := [(2, .int 0), (0, .ref v_q0), (1, .int a0)]) hx hb dX5_otherRanks_6 rfl hl (by decide) rfl (fun ls hl => ?_)
  refine lv_iconst (v := 0) hx hb dX5_otherRanks_7 (by decide) ?_
  refine lv_istore_n (lv' := [(3, .int 0), (2, .int 0), (0, .ref v_q0), (1, .int a0)]) hx hb dX5_otherRanks_8 rfl hl (by decide) rfl (fun ls hl => ?_)
  obtain ⟨u2_0, u2_1, g2, h⟩ := bnd2_e h
  have L2 : ∀ (fu : Nat) (v2_0 : Int32) (v2_1 : Int32) (u2_0 : Int32) (u2_1 : Int32) (H : Heap) (locs : List Loc) (ls : Array Slot), mX5_otherRanks_L9 v_oldRanksA r1_3 r1_5 fu v2_0 v2_1 = some (u2_0, u2_1) → lv_has ls 4 [(3, .int v2_0), (2, .int v2_1), (0, .ref v_q0), (1, .int a0)] → va_P G.1 vwCl (wdX5 G v_q0 v_q1 v_q2 v_q3 v_q4 v_q5 v_q6 v_q7 v_q8 v_q9 v_q10 v_q11 v_q12 v_q13 v_q14 v_q15 v_q16 v_thrown v_gain v_size r1_0 r1_1 r1_2 r1_3 v_parts v_isMinus v_readSpot v_isStar v_wantsNumber v_waiting v_shiftX v_shiftY v_times v_dotsLaid v_joinedLaid v_hash v_isThereA v_vA v_spotOfA v_inMiddleA v_tintsA v_bufferA r1_4 r1_5 v_oldRanksA v_partA v_allRanksA v_basesA v_isMetA v_metXA v_metYA v_lineA) H → va_D A (wdX5 G v_q0 v_q1 v_q2 v_q3 v_q4 v_q5 v_q6 v_q7 v_q8 v_q9 v_q10 v_q11 v_q12 v_q13 v_q14 v_q15 v_q16 v_thrown v_gain v_size r1_0 r1_1 r1_2 r1_3 v_parts v_isMinus v_readSpot v_isStar v_wantsNumber v_waiting v_shiftX v_shiftY v_times v_dotsLaid v_joinedLaid v_hash v_isThereA v_vA v_spotOfA v_inMiddleA v_tintsA v_bufferA r1_4 r1_5 v_oldRanksA v_partA v_allRanksA v_basesA v_isMetA v_metXA v_metYA v_lineA) → va_S A s.heap H locs → (∀ (H : Heap) (locs : List Loc) (ls : Array Slot), lv_has ls 4 [(3, .int u2_0), (2, .int u2_1), (0, .ref v_q0), (1, .int a0)] → va_P G.1 vwCl (wdX5 G v_q0 v_q1 v_q2 v_q3 v_q4 v_q5 v_q6 v_q7 v_q8 v_q9 v_q10 v_q11 v_q12 v_q13 v_q14 v_q15 v_q16 v_thrown v_gain v_size r1_0 r1_1 r1_2 r1_3 v_parts v_isMinus v_readSpot v_isStar v_wantsNumber v_waiting v_shiftX v_shiftY v_times v_dotsLaid v_joinedLaid v_hash v_isThereA v_vA v_spotOfA v_inMiddleA v_tintsA v_bufferA r1_4 r1_5 v_oldRanksA v_partA v_allRanksA v_basesA v_isMetA v_metXA v_metYA v_lineA) H → va_D A (wdX5 G v_q0 v_q1 v_q2 v_q3 v_q4 v_q5 v_q6 v_q7 v_q8 v_q9 v_q10 v_q11 v_q12 v_q13 v_q14 v_q15 v_q16 v_thrown v_gain v_size r1_0 r1_1 r1_2 r1_3 v_parts v_isMinus v_readSpot v_isStar v_wantsNumber v_waiting v_shiftX v_shiftY v_times v_dotsLaid v_joinedLaid v_hash v_isThereA v_vA v_spotOfA v_inMiddleA v_tintsA v_bufferA r1_4 r1_5 v_oldRanksA v_partA v_allRanksA v_basesA v_isMetA v_metXA v_metYA v_lineA) → va_S A s.heap H locs → W p l e rmX5_otherRanks s m args below meth c H locs 0 0 Q (F0 m 46 ls [])) → W p l e rmX5_otherRanks s m args below meth c H locs 0 0 Q (F0 m 9 ls []) := by
    intro fu
    induction fu with
    | zero => intro v2_0 v2_1 u2_0 u2_1 H locs ls h; exact nomatch h
    | succ fu ih =>
      intro v2_0 v2_1 u2_0 u2_1 H locs ls h hl hP hD hS kE
      rw [mX5_otherRanks_L9] at h
      refine lv_iload_n hx hb dX5_otherRanks_9 rfl (lv_at hl 0 rfl) ?_
      refine lv_aload_n hx hb dX5_otherRanks_10 rfl (lv_at hl 2 rfl) ?_
      refine va_get (D := G.1) (ci := 5) (v := .int r1_3) (C := RX5) (T := TX5) (N := 35) hx hb hts fw_X5_otherRanks_X5 hown hK.1 hP 0 rfl rfl 14 (by decide) (hts (.fieldLink RX5 113 "HalftoneScreensModel" "laidArea" "I") lk_X5_otherRanks_f113) (fun _ h9 => h9) rfl dX5_otherRanks_11 ?_
      refine lv_icmp_ge (tgt := 46) hx hb dX5_otherRanks_14 (by decide) (fun c3 => ?_) (fun c3 => ?_)
      · replace h := ite_t c3 h
        obtain ⟨rfl, rfl⟩ := sm2 h
        exact kE H locs ls hl hP hD hS
      · replace h := ite_f c3 h
        refine lv_iload_n hx hb dX5_otherRanks_17 rfl (lv_at hl 1 rfl) ?_
        refine lv_aload_n hx hb dX5_otherRanks_18 rfl (lv_at hl 2 rfl) ?_
        refine va_get (D := G.1) (ci := 5) (v := .ref v_q8) (C := RX5) (T := TX5) (N := 35) hx hb hts fw_X5_otherRanks_X5 hown hK.1 hP 0 rfl rfl 13 (by decide) (hts (.fieldLink RX5 32 "HalftoneScreensModel" "ranks" "[I") lk_X5_otherRanks_f32) (fun _ h9 => h9) rfl dX5_otherRanks_19 ?_
        refine lv_iload_n hx hb dX5_otherRanks_22 rfl (lv_at hl 0 rfl) ?_
        obtain ⟨i4, h⟩ := gd_e h
        refine va_iald hx hb hK.1 hP 8 0 rfl rfl i4 dX5_otherRanks_23 ?_
        refine lv_aload_n hx hb dX5_otherRanks_24 rfl (lv_at hl 2 rfl) ?_
        refine va_get (D := G.1) (ci := 5) (v := .ref v_q9) (C := RX5) (T := TX5) (N := 35) hx hb hts fw_X5_otherRanks_X5 hown hK.1 hP 0 rfl rfl 15 (by decide) (hts (.fieldLink RX5 35 "HalftoneScreensModel" "oldRanks" "[I") lk_X5_otherRanks_f35) (fun _ h9 => h9) rfl dX5_otherRanks_25 ?_
        refine lv_iload_n hx hb dX5_otherRanks_28 rfl (lv_at hl 0 rfl) ?_
        obtain ⟨i5, h⟩ := gd_e h
        refine va_iald hx hb hK.1 hP 9 0 rfl rfl i5 dX5_otherRanks_29 ?_
        refine lv_icmp_ne (tgt := 37) hx hb dX5_otherRanks_30 (by decide) (fun c6 => ?_) (fun c6 => ?_)
        · replace h := ite_f c6 h
          refine lv_iconst (v := 1) hx hb dX5_otherRanks_37 (by decide) ?_
          refine lv_iadd hx hb dX5_otherRanks_38 ?_
          refine lv_topi (fun x7 e7 => ?_)
          replace h := nmB_e e7 h
          refine lv_istore_n (lv' := [(2, .int x7), (3, .int v2_0), (0, .ref v_q0), (1, .int a0)]) hx hb dX5_otherRanks_39 rfl hl (by decide) rfl (fun ls hl => ?_)
          obtain ⟨x8, e8⟩ : ∃ y : Int32, y = v2_0 + 1 := ⟨_, rfl⟩
          replace h := nmB_e e8 h
          refine lv_iinc (v := x8) (lv' := [(3, .int x8), (2, .int x7), (0, .ref v_q0), (1, .int a0)]) hx hb dX5_otherRanks_40 hl (k := 1) rfl (by rw [e8]; rfl) (by decide) rfl (fun ls hl => ?_)
          refine lv_goto (tgt := 9) hx hb dX5_otherRanks_43 (by decide) ?_
          exact ih x8 x7 u2_0 u2_1 H locs ls h hl hP hD hS kE
        · replace h := ite_t c6 h
          refine lv_iconst (v := 0) hx hb dX5_otherRanks_33 (by decide) ?_
          refine lv_goto (tgt := 38) hx hb dX5_otherRanks_34 (by decide) ?_
          refine lv_iadd hx hb dX5_otherRanks_38 ?_
          refine lv_topi (fun x9 e9 => ?_)
          replace h := nmB_e e9 h
          refine lv_istore_n (lv' := [(2, .int x9), (3, .int v2_0), (0, .ref v_q0), (1, .int a0)]) hx hb dX5_otherRanks_39 rfl hl (by decide) rfl (fun ls hl => ?_)
          obtain ⟨x10, e10⟩ : ∃ y : Int32, y = v2_0 + 1 := ⟨_, rfl⟩
          replace h := nmB_e e10 h
          refine lv_iinc (v := x10) (lv' := [(3, .int x10), (2, .int x9), (0, .ref v_q0), (1, .int a0)]) hx hb dX5_otherRanks_40 hl (k := 1) rfl (by rw [e10]; rfl) (by decide) rfl (fun ls hl => ?_)
          refine lv_goto (tgt := 9) hx hb dX5_otherRanks_43 (by decide) ?_
          exact ih x10 x9 u2_0 u2_1 H locs ls h hl hP hD hS kE
  refine L2 FU 0 0 u2_0 u2_1 H locs ls g2 hl hP hD hS (fun H locs ls hl hP hD hS => ?_)
  refine lv_iload_n hx hb dX5_otherRanks_46 rfl (lv_at hl 1 rfl) ?_
  obtain ⟨rfl, rfl, rfl, rfl, rfl, rfl, rfl⟩ := sm7 h
  exact hret _ _ _ _ _ rfl trivial rfl hP hD hS dX5_otherRanks_47
theorem fw_X5_append_X5 : ∀ w ∈ wsX50, w ∈ wsX5_append := fun w h => List.mem_cons_of_mem _ (List.mem_append_right _ h)
theorem lk_X5_append_f123 : Cond.fieldLink RX5 123 "HalftoneScreensModel" "size" "I" ∈ wsX5_append := List.mem_of_getElem? (i := 1) rfl
theorem lk_X5_append_f59 : Cond.fieldLink RX5 59 "HalftoneScreensModel" "thrown" "I" ∈ wsX5_append := List.mem_of_getElem? (i := 2) rfl
theorem lk_X5_append_f26 : Cond.fieldLink RX5 26 "HalftoneScreensModel" "buffer" "[I" ∈ wsX5_append := List.mem_of_getElem? (i := 3) rfl
abbrev rmX5_append : Room := { frames := 1, cells := 0, slots := 0, locals := 22 }
set_option maxHeartbeats 4000000 in
set_option maxRecDepth 100000 in
theorem ctX5_append (l : Launch) (G : GG) (v_q0 : Nat) (v_q1 : Nat) (v_q2 : Nat) (v_q3 : Nat) (v_q4 : Nat) (v_q5 : Nat) (v_q6 : Nat) (v_q7 : Nat) (v_q8 : Nat) (v_q9 : Nat) (v_q10 : Nat) (v_q11 : Nat) (v_q12 : Nat) (v_q13 : Nat) (v_q14 : Nat) (v_q15 : Nat) (v_q16 : Nat) (v_thrown : Int32) (v_gain : Int32) (v_size : Int32) (v_w : Int32) (v_s : Int32) (v_h : Int32) (v_laidArea : Int32) (v_parts : Int32) (v_isMinus : Int32) (v_readSpot : Int32) (v_isStar : Int32) (v_wantsNumber : Int32) (v_waiting : Int32) (v_shiftX : Int32) (v_shiftY : Int32) (v_times : Int32) (v_dotsLaid : Int32) (v_joinedLaid : Int32) (v_hash : Int64) (v_isThereA : (Nat → Int32)) (v_vA : (Nat → Int32)) (v_spotOfA : (Nat → Int32)) (v_inMiddleA : (Nat → Int32)) (v_tintsA : (Nat → Int32)) (v_bufferA : (Nat → Int32)) (v_valuesA : (Nat → Int32)) (v_ranksA : (Nat → Int32)) (v_oldRanksA : (Nat → Int32)) (v_partA : (Nat → Int32)) (v_allRanksA : (Nat → Int32)) (v_basesA : (Nat → Int32)) (v_isMetA : (Nat → Int32)) (v_metXA : (Nat → Int32)) (v_metYA : (Nat → Int32)) (v_lineA : (Nat → Int32)) (a0 : Int32) (o0 : Int32) (o1 : Int32) (o2 : Int32) (o3 : (Nat → Int32)) (h : mX5_append v_size v_bufferA a0 = some (o0, o1, o2, o3))  : Met l yX5_append wsX5_append rmX5_append (va_Pc [.ref v_q0, .int a0] (PreD G (wdX5 G v_q0 v_q1 v_q2 v_q3 v_q4 v_q5 v_q6 v_q7 v_q8 v_q9 v_q10 v_q11 v_q12 v_q13 v_q14 v_q15 v_q16 v_thrown v_gain v_size v_w v_s v_h v_laidArea v_parts v_isMinus v_readSpot v_isStar v_wantsNumber v_waiting v_shiftX v_shiftY v_times v_dotsLaid v_joinedLaid v_hash v_isThereA v_vA v_spotOfA v_inMiddleA v_tintsA v_bufferA v_valuesA v_ranksA v_oldRanksA v_partA v_allRanksA v_basesA v_isMetA v_metXA v_metYA v_lineA) (fun _ => True))) (QwA G (va_A0 (wdX5 G v_q0 v_q1 v_q2 v_q3 v_q4 v_q5 v_q6 v_q7 v_q8 v_q9 v_q10 v_q11 v_q12 v_q13 v_q14 v_q15 v_q16 v_thrown v_gain v_size v_w v_s v_h v_laidArea v_parts v_isMinus v_readSpot v_isStar v_wantsNumber v_waiting v_shiftX v_shiftY v_times v_dotsLaid v_joinedLaid v_hash v_isThereA v_vA v_spotOfA v_inMiddleA v_tintsA v_bufferA v_valuesA v_ranksA v_oldRanksA v_partA v_allRanksA v_basesA v_isMetA v_metXA v_metYA v_lineA)) (wdX5 G v_q0 v_q1 v_q2 v_q3 v_q4 v_q5 v_q6 v_q7 v_q8 v_q9 v_q10 v_q11 v_q12 v_q13 v_q14 v_q15 v_q16 o1 v_gain o2 v_w v_s v_h v_laidArea v_parts v_isMinus v_readSpot v_isStar v_wantsNumber v_waiting v_shiftX v_shiftY v_times v_dotsLaid v_joinedLaid v_hash v_isThereA v_vA v_spotOfA v_inMiddleA v_tintsA o3 v_valuesA v_ranksA v_oldRanksA v_partA v_allRanksA v_basesA v_isMetA v_metXA v_metYA v_lineA) (some (.int o0)) True) 0 0 (va_A0 (wdX5 G v_q0 v_q1 v_q2 v_q3 v_q4 v_q5 v_q6 v_q7 v_q8 v_q9 v_q10 v_q11 v_q12 v_q13 v_q14 v_q15 v_q16 v_thrown v_gain v_size v_w v_s v_h v_laidArea v_parts v_isMinus v_readSpot v_isStar v_wantsNumber v_waiting v_shiftX v_shiftY v_times v_dotsLaid v_joinedLaid v_hash v_isThereA v_vA v_spotOfA v_inMiddleA v_tintsA v_bufferA v_valuesA v_ranksA v_oldRanksA v_partA v_allRanksA v_basesA v_isMetA v_metXA v_metYA v_lineA)) := by
  refine of_wi (cc := cX5_append) (maxL := 2) (ty := .int) (plainFor_of_name (by decide)) rfl (Nat.le_of_ble_eq_true rfl) ?_
  intro p e s m args below meth c ls Q A S hl hP hD hS hK hX hA hret
  obtain ⟨H, hH⟩ : ∃ H, H = s.heap := ⟨_, rfl⟩
  obtain ⟨locs, hlocs⟩ : ∃ L : List Loc, L = [] := ⟨_, rfl⟩
  rw [← hlocs]
  rw [← hlocs] at hS
  have hP : va_P G.1 vwCl (wdX5 G v_q0 v_q1 v_q2 v_q3 v_q4 v_q5 v_q6 v_q7 v_q8 v_q9 v_q10 v_q11 v_q12 v_q13 v_q14 v_q15 v_q16 v_thrown v_gain v_size v_w v_s v_h v_laidArea v_parts v_isMinus v_readSpot v_isStar v_wantsNumber v_waiting v_shiftX v_shiftY v_times v_dotsLaid v_joinedLaid v_hash v_isThereA v_vA v_spotOfA v_inMiddleA v_tintsA v_bufferA v_valuesA v_ranksA v_oldRanksA v_partA v_allRanksA v_basesA v_isMetA v_metXA v_metYA v_lineA) H := by rw [hH]; exact hP
  have hS : va_S A s.heap H locs := by rw [hH]; exact hS
  suffices hgo : W p l e rmX5_append s m args below meth c H locs 0 0 Q (F0 m 0 ls []) by rw [hH] at hgo; exact hgo
  have S : CallFix p m c cX5_append 2 s args wsX5_append RX5 := S
  obtain ⟨hx, hb, hml, hown, hts⟩ := id S
  have hl : lv_has ls 2 [(0, .ref v_q0), (1, .int a0)] := hl
  unfold mX5_append at h
  refine lv_aload_n hx hb dX5_append_0 rfl (lv_at hl 0 rfl) ?_
  refine lv_iload_n hx hb dX5_append_1 rfl (lv_at hl 1 rfl) ?_
  refine lv_bipush (v := 32) hx hb dX5_append_2 (by decide) ?_
  refine lv_bipush (v := 126) hx hb dX5_append_4 (by decide) ?_
  obtain ⟨r1_0, g1, h⟩ := bnd1_e h
  refine roSi1 (rest := [.ref v_q0]) (As := [.int a0, .int 32, .int 126]) S (ctX5_within l G a0 32 126 r1_0 g1) (va_cwS 3 hts gX5_append_X5_within rfl rfl rfl hsX5_within ⟨Nat.le_of_ble_eq_true rfl, Nat.le_of_ble_eq_true rfl⟩) hK hP [] rfl rfl hl.1 rfl (Nat.le_of_ble_eq_true rfl) dX5_append_6 ⟨Nat.le_refl _, Nat.le_refl _⟩ (fun hz1 => ?_)
  obtain ⟨K2, hK2, h⟩ := jB1_e h
  have J2 : ∀ (j2_0 : Int32) (H : Heap) (locs : List Loc) (ls : Array Slot), K2 j2_0 = some (o0, o1, o2, o3) → lv_has ls 2 [(0, .ref v_q0), (1, .int a0)] → va_P G.1 vwCl (wdX5 G v_q0 v_q1 v_q2 v_q3 v_q4 v_q5 v_q6 v_q7 v_q8 v_q9 v_q10 v_q11 v_q12 v_q13 v_q14 v_q15 v_q16 v_thrown v_gain v_size v_w v_s v_h v_laidArea v_parts v_isMinus v_readSpot v_isStar v_wantsNumber v_waiting v_shiftX v_shiftY v_times v_dotsLaid v_joinedLaid v_hash v_isThereA v_vA v_spotOfA v_inMiddleA v_tintsA v_bufferA v_valuesA v_ranksA v_oldRanksA v_partA v_allRanksA v_basesA v_isMetA v_metXA v_metYA v_lineA) H → va_D A (wdX5 G v_q0 v_q1 v_q2 v_q3 v_q4 v_q5 v_q6 v_q7 v_q8 v_q9 v_q10 v_q11 v_q12 v_q13 v_q14 v_q15 v_q16 v_thrown v_gain v_size v_w v_s v_h v_laidArea v_parts v_isMinus v_readSpot v_isStar v_wantsNumber v_waiting v_shiftX v_shiftY v_times v_dotsLaid v_joinedLaid v_hash v_isThereA v_vA v_spotOfA v_inMiddleA v_tintsA v_bufferA v_valuesA v_ranksA v_oldRanksA v_partA v_allRanksA v_basesA v_isMetA v_metXA v_metYA v_lineA) → va_S A s.heap H locs → W p l e rmX5_append s m args below meth c H locs 0 0 Q (F0 m 30 ls [.int j2_0, .ref v_q0]) := by
    intro j2_0 H locs ls h hl hP hD hS
    replace h := (hK2 j2_0).symm.trans h
    refine va_put (D := G.1) (ci := 5) (v := .int j2_0) (ty := .int) (C := RX5) (T := TX5) (N := 35) hx hb hts fw_X5_append_X5 tyX5 tyX5_ok nmX5 hown hK.1 hP hD hS 0 rfl rfl 0 (by decide) (hts (.fieldLink RX5 59 "HalftoneScreensModel" "thrown" "I") lk_X5_append_f59) (fun _ h9 => h9) rfl (tyX5_ok 0 (by decide)) rfl rfl (Nat.le_of_ble_eq_true rfl) dX5_append_30 (fun H locs hP hD hS => ?_)
    have hP : va_P G.1 vwCl (wdX5 G v_q0 v_q1 v_q2 v_q3 v_q4 v_q5 v_q6 v_q7 v_q8 v_q9 v_q10 v_q11 v_q12 v_q13 v_q14 v_q15 v_q16 j2_0 v_gain v_size v_w v_s v_h v_laidArea v_parts v_isMinus v_readSpot v_isStar v_wantsNumber v_waiting v_shiftX v_shiftY v_times v_dotsLaid v_joinedLaid v_hash v_isThereA v_vA v_spotOfA v_inMiddleA v_tintsA v_bufferA v_valuesA v_ranksA v_oldRanksA v_partA v_allRanksA v_basesA v_isMetA v_metXA v_metYA v_lineA) H := hP
    have hD : va_D A (wdX5 G v_q0 v_q1 v_q2 v_q3 v_q4 v_q5 v_q6 v_q7 v_q8 v_q9 v_q10 v_q11 v_q12 v_q13 v_q14 v_q15 v_q16 j2_0 v_gain v_size v_w v_s v_h v_laidArea v_parts v_isMinus v_readSpot v_isStar v_wantsNumber v_waiting v_shiftX v_shiftY v_times v_dotsLaid v_joinedLaid v_hash v_isThereA v_vA v_spotOfA v_inMiddleA v_tintsA v_bufferA v_valuesA v_ranksA v_oldRanksA v_partA v_allRanksA v_basesA v_isMetA v_metXA v_metYA v_lineA) := hD
    refine lv_aload_n hx hb dX5_append_33 rfl (lv_at hl 0 rfl) ?_
    refine va_get (D := G.1) (ci := 5) (v := .int j2_0) (C := RX5) (T := TX5) (N := 35) hx hb hts fw_X5_append_X5 hown hK.1 hP 0 rfl rfl 0 (by decide) (hts (.fieldLink RX5 59 "HalftoneScreensModel" "thrown" "I") lk_X5_append_f59) (fun _ h9 => h9) rfl dX5_append_34 ?_
    refine lv_if_le (tgt := 42) hx hb dX5_append_37 (by decide) (fun c5 => ?_) (fun c5 => ?_)
    · replace h := ite_t c5 h
      refine lv_aload_n hx hb dX5_append_42 rfl (lv_at hl 0 rfl) ?_
      refine va_get (D := G.1) (ci := 5) (v := .ref v_q6) (C := RX5) (T := TX5) (N := 35) hx hb hts fw_X5_append_X5 hown hK.1 hP 0 rfl rfl 8 (by decide) (hts (.fieldLink RX5 26 "HalftoneScreensModel" "buffer" "[I") lk_X5_append_f26) (fun _ h9 => h9) rfl dX5_append_43 ?_
      refine lv_aload_n hx hb dX5_append_46 rfl (lv_at hl 0 rfl) ?_
      refine va_get (D := G.1) (ci := 5) (v := .int v_size) (C := RX5) (T := TX5) (N := 35) hx hb hts fw_X5_append_X5 hown hK.1 hP 0 rfl rfl 7 (by decide) (hts (.fieldLink RX5 123 "HalftoneScreensModel" "size" "I") lk_X5_append_f123) (fun _ h9 => h9) rfl dX5_append_47 ?_
      refine lv_iload_n hx hb dX5_append_50 rfl (lv_at hl 1 rfl) ?_
      obtain ⟨i6, h⟩ := gd_e h
      refine va_iast hx hb hK.1 hP hD hS 6 0 rfl rfl i6 dX5_append_51 (fun H locs hP hD hS => ?_)
      have hP : va_P G.1 vwCl (wdX5 G v_q0 v_q1 v_q2 v_q3 v_q4 v_q5 v_q6 v_q7 v_q8 v_q9 v_q10 v_q11 v_q12 v_q13 v_q14 v_q15 v_q16 j2_0 v_gain v_size v_w v_s v_h v_laidArea v_parts v_isMinus v_readSpot v_isStar v_wantsNumber v_waiting v_shiftX v_shiftY v_times v_dotsLaid v_joinedLaid v_hash v_isThereA v_vA v_spotOfA v_inMiddleA v_tintsA (upd v_bufferA v_size.toNatClampNeg a0) v_valuesA v_ranksA v_oldRanksA v_partA v_allRanksA v_basesA v_isMetA v_metXA v_metYA v_lineA) H := hP
      have hD : va_D A (wdX5 G v_q0 v_q1 v_q2 v_q3 v_q4 v_q5 v_q6 v_q7 v_q8 v_q9 v_q10 v_q11 v_q12 v_q13 v_q14 v_q15 v_q16 j2_0 v_gain v_size v_w v_s v_h v_laidArea v_parts v_isMinus v_readSpot v_isStar v_wantsNumber v_waiting v_shiftX v_shiftY v_times v_dotsLaid v_joinedLaid v_hash v_isThereA v_vA v_spotOfA v_inMiddleA v_tintsA (upd v_bufferA v_size.toNatClampNeg a0) v_valuesA v_ranksA v_oldRanksA v_partA v_allRanksA v_basesA v_isMetA v_metXA v_metYA v_lineA) := hD
      refine lv_aload_n hx hb dX5_append_52 rfl (lv_at hl 0 rfl) ?_
      refine lv_dup hx hb dX5_append_53 rfl ?_
      refine va_get (D := G.1) (ci := 5) (v := .int v_size) (C := RX5) (T := TX5) (N := 35) hx hb hts fw_X5_append_X5 hown hK.1 hP 0 rfl rfl 7 (by decide) (hts (.fieldLink RX5 123 "HalftoneScreensModel" "size" "I") lk_X5_append_f123) (fun _ h9 => h9) rfl dX5_append_54 ?_
      refine lv_iconst (v := 1) hx hb dX5_append_57 (by decide) ?_
      refine lv_iadd hx hb dX5_append_58 ?_
      refine lv_topi (fun x7 e7 => ?_)
      replace h := nmB_e e7 h
      refine va_put (D := G.1) (ci := 5) (v := .int x7) (ty := .int) (C := RX5) (T := TX5) (N := 35) hx hb hts fw_X5_append_X5 tyX5 tyX5_ok nmX5 hown hK.1 hP hD hS 0 rfl rfl 7 (by decide) (hts (.fieldLink RX5 123 "HalftoneScreensModel" "size" "I") lk_X5_append_f123) (fun _ h9 => h9) rfl (tyX5_ok 7 (by decide)) rfl rfl (Nat.le_of_ble_eq_true rfl) dX5_append_59 (fun H locs hP hD hS => ?_)
      have hP : va_P G.1 vwCl (wdX5 G v_q0 v_q1 v_q2 v_q3 v_q4 v_q5 v_q6 v_q7 v_q8 v_q9 v_q10 v_q11 v_q12 v_q13 v_q14 v_q15 v_q16 j2_0 v_gain x7 v_w v_s v_h v_laidArea v_parts v_isMinus v_readSpot v_isStar v_wantsNumber v_waiting v_shiftX v_shiftY v_times v_dotsLaid v_joinedLaid v_hash v_isThereA v_vA v_spotOfA v_inMiddleA v_tintsA (upd v_bufferA v_size.toNatClampNeg a0) v_valuesA v_ranksA v_oldRanksA v_partA v_allRanksA v_basesA v_isMetA v_metXA v_metYA v_lineA) H := hP
      have hD : va_D A (wdX5 G v_q0 v_q1 v_q2 v_q3 v_q4 v_q5 v_q6 v_q7 v_q8 v_q9 v_q10 v_q11 v_q12 v_q13 v_q14 v_q15 v_q16 j2_0 v_gain x7 v_w v_s v_h v_laidArea v_parts v_isMinus v_readSpot v_isStar v_wantsNumber v_waiting v_shiftX v_shiftY v_times v_dotsLaid v_joinedLaid v_hash v_isThereA v_vA v_spotOfA v_inMiddleA v_tintsA (upd v_bufferA v_size.toNatClampNeg a0) v_valuesA v_ranksA v_oldRanksA v_partA v_allRanksA v_basesA v_isMetA v_metXA v_metYA v_lineA) := hD
      refine lv_aload_n hx hb dX5_append_62 rfl (lv_at hl 0 rfl) ?_
      refine va_get (D := G.1) (ci := 5) (v := .int x7) (C := RX5) (T := TX5) (N := 35) hx hb hts fw_X5_append_X5 hown hK.1 hP 0 rfl rfl 7 (by decide) (hts (.fieldLink RX5 123 "HalftoneScreensModel" "size" "I") lk_X5_append_f123) (fun _ h9 => h9) rfl dX5_append_63 ?_
      obtain ⟨rfl, rfl, rfl, rfl⟩ := sm4 h
      exact hret _ _ _ _ _ rfl trivial rfl hP hD hS dX5_append_66
    · replace h := ite_f c5 h
      refine lv_iconst (v := 0) hx hb dX5_append_40 (by decide) ?_
      obtain ⟨rfl, rfl, rfl, rfl⟩ := sm4 h
      exact hret _ _ _ _ _ rfl trivial rfl hP hD hS dX5_append_41
  refine lv_if_ne (tgt := 16) hx hb dX5_append_9 (by decide) (fun c3 => ?_) (fun c3 => ?_)
  · replace h := ite_f c3 h
    refine lv_aload_n hx hb dX5_append_16 rfl (lv_at hl 0 rfl) ?_
    refine va_get (D := G.1) (ci := 5) (v := .int v_size) (C := RX5) (T := TX5) (N := 35) hx hb hts fw_X5_append_X5 hown hK.1 hP 0 rfl rfl 7 (by decide) (hts (.fieldLink RX5 123 "HalftoneScreensModel" "size" "I") lk_X5_append_f123) (fun _ h9 => h9) rfl dX5_append_17 ?_
    refine lv_bipush (v := 20) hx hb dX5_append_20 (by decide) ?_
    refine lv_icmp_ne (tgt := 29) hx hb dX5_append_22 (by decide) (fun c4 => ?_) (fun c4 => ?_)
    · replace h := ite_f c4 h
      refine lv_iconst (v := 0) hx hb dX5_append_29 (by decide) ?_
      exact J2 0 H locs ls h hl hP hD hS
    · replace h := ite_t c4 h
      refine lv_iconst (v := 2) hx hb dX5_append_25 (by decide) ?_
      refine lv_goto (tgt := 30) hx hb dX5_append_26 (by decide) ?_
      exact J2 2 H locs ls h hl hP hD hS
  · replace h := ite_t c3 h
    refine lv_iconst (v := 1) hx hb dX5_append_12 (by decide) ?_
    refine lv_goto (tgt := 30) hx hb dX5_append_13 (by decide) ?_
    exact J2 1 H locs ls h hl hP hD hS
theorem fw_X5_clearInput_X5 : ∀ w ∈ wsX50, w ∈ wsX5_clearInput := fun w h => List.mem_cons_of_mem _ (List.mem_append_right _ h)
theorem lk_X5_clearInput_f59 : Cond.fieldLink RX5 59 "HalftoneScreensModel" "thrown" "I" ∈ wsX5_clearInput := List.mem_of_getElem? (i := 1) rfl
theorem lk_X5_clearInput_f123 : Cond.fieldLink RX5 123 "HalftoneScreensModel" "size" "I" ∈ wsX5_clearInput := List.mem_of_getElem? (i := 2) rfl
abbrev rmX5_clearInput : Room := { frames := 0, cells := 0, slots := 0, locals := 0 }
set_option maxHeartbeats 4000000 in
set_option maxRecDepth 100000 in
theorem ctX5_clearInput (l : Launch) (G : GG) (v_q0 : Nat) (v_q1 : Nat) (v_q2 : Nat) (v_q3 : Nat) (v_q4 : Nat) (v_q5 : Nat) (v_q6 : Nat) (v_q7 : Nat) (v_q8 : Nat) (v_q9 : Nat) (v_q10 : Nat) (v_q11 : Nat) (v_q12 : Nat) (v_q13 : Nat) (v_q14 : Nat) (v_q15 : Nat) (v_q16 : Nat) (v_thrown : Int32) (v_gain : Int32) (v_size : Int32) (v_w : Int32) (v_s : Int32) (v_h : Int32) (v_laidArea : Int32) (v_parts : Int32) (v_isMinus : Int32) (v_readSpot : Int32) (v_isStar : Int32) (v_wantsNumber : Int32) (v_waiting : Int32) (v_shiftX : Int32) (v_shiftY : Int32) (v_times : Int32) (v_dotsLaid : Int32) (v_joinedLaid : Int32) (v_hash : Int64) (v_isThereA : (Nat → Int32)) (v_vA : (Nat → Int32)) (v_spotOfA : (Nat → Int32)) (v_inMiddleA : (Nat → Int32)) (v_tintsA : (Nat → Int32)) (v_bufferA : (Nat → Int32)) (v_valuesA : (Nat → Int32)) (v_ranksA : (Nat → Int32)) (v_oldRanksA : (Nat → Int32)) (v_partA : (Nat → Int32)) (v_allRanksA : (Nat → Int32)) (v_basesA : (Nat → Int32)) (v_isMetA : (Nat → Int32)) (v_metXA : (Nat → Int32)) (v_metYA : (Nat → Int32)) (v_lineA : (Nat → Int32)) (o0 : Int32) (o1 : Int32) (o2 : Int32) (h : mX5_clearInput v_size = some (o0, o1, o2))  : Met l yX5_clearInput wsX5_clearInput rmX5_clearInput (va_Pc [.ref v_q0] (PreD G (wdX5 G v_q0 v_q1 v_q2 v_q3 v_q4 v_q5 v_q6 v_q7 v_q8 v_q9 v_q10 v_q11 v_q12 v_q13 v_q14 v_q15 v_q16 v_thrown v_gain v_size v_w v_s v_h v_laidArea v_parts v_isMinus v_readSpot v_isStar v_wantsNumber v_waiting v_shiftX v_shiftY v_times v_dotsLaid v_joinedLaid v_hash v_isThereA v_vA v_spotOfA v_inMiddleA v_tintsA v_bufferA v_valuesA v_ranksA v_oldRanksA v_partA v_allRanksA v_basesA v_isMetA v_metXA v_metYA v_lineA) (fun _ => True))) (QwA G (va_A0 (wdX5 G v_q0 v_q1 v_q2 v_q3 v_q4 v_q5 v_q6 v_q7 v_q8 v_q9 v_q10 v_q11 v_q12 v_q13 v_q14 v_q15 v_q16 v_thrown v_gain v_size v_w v_s v_h v_laidArea v_parts v_isMinus v_readSpot v_isStar v_wantsNumber v_waiting v_shiftX v_shiftY v_times v_dotsLaid v_joinedLaid v_hash v_isThereA v_vA v_spotOfA v_inMiddleA v_tintsA v_bufferA v_valuesA v_ranksA v_oldRanksA v_partA v_allRanksA v_basesA v_isMetA v_metXA v_metYA v_lineA)) (wdX5 G v_q0 v_q1 v_q2 v_q3 v_q4 v_q5 v_q6 v_q7 v_q8 v_q9 v_q10 v_q11 v_q12 v_q13 v_q14 v_q15 v_q16 o1 v_gain o2 v_w v_s v_h v_laidArea v_parts v_isMinus v_readSpot v_isStar v_wantsNumber v_waiting v_shiftX v_shiftY v_times v_dotsLaid v_joinedLaid v_hash v_isThereA v_vA v_spotOfA v_inMiddleA v_tintsA v_bufferA v_valuesA v_ranksA v_oldRanksA v_partA v_allRanksA v_basesA v_isMetA v_metXA v_metYA v_lineA) (some (.int o0)) True) 0 0 (va_A0 (wdX5 G v_q0 v_q1 v_q2 v_q3 v_q4 v_q5 v_q6 v_q7 v_q8 v_q9 v_q10 v_q11 v_q12 v_q13 v_q14 v_q15 v_q16 v_thrown v_gain v_size v_w v_s v_h v_laidArea v_parts v_isMinus v_readSpot v_isStar v_wantsNumber v_waiting v_shiftX v_shiftY v_times v_dotsLaid v_joinedLaid v_hash v_isThereA v_vA v_spotOfA v_inMiddleA v_tintsA v_bufferA v_valuesA v_ranksA v_oldRanksA v_partA v_allRanksA v_basesA v_isMetA v_metXA v_metYA v_lineA)) := by
  refine of_wi (cc := cX5_clearInput) (maxL := 2) (ty := .int) (plainFor_of_name (by decide)) rfl (Nat.le_of_ble_eq_true rfl) ?_
  intro p e s m args below meth c ls Q A S hl hP hD hS hK hX hA hret
  obtain ⟨H, hH⟩ : ∃ H, H = s.heap := ⟨_, rfl⟩
  obtain ⟨locs, hlocs⟩ : ∃ L : List Loc, L = [] := ⟨_, rfl⟩
  rw [← hlocs]
  rw [← hlocs] at hS
  have hP : va_P G.1 vwCl (wdX5 G v_q0 v_q1 v_q2 v_q3 v_q4 v_q5 v_q6 v_q7 v_q8 v_q9 v_q10 v_q11 v_q12 v_q13 v_q14 v_q15 v_q16 v_thrown v_gain v_size v_w v_s v_h v_laidArea v_parts v_isMinus v_readSpot v_isStar v_wantsNumber v_waiting v_shiftX v_shiftY v_times v_dotsLaid v_joinedLaid v_hash v_isThereA v_vA v_spotOfA v_inMiddleA v_tintsA v_bufferA v_valuesA v_ranksA v_oldRanksA v_partA v_allRanksA v_basesA v_isMetA v_metXA v_metYA v_lineA) H := by rw [hH]; exact hP
  have hS : va_S A s.heap H locs := by rw [hH]; exact hS
  suffices hgo : W p l e rmX5_clearInput s m args below meth c H locs 0 0 Q (F0 m 0 ls []) by rw [hH] at hgo; exact hgo
  have S : CallFix p m c cX5_clearInput 2 s args wsX5_clearInput RX5 := S
  obtain ⟨hx, hb, hml, hown, hts⟩ := id S
  have hl : lv_has ls 2 [(0, .ref v_q0)] := hl
  unfold mX5_clearInput at h
  refine lv_aload_n hx hb dX5_clearInput_0 rfl (lv_at hl 0 rfl) ?_
  refine lv_iconst (v := 0) hx hb dX5_clearInput_1 (by decide) ?_
  refine va_put (D := G.1) (ci := 5) (v := .int 0) (ty := .int) (C := RX5) (T := TX5) (N := 35) hx hb hts fw_X5_clearInput_X5 tyX5 tyX5_ok nmX5 hown hK.1 hP hD hS 0 rfl rfl 0 (by decide) (hts (.fieldLink RX5 59 "HalftoneScreensModel" "thrown" "I") lk_X5_clearInput_f59) (fun _ h9 => h9) rfl (tyX5_ok 0 (by decide)) rfl rfl (Nat.le_of_ble_eq_true rfl) dX5_clearInput_2 (fun H locs hP hD hS => ?_)
  have hP : va_P G.1 vwCl (wdX5 G v_q0 v_q1 v_q2 v_q3 v_q4 v_q5 v_q6 v_q7 v_q8 v_q9 v_q10 v_q11 v_q12 v_q13 v_q14 v_q15 v_q16 0 v_gain v_size v_w v_s v_h v_laidArea v_parts v_isMinus v_readSpot v_isStar v_wantsNumber v_waiting v_shiftX v_shiftY v_times v_dotsLaid v_joinedLaid v_hash v_isThereA v_vA v_spotOfA v_inMiddleA v_tintsA v_bufferA v_valuesA v_ranksA v_oldRanksA v_partA v_allRanksA v_basesA v_isMetA v_metXA v_metYA v_lineA) H := hP
  have hD : va_D A (wdX5 G v_q0 v_q1 v_q2 v_q3 v_q4 v_q5 v_q6 v_q7 v_q8 v_q9 v_q10 v_q11 v_q12 v_q13 v_q14 v_q15 v_q16 0 v_gain v_size v_w v_s v_h v_laidArea v_parts v_isMinus v_readSpot v_isStar v_wantsNumber v_waiting v_shiftX v_shiftY v_times v_dotsLaid v_joinedLaid v_hash v_isThereA v_vA v_spotOfA v_inMiddleA v_tintsA v_bufferA v_valuesA v_ranksA v_oldRanksA v_partA v_allRanksA v_basesA v_isMetA v_metXA v_metYA v_lineA) := hD
  refine lv_aload_n hx hb dX5_clearInput_5 rfl (lv_at hl 0 rfl) ?_
  refine va_get (D := G.1) (ci := 5) (v := .int v_size) (C := RX5) (T := TX5) (N := 35) hx hb hts fw_X5_clearInput_X5 hown hK.1 hP 0 rfl rfl 7 (by decide) (hts (.fieldLink RX5 123 "HalftoneScreensModel" "size" "I") lk_X5_clearInput_f123) (fun _ h9 => h9) rfl dX5_clearInput_6 ?_
  refine lv_istore_n (lv' := [(1, .int v_size), (0, .ref v_q0)]) hx hb dX5_clearInput_9 rfl hl (by decide) rfl (fun ls hl => ?_)
  refine lv_aload_n hx hb dX5_clearInput_10 rfl (lv_at hl 1 rfl) ?_
  refine lv_iconst (v := 0) hx hb dX5_clearInput_11 (by decide) ?_
  refine va_put (D := G.1) (ci := 5) (v := .int 0) (ty := .int) (C := RX5) (T := TX5) (N := 35) hx hb hts fw_X5_clearInput_X5 tyX5 tyX5_ok nmX5 hown hK.1 hP hD hS 0 rfl rfl 7 (by decide) (hts (.fieldLink RX5 123 "HalftoneScreensModel" "size" "I") lk_X5_clearInput_f123) (fun _ h9 => h9) rfl (tyX5_ok 7 (by decide)) rfl rfl (Nat.le_of_ble_eq_true rfl) dX5_clearInput_12 (fun H locs hP hD hS => ?_)
  have hP : va_P G.1 vwCl (wdX5 G v_q0 v_q1 v_q2 v_q3 v_q4 v_q5 v_q6 v_q7 v_q8 v_q9 v_q10 v_q11 v_q12 v_q13 v_q14 v_q15 v_q16 0 v_gain 0 v_w v_s v_h v_laidArea v_parts v_isMinus v_readSpot v_isStar v_wantsNumber v_waiting v_shiftX v_shiftY v_times v_dotsLaid v_joinedLaid v_hash v_isThereA v_vA v_spotOfA v_inMiddleA v_tintsA v_bufferA v_valuesA v_ranksA v_oldRanksA v_partA v_allRanksA v_basesA v_isMetA v_metXA v_metYA v_lineA) H := hP
  have hD : va_D A (wdX5 G v_q0 v_q1 v_q2 v_q3 v_q4 v_q5 v_q6 v_q7 v_q8 v_q9 v_q10 v_q11 v_q12 v_q13 v_q14 v_q15 v_q16 0 v_gain 0 v_w v_s v_h v_laidArea v_parts v_isMinus v_readSpot v_isStar v_wantsNumber v_waiting v_shiftX v_shiftY v_times v_dotsLaid v_joinedLaid v_hash v_isThereA v_vA v_spotOfA v_inMiddleA v_tintsA v_bufferA v_valuesA v_ranksA v_oldRanksA v_partA v_allRanksA v_basesA v_isMetA v_metXA v_metYA v_lineA) := hD
  refine lv_iload_n hx hb dX5_clearInput_15 rfl (lv_at hl 0 rfl) ?_
  obtain ⟨rfl, rfl, rfl⟩ := sm3 h
  exact hret _ _ _ _ _ rfl trivial rfl hP hD hS dX5_clearInput_16
theorem fw_X5_takesNumber_X5 : ∀ w ∈ wsX50, w ∈ wsX5_takesNumber := fun w h => List.mem_cons_of_mem _ (List.mem_append_right _ h)
theorem lk_X5_takesNumber_f126 : Cond.fieldLink RX5 126 "HalftoneScreensModel" "isMinus" "Z" ∈ wsX5_takesNumber := List.mem_of_getElem? (i := 1) rfl
theorem lk_X5_takesNumber_f38 : Cond.fieldLink RX5 38 "HalftoneScreensModel" "part" "[I" ∈ wsX5_takesNumber := List.mem_of_getElem? (i := 2) rfl
theorem lk_X5_takesNumber_f130 : Cond.fieldLink RX5 130 "HalftoneScreensModel" "parts" "I" ∈ wsX5_takesNumber := List.mem_of_getElem? (i := 3) rfl
theorem lk_X5_takesNumber_f133 : Cond.fieldLink RX5 133 "HalftoneScreensModel" "wantsNumber" "Z" ∈ wsX5_takesNumber := List.mem_of_getElem? (i := 4) rfl
abbrev rmX5_takesNumber : Room := { frames := 1, cells := 0, slots := 0, locals := 22 }
set_option maxHeartbeats 4000000 in
set_option maxRecDepth 100000 in
theorem ctX5_takesNumber (l : Launch) (G : GG) (v_q0 : Nat) (v_q1 : Nat) (v_q2 : Nat) (v_q3 : Nat) (v_q4 : Nat) (v_q5 : Nat) (v_q6 : Nat) (v_q7 : Nat) (v_q8 : Nat) (v_q9 : Nat) (v_q10 : Nat) (v_q11 : Nat) (v_q12 : Nat) (v_q13 : Nat) (v_q14 : Nat) (v_q15 : Nat) (v_q16 : Nat) (v_thrown : Int32) (v_gain : Int32) (v_size : Int32) (v_w : Int32) (v_s : Int32) (v_h : Int32) (v_laidArea : Int32) (v_parts : Int32) (v_isMinus : Int32) (v_readSpot : Int32) (v_isStar : Int32) (v_wantsNumber : Int32) (v_waiting : Int32) (v_shiftX : Int32) (v_shiftY : Int32) (v_times : Int32) (v_dotsLaid : Int32) (v_joinedLaid : Int32) (v_hash : Int64) (v_isThereA : (Nat → Int32)) (v_vA : (Nat → Int32)) (v_spotOfA : (Nat → Int32)) (v_inMiddleA : (Nat → Int32)) (v_tintsA : (Nat → Int32)) (v_bufferA : (Nat → Int32)) (v_valuesA : (Nat → Int32)) (v_ranksA : (Nat → Int32)) (v_oldRanksA : (Nat → Int32)) (v_partA : (Nat → Int32)) (v_allRanksA : (Nat → Int32)) (v_basesA : (Nat → Int32)) (v_isMetA : (Nat → Int32)) (v_metXA : (Nat → Int32)) (v_metYA : (Nat → Int32)) (v_lineA : (Nat → Int32)) (a0 : Int32) (o0 : Int32) (o1 : Int32) (o2 : Int32) (o3 : Int32) (o4 : (Nat → Int32)) (h : mX5_takesNumber v_parts v_isMinus v_wantsNumber v_partA a0 = some (o0, o1, o2, o3, o4))  : Met l yX5_takesNumber wsX5_takesNumber rmX5_takesNumber (va_Pc [.ref v_q0, .int a0] (PreD G (wdX5 G v_q0 v_q1 v_q2 v_q3 v_q4 v_q5 v_q6 v_q7 v_q8 v_q9 v_q10 v_q11 v_q12 v_q13 v_q14 v_q15 v_q16 v_thrown v_gain v_size v_w v_s v_h v_laidArea v_parts v_isMinus v_readSpot v_isStar v_wantsNumber v_waiting v_shiftX v_shiftY v_times v_dotsLaid v_joinedLaid v_hash v_isThereA v_vA v_spotOfA v_inMiddleA v_tintsA v_bufferA v_valuesA v_ranksA v_oldRanksA v_partA v_allRanksA v_basesA v_isMetA v_metXA v_metYA v_lineA) (fun _ => True))) (QwA G (va_A0 (wdX5 G v_q0 v_q1 v_q2 v_q3 v_q4 v_q5 v_q6 v_q7 v_q8 v_q9 v_q10 v_q11 v_q12 v_q13 v_q14 v_q15 v_q16 v_thrown v_gain v_size v_w v_s v_h v_laidArea v_parts v_isMinus v_readSpot v_isStar v_wantsNumber v_waiting v_shiftX v_shiftY v_times v_dotsLaid v_joinedLaid v_hash v_isThereA v_vA v_spotOfA v_inMiddleA v_tintsA v_bufferA v_valuesA v_ranksA v_oldRanksA v_partA v_allRanksA v_basesA v_isMetA v_metXA v_metYA v_lineA)) (wdX5 G v_q0 v_q1 v_q2 v_q3 v_q4 v_q5 v_q6 v_q7 v_q8 v_q9 v_q10 v_q11 v_q12 v_q13 v_q14 v_q15 v_q16 v_thrown v_gain v_size v_w v_s v_h v_laidArea o1 o2 v_readSpot v_isStar o3 v_waiting v_shiftX v_shiftY v_times v_dotsLaid v_joinedLaid v_hash v_isThereA v_vA v_spotOfA v_inMiddleA v_tintsA v_bufferA v_valuesA v_ranksA v_oldRanksA o4 v_allRanksA v_basesA v_isMetA v_metXA v_metYA v_lineA) (some (.int o0)) (isZ o0)) 0 0 (va_A0 (wdX5 G v_q0 v_q1 v_q2 v_q3 v_q4 v_q5 v_q6 v_q7 v_q8 v_q9 v_q10 v_q11 v_q12 v_q13 v_q14 v_q15 v_q16 v_thrown v_gain v_size v_w v_s v_h v_laidArea v_parts v_isMinus v_readSpot v_isStar v_wantsNumber v_waiting v_shiftX v_shiftY v_times v_dotsLaid v_joinedLaid v_hash v_isThereA v_vA v_spotOfA v_inMiddleA v_tintsA v_bufferA v_valuesA v_ranksA v_oldRanksA v_partA v_allRanksA v_basesA v_isMetA v_metXA v_metYA v_lineA)) := by
  refine of_wi (cc := cX5_takesNumber) (maxL := 3) (ty := .boolean) (plainFor_of_name (by decide)) rfl (Nat.le_of_ble_eq_true rfl) ?_
  intro p e s m args below meth c ls Q A S hl hP hD hS hK hX hA hret
  obtain ⟨H, hH⟩ : ∃ H, H = s.heap := ⟨_, rfl⟩
  obtain ⟨locs, hlocs⟩ : ∃ L : List Loc, L = [] := ⟨_, rfl⟩
  rw [← hlocs]
  rw [← hlocs] at hS
  have hP : va_P G.1 vwCl (wdX5 G v_q0 v_q1 v_q2 v_q3 v_q4 v_q5 v_q6 v_q7 v_q8 v_q9 v_q10 v_q11 v_q12 v_q13 v_q14 v_q15 v_q16 v_thrown v_gain v_size v_w v_s v_h v_laidArea v_parts v_isMinus v_readSpot v_isStar v_wantsNumber v_waiting v_shiftX v_shiftY v_times v_dotsLaid v_joinedLaid v_hash v_isThereA v_vA v_spotOfA v_inMiddleA v_tintsA v_bufferA v_valuesA v_ranksA v_oldRanksA v_partA v_allRanksA v_basesA v_isMetA v_metXA v_metYA v_lineA) H := by rw [hH]; exact hP
  have hS : va_S A s.heap H locs := by rw [hH]; exact hS
  suffices hgo : W p l e rmX5_takesNumber s m args below meth c H locs 0 0 Q (F0 m 0 ls []) by rw [hH] at hgo; exact hgo
  have S : CallFix p m c cX5_takesNumber 3 s args wsX5_takesNumber RX5 := S
  obtain ⟨hx, hb, hml, hown, hts⟩ := id S
  have hl : lv_has ls 3 [(0, .ref v_q0), (1, .int a0)] := hl
  unfold mX5_takesNumber at h
  refine lv_iload_n hx hb dX5_takesNumber_0 rfl (lv_at hl 1 rfl) ?_
  refine lv_bipush (v := 45) hx hb dX5_takesNumber_1 (by decide) ?_
  obtain ⟨K1, hK1, h⟩ := jB1_e h
  have J1 : ∀ (j1_u : Unit) (H : Heap) (locs : List Loc) (ls : Array Slot), K1 j1_u = some (o0, o1, o2, o3, o4) → lv_has ls 3 [(0, .ref v_q0), (1, .int a0)] → va_P G.1 vwCl (wdX5 G v_q0 v_q1 v_q2 v_q3 v_q4 v_q5 v_q6 v_q7 v_q8 v_q9 v_q10 v_q11 v_q12 v_q13 v_q14 v_q15 v_q16 v_thrown v_gain v_size v_w v_s v_h v_laidArea v_parts v_isMinus v_readSpot v_isStar v_wantsNumber v_waiting v_shiftX v_shiftY v_times v_dotsLaid v_joinedLaid v_hash v_isThereA v_vA v_spotOfA v_inMiddleA v_tintsA v_bufferA v_valuesA v_ranksA v_oldRanksA v_partA v_allRanksA v_basesA v_isMetA v_metXA v_metYA v_lineA) H → va_D A (wdX5 G v_q0 v_q1 v_q2 v_q3 v_q4 v_q5 v_q6 v_q7 v_q8 v_q9 v_q10 v_q11 v_q12 v_q13 v_q14 v_q15 v_q16 v_thrown v_gain v_size v_w v_s v_h v_laidArea v_parts v_isMinus v_readSpot v_isStar v_wantsNumber v_waiting v_shiftX v_shiftY v_times v_dotsLaid v_joinedLaid v_hash v_isThereA v_vA v_spotOfA v_inMiddleA v_tintsA v_bufferA v_valuesA v_ranksA v_oldRanksA v_partA v_allRanksA v_basesA v_isMetA v_metXA v_metYA v_lineA) → va_S A s.heap H locs → W p l e rmX5_takesNumber s m args below meth c H locs 0 0 Q (F0 m 20 ls []) := by
    intro j1_u H locs ls h hl hP hD hS
    replace h := (hK1 j1_u).symm.trans h
    refine lv_iload_n hx hb dX5_takesNumber_20 rfl (lv_at hl 1 rfl) ?_
    refine lv_bipush (v := 48) hx hb dX5_takesNumber_21 (by decide) ?_
    refine lv_bipush (v := 56) hx hb dX5_takesNumber_23 (by decide) ?_
    obtain ⟨r4_0, g4, h⟩ := bnd1_e h
    refine roSi1 (rest := []) (As := [.int a0, .int 48, .int 56]) S (ctX5_within l G a0 48 56 r4_0 g4) (va_cwS 3 hts gX5_takesNumber_X5_within rfl rfl rfl hsX5_within ⟨Nat.le_of_ble_eq_true rfl, Nat.le_of_ble_eq_true rfl⟩) hK hP [] rfl rfl hl.1 rfl (Nat.le_of_ble_eq_true rfl) dX5_takesNumber_25 ⟨Nat.le_refl _, Nat.le_refl _⟩ (fun hz4 => ?_)
    refine lv_istore_n (lv' := [(2, .int r4_0), (0, .ref v_q0), (1, .int a0)]) hx hb dX5_takesNumber_28 rfl hl (by decide) rfl (fun ls hl => ?_)
    refine lv_iload_n hx hb dX5_takesNumber_29 rfl (lv_at hl 0 rfl) ?_
    refine lv_if_eq (tgt := 80) hx hb dX5_takesNumber_30 (by decide) (fun c5 => ?_) (fun c5 => ?_)
    · replace h := ite_t c5 h
      refine lv_iload_n hx hb dX5_takesNumber_80 rfl (lv_at hl 0 rfl) ?_
      obtain ⟨rfl, rfl, rfl, rfl, rfl⟩ := sm5 h
      exact hret _ _ _ _ _ rfl hz4 (isZ.nar hz4) hP hD hS dX5_takesNumber_81
    · replace h := ite_f c5 h
      refine lv_aload_n hx hb dX5_takesNumber_33 rfl (lv_at hl 1 rfl) ?_
      refine va_get (D := G.1) (ci := 5) (v := .ref v_q10) (C := RX5) (T := TX5) (N := 35) hx hb hts fw_X5_takesNumber_X5 hown hK.1 hP 0 rfl rfl 17 (by decide) (hts (.fieldLink RX5 38 "HalftoneScreensModel" "part" "[I") lk_X5_takesNumber_f38) (fun _ h9 => h9) rfl dX5_takesNumber_34 ?_
      refine lv_aload_n hx hb dX5_takesNumber_37 rfl (lv_at hl 1 rfl) ?_
      refine va_get (D := G.1) (ci := 5) (v := .int v_parts) (C := RX5) (T := TX5) (N := 35) hx hb hts fw_X5_takesNumber_X5 hown hK.1 hP 0 rfl rfl 16 (by decide) (hts (.fieldLink RX5 130 "HalftoneScreensModel" "parts" "I") lk_X5_takesNumber_f130) (fun _ h9 => h9) rfl dX5_takesNumber_38 ?_
      refine lv_aload_n hx hb dX5_takesNumber_41 rfl (lv_at hl 1 rfl) ?_
      refine va_get (D := G.1) (ci := 5) (v := .int v_isMinus) (C := RX5) (T := TX5) (N := 35) hx hb hts fw_X5_takesNumber_X5 hown hK.1 hP 0 rfl rfl 18 (by decide) (hts (.fieldLink RX5 126 "HalftoneScreensModel" "isMinus" "Z") lk_X5_takesNumber_f126) (fun _ h9 => h9) rfl dX5_takesNumber_42 ?_
      obtain ⟨K6, hK6, h⟩ := jB1_e h
      have J6 : ∀ (j6_0 : Int32) (H : Heap) (locs : List Loc) (ls : Array Slot), K6 j6_0 = some (o0, o1, o2, o3, o4) → lv_has ls 3 [(2, .int r4_0), (0, .ref v_q0), (1, .int a0)] → va_P G.1 vwCl (wdX5 G v_q0 v_q1 v_q2 v_q3 v_q4 v_q5 v_q6 v_q7 v_q8 v_q9 v_q10 v_q11 v_q12 v_q13 v_q14 v_q15 v_q16 v_thrown v_gain v_size v_w v_s v_h v_laidArea v_parts v_isMinus v_readSpot v_isStar v_wantsNumber v_waiting v_shiftX v_shiftY v_times v_dotsLaid v_joinedLaid v_hash v_isThereA v_vA v_spotOfA v_inMiddleA v_tintsA v_bufferA v_valuesA v_ranksA v_oldRanksA v_partA v_allRanksA v_basesA v_isMetA v_metXA v_metYA v_lineA) H → va_D A (wdX5 G v_q0 v_q1 v_q2 v_q3 v_q4 v_q5 v_q6 v_q7 v_q8 v_q9 v_q10 v_q11 v_q12 v_q13 v_q14 v_q15 v_q16 v_thrown v_gain v_size v_w v_s v_h v_laidArea v_parts v_isMinus v_readSpot v_isStar v_wantsNumber v_waiting v_shiftX v_shiftY v_times v_dotsLaid v_joinedLaid v_hash v_isThereA v_vA v_spotOfA v_inMiddleA v_tintsA v_bufferA v_valuesA v_ranksA v_oldRanksA v_partA v_allRanksA v_basesA v_isMetA v_metXA v_metYA v_lineA) → va_S A s.heap H locs → W p l e rmX5_takesNumber s m args below meth c H locs 0 0 Q (F0 m 59 ls [.int j6_0, .int v_parts, .ref v_q10]) := by
        intro j6_0 H locs ls h hl hP hD hS
        replace h := (hK6 j6_0).symm.trans h
        obtain ⟨i8, h⟩ := gd_e h
        refine va_iast hx hb hK.1 hP hD hS 10 0 rfl rfl i8 dX5_takesNumber_59 (fun H locs hP hD hS => ?_)
        have hP : va_P G.1 vwCl (wdX5 G v_q0 v_q1 v_q2 v_q3 v_q4 v_q5 v_q6 v_q7 v_q8 v_q9 v_q10 v_q11 v_q12 v_q13 v_q14 v_q15 v_q16 v_thrown v_gain v_size v_w v_s v_h v_laidArea v_parts v_isMinus v_readSpot v_isStar v_wantsNumber v_waiting v_shiftX v_shiftY v_times v_dotsLaid v_joinedLaid v_hash v_isThereA v_vA v_spotOfA v_inMiddleA v_tintsA v_bufferA v_valuesA v_ranksA v_oldRanksA (upd v_partA v_parts.toNatClampNeg j6_0) v_allRanksA v_basesA v_isMetA v_metXA v_metYA v_lineA) H := hP
        have hD : va_D A (wdX5 G v_q0 v_q1 v_q2 v_q3 v_q4 v_q5 v_q6 v_q7 v_q8 v_q9 v_q10 v_q11 v_q12 v_q13 v_q14 v_q15 v_q16 v_thrown v_gain v_size v_w v_s v_h v_laidArea v_parts v_isMinus v_readSpot v_isStar v_wantsNumber v_waiting v_shiftX v_shiftY v_times v_dotsLaid v_joinedLaid v_hash v_isThereA v_vA v_spotOfA v_inMiddleA v_tintsA v_bufferA v_valuesA v_ranksA v_oldRanksA (upd v_partA v_parts.toNatClampNeg j6_0) v_allRanksA v_basesA v_isMetA v_metXA v_metYA v_lineA) := hD
        refine lv_aload_n hx hb dX5_takesNumber_60 rfl (lv_at hl 1 rfl) ?_
        refine lv_dup hx hb dX5_takesNumber_61 rfl ?_
        refine va_get (D := G.1) (ci := 5) (v := .int v_parts) (C := RX5) (T := TX5) (N := 35) hx hb hts fw_X5_takesNumber_X5 hown hK.1 hP 0 rfl rfl 16 (by decide) (hts (.fieldLink RX5 130 "HalftoneScreensModel" "parts" "I") lk_X5_takesNumber_f130) (fun _ h9 => h9) rfl dX5_takesNumber_62 ?_
        refine lv_iconst (v := 1) hx hb dX5_takesNumber_65 (by decide) ?_
        refine lv_iadd hx hb dX5_takesNumber_66 ?_
        refine lv_topi (fun x9 e9 => ?_)
        replace h := nmB_e e9 h
        refine va_put (D := G.1) (ci := 5) (v := .int x9) (ty := .int) (C := RX5) (T := TX5) (N := 35) hx hb hts fw_X5_takesNumber_X5 tyX5 tyX5_ok nmX5 hown hK.1 hP hD hS 0 rfl rfl 16 (by decide) (hts (.fieldLink RX5 130 "HalftoneScreensModel" "parts" "I") lk_X5_takesNumber_f130) (fun _ h9 => h9) rfl (tyX5_ok 16 (by decide)) rfl rfl (Nat.le_of_ble_eq_true rfl) dX5_takesNumber_67 (fun H locs hP hD hS => ?_)
        have hP : va_P G.1 vwCl (wdX5 G v_q0 v_q1 v_q2 v_q3 v_q4 v_q5 v_q6 v_q7 v_q8 v_q9 v_q10 v_q11 v_q12 v_q13 v_q14 v_q15 v_q16 v_thrown v_gain v_size v_w v_s v_h v_laidArea x9 v_isMinus v_readSpot v_isStar v_wantsNumber v_waiting v_shiftX v_shiftY v_times v_dotsLaid v_joinedLaid v_hash v_isThereA v_vA v_spotOfA v_inMiddleA v_tintsA v_bufferA v_valuesA v_ranksA v_oldRanksA (upd v_partA v_parts.toNatClampNeg j6_0) v_allRanksA v_basesA v_isMetA v_metXA v_metYA v_lineA) H := hP
        have hD : va_D A (wdX5 G v_q0 v_q1 v_q2 v_q3 v_q4 v_q5 v_q6 v_q7 v_q8 v_q9 v_q10 v_q11 v_q12 v_q13 v_q14 v_q15 v_q16 v_thrown v_gain v_size v_w v_s v_h v_laidArea x9 v_isMinus v_readSpot v_isStar v_wantsNumber v_waiting v_shiftX v_shiftY v_times v_dotsLaid v_joinedLaid v_hash v_isThereA v_vA v_spotOfA v_inMiddleA v_tintsA v_bufferA v_valuesA v_ranksA v_oldRanksA (upd v_partA v_parts.toNatClampNeg j6_0) v_allRanksA v_basesA v_isMetA v_metXA v_metYA v_lineA) := hD
        refine lv_aload_n hx hb dX5_takesNumber_70 rfl (lv_at hl 1 rfl) ?_
        refine lv_iconst (v := 0) hx hb dX5_takesNumber_71 (by decide) ?_
        refine va_put (D := G.1) (ci := 5) (v := .int 0) (ty := .boolean) (C := RX5) (T := TX5) (N := 35) hx hb hts fw_X5_takesNumber_X5 tyX5 tyX5_ok nmX5 hown hK.1 hP hD hS 0 rfl rfl 18 (by decide) (hts (.fieldLink RX5 126 "HalftoneScreensModel" "isMinus" "Z") lk_X5_takesNumber_f126) (fun _ h9 => h9) rfl (tyX5_ok 18 (by decide)) (isZ.nar isZ0) (isZ.fit isZ0) (Nat.le_of_ble_eq_true rfl) dX5_takesNumber_72 (fun H locs hP hD hS => ?_)
        have hP : va_P G.1 vwCl (wdX5 G v_q0 v_q1 v_q2 v_q3 v_q4 v_q5 v_q6 v_q7 v_q8 v_q9 v_q10 v_q11 v_q12 v_q13 v_q14 v_q15 v_q16 v_thrown v_gain v_size v_w v_s v_h v_laidArea x9 0 v_readSpot v_isStar v_wantsNumber v_waiting v_shiftX v_shiftY v_times v_dotsLaid v_joinedLaid v_hash v_isThereA v_vA v_spotOfA v_inMiddleA v_tintsA v_bufferA v_valuesA v_ranksA v_oldRanksA (upd v_partA v_parts.toNatClampNeg j6_0) v_allRanksA v_basesA v_isMetA v_metXA v_metYA v_lineA) H := hP
        have hD : va_D A (wdX5 G v_q0 v_q1 v_q2 v_q3 v_q4 v_q5 v_q6 v_q7 v_q8 v_q9 v_q10 v_q11 v_q12 v_q13 v_q14 v_q15 v_q16 v_thrown v_gain v_size v_w v_s v_h v_laidArea x9 0 v_readSpot v_isStar v_wantsNumber v_waiting v_shiftX v_shiftY v_times v_dotsLaid v_joinedLaid v_hash v_isThereA v_vA v_spotOfA v_inMiddleA v_tintsA v_bufferA v_valuesA v_ranksA v_oldRanksA (upd v_partA v_parts.toNatClampNeg j6_0) v_allRanksA v_basesA v_isMetA v_metXA v_metYA v_lineA) := hD
        refine lv_aload_n hx hb dX5_takesNumber_75 rfl (lv_at hl 1 rfl) ?_
        refine lv_iconst (v := 0) hx hb dX5_takesNumber_76 (by decide) ?_
        refine va_put (D := G.1) (ci := 5) (v := .int 0) (ty := .boolean) (C := RX5) (T := TX5) (N := 35) hx hb hts fw_X5_takesNumber_X5 tyX5 tyX5_ok nmX5 hown hK.1 hP hD hS 0 rfl rfl 21 (by decide) (hts (.fieldLink RX5 133 "HalftoneScreensModel" "wantsNumber" "Z") lk_X5_takesNumber_f133) (fun _ h9 => h9) rfl (tyX5_ok 21 (by decide)) (isZ.nar isZ0) (isZ.fit isZ0) (Nat.le_of_ble_eq_true rfl) dX5_takesNumber_77 (fun H locs hP hD hS => ?_)
        have hP : va_P G.1 vwCl (wdX5 G v_q0 v_q1 v_q2 v_q3 v_q4 v_q5 v_q6 v_q7 v_q8 v_q9 v_q10 v_q11 v_q12 v_q13 v_q14 v_q15 v_q16 v_thrown v_gain v_size v_w v_s v_h v_laidArea x9 0 v_readSpot v_isStar 0 v_waiting v_shiftX v_shiftY v_times v_dotsLaid v_joinedLaid v_hash v_isThereA v_vA v_spotOfA v_inMiddleA v_tintsA v_bufferA v_valuesA v_ranksA v_oldRanksA (upd v_partA v_parts.toNatClampNeg j6_0) v_allRanksA v_basesA v_isMetA v_metXA v_metYA v_lineA) H := hP
        have hD : va_D A (wdX5 G v_q0 v_q1 v_q2 v_q3 v_q4 v_q5 v_q6 v_q7 v_q8 v_q9 v_q10 v_q11 v_q12 v_q13 v_q14 v_q15 v_q16 v_thrown v_gain v_size v_w v_s v_h v_laidArea x9 0 v_readSpot v_isStar 0 v_waiting v_shiftX v_shiftY v_times v_dotsLaid v_joinedLaid v_hash v_isThereA v_vA v_spotOfA v_inMiddleA v_tintsA v_bufferA v_valuesA v_ranksA v_oldRanksA (upd v_partA v_parts.toNatClampNeg j6_0) v_allRanksA v_basesA v_isMetA v_metXA v_metYA v_lineA) := hD
        refine lv_iload_n hx hb dX5_takesNumber_80 rfl (lv_at hl 0 rfl) ?_
        obtain ⟨rfl, rfl, rfl, rfl, rfl⟩ := sm5 h
        exact hret _ _ _ _ _ rfl hz4 (isZ.nar hz4) hP hD hS dX5_takesNumber_81
      refine lv_if_eq (tgt := 55) hx hb dX5_takesNumber_45 (by decide) (fun c7 => ?_) (fun c7 => ?_)
      · replace h := ite_t c7 h
        refine lv_iload_n hx hb dX5_takesNumber_55 rfl (lv_at hl 2 rfl) ?_
        refine lv_bipush (v := 48) hx hb dX5_takesNumber_56 (by decide) ?_
        refine lv_isub hx hb dX5_takesNumber_58 ?_
        exact J6 (a0 - 48) H locs ls h hl hP hD hS
      · replace h := ite_f c7 h
        refine lv_bipush (v := 48) hx hb dX5_takesNumber_48 (by decide) ?_
        refine lv_iload_n hx hb dX5_takesNumber_50 rfl (lv_at hl 2 rfl) ?_
        refine lv_isub hx hb dX5_takesNumber_51 ?_
        refine lv_goto (tgt := 59) hx hb dX5_takesNumber_52 (by decide) ?_
        exact J6 (48 - a0) H locs ls h hl hP hD hS
  refine lv_icmp_ne (tgt := 20) hx hb dX5_takesNumber_3 (by decide) (fun c2 => ?_) (fun c2 => ?_)
  · replace h := ite_f c2 h
    exact J1 () H locs ls h hl hP hD hS
  · replace h := ite_t c2 h
    refine lv_aload_n hx hb dX5_takesNumber_6 rfl (lv_at hl 0 rfl) ?_
    refine va_get (D := G.1) (ci := 5) (v := .int v_isMinus) (C := RX5) (T := TX5) (N := 35) hx hb hts fw_X5_takesNumber_X5 hown hK.1 hP 0 rfl rfl 18 (by decide) (hts (.fieldLink RX5 126 "HalftoneScreensModel" "isMinus" "Z") lk_X5_takesNumber_f126) (fun _ h9 => h9) rfl dX5_takesNumber_7 ?_
    refine lv_if_ne (tgt := 20) hx hb dX5_takesNumber_10 (by decide) (fun c3 => ?_) (fun c3 => ?_)
    · replace h := ite_f c3 h
      exact J1 () H locs ls h hl hP hD hS
    · replace h := ite_t c3 h
      refine lv_aload_n hx hb dX5_takesNumber_13 rfl (lv_at hl 0 rfl) ?_
      refine lv_iconst (v := 1) hx hb dX5_takesNumber_14 (by decide) ?_
      refine va_put (D := G.1) (ci := 5) (v := .int 1) (ty := .boolean) (C := RX5) (T := TX5) (N := 35) hx hb hts fw_X5_takesNumber_X5 tyX5 tyX5_ok nmX5 hown hK.1 hP hD hS 0 rfl rfl 18 (by decide) (hts (.fieldLink RX5 126 "HalftoneScreensModel" "isMinus" "Z") lk_X5_takesNumber_f126) (fun _ h9 => h9) rfl (tyX5_ok 18 (by decide)) (isZ.nar isZ1) (isZ.fit isZ1) (Nat.le_of_ble_eq_true rfl) dX5_takesNumber_15 (fun H locs hP hD hS => ?_)
      have hP : va_P G.1 vwCl (wdX5 G v_q0 v_q1 v_q2 v_q3 v_q4 v_q5 v_q6 v_q7 v_q8 v_q9 v_q10 v_q11 v_q12 v_q13 v_q14 v_q15 v_q16 v_thrown v_gain v_size v_w v_s v_h v_laidArea v_parts 1 v_readSpot v_isStar v_wantsNumber v_waiting v_shiftX v_shiftY v_times v_dotsLaid v_joinedLaid v_hash v_isThereA v_vA v_spotOfA v_inMiddleA v_tintsA v_bufferA v_valuesA v_ranksA v_oldRanksA v_partA v_allRanksA v_basesA v_isMetA v_metXA v_metYA v_lineA) H := hP
      have hD : va_D A (wdX5 G v_q0 v_q1 v_q2 v_q3 v_q4 v_q5 v_q6 v_q7 v_q8 v_q9 v_q10 v_q11 v_q12 v_q13 v_q14 v_q15 v_q16 v_thrown v_gain v_size v_w v_s v_h v_laidArea v_parts 1 v_readSpot v_isStar v_wantsNumber v_waiting v_shiftX v_shiftY v_times v_dotsLaid v_joinedLaid v_hash v_isThereA v_vA v_spotOfA v_inMiddleA v_tintsA v_bufferA v_valuesA v_ranksA v_oldRanksA v_partA v_allRanksA v_basesA v_isMetA v_metXA v_metYA v_lineA) := hD
      refine lv_iconst (v := 1) hx hb dX5_takesNumber_18 (by decide) ?_
      obtain ⟨rfl, rfl, rfl, rfl, rfl⟩ := sm5 h
      exact hret _ _ _ _ _ rfl isZ1 (isZ.nar isZ1) hP hD hS dX5_takesNumber_19
theorem fw_X5_takesBehind_X5 : ∀ w ∈ wsX50, w ∈ wsX5_takesBehind := fun w h => List.mem_cons_of_mem _ (List.mem_append_right _ h)
theorem lk_X5_takesBehind_f130 : Cond.fieldLink RX5 130 "HalftoneScreensModel" "parts" "I" ∈ wsX5_takesBehind := List.mem_of_getElem? (i := 1) rfl
theorem lk_X5_takesBehind_f136 : Cond.fieldLink RX5 136 "HalftoneScreensModel" "readSpot" "I" ∈ wsX5_takesBehind := List.mem_of_getElem? (i := 3) rfl
theorem lk_X5_takesBehind_f142 : Cond.fieldLink RX5 142 "HalftoneScreensModel" "isStar" "Z" ∈ wsX5_takesBehind := List.mem_of_getElem? (i := 4) rfl
theorem lk_X5_takesBehind_f133 : Cond.fieldLink RX5 133 "HalftoneScreensModel" "wantsNumber" "Z" ∈ wsX5_takesBehind := List.mem_of_getElem? (i := 2) rfl
theorem hsX5_spotBy : yX5_spotBy.cls ≠ "java/lang/invoke/MethodHandle" ∧ yX5_spotBy.cls ≠ "java/lang/invoke/VarHandle" ∧ (parseMethodDescriptor yX5_spotBy.desc).map (fun d => d.parameters.length) = some 1 := by decide +kernel
theorem hvX5_spotBy : yX5_spotBy.cls = RX5 ∧ yX5_spotBy.cls ≠ "java/lang/invoke/MethodHandle" ∧ yX5_spotBy.cls ≠ "java/lang/invoke/VarHandle" ∧ (parseMethodDescriptor yX5_spotBy.desc).map (fun d => d.parameters.length) = some 1 := ⟨rfl, hsX5_spotBy⟩
abbrev rmX5_takesBehind : Room := { frames := 1, cells := 0, slots := 0, locals := 20 }
set_option maxHeartbeats 4000000 in
set_option maxRecDepth 100000 in
theorem ctX5_takesBehind (l : Launch) (G : GG) (v_q0 : Nat) (v_q1 : Nat) (v_q2 : Nat) (v_q3 : Nat) (v_q4 : Nat) (v_q5 : Nat) (v_q6 : Nat) (v_q7 : Nat) (v_q8 : Nat) (v_q9 : Nat) (v_q10 : Nat) (v_q11 : Nat) (v_q12 : Nat) (v_q13 : Nat) (v_q14 : Nat) (v_q15 : Nat) (v_q16 : Nat) (v_thrown : Int32) (v_gain : Int32) (v_size : Int32) (v_w : Int32) (v_s : Int32) (v_h : Int32) (v_laidArea : Int32) (v_parts : Int32) (v_isMinus : Int32) (v_readSpot : Int32) (v_isStar : Int32) (v_wantsNumber : Int32) (v_waiting : Int32) (v_shiftX : Int32) (v_shiftY : Int32) (v_times : Int32) (v_dotsLaid : Int32) (v_joinedLaid : Int32) (v_hash : Int64) (v_isThereA : (Nat → Int32)) (v_vA : (Nat → Int32)) (v_spotOfA : (Nat → Int32)) (v_inMiddleA : (Nat → Int32)) (v_tintsA : (Nat → Int32)) (v_bufferA : (Nat → Int32)) (v_valuesA : (Nat → Int32)) (v_ranksA : (Nat → Int32)) (v_oldRanksA : (Nat → Int32)) (v_partA : (Nat → Int32)) (v_allRanksA : (Nat → Int32)) (v_basesA : (Nat → Int32)) (v_isMetA : (Nat → Int32)) (v_metXA : (Nat → Int32)) (v_metYA : (Nat → Int32)) (v_lineA : (Nat → Int32)) (a0 : Int32) (o0 : Int32) (o1 : Int32) (o2 : Int32) (o3 : Int32) (h : mX5_takesBehind v_parts v_readSpot v_isStar v_wantsNumber a0 = some (o0, o1, o2, o3))  : Met l yX5_takesBehind wsX5_takesBehind rmX5_takesBehind (va_Pc [.ref v_q0, .int a0] (PreD G (wdX5 G v_q0 v_q1 v_q2 v_q3 v_q4 v_q5 v_q6 v_q7 v_q8 v_q9 v_q10 v_q11 v_q12 v_q13 v_q14 v_q15 v_q16 v_thrown v_gain v_size v_w v_s v_h v_laidArea v_parts v_isMinus v_readSpot v_isStar v_wantsNumber v_waiting v_shiftX v_shiftY v_times v_dotsLaid v_joinedLaid v_hash v_isThereA v_vA v_spotOfA v_inMiddleA v_tintsA v_bufferA v_valuesA v_ranksA v_oldRanksA v_partA v_allRanksA v_basesA v_isMetA v_metXA v_metYA v_lineA) (fun _ => True))) (QwA G (va_A0 (wdX5 G v_q0 v_q1 v_q2 v_q3 v_q4 v_q5 v_q6 v_q7 v_q8 v_q9 v_q10 v_q11 v_q12 v_q13 v_q14 v_q15 v_q16 v_thrown v_gain v_size v_w v_s v_h v_laidArea v_parts v_isMinus v_readSpot v_isStar v_wantsNumber v_waiting v_shiftX v_shiftY v_times v_dotsLaid v_joinedLaid v_hash v_isThereA v_vA v_spotOfA v_inMiddleA v_tintsA v_bufferA v_valuesA v_ranksA v_oldRanksA v_partA v_allRanksA v_basesA v_isMetA v_metXA v_metYA v_lineA)) (wdX5 G v_q0 v_q1 v_q2 v_q3 v_q4 v_q5 v_q6 v_q7 v_q8 v_q9 v_q10 v_q11 v_q12 v_q13 v_q14 v_q15 v_q16 v_thrown v_gain v_size v_w v_s v_h v_laidArea v_parts v_isMinus o1 o2 o3 v_waiting v_shiftX v_shiftY v_times v_dotsLaid v_joinedLaid v_hash v_isThereA v_vA v_spotOfA v_inMiddleA v_tintsA v_bufferA v_valuesA v_ranksA v_oldRanksA v_partA v_allRanksA v_basesA v_isMetA v_metXA v_metYA v_lineA) (some (.int o0)) (isZ o0)) 0 0 (va_A0 (wdX5 G v_q0 v_q1 v_q2 v_q3 v_q4 v_q5 v_q6 v_q7 v_q8 v_q9 v_q10 v_q11 v_q12 v_q13 v_q14 v_q15 v_q16 v_thrown v_gain v_size v_w v_s v_h v_laidArea v_parts v_isMinus v_readSpot v_isStar v_wantsNumber v_waiting v_shiftX v_shiftY v_times v_dotsLaid v_joinedLaid v_hash v_isThereA v_vA v_spotOfA v_inMiddleA v_tintsA v_bufferA v_valuesA v_ranksA v_oldRanksA v_partA v_allRanksA v_basesA v_isMetA v_metXA v_metYA v_lineA)) := by
  refine of_wi (cc := cX5_takesBehind) (maxL := 3) (ty := .boolean) (plainFor_of_name (by decide)) rfl (Nat.le_of_ble_eq_true rfl) ?_
  intro p e s m args below meth c ls Q A S hl hP hD hS hK hX hA hret
  obtain ⟨H, hH⟩ : ∃ H, H = s.heap := ⟨_, rfl⟩
  obtain ⟨locs, hlocs⟩ : ∃ L : List Loc, L = [] := ⟨_, rfl⟩
  rw [← hlocs]
  rw [← hlocs] at hS
  have hP : va_P G.1 vwCl (wdX5 G v_q0 v_q1 v_q2 v_q3 v_q4 v_q5 v_q6 v_q7 v_q8 v_q9 v_q10 v_q11 v_q12 v_q13 v_q14 v_q15 v_q16 v_thrown v_gain v_size v_w v_s v_h v_laidArea v_parts v_isMinus v_readSpot v_isStar v_wantsNumber v_waiting v_shiftX v_shiftY v_times v_dotsLaid v_joinedLaid v_hash v_isThereA v_vA v_spotOfA v_inMiddleA v_tintsA v_bufferA v_valuesA v_ranksA v_oldRanksA v_partA v_allRanksA v_basesA v_isMetA v_metXA v_metYA v_lineA) H := by rw [hH]; exact hP
  have hS : va_S A s.heap H locs := by rw [hH]; exact hS
  suffices hgo : W p l e rmX5_takesBehind s m args below meth c H locs 0 0 Q (F0 m 0 ls []) by rw [hH] at hgo; exact hgo
  have S : CallFix p m c cX5_takesBehind 3 s args wsX5_takesBehind RX5 := S
  obtain ⟨hx, hb, hml, hown, hts⟩ := id S
  have hl : lv_has ls 3 [(0, .ref v_q0), (1, .int a0)] := hl
  unfold mX5_takesBehind at h
  refine lv_aload_n hx hb dX5_takesBehind_0 rfl (lv_at hl 0 rfl) ?_
  refine va_get (D := G.1) (ci := 5) (v := .int v_parts) (C := RX5) (T := TX5) (N := 35) hx hb hts fw_X5_takesBehind_X5 hown hK.1 hP 0 rfl rfl 16 (by decide) (hts (.fieldLink RX5 130 "HalftoneScreensModel" "parts" "I") lk_X5_takesBehind_f130) (fun _ h9 => h9) rfl dX5_takesBehind_1 ?_
  refine lv_iconst (v := 4) hx hb dX5_takesBehind_4 (by decide) ?_
  refine lv_icmp_ge (tgt := 41) hx hb dX5_takesBehind_5 (by decide) (fun c1 => ?_) (fun c1 => ?_)
  · replace h := ite_t c1 h
    refine lv_aload_n hx hb dX5_takesBehind_41 rfl (lv_at hl 0 rfl) ?_
    refine va_get (D := G.1) (ci := 5) (v := .int v_readSpot) (C := RX5) (T := TX5) (N := 35) hx hb hts fw_X5_takesBehind_X5 hown hK.1 hP 0 rfl rfl 19 (by decide) (hts (.fieldLink RX5 136 "HalftoneScreensModel" "readSpot" "I") lk_X5_takesBehind_f136) (fun _ h9 => h9) rfl dX5_takesBehind_42 ?_
    refine lv_iconst (v := (-1)) hx hb dX5_takesBehind_45 (by decide) ?_
    refine lv_icmp_ne (tgt := 71) hx hb dX5_takesBehind_46 (by decide) (fun c2 => ?_) (fun c2 => ?_)
    · replace h := ite_f c2 h
      refine lv_iload_n hx hb dX5_takesBehind_71 rfl (lv_at hl 1 rfl) ?_
      refine lv_bipush (v := 42) hx hb dX5_takesBehind_72 (by decide) ?_
      obtain ⟨K3, hK3, h⟩ := jB1_e h
      have J3 : ∀ (j3_0 : Int32) (jz3_0 : isZ j3_0) (H : Heap) (locs : List Loc) (ls : Array Slot), K3 j3_0 = some (o0, o1, o2, o3) → lv_has ls 3 [(0, .ref v_q0), (1, .int a0)] → va_P G.1 vwCl (wdX5 G v_q0 v_q1 v_q2 v_q3 v_q4 v_q5 v_q6 v_q7 v_q8 v_q9 v_q10 v_q11 v_q12 v_q13 v_q14 v_q15 v_q16 v_thrown v_gain v_size v_w v_s v_h v_laidArea v_parts v_isMinus v_readSpot v_isStar v_wantsNumber v_waiting v_shiftX v_shiftY v_times v_dotsLaid v_joinedLaid v_hash v_isThereA v_vA v_spotOfA v_inMiddleA v_tintsA v_bufferA v_valuesA v_ranksA v_oldRanksA v_partA v_allRanksA v_basesA v_isMetA v_metXA v_metYA v_lineA) H → va_D A (wdX5 G v_q0 v_q1 v_q2 v_q3 v_q4 v_q5 v_q6 v_q7 v_q8 v_q9 v_q10 v_q11 v_q12 v_q13 v_q14 v_q15 v_q16 v_thrown v_gain v_size v_w v_s v_h v_laidArea v_parts v_isMinus v_readSpot v_isStar v_wantsNumber v_waiting v_shiftX v_shiftY v_times v_dotsLaid v_joinedLaid v_hash v_isThereA v_vA v_spotOfA v_inMiddleA v_tintsA v_bufferA v_valuesA v_ranksA v_oldRanksA v_partA v_allRanksA v_basesA v_isMetA v_metXA v_metYA v_lineA) → va_S A s.heap H locs → W p l e rmX5_takesBehind s m args below meth c H locs 0 0 Q (F0 m 89 ls [.int j3_0]) := by
        intro j3_0 jz3_0 H locs ls h hl hP hD hS
        replace h := (hK3 j3_0).symm.trans h
        refine lv_istore_n (lv' := [(2, .int j3_0), (0, .ref v_q0), (1, .int a0)]) hx hb dX5_takesBehind_89 rfl hl (by decide) rfl (fun ls hl => ?_)
        refine lv_aload_n hx hb dX5_takesBehind_90 rfl (lv_at hl 1 rfl) ?_
        refine lv_aload_n hx hb dX5_takesBehind_91 rfl (lv_at hl 1 rfl) ?_
        refine va_get (D := G.1) (ci := 5) (v := .int v_isStar) (C := RX5) (T := TX5) (N := 35) hx hb hts fw_X5_takesBehind_X5 hown hK.1 hP 0 rfl rfl 20 (by decide) (hts (.fieldLink RX5 142 "HalftoneScreensModel" "isStar" "Z") lk_X5_takesBehind_f142) (fun _ h9 => h9) rfl dX5_takesBehind_92 ?_
        refine lv_if_ne (tgt := 102) hx hb dX5_takesBehind_95 (by decide) (fun c6 => ?_) (fun c6 => ?_)
        · replace h := ite_f c6 h
          refine lv_iconst (v := 1) hx hb dX5_takesBehind_102 (by decide) ?_
          refine lv_goto (tgt := 107) hx hb dX5_takesBehind_103 (by decide) ?_
          refine va_put (D := G.1) (ci := 5) (v := .int 1) (ty := .boolean) (C := RX5) (T := TX5) (N := 35) hx hb hts fw_X5_takesBehind_X5 tyX5 tyX5_ok nmX5 hown hK.1 hP hD hS 0 rfl rfl 20 (by decide) (hts (.fieldLink RX5 142 "HalftoneScreensModel" "isStar" "Z") lk_X5_takesBehind_f142) (fun _ h9 => h9) rfl (tyX5_ok 20 (by decide)) (isZ.nar isZ1) (isZ.fit isZ1) (Nat.le_of_ble_eq_true rfl) dX5_takesBehind_107 (fun H locs hP hD hS => ?_)
          have hP : va_P G.1 vwCl (wdX5 G v_q0 v_q1 v_q2 v_q3 v_q4 v_q5 v_q6 v_q7 v_q8 v_q9 v_q10 v_q11 v_q12 v_q13 v_q14 v_q15 v_q16 v_thrown v_gain v_size v_w v_s v_h v_laidArea v_parts v_isMinus v_readSpot 1 v_wantsNumber v_waiting v_shiftX v_shiftY v_times v_dotsLaid v_joinedLaid v_hash v_isThereA v_vA v_spotOfA v_inMiddleA v_tintsA v_bufferA v_valuesA v_ranksA v_oldRanksA v_partA v_allRanksA v_basesA v_isMetA v_metXA v_metYA v_lineA) H := hP
          have hD : va_D A (wdX5 G v_q0 v_q1 v_q2 v_q3 v_q4 v_q5 v_q6 v_q7 v_q8 v_q9 v_q10 v_q11 v_q12 v_q13 v_q14 v_q15 v_q16 v_thrown v_gain v_size v_w v_s v_h v_laidArea v_parts v_isMinus v_readSpot 1 v_wantsNumber v_waiting v_shiftX v_shiftY v_times v_dotsLaid v_joinedLaid v_hash v_isThereA v_vA v_spotOfA v_inMiddleA v_tintsA v_bufferA v_valuesA v_ranksA v_oldRanksA v_partA v_allRanksA v_basesA v_isMetA v_metXA v_metYA v_lineA) := hD
          refine lv_iload_n hx hb dX5_takesBehind_110 rfl (lv_at hl 0 rfl) ?_
          obtain ⟨rfl, rfl, rfl, rfl⟩ := sm4 h
          exact hret _ _ _ _ _ rfl jz3_0 (isZ.nar jz3_0) hP hD hS dX5_takesBehind_111
        · replace h := ite_t c6 h
          refine lv_iload_n hx hb dX5_takesBehind_98 rfl (lv_at hl 0 rfl) ?_
          refine lv_if_eq (tgt := 106) hx hb dX5_takesBehind_99 (by decide) (fun c7 => ?_) (fun c7 => ?_)
          · replace h := ite_t c7 h
            refine lv_iconst (v := 0) hx hb dX5_takesBehind_106 (by decide) ?_
            refine va_put (D := G.1) (ci := 5) (v := .int 0) (ty := .boolean) (C := RX5) (T := TX5) (N := 35) hx hb hts fw_X5_takesBehind_X5 tyX5 tyX5_ok nmX5 hown hK.1 hP hD hS 0 rfl rfl 20 (by decide) (hts (.fieldLink RX5 142 "HalftoneScreensModel" "isStar" "Z") lk_X5_takesBehind_f142) (fun _ h9 => h9) rfl (tyX5_ok 20 (by decide)) (isZ.nar isZ0) (isZ.fit isZ0) (Nat.le_of_ble_eq_true rfl) dX5_takesBehind_107 (fun H locs hP hD hS => ?_)
            have hP : va_P G.1 vwCl (wdX5 G v_q0 v_q1 v_q2 v_q3 v_q4 v_q5 v_q6 v_q7 v_q8 v_q9 v_q10 v_q11 v_q12 v_q13 v_q14 v_q15 v_q16 v_thrown v_gain v_size v_w v_s v_h v_laidArea v_parts v_isMinus v_readSpot 0 v_wantsNumber v_waiting v_shiftX v_shiftY v_times v_dotsLaid v_joinedLaid v_hash v_isThereA v_vA v_spotOfA v_inMiddleA v_tintsA v_bufferA v_valuesA v_ranksA v_oldRanksA v_partA v_allRanksA v_basesA v_isMetA v_metXA v_metYA v_lineA) H := hP
            have hD : va_D A (wdX5 G v_q0 v_q1 v_q2 v_q3 v_q4 v_q5 v_q6 v_q7 v_q8 v_q9 v_q10 v_q11 v_q12 v_q13 v_q14 v_q15 v_q16 v_thrown v_gain v_size v_w v_s v_h v_laidArea v_parts v_isMinus v_readSpot 0 v_wantsNumber v_waiting v_shiftX v_shiftY v_times v_dotsLaid v_joinedLaid v_hash v_isThereA v_vA v_spotOfA v_inMiddleA v_tintsA v_bufferA v_valuesA v_ranksA v_oldRanksA v_partA v_allRanksA v_basesA v_isMetA v_metXA v_metYA v_lineA) := hD
            refine lv_iload_n hx hb dX5_takesBehind_110 rfl (lv_at hl 0 rfl) ?_
            obtain ⟨rfl, rfl, rfl, rfl⟩ := sm4 h
            exact hret _ _ _ _ _ rfl jz3_0 (isZ.nar jz3_0) hP hD hS dX5_takesBehind_111
          · replace h := ite_f c7 h
            refine lv_iconst (v := 1) hx hb dX5_takesBehind_102 (by decide) ?_
            refine lv_goto (tgt := 107) hx hb dX5_takesBehind_103 (by decide) ?_
            refine va_put (D := G.1) (ci := 5) (v := .int 1) (ty := .boolean) (C := RX5) (T := TX5) (N := 35) hx hb hts fw_X5_takesBehind_X5 tyX5 tyX5_ok nmX5 hown hK.1 hP hD hS 0 rfl rfl 20 (by decide) (hts (.fieldLink RX5 142 "HalftoneScreensModel" "isStar" "Z") lk_X5_takesBehind_f142) (fun _ h9 => h9) rfl (tyX5_ok 20 (by decide)) (isZ.nar isZ1) (isZ.fit isZ1) (Nat.le_of_ble_eq_true rfl) dX5_takesBehind_107 (fun H locs hP hD hS => ?_)
            have hP : va_P G.1 vwCl (wdX5 G v_q0 v_q1 v_q2 v_q3 v_q4 v_q5 v_q6 v_q7 v_q8 v_q9 v_q10 v_q11 v_q12 v_q13 v_q14 v_q15 v_q16 v_thrown v_gain v_size v_w v_s v_h v_laidArea v_parts v_isMinus v_readSpot 1 v_wantsNumber v_waiting v_shiftX v_shiftY v_times v_dotsLaid v_joinedLaid v_hash v_isThereA v_vA v_spotOfA v_inMiddleA v_tintsA v_bufferA v_valuesA v_ranksA v_oldRanksA v_partA v_allRanksA v_basesA v_isMetA v_metXA v_metYA v_lineA) H := hP
            have hD : va_D A (wdX5 G v_q0 v_q1 v_q2 v_q3 v_q4 v_q5 v_q6 v_q7 v_q8 v_q9 v_q10 v_q11 v_q12 v_q13 v_q14 v_q15 v_q16 v_thrown v_gain v_size v_w v_s v_h v_laidArea v_parts v_isMinus v_readSpot 1 v_wantsNumber v_waiting v_shiftX v_shiftY v_times v_dotsLaid v_joinedLaid v_hash v_isThereA v_vA v_spotOfA v_inMiddleA v_tintsA v_bufferA v_valuesA v_ranksA v_oldRanksA v_partA v_allRanksA v_basesA v_isMetA v_metXA v_metYA v_lineA) := hD
            refine lv_iload_n hx hb dX5_takesBehind_110 rfl (lv_at hl 0 rfl) ?_
            obtain ⟨rfl, rfl, rfl, rfl⟩ := sm4 h
            exact hret _ _ _ _ _ rfl jz3_0 (isZ.nar jz3_0) hP hD hS dX5_takesBehind_111
      refine lv_icmp_ne (tgt := 88) hx hb dX5_takesBehind_74 (by decide) (fun c4 => ?_) (fun c4 => ?_)
      · replace h := ite_f c4 h
        refine lv_iconst (v := 0) hx hb dX5_takesBehind_88 (by decide) ?_
        exact J3 0 isZ0 H locs ls h hl hP hD hS
      · replace h := ite_t c4 h
        refine lv_aload_n hx hb dX5_takesBehind_77 rfl (lv_at hl 0 rfl) ?_
        refine va_get (D := G.1) (ci := 5) (v := .int v_isStar) (C := RX5) (T := TX5) (N := 35) hx hb hts fw_X5_takesBehind_X5 hown hK.1 hP 0 rfl rfl 20 (by decide) (hts (.fieldLink RX5 142 "HalftoneScreensModel" "isStar" "Z") lk_X5_takesBehind_f142) (fun _ h9 => h9) rfl dX5_takesBehind_78 ?_
        refine lv_if_ne (tgt := 88) hx hb dX5_takesBehind_81 (by decide) (fun c5 => ?_) (fun c5 => ?_)
        · replace h := ite_f c5 h
          refine lv_iconst (v := 0) hx hb dX5_takesBehind_88 (by decide) ?_
          exact J3 0 isZ0 H locs ls h hl hP hD hS
        · replace h := ite_t c5 h
          refine lv_iconst (v := 1) hx hb dX5_takesBehind_84 (by decide) ?_
          refine lv_goto (tgt := 89) hx hb dX5_takesBehind_85 (by decide) ?_
          exact J3 1 isZ1 H locs ls h hl hP hD hS
    · replace h := ite_t c2 h
      refine lv_aload_n hx hb dX5_takesBehind_49 rfl (lv_at hl 0 rfl) ?_
      refine lv_iload_n hx hb dX5_takesBehind_50 rfl (lv_at hl 1 rfl) ?_
      obtain ⟨r8_0, g8, h⟩ := bnd1_e h
      refine roSi1 (rest := [.ref v_q0]) (As := [.int a0]) S (ctX5_spotBy l G a0 r8_0 g8) (va_cwS 1 hts gX5_takesBehind_X5_spotBy rfl rfl rfl hsX5_spotBy ⟨Nat.le_of_ble_eq_true rfl, Nat.le_of_ble_eq_true rfl⟩) hK hP [] rfl rfl hl.1 rfl (Nat.le_of_ble_eq_true rfl) dX5_takesBehind_51 ⟨Nat.le_refl _, Nat.le_refl _⟩ (fun _ => ?_)
      refine va_put (D := G.1) (ci := 5) (v := .int r8_0) (ty := .int) (C := RX5) (T := TX5) (N := 35) hx hb hts fw_X5_takesBehind_X5 tyX5 tyX5_ok nmX5 hown hK.1 hP hD hS 0 rfl rfl 19 (by decide) (hts (.fieldLink RX5 136 "HalftoneScreensModel" "readSpot" "I") lk_X5_takesBehind_f136) (fun _ h9 => h9) rfl (tyX5_ok 19 (by decide)) rfl rfl (Nat.le_of_ble_eq_true rfl) dX5_takesBehind_54 (fun H locs hP hD hS => ?_)
      have hP : va_P G.1 vwCl (wdX5 G v_q0 v_q1 v_q2 v_q3 v_q4 v_q5 v_q6 v_q7 v_q8 v_q9 v_q10 v_q11 v_q12 v_q13 v_q14 v_q15 v_q16 v_thrown v_gain v_size v_w v_s v_h v_laidArea v_parts v_isMinus r8_0 v_isStar v_wantsNumber v_waiting v_shiftX v_shiftY v_times v_dotsLaid v_joinedLaid v_hash v_isThereA v_vA v_spotOfA v_inMiddleA v_tintsA v_bufferA v_valuesA v_ranksA v_oldRanksA v_partA v_allRanksA v_basesA v_isMetA v_metXA v_metYA v_lineA) H := hP
      have hD : va_D A (wdX5 G v_q0 v_q1 v_q2 v_q3 v_q4 v_q5 v_q6 v_q7 v_q8 v_q9 v_q10 v_q11 v_q12 v_q13 v_q14 v_q15 v_q16 v_thrown v_gain v_size v_w v_s v_h v_laidArea v_parts v_isMinus r8_0 v_isStar v_wantsNumber v_waiting v_shiftX v_shiftY v_times v_dotsLaid v_joinedLaid v_hash v_isThereA v_vA v_spotOfA v_inMiddleA v_tintsA v_bufferA v_valuesA v_ranksA v_oldRanksA v_partA v_allRanksA v_basesA v_isMetA v_metXA v_metYA v_lineA) := hD
      refine lv_aload_n hx hb dX5_takesBehind_57 rfl (lv_at hl 0 rfl) ?_
      refine va_get (D := G.1) (ci := 5) (v := .int r8_0) (C := RX5) (T := TX5) (N := 35) hx hb hts fw_X5_takesBehind_X5 hown hK.1 hP 0 rfl rfl 19 (by decide) (hts (.fieldLink RX5 136 "HalftoneScreensModel" "readSpot" "I") lk_X5_takesBehind_f136) (fun _ h9 => h9) rfl dX5_takesBehind_58 ?_
      refine lv_iconst (v := (-1)) hx hb dX5_takesBehind_61 (by decide) ?_
      refine lv_icmp_eq (tgt := 69) hx hb dX5_takesBehind_62 (by decide) (fun c9 => ?_) (fun c9 => ?_)
      · replace h := ite_t c9 h
        refine lv_iconst (v := 0) hx hb dX5_takesBehind_69 (by decide) ?_
        obtain ⟨rfl, rfl, rfl, rfl⟩ := sm4 h
        exact hret _ _ _ _ _ rfl isZ0 (isZ.nar isZ0) hP hD hS dX5_takesBehind_70
      · replace h := ite_f c9 h
        refine lv_iconst (v := 1) hx hb dX5_takesBehind_65 (by decide) ?_
        refine lv_goto (tgt := 70) hx hb dX5_takesBehind_66 (by decide) ?_
        obtain ⟨rfl, rfl, rfl, rfl⟩ := sm4 h
        exact hret _ _ _ _ _ rfl isZ1 (isZ.nar isZ1) hP hD hS dX5_takesBehind_70
  · replace h := ite_f c1 h
    refine lv_aload_n hx hb dX5_takesBehind_8 rfl (lv_at hl 0 rfl) ?_
    refine lv_iload_n hx hb dX5_takesBehind_9 rfl (lv_at hl 1 rfl) ?_
    refine lv_aload_n hx hb dX5_takesBehind_10 rfl (lv_at hl 0 rfl) ?_
    refine va_get (D := G.1) (ci := 5) (v := .int v_parts) (C := RX5) (T := TX5) (N := 35) hx hb hts fw_X5_takesBehind_X5 hown hK.1 hP 0 rfl rfl 16 (by decide) (hts (.fieldLink RX5 130 "HalftoneScreensModel" "parts" "I") lk_X5_takesBehind_f130) (fun _ h9 => h9) rfl dX5_takesBehind_11 ?_
    refine lv_iconst (v := 2) hx hb dX5_takesBehind_14 (by decide) ?_
    obtain ⟨K10, hK10, h⟩ := jB1_e h
    have J10 : ∀ (j10_0 : Int32) (H : Heap) (locs : List Loc) (ls : Array Slot), K10 j10_0 = some (o0, o1, o2, o3) → lv_has ls 3 [(0, .ref v_q0), (1, .int a0)] → va_P G.1 vwCl (wdX5 G v_q0 v_q1 v_q2 v_q3 v_q4 v_q5 v_q6 v_q7 v_q8 v_q9 v_q10 v_q11 v_q12 v_q13 v_q14 v_q15 v_q16 v_thrown v_gain v_size v_w v_s v_h v_laidArea v_parts v_isMinus v_readSpot v_isStar v_wantsNumber v_waiting v_shiftX v_shiftY v_times v_dotsLaid v_joinedLaid v_hash v_isThereA v_vA v_spotOfA v_inMiddleA v_tintsA v_bufferA v_valuesA v_ranksA v_oldRanksA v_partA v_allRanksA v_basesA v_isMetA v_metXA v_metYA v_lineA) H → va_D A (wdX5 G v_q0 v_q1 v_q2 v_q3 v_q4 v_q5 v_q6 v_q7 v_q8 v_q9 v_q10 v_q11 v_q12 v_q13 v_q14 v_q15 v_q16 v_thrown v_gain v_size v_w v_s v_h v_laidArea v_parts v_isMinus v_readSpot v_isStar v_wantsNumber v_waiting v_shiftX v_shiftY v_times v_dotsLaid v_joinedLaid v_hash v_isThereA v_vA v_spotOfA v_inMiddleA v_tintsA v_bufferA v_valuesA v_ranksA v_oldRanksA v_partA v_allRanksA v_basesA v_isMetA v_metXA v_metYA v_lineA) → va_S A s.heap H locs → W p l e rmX5_takesBehind s m args below meth c H locs 0 0 Q (F0 m 25 ls [.int j10_0, .int a0, .ref v_q0]) := by
      intro j10_0 H locs ls h hl hP hD hS
      replace h := (hK10 j10_0).symm.trans h
      refine lv_icmp_ne (tgt := 32) hx hb dX5_takesBehind_25 (by decide) (fun c12 => ?_) (fun c12 => ?_)
      · replace h := ite_f c12 h
        refine lv_iconst (v := 0) hx hb dX5_takesBehind_32 (by decide) ?_
        refine va_put (D := G.1) (ci := 5) (v := .int 0) (ty := .boolean) (C := RX5) (T := TX5) (N := 35) hx hb hts fw_X5_takesBehind_X5 tyX5 tyX5_ok nmX5 hown hK.1 hP hD hS 0 rfl rfl 21 (by decide) (hts (.fieldLink RX5 133 "HalftoneScreensModel" "wantsNumber" "Z") lk_X5_takesBehind_f133) (fun _ h9 => h9) rfl (tyX5_ok 21 (by decide)) (isZ.nar isZ0) (isZ.fit isZ0) (Nat.le_of_ble_eq_true rfl) dX5_takesBehind_33 (fun H locs hP hD hS => ?_)
        have hP : va_P G.1 vwCl (wdX5 G v_q0 v_q1 v_q2 v_q3 v_q4 v_q5 v_q6 v_q7 v_q8 v_q9 v_q10 v_q11 v_q12 v_q13 v_q14 v_q15 v_q16 v_thrown v_gain v_size v_w v_s v_h v_laidArea v_parts v_isMinus v_readSpot v_isStar 0 v_waiting v_shiftX v_shiftY v_times v_dotsLaid v_joinedLaid v_hash v_isThereA v_vA v_spotOfA v_inMiddleA v_tintsA v_bufferA v_valuesA v_ranksA v_oldRanksA v_partA v_allRanksA v_basesA v_isMetA v_metXA v_metYA v_lineA) H := hP
        have hD : va_D A (wdX5 G v_q0 v_q1 v_q2 v_q3 v_q4 v_q5 v_q6 v_q7 v_q8 v_q9 v_q10 v_q11 v_q12 v_q13 v_q14 v_q15 v_q16 v_thrown v_gain v_size v_w v_s v_h v_laidArea v_parts v_isMinus v_readSpot v_isStar 0 v_waiting v_shiftX v_shiftY v_times v_dotsLaid v_joinedLaid v_hash v_isThereA v_vA v_spotOfA v_inMiddleA v_tintsA v_bufferA v_valuesA v_ranksA v_oldRanksA v_partA v_allRanksA v_basesA v_isMetA v_metXA v_metYA v_lineA) := hD
        refine lv_aload_n hx hb dX5_takesBehind_36 rfl (lv_at hl 0 rfl) ?_
        refine va_get (D := G.1) (ci := 5) (v := .int 0) (C := RX5) (T := TX5) (N := 35) hx hb hts fw_X5_takesBehind_X5 hown hK.1 hP 0 rfl rfl 21 (by decide) (hts (.fieldLink RX5 133 "HalftoneScreensModel" "wantsNumber" "Z") lk_X5_takesBehind_f133) (fun _ h9 => h9) rfl dX5_takesBehind_37 ?_
        obtain ⟨rfl, rfl, rfl, rfl⟩ := sm4 h
        exact hret _ _ _ _ _ rfl isZ0 (isZ.nar isZ0) hP hD hS dX5_takesBehind_40
      · replace h := ite_t c12 h
        refine lv_iconst (v := 1) hx hb dX5_takesBehind_28 (by decide) ?_
        refine lv_goto (tgt := 33) hx hb dX5_takesBehind_29 (by decide) ?_
        refine va_put (D := G.1) (ci := 5) (v := .int 1) (ty := .boolean) (C := RX5) (T := TX5) (N := 35) hx hb hts fw_X5_takesBehind_X5 tyX5 tyX5_ok nmX5 hown hK.1 hP hD hS 0 rfl rfl 21 (by decide) (hts (.fieldLink RX5 133 "HalftoneScreensModel" "wantsNumber" "Z") lk_X5_takesBehind_f133) (fun _ h9 => h9) rfl (tyX5_ok 21 (by decide)) (isZ.nar isZ1) (isZ.fit isZ1) (Nat.le_of_ble_eq_true rfl) dX5_takesBehind_33 (fun H locs hP hD hS => ?_)
        have hP : va_P G.1 vwCl (wdX5 G v_q0 v_q1 v_q2 v_q3 v_q4 v_q5 v_q6 v_q7 v_q8 v_q9 v_q10 v_q11 v_q12 v_q13 v_q14 v_q15 v_q16 v_thrown v_gain v_size v_w v_s v_h v_laidArea v_parts v_isMinus v_readSpot v_isStar 1 v_waiting v_shiftX v_shiftY v_times v_dotsLaid v_joinedLaid v_hash v_isThereA v_vA v_spotOfA v_inMiddleA v_tintsA v_bufferA v_valuesA v_ranksA v_oldRanksA v_partA v_allRanksA v_basesA v_isMetA v_metXA v_metYA v_lineA) H := hP
        have hD : va_D A (wdX5 G v_q0 v_q1 v_q2 v_q3 v_q4 v_q5 v_q6 v_q7 v_q8 v_q9 v_q10 v_q11 v_q12 v_q13 v_q14 v_q15 v_q16 v_thrown v_gain v_size v_w v_s v_h v_laidArea v_parts v_isMinus v_readSpot v_isStar 1 v_waiting v_shiftX v_shiftY v_times v_dotsLaid v_joinedLaid v_hash v_isThereA v_vA v_spotOfA v_inMiddleA v_tintsA v_bufferA v_valuesA v_ranksA v_oldRanksA v_partA v_allRanksA v_basesA v_isMetA v_metXA v_metYA v_lineA) := hD
        refine lv_aload_n hx hb dX5_takesBehind_36 rfl (lv_at hl 0 rfl) ?_
        refine va_get (D := G.1) (ci := 5) (v := .int 1) (C := RX5) (T := TX5) (N := 35) hx hb hts fw_X5_takesBehind_X5 hown hK.1 hP 0 rfl rfl 21 (by decide) (hts (.fieldLink RX5 133 "HalftoneScreensModel" "wantsNumber" "Z") lk_X5_takesBehind_f133) (fun _ h9 => h9) rfl dX5_takesBehind_37 ?_
        obtain ⟨rfl, rfl, rfl, rfl⟩ := sm4 h
        exact hret _ _ _ _ _ rfl isZ1 (isZ.nar isZ1) hP hD hS dX5_takesBehind_40
    refine lv_icmp_ne (tgt := 23) hx hb dX5_takesBehind_15 (by decide) (fun c11 => ?_) (fun c11 => ?_)
    · replace h := ite_f c11 h
      refine lv_bipush (v := 44) hx hb dX5_takesBehind_23 (by decide) ?_
      exact J10 44 H locs ls h hl hP hD hS
    · replace h := ite_t c11 h
      refine lv_bipush (v := 59) hx hb dX5_takesBehind_18 (by decide) ?_
      refine lv_goto (tgt := 25) hx hb dX5_takesBehind_20 (by decide) ?_
      exact J10 59 H locs ls h hl hP hD hS
theorem fw_X5_rightLength_X5 : ∀ w ∈ wsX50, w ∈ wsX5_rightLength := fun w h => List.mem_cons_of_mem _ (List.mem_append_right _ h)
theorem lk_X5_rightLength_f130 : Cond.fieldLink RX5 130 "HalftoneScreensModel" "parts" "I" ∈ wsX5_rightLength := List.mem_of_getElem? (i := 1) rfl
theorem lk_X5_rightLength_f126 : Cond.fieldLink RX5 126 "HalftoneScreensModel" "isMinus" "Z" ∈ wsX5_rightLength := List.mem_of_getElem? (i := 2) rfl
theorem lk_X5_rightLength_f136 : Cond.fieldLink RX5 136 "HalftoneScreensModel" "readSpot" "I" ∈ wsX5_rightLength := List.mem_of_getElem? (i := 3) rfl
theorem lk_X5_rightLength_f142 : Cond.fieldLink RX5 142 "HalftoneScreensModel" "isStar" "Z" ∈ wsX5_rightLength := List.mem_of_getElem? (i := 4) rfl
theorem lk_X5_rightLength_f133 : Cond.fieldLink RX5 133 "HalftoneScreensModel" "wantsNumber" "Z" ∈ wsX5_rightLength := List.mem_of_getElem? (i := 5) rfl
theorem lk_X5_rightLength_f123 : Cond.fieldLink RX5 123 "HalftoneScreensModel" "size" "I" ∈ wsX5_rightLength := List.mem_of_getElem? (i := 6) rfl
theorem lk_X5_rightLength_f26 : Cond.fieldLink RX5 26 "HalftoneScreensModel" "buffer" "[I" ∈ wsX5_rightLength := List.mem_of_getElem? (i := 7) rfl
theorem hsX5_takesBehind : yX5_takesBehind.cls ≠ "java/lang/invoke/MethodHandle" ∧ yX5_takesBehind.cls ≠ "java/lang/invoke/VarHandle" ∧ (parseMethodDescriptor yX5_takesBehind.desc).map (fun d => d.parameters.length) = some 1 := by decide +kernel
theorem hvX5_takesBehind : yX5_takesBehind.cls = RX5 ∧ yX5_takesBehind.cls ≠ "java/lang/invoke/MethodHandle" ∧ yX5_takesBehind.cls ≠ "java/lang/invoke/VarHandle" ∧ (parseMethodDescriptor yX5_takesBehind.desc).map (fun d => d.parameters.length) = some 1 := ⟨rfl, hsX5_takesBehind⟩
theorem hsX5_takesNumber : yX5_takesNumber.cls ≠ "java/lang/invoke/MethodHandle" ∧ yX5_takesNumber.cls ≠ "java/lang/invoke/VarHandle" ∧ (parseMethodDescriptor yX5_takesNumber.desc).map (fun d => d.parameters.length) = some 1 := by decide +kernel
theorem hvX5_takesNumber : yX5_takesNumber.cls = RX5 ∧ yX5_takesNumber.cls ≠ "java/lang/invoke/MethodHandle" ∧ yX5_takesNumber.cls ≠ "java/lang/invoke/VarHandle" ∧ (parseMethodDescriptor yX5_takesNumber.desc).map (fun d => d.parameters.length) = some 1 := ⟨rfl, hsX5_takesNumber⟩
abbrev rmX5_rightLength : Room := { frames := 2, cells := 0, slots := 0, locals := 44 }
set_option maxHeartbeats 4000000 in
set_option maxRecDepth 100000 in
theorem ctX5_rightLength (l : Launch) (G : GG) (v_q0 : Nat) (v_q1 : Nat) (v_q2 : Nat) (v_q3 : Nat) (v_q4 : Nat) (v_q5 : Nat) (v_q6 : Nat) (v_q7 : Nat) (v_q8 : Nat) (v_q9 : Nat) (v_q10 : Nat) (v_q11 : Nat) (v_q12 : Nat) (v_q13 : Nat) (v_q14 : Nat) (v_q15 : Nat) (v_q16 : Nat) (v_thrown : Int32) (v_gain : Int32) (v_size : Int32) (v_w : Int32) (v_s : Int32) (v_h : Int32) (v_laidArea : Int32) (v_parts : Int32) (v_isMinus : Int32) (v_readSpot : Int32) (v_isStar : Int32) (v_wantsNumber : Int32) (v_waiting : Int32) (v_shiftX : Int32) (v_shiftY : Int32) (v_times : Int32) (v_dotsLaid : Int32) (v_joinedLaid : Int32) (v_hash : Int64) (v_isThereA : (Nat → Int32)) (v_vA : (Nat → Int32)) (v_spotOfA : (Nat → Int32)) (v_inMiddleA : (Nat → Int32)) (v_tintsA : (Nat → Int32)) (v_bufferA : (Nat → Int32)) (v_valuesA : (Nat → Int32)) (v_ranksA : (Nat → Int32)) (v_oldRanksA : (Nat → Int32)) (v_partA : (Nat → Int32)) (v_allRanksA : (Nat → Int32)) (v_basesA : (Nat → Int32)) (v_isMetA : (Nat → Int32)) (v_metXA : (Nat → Int32)) (v_metYA : (Nat → Int32)) (v_lineA : (Nat → Int32)) (o0 : Int32) (o1 : Int32) (o2 : Int32) (o3 : Int32) (o4 : Int32) (o5 : Int32) (o6 : (Nat → Int32)) (h : mX5_rightLength v_size v_bufferA v_partA = some (o0, o1, o2, o3, o4, o5, o6))  : Met l yX5_rightLength wsX5_rightLength rmX5_rightLength (va_Pc [.ref v_q0] (PreD G (wdX5 G v_q0 v_q1 v_q2 v_q3 v_q4 v_q5 v_q6 v_q7 v_q8 v_q9 v_q10 v_q11 v_q12 v_q13 v_q14 v_q15 v_q16 v_thrown v_gain v_size v_w v_s v_h v_laidArea v_parts v_isMinus v_readSpot v_isStar v_wantsNumber v_waiting v_shiftX v_shiftY v_times v_dotsLaid v_joinedLaid v_hash v_isThereA v_vA v_spotOfA v_inMiddleA v_tintsA v_bufferA v_valuesA v_ranksA v_oldRanksA v_partA v_allRanksA v_basesA v_isMetA v_metXA v_metYA v_lineA) (fun _ => True))) (QwA G (va_A0 (wdX5 G v_q0 v_q1 v_q2 v_q3 v_q4 v_q5 v_q6 v_q7 v_q8 v_q9 v_q10 v_q11 v_q12 v_q13 v_q14 v_q15 v_q16 v_thrown v_gain v_size v_w v_s v_h v_laidArea v_parts v_isMinus v_readSpot v_isStar v_wantsNumber v_waiting v_shiftX v_shiftY v_times v_dotsLaid v_joinedLaid v_hash v_isThereA v_vA v_spotOfA v_inMiddleA v_tintsA v_bufferA v_valuesA v_ranksA v_oldRanksA v_partA v_allRanksA v_basesA v_isMetA v_metXA v_metYA v_lineA)) (wdX5 G v_q0 v_q1 v_q2 v_q3 v_q4 v_q5 v_q6 v_q7 v_q8 v_q9 v_q10 v_q11 v_q12 v_q13 v_q14 v_q15 v_q16 v_thrown v_gain v_size v_w v_s v_h v_laidArea o1 o2 o3 o4 o5 v_waiting v_shiftX v_shiftY v_times v_dotsLaid v_joinedLaid v_hash v_isThereA v_vA v_spotOfA v_inMiddleA v_tintsA v_bufferA v_valuesA v_ranksA v_oldRanksA o6 v_allRanksA v_basesA v_isMetA v_metXA v_metYA v_lineA) (some (.int o0)) True) 0 0 (va_A0 (wdX5 G v_q0 v_q1 v_q2 v_q3 v_q4 v_q5 v_q6 v_q7 v_q8 v_q9 v_q10 v_q11 v_q12 v_q13 v_q14 v_q15 v_q16 v_thrown v_gain v_size v_w v_s v_h v_laidArea v_parts v_isMinus v_readSpot v_isStar v_wantsNumber v_waiting v_shiftX v_shiftY v_times v_dotsLaid v_joinedLaid v_hash v_isThereA v_vA v_spotOfA v_inMiddleA v_tintsA v_bufferA v_valuesA v_ranksA v_oldRanksA v_partA v_allRanksA v_basesA v_isMetA v_metXA v_metYA v_lineA)) := by
  refine of_wi (cc := cX5_rightLength) (maxL := 2) (ty := .int) (plainFor_of_name (by decide)) rfl (Nat.le_of_ble_eq_true rfl) ?_
  intro p e s m args below meth c ls Q A S hl hP hD hS hK hX hA hret
  obtain ⟨H, hH⟩ : ∃ H, H = s.heap := ⟨_, rfl⟩
  obtain ⟨locs, hlocs⟩ : ∃ L : List Loc, L = [] := ⟨_, rfl⟩
  rw [← hlocs]
  rw [← hlocs] at hS
  have hP : va_P G.1 vwCl (wdX5 G v_q0 v_q1 v_q2 v_q3 v_q4 v_q5 v_q6 v_q7 v_q8 v_q9 v_q10 v_q11 v_q12 v_q13 v_q14 v_q15 v_q16 v_thrown v_gain v_size v_w v_s v_h v_laidArea v_parts v_isMinus v_readSpot v_isStar v_wantsNumber v_waiting v_shiftX v_shiftY v_times v_dotsLaid v_joinedLaid v_hash v_isThereA v_vA v_spotOfA v_inMiddleA v_tintsA v_bufferA v_valuesA v_ranksA v_oldRanksA v_partA v_allRanksA v_basesA v_isMetA v_metXA v_metYA v_lineA) H := by rw [hH]; exact hP
  have hS : va_S A s.heap H locs := by rw [hH]; exact hS
  suffices hgo : W p l e rmX5_rightLength s m args below meth c H locs 0 0 Q (F0 m 0 ls []) by rw [hH] at hgo; exact hgo
  have S : CallFix p m c cX5_rightLength 2 s args wsX5_rightLength RX5 := S
  obtain ⟨hx, hb, hml, hown, hts⟩ := id S
  have hl : lv_has ls 2 [(0, .ref v_q0)] := hl
  unfold mX5_rightLength at h
  refine lv_aload_n hx hb dX5_rightLength_0 rfl (lv_at hl 0 rfl) ?_
  refine lv_iconst (v := 0) hx hb dX5_rightLength_1 (by decide) ?_
  refine va_put (D := G.1) (ci := 5) (v := .int 0) (ty := .int) (C := RX5) (T := TX5) (N := 35) hx hb hts fw_X5_rightLength_X5 tyX5 tyX5_ok nmX5 hown hK.1 hP hD hS 0 rfl rfl 16 (by decide) (hts (.fieldLink RX5 130 "HalftoneScreensModel" "parts" "I") lk_X5_rightLength_f130) (fun _ h9 => h9) rfl (tyX5_ok 16 (by decide)) rfl rfl (Nat.le_of_ble_eq_true rfl) dX5_rightLength_2 (fun H locs hP hD hS => ?_)
  have hP : va_P G.1 vwCl (wdX5 G v_q0 v_q1 v_q2 v_q3 v_q4 v_q5 v_q6 v_q7 v_q8 v_q9 v_q10 v_q11 v_q12 v_q13 v_q14 v_q15 v_q16 v_thrown v_gain v_size v_w v_s v_h v_laidArea 0 v_isMinus v_readSpot v_isStar v_wantsNumber v_waiting v_shiftX v_shiftY v_times v_dotsLaid v_joinedLaid v_hash v_isThereA v_vA v_spotOfA v_inMiddleA v_tintsA v_bufferA v_valuesA v_ranksA v_oldRanksA v_partA v_allRanksA v_basesA v_isMetA v_metXA v_metYA v_lineA) H := hP
  have hD : va_D A (wdX5 G v_q0 v_q1 v_q2 v_q3 v_q4 v_q5 v_q6 v_q7 v_q8 v_q9 v_q10 v_q11 v_q12 v_q13 v_q14 v_q15 v_q16 v_thrown v_gain v_size v_w v_s v_h v_laidArea 0 v_isMinus v_readSpot v_isStar v_wantsNumber v_waiting v_shiftX v_shiftY v_times v_dotsLaid v_joinedLaid v_hash v_isThereA v_vA v_spotOfA v_inMiddleA v_tintsA v_bufferA v_valuesA v_ranksA v_oldRanksA v_partA v_allRanksA v_basesA v_isMetA v_metXA v_metYA v_lineA) := hD
  refine lv_aload_n hx hb dX5_rightLength_5 rfl (lv_at hl 0 rfl) ?_
  refine lv_iconst (v := 0) hx hb dX5_rightLength_6 (by decide) ?_
  refine va_put (D := G.1) (ci := 5) (v := .int 0) (ty := .boolean) (C := RX5) (T := TX5) (N := 35) hx hb hts fw_X5_rightLength_X5 tyX5 tyX5_ok nmX5 hown hK.1 hP hD hS 0 rfl rfl 18 (by decide) (hts (.fieldLink RX5 126 "HalftoneScreensModel" "isMinus" "Z") lk_X5_rightLength_f126) (fun _ h9 => h9) rfl (tyX5_ok 18 (by decide)) (isZ.nar isZ0) (isZ.fit isZ0) (Nat.le_of_ble_eq_true rfl) dX5_rightLength_7 (fun H locs hP hD hS => ?_)
  have hP : va_P G.1 vwCl (wdX5 G v_q0 v_q1 v_q2 v_q3 v_q4 v_q5 v_q6 v_q7 v_q8 v_q9 v_q10 v_q11 v_q12 v_q13 v_q14 v_q15 v_q16 v_thrown v_gain v_size v_w v_s v_h v_laidArea 0 0 v_readSpot v_isStar v_wantsNumber v_waiting v_shiftX v_shiftY v_times v_dotsLaid v_joinedLaid v_hash v_isThereA v_vA v_spotOfA v_inMiddleA v_tintsA v_bufferA v_valuesA v_ranksA v_oldRanksA v_partA v_allRanksA v_basesA v_isMetA v_metXA v_metYA v_lineA) H := hP
  have hD : va_D A (wdX5 G v_q0 v_q1 v_q2 v_q3 v_q4 v_q5 v_q6 v_q7 v_q8 v_q9 v_q10 v_q11 v_q12 v_q13 v_q14 v_q15 v_q16 v_thrown v_gain v_size v_w v_s v_h v_laidArea 0 0 v_readSpot v_isStar v_wantsNumber v_waiting v_shiftX v_shiftY v_times v_dotsLaid v_joinedLaid v_hash v_isThereA v_vA v_spotOfA v_inMiddleA v_tintsA v_bufferA v_valuesA v_ranksA v_oldRanksA v_partA v_allRanksA v_basesA v_isMetA v_metXA v_metYA v_lineA) := hD
  refine lv_aload_n hx hb dX5_rightLength_10 rfl (lv_at hl 0 rfl) ?_
  refine lv_iconst (v := (-1)) hx hb dX5_rightLength_11 (by decide) ?_
  refine va_put (D := G.1) (ci := 5) (v := .int (-1)) (ty := .int) (C := RX5) (T := TX5) (N := 35) hx hb hts fw_X5_rightLength_X5 tyX5 tyX5_ok nmX5 hown hK.1 hP hD hS 0 rfl rfl 19 (by decide) (hts (.fieldLink RX5 136 "HalftoneScreensModel" "readSpot" "I") lk_X5_rightLength_f136) (fun _ h9 => h9) rfl (tyX5_ok 19 (by decide)) rfl rfl (Nat.le_of_ble_eq_true rfl) dX5_rightLength_12 (fun H locs hP hD hS => ?_)
  have hP : va_P G.1 vwCl (wdX5 G v_q0 v_q1 v_q2 v_q3 v_q4 v_q5 v_q6 v_q7 v_q8 v_q9 v_q10 v_q11 v_q12 v_q13 v_q14 v_q15 v_q16 v_thrown v_gain v_size v_w v_s v_h v_laidArea 0 0 (-1) v_isStar v_wantsNumber v_waiting v_shiftX v_shiftY v_times v_dotsLaid v_joinedLaid v_hash v_isThereA v_vA v_spotOfA v_inMiddleA v_tintsA v_bufferA v_valuesA v_ranksA v_oldRanksA v_partA v_allRanksA v_basesA v_isMetA v_metXA v_metYA v_lineA) H := hP
  have hD : va_D A (wdX5 G v_q0 v_q1 v_q2 v_q3 v_q4 v_q5 v_q6 v_q7 v_q8 v_q9 v_q10 v_q11 v_q12 v_q13 v_q14 v_q15 v_q16 v_thrown v_gain v_size v_w v_s v_h v_laidArea 0 0 (-1) v_isStar v_wantsNumber v_waiting v_shiftX v_shiftY v_times v_dotsLaid v_joinedLaid v_hash v_isThereA v_vA v_spotOfA v_inMiddleA v_tintsA v_bufferA v_valuesA v_ranksA v_oldRanksA v_partA v_allRanksA v_basesA v_isMetA v_metXA v_metYA v_lineA) := hD
  refine lv_aload_n hx hb dX5_rightLength_15 rfl (lv_at hl 0 rfl) ?_
  refine lv_iconst (v := 0) hx hb dX5_rightLength_16 (by decide) ?_
  refine va_put (D := G.1) (ci := 5) (v := .int 0) (ty := .boolean) (C := RX5) (T := TX5) (N := 35) hx hb hts fw_X5_rightLength_X5 tyX5 tyX5_ok nmX5 hown hK.1 hP hD hS 0 rfl rfl 20 (by decide) (hts (.fieldLink RX5 142 "HalftoneScreensModel" "isStar" "Z") lk_X5_rightLength_f142) (fun _ h9 => h9) rfl (tyX5_ok 20 (by decide)) (isZ.nar isZ0) (isZ.fit isZ0) (Nat.le_of_ble_eq_true rfl) dX5_rightLength_17 (fun H locs hP hD hS => ?_)
  have hP : va_P G.1 vwCl (wdX5 G v_q0 v_q1 v_q2 v_q3 v_q4 v_q5 v_q6 v_q7 v_q8 v_q9 v_q10 v_q11 v_q12 v_q13 v_q14 v_q15 v_q16 v_thrown v_gain v_size v_w v_s v_h v_laidArea 0 0 (-1) 0 v_wantsNumber v_waiting v_shiftX v_shiftY v_times v_dotsLaid v_joinedLaid v_hash v_isThereA v_vA v_spotOfA v_inMiddleA v_tintsA v_bufferA v_valuesA v_ranksA v_oldRanksA v_partA v_allRanksA v_basesA v_isMetA v_metXA v_metYA v_lineA) H := hP
  have hD : va_D A (wdX5 G v_q0 v_q1 v_q2 v_q3 v_q4 v_q5 v_q6 v_q7 v_q8 v_q9 v_q10 v_q11 v_q12 v_q13 v_q14 v_q15 v_q16 v_thrown v_gain v_size v_w v_s v_h v_laidArea 0 0 (-1) 0 v_wantsNumber v_waiting v_shiftX v_shiftY v_times v_dotsLaid v_joinedLaid v_hash v_isThereA v_vA v_spotOfA v_inMiddleA v_tintsA v_bufferA v_valuesA v_ranksA v_oldRanksA v_partA v_allRanksA v_basesA v_isMetA v_metXA v_metYA v_lineA) := hD
  refine lv_aload_n hx hb dX5_rightLength_20 rfl (lv_at hl 0 rfl) ?_
  refine lv_iconst (v := 1) hx hb dX5_rightLength_21 (by decide) ?_
  refine va_put (D := G.1) (ci := 5) (v := .int 1) (ty := .boolean) (C := RX5) (T := TX5) (N := 35) hx hb hts fw_X5_rightLength_X5 tyX5 tyX5_ok nmX5 hown hK.1 hP hD hS 0 rfl rfl 21 (by decide) (hts (.fieldLink RX5 133 "HalftoneScreensModel" "wantsNumber" "Z") lk_X5_rightLength_f133) (fun _ h9 => h9) rfl (tyX5_ok 21 (by decide)) (isZ.nar isZ1) (isZ.fit isZ1) (Nat.le_of_ble_eq_true rfl) dX5_rightLength_22 (fun H locs hP hD hS => ?_)
  have hP : va_P G.1 vwCl (wdX5 G v_q0 v_q1 v_q2 v_q3 v_q4 v_q5 v_q6 v_q7 v_q8 v_q9 v_q10 v_q11 v_q12 v_q13 v_q14 v_q15 v_q16 v_thrown v_gain v_size v_w v_s v_h v_laidArea 0 0 (-1) 0 1 v_waiting v_shiftX v_shiftY v_times v_dotsLaid v_joinedLaid v_hash v_isThereA v_vA v_spotOfA v_inMiddleA v_tintsA v_bufferA v_valuesA v_ranksA v_oldRanksA v_partA v_allRanksA v_basesA v_isMetA v_metXA v_metYA v_lineA) H := hP
  have hD : va_D A (wdX5 G v_q0 v_q1 v_q2 v_q3 v_q4 v_q5 v_q6 v_q7 v_q8 v_q9 v_q10 v_q11 v_q12 v_q13 v_q14 v_q15 v_q16 v_thrown v_gain v_size v_w v_s v_h v_laidArea 0 0 (-1) 0 1 v_waiting v_shiftX v_shiftY v_times v_dotsLaid v_joinedLaid v_hash v_isThereA v_vA v_spotOfA v_inMiddleA v_tintsA v_bufferA v_valuesA v_ranksA v_oldRanksA v_partA v_allRanksA v_basesA v_isMetA v_metXA v_metYA v_lineA) := hD
  refine lv_iconst (v := 0) hx hb dX5_rightLength_25 (by decide) ?_
  refine lv_istore_n (lv' := [(1, .int 0), (0, .ref v_q0)]) hx hb dX5_rightLength_26 rfl hl (by decide) rfl (fun ls hl => ?_)
  obtain ⟨u1_0, u1_1, u1_2, u1_3, u1_4, u1_5, u1_6, g1, h⟩ := bnd7_e h
  have L1 : ∀ (fu : Nat) (v1_0 : Int32) (v1_1 : Int32) (v1_2 : Int32) (v1_3 : Int32) (v1_4 : Int32) (v1_5 : Int32) (v1_6 : (Nat → Int32)) (u1_0 : Int32) (u1_1 : Int32) (u1_2 : Int32) (u1_3 : Int32) (u1_4 : Int32) (u1_5 : Int32) (u1_6 : (Nat → Int32)) (H : Heap) (locs : List Loc) (ls : Array Slot), mX5_rightLength_L27 v_size v_bufferA fu v1_0 v1_1 v1_2 v1_3 v1_4 v1_5 v1_6 = some (u1_0, u1_1, u1_2, u1_3, u1_4, u1_5, u1_6) → lv_has ls 2 [(1, .int v1_0), (0, .ref v_q0)] → va_P G.1 vwCl (wdX5 G v_q0 v_q1 v_q2 v_q3 v_q4 v_q5 v_q6 v_q7 v_q8 v_q9 v_q10 v_q11 v_q12 v_q13 v_q14 v_q15 v_q16 v_thrown v_gain v_size v_w v_s v_h v_laidArea v1_1 v1_2 v1_3 v1_4 v1_5 v_waiting v_shiftX v_shiftY v_times v_dotsLaid v_joinedLaid v_hash v_isThereA v_vA v_spotOfA v_inMiddleA v_tintsA v_bufferA v_valuesA v_ranksA v_oldRanksA v1_6 v_allRanksA v_basesA v_isMetA v_metXA v_metYA v_lineA) H → va_D A (wdX5 G v_q0 v_q1 v_q2 v_q3 v_q4 v_q5 v_q6 v_q7 v_q8 v_q9 v_q10 v_q11 v_q12 v_q13 v_q14 v_q15 v_q16 v_thrown v_gain v_size v_w v_s v_h v_laidArea v1_1 v1_2 v1_3 v1_4 v1_5 v_waiting v_shiftX v_shiftY v_times v_dotsLaid v_joinedLaid v_hash v_isThereA v_vA v_spotOfA v_inMiddleA v_tintsA v_bufferA v_valuesA v_ranksA v_oldRanksA v1_6 v_allRanksA v_basesA v_isMetA v_metXA v_metYA v_lineA) → va_S A s.heap H locs → (∀ (H : Heap) (locs : List Loc) (ls : Array Slot), lv_has ls 2 [(1, .int u1_0), (0, .ref v_q0)] → va_P G.1 vwCl (wdX5 G v_q0 v_q1 v_q2 v_q3 v_q4 v_q5 v_q6 v_q7 v_q8 v_q9 v_q10 v_q11 v_q12 v_q13 v_q14 v_q15 v_q16 v_thrown v_gain v_size v_w v_s v_h v_laidArea u1_1 u1_2 u1_3 u1_4 u1_5 v_waiting v_shiftX v_shiftY v_times v_dotsLaid v_joinedLaid v_hash v_isThereA v_vA v_spotOfA v_inMiddleA v_tintsA v_bufferA v_valuesA v_ranksA v_oldRanksA u1_6 v_allRanksA v_basesA v_isMetA v_metXA v_metYA v_lineA) H → va_D A (wdX5 G v_q0 v_q1 v_q2 v_q3 v_q4 v_q5 v_q6 v_q7 v_q8 v_q9 v_q10 v_q11 v_q12 v_q13 v_q14 v_q15 v_q16 v_thrown v_gain v_size v_w v_s v_h v_laidArea u1_1 u1_2 u1_3 u1_4 u1_5 v_waiting v_shiftX v_shiftY v_times v_dotsLaid v_joinedLaid v_hash v_isThereA v_vA v_spotOfA v_inMiddleA v_tintsA v_bufferA v_valuesA v_ranksA v_oldRanksA u1_6 v_allRanksA v_basesA v_isMetA v_metXA v_metYA v_lineA) → va_S A s.heap H locs → W p l e rmX5_rightLength s m args below meth c H locs 0 0 Q (F0 m 77 ls [])) → W p l e rmX5_rightLength s m args below meth c H locs 0 0 Q (F0 m 27 ls []) := by
    intro fu
    induction fu with
    | zero => intro v1_0 v1_1 v1_2 v1_3 v1_4 v1_5 v1_6 u1_0 u1_1 u1_2 u1_3 u1_4 u1_5 u1_6 H locs ls h; exact nomatch h
    | succ fu ih =>
      intro v1_0 v1_1 v1_2 v1_3 v1_4 v1_5 v1_6 u1_0 u1_1 u1_2 u1_3 u1_4 u1_5 u1_6 H locs ls h hl hP hD hS kE
      rw [mX5_rightLength_L27] at h
      refine lv_iload_n hx hb dX5_rightLength_27 rfl (lv_at hl 0 rfl) ?_
      refine lv_aload_n hx hb dX5_rightLength_28 rfl (lv_at hl 1 rfl) ?_
      refine va_get (D := G.1) (ci := 5) (v := .int v_size) (C := RX5) (T := TX5) (N := 35) hx hb hts fw_X5_rightLength_X5 hown hK.1 hP 0 rfl rfl 7 (by decide) (hts (.fieldLink RX5 123 "HalftoneScreensModel" "size" "I") lk_X5_rightLength_f123) (fun _ h9 => h9) rfl dX5_rightLength_29 ?_
      refine lv_icmp_ge (tgt := 77) hx hb dX5_rightLength_32 (by decide) (fun c2 => ?_) (fun c2 => ?_)
      · replace h := ite_t c2 h
        obtain ⟨rfl, rfl, rfl, rfl, rfl, rfl, rfl⟩ := sm7 h
        exact kE H locs ls hl hP hD hS
      · replace h := ite_f c2 h
        refine lv_aload_n hx hb dX5_rightLength_35 rfl (lv_at hl 1 rfl) ?_
        refine va_get (D := G.1) (ci := 5) (v := .int v1_5) (C := RX5) (T := TX5) (N := 35) hx hb hts fw_X5_rightLength_X5 hown hK.1 hP 0 rfl rfl 21 (by decide) (hts (.fieldLink RX5 133 "HalftoneScreensModel" "wantsNumber" "Z") lk_X5_rightLength_f133) (fun _ h9 => h9) rfl dX5_rightLength_36 ?_
        refine lv_if_eq (tgt := 58) hx hb dX5_rightLength_39 (by decide) (fun c3 => ?_) (fun c3 => ?_)
        · replace h := ite_t c3 h
          refine lv_aload_n hx hb dX5_rightLength_58 rfl (lv_at hl 1 rfl) ?_
          refine lv_aload_n hx hb dX5_rightLength_59 rfl (lv_at hl 1 rfl) ?_
          refine va_get (D := G.1) (ci := 5) (v := .ref v_q6) (C := RX5) (T := TX5) (N := 35) hx hb hts fw_X5_rightLength_X5 hown hK.1 hP 0 rfl rfl 8 (by decide) (hts (.fieldLink RX5 26 "HalftoneScreensModel" "buffer" "[I") lk_X5_rightLength_f26) (fun _ h9 => h9) rfl dX5_rightLength_60 ?_
          refine lv_iload_n hx hb dX5_rightLength_63 rfl (lv_at hl 0 rfl) ?_
          obtain ⟨i4, h⟩ := gd_e h
          refine va_iald hx hb hK.1 hP 6 0 rfl rfl i4 dX5_rightLength_64 ?_
          obtain ⟨r5_0, r5_1, r5_2, r5_3, g5, h⟩ := bnd4_e h
          refine rwV_same (rest := []) (As := [.int (v_bufferA v1_0.toNatClampNeg)]) S (ctX5_takesBehind l G v_q0 v_q1 v_q2 v_q3 v_q4 v_q5 v_q6 v_q7 v_q8 v_q9 v_q10 v_q11 v_q12 v_q13 v_q14 v_q15 v_q16 v_thrown v_gain v_size v_w v_s v_h v_laidArea v1_1 v1_2 v1_3 v1_4 v1_5 v_waiting v_shiftX v_shiftY v_times v_dotsLaid v_joinedLaid v_hash v_isThereA v_vA v_spotOfA v_inMiddleA v_tintsA v_bufferA v_valuesA v_ranksA v_oldRanksA v1_6 v_allRanksA v_basesA v_isMetA v_metXA v_metYA v_lineA (v_bufferA v1_0.toNatClampNeg) r5_0 r5_1 r5_2 r5_3 g5) (cwV 1 hts gX5_rightLength_X5_takesBehind rfl rfl rfl hvX5_takesBehind ⟨Nat.le_of_ble_eq_true rfl, Nat.le_of_ble_eq_true rfl⟩) hK hP hD hS xb_triv (fun _ _ _ => trivial) 0 5 rfl rfl rfl rfl hl.1 rfl (Nat.le_of_ble_eq_true rfl) dX5_rightLength_65 ⟨Nat.le_refl _, Nat.le_refl _⟩ (fun hz5 H locs hP hD hS => ?_)
          have hP : va_P G.1 vwCl (wdX5 G v_q0 v_q1 v_q2 v_q3 v_q4 v_q5 v_q6 v_q7 v_q8 v_q9 v_q10 v_q11 v_q12 v_q13 v_q14 v_q15 v_q16 v_thrown v_gain v_size v_w v_s v_h v_laidArea v1_1 v1_2 r5_1 r5_2 r5_3 v_waiting v_shiftX v_shiftY v_times v_dotsLaid v_joinedLaid v_hash v_isThereA v_vA v_spotOfA v_inMiddleA v_tintsA v_bufferA v_valuesA v_ranksA v_oldRanksA v1_6 v_allRanksA v_basesA v_isMetA v_metXA v_metYA v_lineA) H := hP
          have hD : va_D A (wdX5 G v_q0 v_q1 v_q2 v_q3 v_q4 v_q5 v_q6 v_q7 v_q8 v_q9 v_q10 v_q11 v_q12 v_q13 v_q14 v_q15 v_q16 v_thrown v_gain v_size v_w v_s v_h v_laidArea v1_1 v1_2 r5_1 r5_2 r5_3 v_waiting v_shiftX v_shiftY v_times v_dotsLaid v_joinedLaid v_hash v_isThereA v_vA v_spotOfA v_inMiddleA v_tintsA v_bufferA v_valuesA v_ranksA v_oldRanksA v1_6 v_allRanksA v_basesA v_isMetA v_metXA v_metYA v_lineA) := hD
          refine lv_if_eq (tgt := 77) hx hb dX5_rightLength_68 (by decide) (fun c6 => ?_) (fun c6 => ?_)
          · replace h := ite_t c6 h
            obtain ⟨rfl, rfl, rfl, rfl, rfl, rfl, rfl⟩ := sm7 h
            exact kE H locs ls hl hP hD hS
          · replace h := ite_f c6 h
            obtain ⟨x7, e7⟩ : ∃ y : Int32, y = v1_0 + 1 := ⟨_, rfl⟩
            replace h := nmB_e e7 h
            refine lv_iinc (v := x7) (lv' := [(1, .int x7), (0, .ref v_q0)]) hx hb dX5_rightLength_71 hl (k := 0) rfl (by rw [e7]; rfl) (by decide) rfl (fun ls hl => ?_)
            refine lv_goto (tgt := 27) hx hb dX5_rightLength_74 (by decide) ?_
            exact ih x7 v1_1 v1_2 r5_1 r5_2 r5_3 v1_6 u1_0 u1_1 u1_2 u1_3 u1_4 u1_5 u1_6 H locs ls h hl hP hD hS kE
        · replace h := ite_f c3 h
          refine lv_aload_n hx hb dX5_rightLength_42 rfl (lv_at hl 1 rfl) ?_
          refine lv_aload_n hx hb dX5_rightLength_43 rfl (lv_at hl 1 rfl) ?_
          refine va_get (D := G.1) (ci := 5) (v := .ref v_q6) (C := RX5) (T := TX5) (N := 35) hx hb hts fw_X5_rightLength_X5 hown hK.1 hP 0 rfl rfl 8 (by decide) (hts (.fieldLink RX5 26 "HalftoneScreensModel" "buffer" "[I") lk_X5_rightLength_f26) (fun _ h9 => h9) rfl dX5_rightLength_44 ?_
          refine lv_iload_n hx hb dX5_rightLength_47 rfl (lv_at hl 0 rfl) ?_
          obtain ⟨i8, h⟩ := gd_e h
          refine va_iald hx hb hK.1 hP 6 0 rfl rfl i8 dX5_rightLength_48 ?_
          obtain ⟨r9_0, r9_1, r9_2, r9_3, r9_4, g9, h⟩ := bnd5_e h
          refine rwV_same (rest := []) (As := [.int (v_bufferA v1_0.toNatClampNeg)]) S (ctX5_takesNumber l G v_q0 v_q1 v_q2 v_q3 v_q4 v_q5 v_q6 v_q7 v_q8 v_q9 v_q10 v_q11 v_q12 v_q13 v_q14 v_q15 v_q16 v_thrown v_gain v_size v_w v_s v_h v_laidArea v1_1 v1_2 v1_3 v1_4 v1_5 v_waiting v_shiftX v_shiftY v_times v_dotsLaid v_joinedLaid v_hash v_isThereA v_vA v_spotOfA v_inMiddleA v_tintsA v_bufferA v_valuesA v_ranksA v_oldRanksA v1_6 v_allRanksA v_basesA v_isMetA v_metXA v_metYA v_lineA (v_bufferA v1_0.toNatClampNeg) r9_0 r9_1 r9_2 r9_3 r9_4 g9) (cwV 1 hts gX5_rightLength_X5_takesNumber rfl rfl rfl hvX5_takesNumber ⟨Nat.le_of_ble_eq_true rfl, Nat.le_of_ble_eq_true rfl⟩) hK hP hD hS xb_triv (fun _ _ _ => trivial) 0 5 rfl rfl rfl rfl hl.1 rfl (Nat.le_of_ble_eq_true rfl) dX5_rightLength_49 ⟨Nat.le_refl _, Nat.le_refl _⟩ (fun hz9 H locs hP hD hS => ?_)
          have hP : va_P G.1 vwCl (wdX5 G v_q0 v_q1 v_q2 v_q3 v_q4 v_q5 v_q6 v_q7 v_q8 v_q9 v_q10 v_q11 v_q12 v_q13 v_q14 v_q15 v_q16 v_thrown v_gain v_size v_w v_s v_h v_laidArea r9_1 r9_2 v1_3 v1_4 r9_3 v_waiting v_shiftX v_shiftY v_times v_dotsLaid v_joinedLaid v_hash v_isThereA v_vA v_spotOfA v_inMiddleA v_tintsA v_bufferA v_valuesA v_ranksA v_oldRanksA r9_4 v_allRanksA v_basesA v_isMetA v_metXA v_metYA v_lineA) H := hP
          have hD : va_D A (wdX5 G v_q0 v_q1 v_q2 v_q3 v_q4 v_q5 v_q6 v_q7 v_q8 v_q9 v_q10 v_q11 v_q12 v_q13 v_q14 v_q15 v_q16 v_thrown v_gain v_size v_w v_s v_h v_laidArea r9_1 r9_2 v1_3 v1_4 r9_3 v_waiting v_shiftX v_shiftY v_times v_dotsLaid v_joinedLaid v_hash v_isThereA v_vA v_spotOfA v_inMiddleA v_tintsA v_bufferA v_valuesA v_ranksA v_oldRanksA r9_4 v_allRanksA v_basesA v_isMetA v_metXA v_metYA v_lineA) := hD
          refine lv_if_eq (tgt := 77) hx hb dX5_rightLength_52 (by decide) (fun c10 => ?_) (fun c10 => ?_)
          · replace h := ite_t c10 h
            obtain ⟨rfl, rfl, rfl, rfl, rfl, rfl, rfl⟩ := sm7 h
            exact kE H locs ls hl hP hD hS
          · replace h := ite_f c10 h
            refine lv_goto (tgt := 71) hx hb dX5_rightLength_55 (by decide) ?_
            obtain ⟨x11, e11⟩ : ∃ y : Int32, y = v1_0 + 1 := ⟨_, rfl⟩
            replace h := nmB_e e11 h
            refine lv_iinc (v := x11) (lv' := [(1, .int x11), (0, .ref v_q0)]) hx hb dX5_rightLength_71 hl (k := 0) rfl (by rw [e11]; rfl) (by decide) rfl (fun ls hl => ?_)
            refine lv_goto (tgt := 27) hx hb dX5_rightLength_74 (by decide) ?_
            exact ih x11 r9_1 r9_2 v1_3 v1_4 r9_3 r9_4 u1_0 u1_1 u1_2 u1_3 u1_4 u1_5 u1_6 H locs ls h hl hP hD hS kE
  refine L1 FU 0 0 0 (-1) 0 1 v_partA u1_0 u1_1 u1_2 u1_3 u1_4 u1_5 u1_6 H locs ls g1 hl hP hD hS (fun H locs ls hl hP hD hS => ?_)
  refine lv_iload_n hx hb dX5_rightLength_77 rfl (lv_at hl 0 rfl) ?_
  obtain ⟨rfl, rfl, rfl, rfl, rfl, rfl, rfl⟩ := sm7 h
  exact hret _ _ _ _ _ rfl trivial rfl hP hD hS dX5_rightLength_78
theorem fw_X5_firstError_X5 : ∀ w ∈ wsX50, w ∈ wsX5_firstError := fun w h => List.mem_cons_of_mem _ (List.mem_append_right _ h)
theorem lk_X5_firstError_f59 : Cond.fieldLink RX5 59 "HalftoneScreensModel" "thrown" "I" ∈ wsX5_firstError := List.mem_of_getElem? (i := 1) rfl
theorem hsX5_rightLength : yX5_rightLength.cls ≠ "java/lang/invoke/MethodHandle" ∧ yX5_rightLength.cls ≠ "java/lang/invoke/VarHandle" ∧ (parseMethodDescriptor yX5_rightLength.desc).map (fun d => d.parameters.length) = some 0 := by decide +kernel
theorem hvX5_rightLength : yX5_rightLength.cls = RX5 ∧ yX5_rightLength.cls ≠ "java/lang/invoke/MethodHandle" ∧ yX5_rightLength.cls ≠ "java/lang/invoke/VarHandle" ∧ (parseMethodDescriptor yX5_rightLength.desc).map (fun d => d.parameters.length) = some 0 := ⟨rfl, hsX5_rightLength⟩
abbrev rmX5_firstError : Room := { frames := 3, cells := 0, slots := 0, locals := 65 }
set_option maxHeartbeats 4000000 in
set_option maxRecDepth 100000 in
theorem ctX5_firstError (l : Launch) (G : GG) (v_q0 : Nat) (v_q1 : Nat) (v_q2 : Nat) (v_q3 : Nat) (v_q4 : Nat) (v_q5 : Nat) (v_q6 : Nat) (v_q7 : Nat) (v_q8 : Nat) (v_q9 : Nat) (v_q10 : Nat) (v_q11 : Nat) (v_q12 : Nat) (v_q13 : Nat) (v_q14 : Nat) (v_q15 : Nat) (v_q16 : Nat) (v_thrown : Int32) (v_gain : Int32) (v_size : Int32) (v_w : Int32) (v_s : Int32) (v_h : Int32) (v_laidArea : Int32) (v_parts : Int32) (v_isMinus : Int32) (v_readSpot : Int32) (v_isStar : Int32) (v_wantsNumber : Int32) (v_waiting : Int32) (v_shiftX : Int32) (v_shiftY : Int32) (v_times : Int32) (v_dotsLaid : Int32) (v_joinedLaid : Int32) (v_hash : Int64) (v_isThereA : (Nat → Int32)) (v_vA : (Nat → Int32)) (v_spotOfA : (Nat → Int32)) (v_inMiddleA : (Nat → Int32)) (v_tintsA : (Nat → Int32)) (v_bufferA : (Nat → Int32)) (v_valuesA : (Nat → Int32)) (v_ranksA : (Nat → Int32)) (v_oldRanksA : (Nat → Int32)) (v_partA : (Nat → Int32)) (v_allRanksA : (Nat → Int32)) (v_basesA : (Nat → Int32)) (v_isMetA : (Nat → Int32)) (v_metXA : (Nat → Int32)) (v_metYA : (Nat → Int32)) (v_lineA : (Nat → Int32)) (o0 : Int32) (o1 : Int32) (o2 : Int32) (o3 : Int32) (o4 : Int32) (o5 : Int32) (o6 : Int32) (o7 : (Nat → Int32)) (h : mX5_firstError v_size v_bufferA v_partA = some (o0, o1, o2, o3, o4, o5, o6, o7))  : Met l yX5_firstError wsX5_firstError rmX5_firstError (va_Pc [.ref v_q0] (PreD G (wdX5 G v_q0 v_q1 v_q2 v_q3 v_q4 v_q5 v_q6 v_q7 v_q8 v_q9 v_q10 v_q11 v_q12 v_q13 v_q14 v_q15 v_q16 v_thrown v_gain v_size v_w v_s v_h v_laidArea v_parts v_isMinus v_readSpot v_isStar v_wantsNumber v_waiting v_shiftX v_shiftY v_times v_dotsLaid v_joinedLaid v_hash v_isThereA v_vA v_spotOfA v_inMiddleA v_tintsA v_bufferA v_valuesA v_ranksA v_oldRanksA v_partA v_allRanksA v_basesA v_isMetA v_metXA v_metYA v_lineA) (fun _ => True))) (QwA G (va_A0 (wdX5 G v_q0 v_q1 v_q2 v_q3 v_q4 v_q5 v_q6 v_q7 v_q8 v_q9 v_q10 v_q11 v_q12 v_q13 v_q14 v_q15 v_q16 v_thrown v_gain v_size v_w v_s v_h v_laidArea v_parts v_isMinus v_readSpot v_isStar v_wantsNumber v_waiting v_shiftX v_shiftY v_times v_dotsLaid v_joinedLaid v_hash v_isThereA v_vA v_spotOfA v_inMiddleA v_tintsA v_bufferA v_valuesA v_ranksA v_oldRanksA v_partA v_allRanksA v_basesA v_isMetA v_metXA v_metYA v_lineA)) (wdX5 G v_q0 v_q1 v_q2 v_q3 v_q4 v_q5 v_q6 v_q7 v_q8 v_q9 v_q10 v_q11 v_q12 v_q13 v_q14 v_q15 v_q16 o1 v_gain v_size v_w v_s v_h v_laidArea o2 o3 o4 o5 o6 v_waiting v_shiftX v_shiftY v_times v_dotsLaid v_joinedLaid v_hash v_isThereA v_vA v_spotOfA v_inMiddleA v_tintsA v_bufferA v_valuesA v_ranksA v_oldRanksA o7 v_allRanksA v_basesA v_isMetA v_metXA v_metYA v_lineA) (some (.int o0)) True) 0 0 (va_A0 (wdX5 G v_q0 v_q1 v_q2 v_q3 v_q4 v_q5 v_q6 v_q7 v_q8 v_q9 v_q10 v_q11 v_q12 v_q13 v_q14 v_q15 v_q16 v_thrown v_gain v_size v_w v_s v_h v_laidArea v_parts v_isMinus v_readSpot v_isStar v_wantsNumber v_waiting v_shiftX v_shiftY v_times v_dotsLaid v_joinedLaid v_hash v_isThereA v_vA v_spotOfA v_inMiddleA v_tintsA v_bufferA v_valuesA v_ranksA v_oldRanksA v_partA v_allRanksA v_basesA v_isMetA v_metXA v_metYA v_lineA)) := by
  refine of_wi (cc := cX5_firstError) (maxL := 1) (ty := .int) (plainFor_of_name (by decide)) rfl (Nat.le_of_ble_eq_true rfl) ?_
  intro p e s m args below meth c ls Q A S hl hP hD hS hK hX hA hret
  obtain ⟨H, hH⟩ : ∃ H, H = s.heap := ⟨_, rfl⟩
  obtain ⟨locs, hlocs⟩ : ∃ L : List Loc, L = [] := ⟨_, rfl⟩
  rw [← hlocs]
  rw [← hlocs] at hS
  have hP : va_P G.1 vwCl (wdX5 G v_q0 v_q1 v_q2 v_q3 v_q4 v_q5 v_q6 v_q7 v_q8 v_q9 v_q10 v_q11 v_q12 v_q13 v_q14 v_q15 v_q16 v_thrown v_gain v_size v_w v_s v_h v_laidArea v_parts v_isMinus v_readSpot v_isStar v_wantsNumber v_waiting v_shiftX v_shiftY v_times v_dotsLaid v_joinedLaid v_hash v_isThereA v_vA v_spotOfA v_inMiddleA v_tintsA v_bufferA v_valuesA v_ranksA v_oldRanksA v_partA v_allRanksA v_basesA v_isMetA v_metXA v_metYA v_lineA) H := by rw [hH]; exact hP
  have hS : va_S A s.heap H locs := by rw [hH]; exact hS
  suffices hgo : W p l e rmX5_firstError s m args below meth c H locs 0 0 Q (F0 m 0 ls []) by rw [hH] at hgo; exact hgo
  have S : CallFix p m c cX5_firstError 1 s args wsX5_firstError RX5 := S
  obtain ⟨hx, hb, hml, hown, hts⟩ := id S
  have hl : lv_has ls 1 [(0, .ref v_q0)] := hl
  unfold mX5_firstError at h
  refine lv_aload_n hx hb dX5_firstError_0 rfl (lv_at hl 0 rfl) ?_
  refine lv_iconst (v := 0) hx hb dX5_firstError_1 (by decide) ?_
  refine va_put (D := G.1) (ci := 5) (v := .int 0) (ty := .int) (C := RX5) (T := TX5) (N := 35) hx hb hts fw_X5_firstError_X5 tyX5 tyX5_ok nmX5 hown hK.1 hP hD hS 0 rfl rfl 0 (by decide) (hts (.fieldLink RX5 59 "HalftoneScreensModel" "thrown" "I") lk_X5_firstError_f59) (fun _ h9 => h9) rfl (tyX5_ok 0 (by decide)) rfl rfl (Nat.le_of_ble_eq_true rfl) dX5_firstError_2 (fun H locs hP hD hS => ?_)
  have hP : va_P G.1 vwCl (wdX5 G v_q0 v_q1 v_q2 v_q3 v_q4 v_q5 v_q6 v_q7 v_q8 v_q9 v_q10 v_q11 v_q12 v_q13 v_q14 v_q15 v_q16 0 v_gain v_size v_w v_s v_h v_laidArea v_parts v_isMinus v_readSpot v_isStar v_wantsNumber v_waiting v_shiftX v_shiftY v_times v_dotsLaid v_joinedLaid v_hash v_isThereA v_vA v_spotOfA v_inMiddleA v_tintsA v_bufferA v_valuesA v_ranksA v_oldRanksA v_partA v_allRanksA v_basesA v_isMetA v_metXA v_metYA v_lineA) H := hP
  have hD : va_D A (wdX5 G v_q0 v_q1 v_q2 v_q3 v_q4 v_q5 v_q6 v_q7 v_q8 v_q9 v_q10 v_q11 v_q12 v_q13 v_q14 v_q15 v_q16 0 v_gain v_size v_w v_s v_h v_laidArea v_parts v_isMinus v_readSpot v_isStar v_wantsNumber v_waiting v_shiftX v_shiftY v_times v_dotsLaid v_joinedLaid v_hash v_isThereA v_vA v_spotOfA v_inMiddleA v_tintsA v_bufferA v_valuesA v_ranksA v_oldRanksA v_partA v_allRanksA v_basesA v_isMetA v_metXA v_metYA v_lineA) := hD
  refine lv_aload_n hx hb dX5_firstError_5 rfl (lv_at hl 0 rfl) ?_
  obtain ⟨r1_0, r1_1, r1_2, r1_3, r1_4, r1_5, r1_6, g1, h⟩ := bnd7_e h
  refine rwV_same (rest := []) (As := []) S (ctX5_rightLength l G v_q0 v_q1 v_q2 v_q3 v_q4 v_q5 v_q6 v_q7 v_q8 v_q9 v_q10 v_q11 v_q12 v_q13 v_q14 v_q15 v_q16 0 v_gain v_size v_w v_s v_h v_laidArea v_parts v_isMinus v_readSpot v_isStar v_wantsNumber v_waiting v_shiftX v_shiftY v_times v_dotsLaid v_joinedLaid v_hash v_isThereA v_vA v_spotOfA v_inMiddleA v_tintsA v_bufferA v_valuesA v_ranksA v_oldRanksA v_partA v_allRanksA v_basesA v_isMetA v_metXA v_metYA v_lineA r1_0 r1_1 r1_2 r1_3 r1_4 r1_5 r1_6 g1) (cwV 0 hts gX5_firstError_X5_rightLength rfl rfl rfl hvX5_rightLength ⟨Nat.le_of_ble_eq_true rfl, Nat.le_of_ble_eq_true rfl⟩) hK hP hD hS xb_triv (fun _ _ _ => trivial) 0 5 rfl rfl rfl rfl hl.1 rfl (Nat.le_of_ble_eq_true rfl) dX5_firstError_6 ⟨Nat.le_refl _, Nat.le_refl _⟩ (fun _ H locs hP hD hS => ?_)
  have hP : va_P G.1 vwCl (wdX5 G v_q0 v_q1 v_q2 v_q3 v_q4 v_q5 v_q6 v_q7 v_q8 v_q9 v_q10 v_q11 v_q12 v_q13 v_q14 v_q15 v_q16 0 v_gain v_size v_w v_s v_h v_laidArea r1_1 r1_2 r1_3 r1_4 r1_5 v_waiting v_shiftX v_shiftY v_times v_dotsLaid v_joinedLaid v_hash v_isThereA v_vA v_spotOfA v_inMiddleA v_tintsA v_bufferA v_valuesA v_ranksA v_oldRanksA r1_6 v_allRanksA v_basesA v_isMetA v_metXA v_metYA v_lineA) H := hP
  have hD : va_D A (wdX5 G v_q0 v_q1 v_q2 v_q3 v_q4 v_q5 v_q6 v_q7 v_q8 v_q9 v_q10 v_q11 v_q12 v_q13 v_q14 v_q15 v_q16 0 v_gain v_size v_w v_s v_h v_laidArea r1_1 r1_2 r1_3 r1_4 r1_5 v_waiting v_shiftX v_shiftY v_times v_dotsLaid v_joinedLaid v_hash v_isThereA v_vA v_spotOfA v_inMiddleA v_tintsA v_bufferA v_valuesA v_ranksA v_oldRanksA r1_6 v_allRanksA v_basesA v_isMetA v_metXA v_metYA v_lineA) := hD
  obtain ⟨rfl, rfl, rfl, rfl, rfl, rfl, rfl, rfl⟩ := sm8 h
  exact hret _ _ _ _ _ rfl trivial rfl hP hD hS dX5_firstError_9
theorem fw_X5_put_X5 : ∀ w ∈ wsX50, w ∈ wsX5_put := fun w h => List.mem_cons_of_mem _ (List.mem_append_right _ h)
theorem lk_X5_put_f13 : Cond.fieldLink RX5 13 "HalftoneScreensModel" "v" "[I" ∈ wsX5_put := List.mem_of_getElem? (i := 1) rfl
theorem lk_X5_put_f17 : Cond.fieldLink RX5 17 "HalftoneScreensModel" "spotOf" "[I" ∈ wsX5_put := List.mem_of_getElem? (i := 2) rfl
theorem lk_X5_put_f20 : Cond.fieldLink RX5 20 "HalftoneScreensModel" "inMiddle" "[Z" ∈ wsX5_put := List.mem_of_getElem? (i := 3) rfl
theorem lk_X5_put_f23 : Cond.fieldLink RX5 23 "HalftoneScreensModel" "tints" "[I" ∈ wsX5_put := List.mem_of_getElem? (i := 4) rfl
theorem lk_X5_put_f7 : Cond.fieldLink RX5 7 "HalftoneScreensModel" "isThere" "[Z" ∈ wsX5_put := List.mem_of_getElem? (i := 5) rfl
abbrev rmX5_put : Room := { frames := 0, cells := 0, slots := 0, locals := 0 }
set_option maxHeartbeats 4000000 in
set_option maxRecDepth 100000 in
theorem ctX5_put (l : Launch) (G : GG) (v_q0 : Nat) (v_q1 : Nat) (v_q2 : Nat) (v_q3 : Nat) (v_q4 : Nat) (v_q5 : Nat) (v_q6 : Nat) (v_q7 : Nat) (v_q8 : Nat) (v_q9 : Nat) (v_q10 : Nat) (v_q11 : Nat) (v_q12 : Nat) (v_q13 : Nat) (v_q14 : Nat) (v_q15 : Nat) (v_q16 : Nat) (v_thrown : Int32) (v_gain : Int32) (v_size : Int32) (v_w : Int32) (v_s : Int32) (v_h : Int32) (v_laidArea : Int32) (v_parts : Int32) (v_isMinus : Int32) (v_readSpot : Int32) (v_isStar : Int32) (v_wantsNumber : Int32) (v_waiting : Int32) (v_shiftX : Int32) (v_shiftY : Int32) (v_times : Int32) (v_dotsLaid : Int32) (v_joinedLaid : Int32) (v_hash : Int64) (v_isThereA : (Nat → Int32)) (v_vA : (Nat → Int32)) (v_spotOfA : (Nat → Int32)) (v_inMiddleA : (Nat → Int32)) (v_tintsA : (Nat → Int32)) (v_bufferA : (Nat → Int32)) (v_valuesA : (Nat → Int32)) (v_ranksA : (Nat → Int32)) (v_oldRanksA : (Nat → Int32)) (v_partA : (Nat → Int32)) (v_allRanksA : (Nat → Int32)) (v_basesA : (Nat → Int32)) (v_isMetA : (Nat → Int32)) (v_metXA : (Nat → Int32)) (v_metYA : (Nat → Int32)) (v_lineA : (Nat → Int32)) (a0 : Int32) (a1 : Int32) (a2 : Int32) (a3 : Int32) (a4 : Int32) (a5 : Int32) (o0 : (Nat → Int32)) (o1 : (Nat → Int32)) (o2 : (Nat → Int32)) (o3 : (Nat → Int32)) (o4 : (Nat → Int32)) (h : mX5_put v_isThereA v_vA v_spotOfA v_inMiddleA v_tintsA a0 a1 a2 a3 a4 a5 = some (o0, o1, o2, o3, o4))  : Met l yX5_put wsX5_put rmX5_put (va_Pc [.ref v_q0, .int a0, .int a1, .int a2, .int a3, .int a4, .int a5] (PreD G (wdX5 G v_q0 v_q1 v_q2 v_q3 v_q4 v_q5 v_q6 v_q7 v_q8 v_q9 v_q10 v_q11 v_q12 v_q13 v_q14 v_q15 v_q16 v_thrown v_gain v_size v_w v_s v_h v_laidArea v_parts v_isMinus v_readSpot v_isStar v_wantsNumber v_waiting v_shiftX v_shiftY v_times v_dotsLaid v_joinedLaid v_hash v_isThereA v_vA v_spotOfA v_inMiddleA v_tintsA v_bufferA v_valuesA v_ranksA v_oldRanksA v_partA v_allRanksA v_basesA v_isMetA v_metXA v_metYA v_lineA) (fun _ => True))) (QwA G (va_A0 (wdX5 G v_q0 v_q1 v_q2 v_q3 v_q4 v_q5 v_q6 v_q7 v_q8 v_q9 v_q10 v_q11 v_q12 v_q13 v_q14 v_q15 v_q16 v_thrown v_gain v_size v_w v_s v_h v_laidArea v_parts v_isMinus v_readSpot v_isStar v_wantsNumber v_waiting v_shiftX v_shiftY v_times v_dotsLaid v_joinedLaid v_hash v_isThereA v_vA v_spotOfA v_inMiddleA v_tintsA v_bufferA v_valuesA v_ranksA v_oldRanksA v_partA v_allRanksA v_basesA v_isMetA v_metXA v_metYA v_lineA)) (wdX5 G v_q0 v_q1 v_q2 v_q3 v_q4 v_q5 v_q6 v_q7 v_q8 v_q9 v_q10 v_q11 v_q12 v_q13 v_q14 v_q15 v_q16 v_thrown v_gain v_size v_w v_s v_h v_laidArea v_parts v_isMinus v_readSpot v_isStar v_wantsNumber v_waiting v_shiftX v_shiftY v_times v_dotsLaid v_joinedLaid v_hash o0 o1 o2 o3 o4 v_bufferA v_valuesA v_ranksA v_oldRanksA v_partA v_allRanksA v_basesA v_isMetA v_metXA v_metYA v_lineA) none True) 0 0 (va_A0 (wdX5 G v_q0 v_q1 v_q2 v_q3 v_q4 v_q5 v_q6 v_q7 v_q8 v_q9 v_q10 v_q11 v_q12 v_q13 v_q14 v_q15 v_q16 v_thrown v_gain v_size v_w v_s v_h v_laidArea v_parts v_isMinus v_readSpot v_isStar v_wantsNumber v_waiting v_shiftX v_shiftY v_times v_dotsLaid v_joinedLaid v_hash v_isThereA v_vA v_spotOfA v_inMiddleA v_tintsA v_bufferA v_valuesA v_ranksA v_oldRanksA v_partA v_allRanksA v_basesA v_isMetA v_metXA v_metYA v_lineA)) := by
  refine of_wv (cc := cX5_put) (maxL := 7) (plainFor_of_name (by decide)) rfl (Nat.le_of_ble_eq_true rfl) ?_
  intro p e s m args below meth c ls Q A S hl hP hD hS hK hX hA hret
  obtain ⟨H, hH⟩ : ∃ H, H = s.heap := ⟨_, rfl⟩
  obtain ⟨locs, hlocs⟩ : ∃ L : List Loc, L = [] := ⟨_, rfl⟩
  rw [← hlocs]
  rw [← hlocs] at hS
  have hP : va_P G.1 vwCl (wdX5 G v_q0 v_q1 v_q2 v_q3 v_q4 v_q5 v_q6 v_q7 v_q8 v_q9 v_q10 v_q11 v_q12 v_q13 v_q14 v_q15 v_q16 v_thrown v_gain v_size v_w v_s v_h v_laidArea v_parts v_isMinus v_readSpot v_isStar v_wantsNumber v_waiting v_shiftX v_shiftY v_times v_dotsLaid v_joinedLaid v_hash v_isThereA v_vA v_spotOfA v_inMiddleA v_tintsA v_bufferA v_valuesA v_ranksA v_oldRanksA v_partA v_allRanksA v_basesA v_isMetA v_metXA v_metYA v_lineA) H := by rw [hH]; exact hP
  have hS : va_S A s.heap H locs := by rw [hH]; exact hS
  suffices hgo : W p l e rmX5_put s m args below meth c H locs 0 0 Q (F0 m 0 ls []) by rw [hH] at hgo; exact hgo
  have S : CallFix p m c cX5_put 7 s args wsX5_put RX5 := S
  obtain ⟨hx, hb, hml, hown, hts⟩ := id S
  have hl : lv_has ls 7 [(0, .ref v_q0), (1, .int a0), (2, .int a1), (3, .int a2), (4, .int a3), (5, .int a4), (6, .int a5)] := hl
  unfold mX5_put at h
  refine lv_aload_n hx hb dX5_put_0 rfl (lv_at hl 0 rfl) ?_
  refine va_get (D := G.1) (ci := 5) (v := .ref v_q2) (C := RX5) (T := TX5) (N := 35) hx hb hts fw_X5_put_X5 hown hK.1 hP 0 rfl rfl 2 (by decide) (hts (.fieldLink RX5 13 "HalftoneScreensModel" "v" "[I") lk_X5_put_f13) (fun _ h9 => h9) rfl dX5_put_1 ?_
  refine lv_iconst (v := 4) hx hb dX5_put_4 (by decide) ?_
  refine lv_iload_n hx hb dX5_put_5 rfl (lv_at hl 1 rfl) ?_
  refine lv_imul hx hb dX5_put_6 ?_
  refine lv_iload_n hx hb dX5_put_7 rfl (lv_at hl 2 rfl) ?_
  obtain ⟨i1, h⟩ := gd_e h
  refine va_iast hx hb hK.1 hP hD hS 2 0 rfl rfl i1 dX5_put_8 (fun H locs hP hD hS => ?_)
  have hP : va_P G.1 vwCl (wdX5 G v_q0 v_q1 v_q2 v_q3 v_q4 v_q5 v_q6 v_q7 v_q8 v_q9 v_q10 v_q11 v_q12 v_q13 v_q14 v_q15 v_q16 v_thrown v_gain v_size v_w v_s v_h v_laidArea v_parts v_isMinus v_readSpot v_isStar v_wantsNumber v_waiting v_shiftX v_shiftY v_times v_dotsLaid v_joinedLaid v_hash v_isThereA (upd v_vA (4 * a0).toNatClampNeg a1) v_spotOfA v_inMiddleA v_tintsA v_bufferA v_valuesA v_ranksA v_oldRanksA v_partA v_allRanksA v_basesA v_isMetA v_metXA v_metYA v_lineA) H := hP
  have hD : va_D A (wdX5 G v_q0 v_q1 v_q2 v_q3 v_q4 v_q5 v_q6 v_q7 v_q8 v_q9 v_q10 v_q11 v_q12 v_q13 v_q14 v_q15 v_q16 v_thrown v_gain v_size v_w v_s v_h v_laidArea v_parts v_isMinus v_readSpot v_isStar v_wantsNumber v_waiting v_shiftX v_shiftY v_times v_dotsLaid v_joinedLaid v_hash v_isThereA (upd v_vA (4 * a0).toNatClampNeg a1) v_spotOfA v_inMiddleA v_tintsA v_bufferA v_valuesA v_ranksA v_oldRanksA v_partA v_allRanksA v_basesA v_isMetA v_metXA v_metYA v_lineA) := hD
  refine lv_aload_n hx hb dX5_put_9 rfl (lv_at hl 0 rfl) ?_
  refine va_get (D := G.1) (ci := 5) (v := .ref v_q2) (C := RX5) (T := TX5) (N := 35) hx hb hts fw_X5_put_X5 hown hK.1 hP 0 rfl rfl 2 (by decide) (hts (.fieldLink RX5 13 "HalftoneScreensModel" "v" "[I") lk_X5_put_f13) (fun _ h9 => h9) rfl dX5_put_10 ?_
  refine lv_iconst (v := 4) hx hb dX5_put_13 (by decide) ?_
  refine lv_iload_n hx hb dX5_put_14 rfl (lv_at hl 1 rfl) ?_
  refine lv_imul hx hb dX5_put_15 ?_
  refine lv_iconst (v := 1) hx hb dX5_put_16 (by decide) ?_
  refine lv_iadd hx hb dX5_put_17 ?_
  refine lv_iload_n hx hb dX5_put_18 rfl (lv_at hl 3 rfl) ?_
  obtain ⟨i2, h⟩ := gd_e h
  refine va_iast hx hb hK.1 hP hD hS 2 0 rfl rfl i2 dX5_put_19 (fun H locs hP hD hS => ?_)
  have hP : va_P G.1 vwCl (wdX5 G v_q0 v_q1 v_q2 v_q3 v_q4 v_q5 v_q6 v_q7 v_q8 v_q9 v_q10 v_q11 v_q12 v_q13 v_q14 v_q15 v_q16 v_thrown v_gain v_size v_w v_s v_h v_laidArea v_parts v_isMinus v_readSpot v_isStar v_wantsNumber v_waiting v_shiftX v_shiftY v_times v_dotsLaid v_joinedLaid v_hash v_isThereA (upd (upd v_vA (4 * a0).toNatClampNeg a1) ((4 * a0) + 1).toNatClampNeg a2) v_spotOfA v_inMiddleA v_tintsA v_bufferA v_valuesA v_ranksA v_oldRanksA v_partA v_allRanksA v_basesA v_isMetA v_metXA v_metYA v_lineA) H := hP
  have hD : va_D A (wdX5 G v_q0 v_q1 v_q2 v_q3 v_q4 v_q5 v_q6 v_q7 v_q8 v_q9 v_q10 v_q11 v_q12 v_q13 v_q14 v_q15 v_q16 v_thrown v_gain v_size v_w v_s v_h v_laidArea v_parts v_isMinus v_readSpot v_isStar v_wantsNumber v_waiting v_shiftX v_shiftY v_times v_dotsLaid v_joinedLaid v_hash v_isThereA (upd (upd v_vA (4 * a0).toNatClampNeg a1) ((4 * a0) + 1).toNatClampNeg a2) v_spotOfA v_inMiddleA v_tintsA v_bufferA v_valuesA v_ranksA v_oldRanksA v_partA v_allRanksA v_basesA v_isMetA v_metXA v_metYA v_lineA) := hD
  refine lv_aload_n hx hb dX5_put_20 rfl (lv_at hl 0 rfl) ?_
  refine va_get (D := G.1) (ci := 5) (v := .ref v_q2) (C := RX5) (T := TX5) (N := 35) hx hb hts fw_X5_put_X5 hown hK.1 hP 0 rfl rfl 2 (by decide) (hts (.fieldLink RX5 13 "HalftoneScreensModel" "v" "[I") lk_X5_put_f13) (fun _ h9 => h9) rfl dX5_put_21 ?_
  refine lv_iconst (v := 4) hx hb dX5_put_24 (by decide) ?_
  refine lv_iload_n hx hb dX5_put_25 rfl (lv_at hl 1 rfl) ?_
  refine lv_imul hx hb dX5_put_26 ?_
  refine lv_iconst (v := 2) hx hb dX5_put_27 (by decide) ?_
  refine lv_iadd hx hb dX5_put_28 ?_
  refine lv_iload hx hb dX5_put_29 (lv_at hl 4 rfl) ?_
  obtain ⟨i3, h⟩ := gd_e h
  refine va_iast hx hb hK.1 hP hD hS 2 0 rfl rfl i3 dX5_put_31 (fun H locs hP hD hS => ?_)
  have hP : va_P G.1 vwCl (wdX5 G v_q0 v_q1 v_q2 v_q3 v_q4 v_q5 v_q6 v_q7 v_q8 v_q9 v_q10 v_q11 v_q12 v_q13 v_q14 v_q15 v_q16 v_thrown v_gain v_size v_w v_s v_h v_laidArea v_parts v_isMinus v_readSpot v_isStar v_wantsNumber v_waiting v_shiftX v_shiftY v_times v_dotsLaid v_joinedLaid v_hash v_isThereA (upd (upd (upd v_vA (4 * a0).toNatClampNeg a1) ((4 * a0) + 1).toNatClampNeg a2) ((4 * a0) + 2).toNatClampNeg a3) v_spotOfA v_inMiddleA v_tintsA v_bufferA v_valuesA v_ranksA v_oldRanksA v_partA v_allRanksA v_basesA v_isMetA v_metXA v_metYA v_lineA) H := hP
  have hD : va_D A (wdX5 G v_q0 v_q1 v_q2 v_q3 v_q4 v_q5 v_q6 v_q7 v_q8 v_q9 v_q10 v_q11 v_q12 v_q13 v_q14 v_q15 v_q16 v_thrown v_gain v_size v_w v_s v_h v_laidArea v_parts v_isMinus v_readSpot v_isStar v_wantsNumber v_waiting v_shiftX v_shiftY v_times v_dotsLaid v_joinedLaid v_hash v_isThereA (upd (upd (upd v_vA (4 * a0).toNatClampNeg a1) ((4 * a0) + 1).toNatClampNeg a2) ((4 * a0) + 2).toNatClampNeg a3) v_spotOfA v_inMiddleA v_tintsA v_bufferA v_valuesA v_ranksA v_oldRanksA v_partA v_allRanksA v_basesA v_isMetA v_metXA v_metYA v_lineA) := hD
  refine lv_aload_n hx hb dX5_put_32 rfl (lv_at hl 0 rfl) ?_
  refine va_get (D := G.1) (ci := 5) (v := .ref v_q2) (C := RX5) (T := TX5) (N := 35) hx hb hts fw_X5_put_X5 hown hK.1 hP 0 rfl rfl 2 (by decide) (hts (.fieldLink RX5 13 "HalftoneScreensModel" "v" "[I") lk_X5_put_f13) (fun _ h9 => h9) rfl dX5_put_33 ?_
  refine lv_iconst (v := 4) hx hb dX5_put_36 (by decide) ?_
  refine lv_iload_n hx hb dX5_put_37 rfl (lv_at hl 1 rfl) ?_
  refine lv_imul hx hb dX5_put_38 ?_
  refine lv_iconst (v := 3) hx hb dX5_put_39 (by decide) ?_
  refine lv_iadd hx hb dX5_put_40 ?_
  refine lv_iload hx hb dX5_put_41 (lv_at hl 5 rfl) ?_
  obtain ⟨i4, h⟩ := gd_e h
  refine va_iast hx hb hK.1 hP hD hS 2 0 rfl rfl i4 dX5_put_43 (fun H locs hP hD hS => ?_)
  have hP : va_P G.1 vwCl (wdX5 G v_q0 v_q1 v_q2 v_q3 v_q4 v_q5 v_q6 v_q7 v_q8 v_q9 v_q10 v_q11 v_q12 v_q13 v_q14 v_q15 v_q16 v_thrown v_gain v_size v_w v_s v_h v_laidArea v_parts v_isMinus v_readSpot v_isStar v_wantsNumber v_waiting v_shiftX v_shiftY v_times v_dotsLaid v_joinedLaid v_hash v_isThereA (upd (upd (upd (upd v_vA (4 * a0).toNatClampNeg a1) ((4 * a0) + 1).toNatClampNeg a2) ((4 * a0) + 2).toNatClampNeg a3) ((4 * a0) + 3).toNatClampNeg a4) v_spotOfA v_inMiddleA v_tintsA v_bufferA v_valuesA v_ranksA v_oldRanksA v_partA v_allRanksA v_basesA v_isMetA v_metXA v_metYA v_lineA) H := hP
  have hD : va_D A (wdX5 G v_q0 v_q1 v_q2 v_q3 v_q4 v_q5 v_q6 v_q7 v_q8 v_q9 v_q10 v_q11 v_q12 v_q13 v_q14 v_q15 v_q16 v_thrown v_gain v_size v_w v_s v_h v_laidArea v_parts v_isMinus v_readSpot v_isStar v_wantsNumber v_waiting v_shiftX v_shiftY v_times v_dotsLaid v_joinedLaid v_hash v_isThereA (upd (upd (upd (upd v_vA (4 * a0).toNatClampNeg a1) ((4 * a0) + 1).toNatClampNeg a2) ((4 * a0) + 2).toNatClampNeg a3) ((4 * a0) + 3).toNatClampNeg a4) v_spotOfA v_inMiddleA v_tintsA v_bufferA v_valuesA v_ranksA v_oldRanksA v_partA v_allRanksA v_basesA v_isMetA v_metXA v_metYA v_lineA) := hD
  refine lv_aload_n hx hb dX5_put_44 rfl (lv_at hl 0 rfl) ?_
  refine va_get (D := G.1) (ci := 5) (v := .ref v_q3) (C := RX5) (T := TX5) (N := 35) hx hb hts fw_X5_put_X5 hown hK.1 hP 0 rfl rfl 3 (by decide) (hts (.fieldLink RX5 17 "HalftoneScreensModel" "spotOf" "[I") lk_X5_put_f17) (fun _ h9 => h9) rfl dX5_put_45 ?_
  refine lv_iload_n hx hb dX5_put_48 rfl (lv_at hl 1 rfl) ?_
  refine lv_iload hx hb dX5_put_49 (lv_at hl 6 rfl) ?_
  obtain ⟨i5, h⟩ := gd_e h
  refine va_iast hx hb hK.1 hP hD hS 3 0 rfl rfl i5 dX5_put_51 (fun H locs hP hD hS => ?_)
  have hP : va_P G.1 vwCl (wdX5 G v_q0 v_q1 v_q2 v_q3 v_q4 v_q5 v_q6 v_q7 v_q8 v_q9 v_q10 v_q11 v_q12 v_q13 v_q14 v_q15 v_q16 v_thrown v_gain v_size v_w v_s v_h v_laidArea v_parts v_isMinus v_readSpot v_isStar v_wantsNumber v_waiting v_shiftX v_shiftY v_times v_dotsLaid v_joinedLaid v_hash v_isThereA (upd (upd (upd (upd v_vA (4 * a0).toNatClampNeg a1) ((4 * a0) + 1).toNatClampNeg a2) ((4 * a0) + 2).toNatClampNeg a3) ((4 * a0) + 3).toNatClampNeg a4) (upd v_spotOfA a0.toNatClampNeg a5) v_inMiddleA v_tintsA v_bufferA v_valuesA v_ranksA v_oldRanksA v_partA v_allRanksA v_basesA v_isMetA v_metXA v_metYA v_lineA) H := hP
  have hD : va_D A (wdX5 G v_q0 v_q1 v_q2 v_q3 v_q4 v_q5 v_q6 v_q7 v_q8 v_q9 v_q10 v_q11 v_q12 v_q13 v_q14 v_q15 v_q16 v_thrown v_gain v_size v_w v_s v_h v_laidArea v_parts v_isMinus v_readSpot v_isStar v_wantsNumber v_waiting v_shiftX v_shiftY v_times v_dotsLaid v_joinedLaid v_hash v_isThereA (upd (upd (upd (upd v_vA (4 * a0).toNatClampNeg a1) ((4 * a0) + 1).toNatClampNeg a2) ((4 * a0) + 2).toNatClampNeg a3) ((4 * a0) + 3).toNatClampNeg a4) (upd v_spotOfA a0.toNatClampNeg a5) v_inMiddleA v_tintsA v_bufferA v_valuesA v_ranksA v_oldRanksA v_partA v_allRanksA v_basesA v_isMetA v_metXA v_metYA v_lineA) := hD
  refine lv_aload_n hx hb dX5_put_52 rfl (lv_at hl 0 rfl) ?_
  refine va_get (D := G.1) (ci := 5) (v := .ref v_q4) (C := RX5) (T := TX5) (N := 35) hx hb hts fw_X5_put_X5 hown hK.1 hP 0 rfl rfl 4 (by decide) (hts (.fieldLink RX5 20 "HalftoneScreensModel" "inMiddle" "[Z") lk_X5_put_f20) (fun _ h9 => h9) rfl dX5_put_53 ?_
  refine lv_iload_n hx hb dX5_put_56 rfl (lv_at hl 1 rfl) ?_
  refine lv_iconst (v := 0) hx hb dX5_put_57 (by decide) ?_
  obtain ⟨i6, h⟩ := gd_e h
  refine va_zast hx hb hK.1 hP hD hS 4 1 rfl rfl i6 dX5_put_58 (fun H locs hP hD hS => ?_)
  have hP : va_P G.1 vwCl (wdX5 G v_q0 v_q1 v_q2 v_q3 v_q4 v_q5 v_q6 v_q7 v_q8 v_q9 v_q10 v_q11 v_q12 v_q13 v_q14 v_q15 v_q16 v_thrown v_gain v_size v_w v_s v_h v_laidArea v_parts v_isMinus v_readSpot v_isStar v_wantsNumber v_waiting v_shiftX v_shiftY v_times v_dotsLaid v_joinedLaid v_hash v_isThereA (upd (upd (upd (upd v_vA (4 * a0).toNatClampNeg a1) ((4 * a0) + 1).toNatClampNeg a2) ((4 * a0) + 2).toNatClampNeg a3) ((4 * a0) + 3).toNatClampNeg a4) (upd v_spotOfA a0.toNatClampNeg a5) (upd v_inMiddleA a0.toNatClampNeg (vp_nar .boolean 0)) v_tintsA v_bufferA v_valuesA v_ranksA v_oldRanksA v_partA v_allRanksA v_basesA v_isMetA v_metXA v_metYA v_lineA) H := hP
  have hD : va_D A (wdX5 G v_q0 v_q1 v_q2 v_q3 v_q4 v_q5 v_q6 v_q7 v_q8 v_q9 v_q10 v_q11 v_q12 v_q13 v_q14 v_q15 v_q16 v_thrown v_gain v_size v_w v_s v_h v_laidArea v_parts v_isMinus v_readSpot v_isStar v_wantsNumber v_waiting v_shiftX v_shiftY v_times v_dotsLaid v_joinedLaid v_hash v_isThereA (upd (upd (upd (upd v_vA (4 * a0).toNatClampNeg a1) ((4 * a0) + 1).toNatClampNeg a2) ((4 * a0) + 2).toNatClampNeg a3) ((4 * a0) + 3).toNatClampNeg a4) (upd v_spotOfA a0.toNatClampNeg a5) (upd v_inMiddleA a0.toNatClampNeg (vp_nar .boolean 0)) v_tintsA v_bufferA v_valuesA v_ranksA v_oldRanksA v_partA v_allRanksA v_basesA v_isMetA v_metXA v_metYA v_lineA) := hD
  refine lv_aload_n hx hb dX5_put_59 rfl (lv_at hl 0 rfl) ?_
  refine va_get (D := G.1) (ci := 5) (v := .ref v_q5) (C := RX5) (T := TX5) (N := 35) hx hb hts fw_X5_put_X5 hown hK.1 hP 0 rfl rfl 5 (by decide) (hts (.fieldLink RX5 23 "HalftoneScreensModel" "tints" "[I") lk_X5_put_f23) (fun _ h9 => h9) rfl dX5_put_60 ?_
  refine lv_iload_n hx hb dX5_put_63 rfl (lv_at hl 1 rfl) ?_
  refine lv_iconst (v := 0) hx hb dX5_put_64 (by decide) ?_
  obtain ⟨i7, h⟩ := gd_e h
  refine va_iast hx hb hK.1 hP hD hS 5 0 rfl rfl i7 dX5_put_65 (fun H locs hP hD hS => ?_)
  have hP : va_P G.1 vwCl (wdX5 G v_q0 v_q1 v_q2 v_q3 v_q4 v_q5 v_q6 v_q7 v_q8 v_q9 v_q10 v_q11 v_q12 v_q13 v_q14 v_q15 v_q16 v_thrown v_gain v_size v_w v_s v_h v_laidArea v_parts v_isMinus v_readSpot v_isStar v_wantsNumber v_waiting v_shiftX v_shiftY v_times v_dotsLaid v_joinedLaid v_hash v_isThereA (upd (upd (upd (upd v_vA (4 * a0).toNatClampNeg a1) ((4 * a0) + 1).toNatClampNeg a2) ((4 * a0) + 2).toNatClampNeg a3) ((4 * a0) + 3).toNatClampNeg a4) (upd v_spotOfA a0.toNatClampNeg a5) (upd v_inMiddleA a0.toNatClampNeg (vp_nar .boolean 0)) (upd v_tintsA a0.toNatClampNeg 0) v_bufferA v_valuesA v_ranksA v_oldRanksA v_partA v_allRanksA v_basesA v_isMetA v_metXA v_metYA v_lineA) H := hP
  have hD : va_D A (wdX5 G v_q0 v_q1 v_q2 v_q3 v_q4 v_q5 v_q6 v_q7 v_q8 v_q9 v_q10 v_q11 v_q12 v_q13 v_q14 v_q15 v_q16 v_thrown v_gain v_size v_w v_s v_h v_laidArea v_parts v_isMinus v_readSpot v_isStar v_wantsNumber v_waiting v_shiftX v_shiftY v_times v_dotsLaid v_joinedLaid v_hash v_isThereA (upd (upd (upd (upd v_vA (4 * a0).toNatClampNeg a1) ((4 * a0) + 1).toNatClampNeg a2) ((4 * a0) + 2).toNatClampNeg a3) ((4 * a0) + 3).toNatClampNeg a4) (upd v_spotOfA a0.toNatClampNeg a5) (upd v_inMiddleA a0.toNatClampNeg (vp_nar .boolean 0)) (upd v_tintsA a0.toNatClampNeg 0) v_bufferA v_valuesA v_ranksA v_oldRanksA v_partA v_allRanksA v_basesA v_isMetA v_metXA v_metYA v_lineA) := hD
  refine lv_aload_n hx hb dX5_put_66 rfl (lv_at hl 0 rfl) ?_
  refine va_get (D := G.1) (ci := 5) (v := .ref v_q1) (C := RX5) (T := TX5) (N := 35) hx hb hts fw_X5_put_X5 hown hK.1 hP 0 rfl rfl 1 (by decide) (hts (.fieldLink RX5 7 "HalftoneScreensModel" "isThere" "[Z") lk_X5_put_f7) (fun _ h9 => h9) rfl dX5_put_67 ?_
  refine lv_iload_n hx hb dX5_put_70 rfl (lv_at hl 1 rfl) ?_
  refine lv_iconst (v := 1) hx hb dX5_put_71 (by decide) ?_
  obtain ⟨i8, h⟩ := gd_e h
  refine va_zast hx hb hK.1 hP hD hS 1 1 rfl rfl i8 dX5_put_72 (fun H locs hP hD hS => ?_)
  have hP : va_P G.1 vwCl (wdX5 G v_q0 v_q1 v_q2 v_q3 v_q4 v_q5 v_q6 v_q7 v_q8 v_q9 v_q10 v_q11 v_q12 v_q13 v_q14 v_q15 v_q16 v_thrown v_gain v_size v_w v_s v_h v_laidArea v_parts v_isMinus v_readSpot v_isStar v_wantsNumber v_waiting v_shiftX v_shiftY v_times v_dotsLaid v_joinedLaid v_hash (upd v_isThereA a0.toNatClampNeg (vp_nar .boolean 1)) (upd (upd (upd (upd v_vA (4 * a0).toNatClampNeg a1) ((4 * a0) + 1).toNatClampNeg a2) ((4 * a0) + 2).toNatClampNeg a3) ((4 * a0) + 3).toNatClampNeg a4) (upd v_spotOfA a0.toNatClampNeg a5) (upd v_inMiddleA a0.toNatClampNeg (vp_nar .boolean 0)) (upd v_tintsA a0.toNatClampNeg 0) v_bufferA v_valuesA v_ranksA v_oldRanksA v_partA v_allRanksA v_basesA v_isMetA v_metXA v_metYA v_lineA) H := hP
  have hD : va_D A (wdX5 G v_q0 v_q1 v_q2 v_q3 v_q4 v_q5 v_q6 v_q7 v_q8 v_q9 v_q10 v_q11 v_q12 v_q13 v_q14 v_q15 v_q16 v_thrown v_gain v_size v_w v_s v_h v_laidArea v_parts v_isMinus v_readSpot v_isStar v_wantsNumber v_waiting v_shiftX v_shiftY v_times v_dotsLaid v_joinedLaid v_hash (upd v_isThereA a0.toNatClampNeg (vp_nar .boolean 1)) (upd (upd (upd (upd v_vA (4 * a0).toNatClampNeg a1) ((4 * a0) + 1).toNatClampNeg a2) ((4 * a0) + 2).toNatClampNeg a3) ((4 * a0) + 3).toNatClampNeg a4) (upd v_spotOfA a0.toNatClampNeg a5) (upd v_inMiddleA a0.toNatClampNeg (vp_nar .boolean 0)) (upd v_tintsA a0.toNatClampNeg 0) v_bufferA v_valuesA v_ranksA v_oldRanksA v_partA v_allRanksA v_basesA v_isMetA v_metXA v_metYA v_lineA) := hD
  obtain ⟨rfl, rfl, rfl, rfl, rfl⟩ := sm5 h
  exact hret _ _ _ _ trivial hP hD hS dX5_put_73
theorem fw_X5_load_X5 : ∀ w ∈ wsX50, w ∈ wsX5_load := fun w h => List.mem_cons_of_mem _ (List.mem_append_right _ h)
theorem lk_X5_load_f123 : Cond.fieldLink RX5 123 "HalftoneScreensModel" "size" "I" ∈ wsX5_load := List.mem_of_getElem? (i := 1) rfl
theorem lk_X5_load_f136 : Cond.fieldLink RX5 136 "HalftoneScreensModel" "readSpot" "I" ∈ wsX5_load := List.mem_of_getElem? (i := 2) rfl
theorem lk_X5_load_f38 : Cond.fieldLink RX5 38 "HalftoneScreensModel" "part" "[I" ∈ wsX5_load := List.mem_of_getElem? (i := 3) rfl
theorem lk_X5_load_f59 : Cond.fieldLink RX5 59 "HalftoneScreensModel" "thrown" "I" ∈ wsX5_load := List.mem_of_getElem? (i := 4) rfl
theorem lk_X5_load_f20 : Cond.fieldLink RX5 20 "HalftoneScreensModel" "inMiddle" "[Z" ∈ wsX5_load := List.mem_of_getElem? (i := 5) rfl
theorem lk_X5_load_f142 : Cond.fieldLink RX5 142 "HalftoneScreensModel" "isStar" "Z" ∈ wsX5_load := List.mem_of_getElem? (i := 6) rfl
theorem hsX5_put : yX5_put.cls ≠ "java/lang/invoke/MethodHandle" ∧ yX5_put.cls ≠ "java/lang/invoke/VarHandle" ∧ (parseMethodDescriptor yX5_put.desc).map (fun d => d.parameters.length) = some 6 := by decide +kernel
theorem hvX5_put : yX5_put.cls = RX5 ∧ yX5_put.cls ≠ "java/lang/invoke/MethodHandle" ∧ yX5_put.cls ≠ "java/lang/invoke/VarHandle" ∧ (parseMethodDescriptor yX5_put.desc).map (fun d => d.parameters.length) = some 6 := ⟨rfl, hsX5_put⟩
abbrev rmX5_load : Room := { frames := 3, cells := 0, slots := 0, locals := 65 }
set_option maxHeartbeats 4000000 in
set_option maxRecDepth 100000 in
theorem ctX5_load (l : Launch) (G : GG) (v_q0 : Nat) (v_q1 : Nat) (v_q2 : Nat) (v_q3 : Nat) (v_q4 : Nat) (v_q5 : Nat) (v_q6 : Nat) (v_q7 : Nat) (v_q8 : Nat) (v_q9 : Nat) (v_q10 : Nat) (v_q11 : Nat) (v_q12 : Nat) (v_q13 : Nat) (v_q14 : Nat) (v_q15 : Nat) (v_q16 : Nat) (v_thrown : Int32) (v_gain : Int32) (v_size : Int32) (v_w : Int32) (v_s : Int32) (v_h : Int32) (v_laidArea : Int32) (v_parts : Int32) (v_isMinus : Int32) (v_readSpot : Int32) (v_isStar : Int32) (v_wantsNumber : Int32) (v_waiting : Int32) (v_shiftX : Int32) (v_shiftY : Int32) (v_times : Int32) (v_dotsLaid : Int32) (v_joinedLaid : Int32) (v_hash : Int64) (v_isThereA : (Nat → Int32)) (v_vA : (Nat → Int32)) (v_spotOfA : (Nat → Int32)) (v_inMiddleA : (Nat → Int32)) (v_tintsA : (Nat → Int32)) (v_bufferA : (Nat → Int32)) (v_valuesA : (Nat → Int32)) (v_ranksA : (Nat → Int32)) (v_oldRanksA : (Nat → Int32)) (v_partA : (Nat → Int32)) (v_allRanksA : (Nat → Int32)) (v_basesA : (Nat → Int32)) (v_isMetA : (Nat → Int32)) (v_metXA : (Nat → Int32)) (v_metYA : (Nat → Int32)) (v_lineA : (Nat → Int32)) (a0 : Int32) (o0 : Int32) (o1 : Int32) (o2 : Int32) (o3 : Int32) (o4 : Int32) (o5 : Int32) (o6 : Int32) (o7 : Int32) (o8 : (Nat → Int32)) (o9 : (Nat → Int32)) (o10 : (Nat → Int32)) (o11 : (Nat → Int32)) (o12 : (Nat → Int32)) (o13 : (Nat → Int32)) (h : mX5_load v_size v_isThereA v_vA v_spotOfA v_inMiddleA v_tintsA v_bufferA v_partA a0 = some (o0, o1, o2, o3, o4, o5, o6, o7, o8, o9, o10, o11, o12, o13))  : Met l yX5_load wsX5_load rmX5_load (va_Pc [.ref v_q0, .int a0] (PreD G (wdX5 G v_q0 v_q1 v_q2 v_q3 v_q4 v_q5 v_q6 v_q7 v_q8 v_q9 v_q10 v_q11 v_q12 v_q13 v_q14 v_q15 v_q16 v_thrown v_gain v_size v_w v_s v_h v_laidArea v_parts v_isMinus v_readSpot v_isStar v_wantsNumber v_waiting v_shiftX v_shiftY v_times v_dotsLaid v_joinedLaid v_hash v_isThereA v_vA v_spotOfA v_inMiddleA v_tintsA v_bufferA v_valuesA v_ranksA v_oldRanksA v_partA v_allRanksA v_basesA v_isMetA v_metXA v_metYA v_lineA) (fun _ => True))) (QwA G (va_A0 (wdX5 G v_q0 v_q1 v_q2 v_q3 v_q4 v_q5 v_q6 v_q7 v_q8 v_q9 v_q10 v_q11 v_q12 v_q13 v_q14 v_q15 v_q16 v_thrown v_gain v_size v_w v_s v_h v_laidArea v_parts v_isMinus v_readSpot v_isStar v_wantsNumber v_waiting v_shiftX v_shiftY v_times v_dotsLaid v_joinedLaid v_hash v_isThereA v_vA v_spotOfA v_inMiddleA v_tintsA v_bufferA v_valuesA v_ranksA v_oldRanksA v_partA v_allRanksA v_basesA v_isMetA v_metXA v_metYA v_lineA)) (wdX5 G v_q0 v_q1 v_q2 v_q3 v_q4 v_q5 v_q6 v_q7 v_q8 v_q9 v_q10 v_q11 v_q12 v_q13 v_q14 v_q15 v_q16 o1 v_gain o2 v_w v_s v_h v_laidArea o3 o4 o5 o6 o7 v_waiting v_shiftX v_shiftY v_times v_dotsLaid v_joinedLaid v_hash o8 o9 o10 o11 o12 v_bufferA v_valuesA v_ranksA v_oldRanksA o13 v_allRanksA v_basesA v_isMetA v_metXA v_metYA v_lineA) (some (.int o0)) True) 0 0 (va_A0 (wdX5 G v_q0 v_q1 v_q2 v_q3 v_q4 v_q5 v_q6 v_q7 v_q8 v_q9 v_q10 v_q11 v_q12 v_q13 v_q14 v_q15 v_q16 v_thrown v_gain v_size v_w v_s v_h v_laidArea v_parts v_isMinus v_readSpot v_isStar v_wantsNumber v_waiting v_shiftX v_shiftY v_times v_dotsLaid v_joinedLaid v_hash v_isThereA v_vA v_spotOfA v_inMiddleA v_tintsA v_bufferA v_valuesA v_ranksA v_oldRanksA v_partA v_allRanksA v_basesA v_isMetA v_metXA v_metYA v_lineA)) := by
  refine of_wi (cc := cX5_load) (maxL := 4) (ty := .int) (plainFor_of_name (by decide)) rfl (Nat.le_of_ble_eq_true rfl) ?_
  intro p e s m args below meth c ls Q A S hl hP hD hS hK hX hA hret
  obtain ⟨H, hH⟩ : ∃ H, H = s.heap := ⟨_, rfl⟩
  obtain ⟨locs, hlocs⟩ : ∃ L : List Loc, L = [] := ⟨_, rfl⟩
  rw [← hlocs]
  rw [← hlocs] at hS
  have hP : va_P G.1 vwCl (wdX5 G v_q0 v_q1 v_q2 v_q3 v_q4 v_q5 v_q6 v_q7 v_q8 v_q9 v_q10 v_q11 v_q12 v_q13 v_q14 v_q15 v_q16 v_thrown v_gain v_size v_w v_s v_h v_laidArea v_parts v_isMinus v_readSpot v_isStar v_wantsNumber v_waiting v_shiftX v_shiftY v_times v_dotsLaid v_joinedLaid v_hash v_isThereA v_vA v_spotOfA v_inMiddleA v_tintsA v_bufferA v_valuesA v_ranksA v_oldRanksA v_partA v_allRanksA v_basesA v_isMetA v_metXA v_metYA v_lineA) H := by rw [hH]; exact hP
  have hS : va_S A s.heap H locs := by rw [hH]; exact hS
  suffices hgo : W p l e rmX5_load s m args below meth c H locs 0 0 Q (F0 m 0 ls []) by rw [hH] at hgo; exact hgo
  have S : CallFix p m c cX5_load 4 s args wsX5_load RX5 := S
  obtain ⟨hx, hb, hml, hown, hts⟩ := id S
  have hl : lv_has ls 4 [(0, .ref v_q0), (1, .int a0)] := hl
  unfold mX5_load at h
  refine lv_aload_n hx hb dX5_load_0 rfl (lv_at hl 0 rfl) ?_
  obtain ⟨r1_0, r1_1, r1_2, r1_3, r1_4, r1_5, r1_6, g1, h⟩ := bnd7_e h
  refine rwV_same (rest := []) (As := []) S (ctX5_rightLength l G v_q0 v_q1 v_q2 v_q3 v_q4 v_q5 v_q6 v_q7 v_q8 v_q9 v_q10 v_q11 v_q12 v_q13 v_q14 v_q15 v_q16 v_thrown v_gain v_size v_w v_s v_h v_laidArea v_parts v_isMinus v_readSpot v_isStar v_wantsNumber v_waiting v_shiftX v_shiftY v_times v_dotsLaid v_joinedLaid v_hash v_isThereA v_vA v_spotOfA v_inMiddleA v_tintsA v_bufferA v_valuesA v_ranksA v_oldRanksA v_partA v_allRanksA v_basesA v_isMetA v_metXA v_metYA v_lineA r1_0 r1_1 r1_2 r1_3 r1_4 r1_5 r1_6 g1) (cwV 0 hts gX5_load_X5_rightLength rfl rfl rfl hvX5_rightLength ⟨Nat.le_of_ble_eq_true rfl, Nat.le_of_ble_eq_true rfl⟩) hK hP hD hS xb_triv (fun _ _ _ => trivial) 0 5 rfl rfl rfl rfl hl.1 rfl (Nat.le_of_ble_eq_true rfl) dX5_load_1 ⟨Nat.le_refl _, Nat.le_refl _⟩ (fun _ H locs hP hD hS => ?_)
  have hP : va_P G.1 vwCl (wdX5 G v_q0 v_q1 v_q2 v_q3 v_q4 v_q5 v_q6 v_q7 v_q8 v_q9 v_q10 v_q11 v_q12 v_q13 v_q14 v_q15 v_q16 v_thrown v_gain v_size v_w v_s v_h v_laidArea r1_1 r1_2 r1_3 r1_4 r1_5 v_waiting v_shiftX v_shiftY v_times v_dotsLaid v_joinedLaid v_hash v_isThereA v_vA v_spotOfA v_inMiddleA v_tintsA v_bufferA v_valuesA v_ranksA v_oldRanksA r1_6 v_allRanksA v_basesA v_isMetA v_metXA v_metYA v_lineA) H := hP
  have hD : va_D A (wdX5 G v_q0 v_q1 v_q2 v_q3 v_q4 v_q5 v_q6 v_q7 v_q8 v_q9 v_q10 v_q11 v_q12 v_q13 v_q14 v_q15 v_q16 v_thrown v_gain v_size v_w v_s v_h v_laidArea r1_1 r1_2 r1_3 r1_4 r1_5 v_waiting v_shiftX v_shiftY v_times v_dotsLaid v_joinedLaid v_hash v_isThereA v_vA v_spotOfA v_inMiddleA v_tintsA v_bufferA v_valuesA v_ranksA v_oldRanksA r1_6 v_allRanksA v_basesA v_isMetA v_metXA v_metYA v_lineA) := hD
  refine lv_aload_n hx hb dX5_load_4 rfl (lv_at hl 0 rfl) ?_
  refine va_get (D := G.1) (ci := 5) (v := .int v_size) (C := RX5) (T := TX5) (N := 35) hx hb hts fw_X5_load_X5 hown hK.1 hP 0 rfl rfl 7 (by decide) (hts (.fieldLink RX5 123 "HalftoneScreensModel" "size" "I") lk_X5_load_f123) (fun _ h9 => h9) rfl dX5_load_5 ?_
  obtain ⟨K2, hK2, h⟩ := jB1_e h
  have J2 : ∀ (j2_0 : Int32) (jz2_0 : isZ j2_0) (H : Heap) (locs : List Loc) (ls : Array Slot), K2 j2_0 = some (o0, o1, o2, o3, o4, o5, o6, o7, o8, o9, o10, o11, o12, o13) → lv_has ls 4 [(0, .ref v_q0), (1, .int a0)] → va_P G.1 vwCl (wdX5 G v_q0 v_q1 v_q2 v_q3 v_q4 v_q5 v_q6 v_q7 v_q8 v_q9 v_q10 v_q11 v_q12 v_q13 v_q14 v_q15 v_q16 v_thrown v_gain v_size v_w v_s v_h v_laidArea r1_1 r1_2 r1_3 r1_4 r1_5 v_waiting v_shiftX v_shiftY v_times v_dotsLaid v_joinedLaid v_hash v_isThereA v_vA v_spotOfA v_inMiddleA v_tintsA v_bufferA v_valuesA v_ranksA v_oldRanksA r1_6 v_allRanksA v_basesA v_isMetA v_metXA v_metYA v_lineA) H → va_D A (wdX5 G v_q0 v_q1 v_q2 v_q3 v_q4 v_q5 v_q6 v_q7 v_q8 v_q9 v_q10 v_q11 v_q12 v_q13 v_q14 v_q15 v_q16 v_thrown v_gain v_size v_w v_s v_h v_laidArea r1_1 r1_2 r1_3 r1_4 r1_5 v_waiting v_shiftX v_shiftY v_times v_dotsLaid v_joinedLaid v_hash v_isThereA v_vA v_spotOfA v_inMiddleA v_tintsA v_bufferA v_valuesA v_ranksA v_oldRanksA r1_6 v_allRanksA v_basesA v_isMetA v_metXA v_metYA v_lineA) → va_S A s.heap H locs → W p l e rmX5_load s m args below meth c H locs 0 0 Q (F0 m 24 ls [.int j2_0]) := by
    intro j2_0 jz2_0 H locs ls h hl hP hD hS
    replace h := (hK2 j2_0).symm.trans h
    refine lv_istore_n (lv' := [(2, .int j2_0), (0, .ref v_q0), (1, .int a0)]) hx hb dX5_load_24 rfl hl (by decide) rfl (fun ls hl => ?_)
    refine lv_aload_n hx hb dX5_load_25 rfl (lv_at hl 1 rfl) ?_
    refine va_get (D := G.1) (ci := 5) (v := .ref v_q10) (C := RX5) (T := TX5) (N := 35) hx hb hts fw_X5_load_X5 hown hK.1 hP 0 rfl rfl 17 (by decide) (hts (.fieldLink RX5 38 "HalftoneScreensModel" "part" "[I") lk_X5_load_f38) (fun _ h9 => h9) rfl dX5_load_26 ?_
    refine lv_iconst (v := 0) hx hb dX5_load_29 (by decide) ?_
    obtain ⟨i5, h⟩ := gd_e h
    refine va_iald hx hb hK.1 hP 10 0 rfl rfl i5 dX5_load_30 ?_
    refine lv_aload_n hx hb dX5_load_31 rfl (lv_at hl 1 rfl) ?_
    refine va_get (D := G.1) (ci := 5) (v := .ref v_q10) (C := RX5) (T := TX5) (N := 35) hx hb hts fw_X5_load_X5 hown hK.1 hP 0 rfl rfl 17 (by decide) (hts (.fieldLink RX5 38 "HalftoneScreensModel" "part" "[I") lk_X5_load_f38) (fun _ h9 => h9) rfl dX5_load_32 ?_
    refine lv_iconst (v := 1) hx hb dX5_load_35 (by decide) ?_
    obtain ⟨i6, h⟩ := gd_e h
    refine va_iald hx hb hK.1 hP 10 0 rfl rfl i6 dX5_load_36 ?_
    refine lv_aload_n hx hb dX5_load_37 rfl (lv_at hl 1 rfl) ?_
    refine va_get (D := G.1) (ci := 5) (v := .ref v_q10) (C := RX5) (T := TX5) (N := 35) hx hb hts fw_X5_load_X5 hown hK.1 hP 0 rfl rfl 17 (by decide) (hts (.fieldLink RX5 38 "HalftoneScreensModel" "part" "[I") lk_X5_load_f38) (fun _ h9 => h9) rfl dX5_load_38 ?_
    refine lv_iconst (v := 2) hx hb dX5_load_41 (by decide) ?_
    obtain ⟨i7, h⟩ := gd_e h
    refine va_iald hx hb hK.1 hP 10 0 rfl rfl i7 dX5_load_42 ?_
    refine lv_aload_n hx hb dX5_load_43 rfl (lv_at hl 1 rfl) ?_
    refine va_get (D := G.1) (ci := 5) (v := .ref v_q10) (C := RX5) (T := TX5) (N := 35) hx hb hts fw_X5_load_X5 hown hK.1 hP 0 rfl rfl 17 (by decide) (hts (.fieldLink RX5 38 "HalftoneScreensModel" "part" "[I") lk_X5_load_f38) (fun _ h9 => h9) rfl dX5_load_44 ?_
    refine lv_iconst (v := 3) hx hb dX5_load_47 (by decide) ?_
    obtain ⟨i8, h⟩ := gd_e h
    refine va_iald hx hb hK.1 hP 10 0 rfl rfl i8 dX5_load_48 ?_
    obtain ⟨r9_0, g9, h⟩ := bnd1_e h
    refine roSi1 (rest := []) (As := [.int (r1_6 (0 : Int32).toNatClampNeg), .int (r1_6 (1 : Int32).toNatClampNeg), .int (r1_6 (2 : Int32).toNatClampNeg), .int (r1_6 (3 : Int32).toNatClampNeg)]) S (ctX5_areaOf l G (r1_6 (0 : Int32).toNatClampNeg) (r1_6 (1 : Int32).toNatClampNeg) (r1_6 (2 : Int32).toNatClampNeg) (r1_6 (3 : Int32).toNatClampNeg) r9_0 g9) (va_cwS 4 hts gX5_load_X5_areaOf rfl rfl rfl hsX5_areaOf ⟨Nat.le_of_ble_eq_true rfl, Nat.le_of_ble_eq_true rfl⟩) hK hP [] rfl rfl hl.1 rfl (Nat.le_of_ble_eq_true rfl) dX5_load_49 ⟨Nat.le_refl _, Nat.le_refl _⟩ (fun _ => ?_)
    refine lv_iconst (v := 1) hx hb dX5_load_52 (by decide) ?_
    refine lv_bipush (v := 64) hx hb dX5_load_53 (by decide) ?_
    obtain ⟨r10_0, g10, h⟩ := bnd1_e h
    refine roSi1 (rest := []) (As := [.int r9_0, .int 1, .int 64]) S (ctX5_within l G r9_0 1 64 r10_0 g10) (va_cwS 3 hts gX5_load_X5_within rfl rfl rfl hsX5_within ⟨Nat.le_of_ble_eq_true rfl, Nat.le_of_ble_eq_true rfl⟩) hK hP [] rfl rfl hl.1 rfl (Nat.le_of_ble_eq_true rfl) dX5_load_55 ⟨Nat.le_refl _, Nat.le_refl _⟩ (fun hz10 => ?_)
    refine lv_istore_n (lv' := [(3, .int r10_0), (2, .int j2_0), (0, .ref v_q0), (1, .int a0)]) hx hb dX5_load_58 rfl hl (by decide) rfl (fun ls hl => ?_)
    refine lv_aload_n hx hb dX5_load_59 rfl (lv_at hl 2 rfl) ?_
    refine lv_iload_n hx hb dX5_load_60 rfl (lv_at hl 3 rfl) ?_
    obtain ⟨r11_0, g11, h⟩ := bnd1_e h
    refine roSi1 (rest := [.ref v_q0]) (As := [.int a0]) S (ctX5_isSlot l G a0 r11_0 g11) (va_cwS 1 hts gX5_load_X5_isSlot rfl rfl rfl hsX5_isSlot ⟨Nat.le_of_ble_eq_true rfl, Nat.le_of_ble_eq_true rfl⟩) hK hP [] rfl rfl hl.1 rfl (Nat.le_of_ble_eq_true rfl) dX5_load_61 ⟨Nat.le_refl _, Nat.le_refl _⟩ (fun hz11 => ?_)
    obtain ⟨K12, hK12, h⟩ := jB1_e h
    have J12 : ∀ (j12_0 : Int32) (H : Heap) (locs : List Loc) (ls : Array Slot), K12 j12_0 = some (o0, o1, o2, o3, o4, o5, o6, o7, o8, o9, o10, o11, o12, o13) → lv_has ls 4 [(3, .int r10_0), (2, .int j2_0), (0, .ref v_q0), (1, .int a0)] → va_P G.1 vwCl (wdX5 G v_q0 v_q1 v_q2 v_q3 v_q4 v_q5 v_q6 v_q7 v_q8 v_q9 v_q10 v_q11 v_q12 v_q13 v_q14 v_q15 v_q16 v_thrown v_gain v_size v_w v_s v_h v_laidArea r1_1 r1_2 r1_3 r1_4 r1_5 v_waiting v_shiftX v_shiftY v_times v_dotsLaid v_joinedLaid v_hash v_isThereA v_vA v_spotOfA v_inMiddleA v_tintsA v_bufferA v_valuesA v_ranksA v_oldRanksA r1_6 v_allRanksA v_basesA v_isMetA v_metXA v_metYA v_lineA) H → va_D A (wdX5 G v_q0 v_q1 v_q2 v_q3 v_q4 v_q5 v_q6 v_q7 v_q8 v_q9 v_q10 v_q11 v_q12 v_q13 v_q14 v_q15 v_q16 v_thrown v_gain v_size v_w v_s v_h v_laidArea r1_1 r1_2 r1_3 r1_4 r1_5 v_waiting v_shiftX v_shiftY v_times v_dotsLaid v_joinedLaid v_hash v_isThereA v_vA v_spotOfA v_inMiddleA v_tintsA v_bufferA v_valuesA v_ranksA v_oldRanksA r1_6 v_allRanksA v_basesA v_isMetA v_metXA v_metYA v_lineA) → va_S A s.heap H locs → W p l e rmX5_load s m args below meth c H locs 0 0 Q (F0 m 88 ls [.int j12_0, .ref v_q0]) := by
      intro j12_0 H locs ls h hl hP hD hS
      replace h := (hK12 j12_0).symm.trans h
      refine va_put (D := G.1) (ci := 5) (v := .int j12_0) (ty := .int) (C := RX5) (T := TX5) (N := 35) hx hb hts fw_X5_load_X5 tyX5 tyX5_ok nmX5 hown hK.1 hP hD hS 0 rfl rfl 0 (by decide) (hts (.fieldLink RX5 59 "HalftoneScreensModel" "thrown" "I") lk_X5_load_f59) (fun _ h9 => h9) rfl (tyX5_ok 0 (by decide)) rfl rfl (Nat.le_of_ble_eq_true rfl) dX5_load_88 (fun H locs hP hD hS => ?_)
      have hP : va_P G.1 vwCl (wdX5 G v_q0 v_q1 v_q2 v_q3 v_q4 v_q5 v_q6 v_q7 v_q8 v_q9 v_q10 v_q11 v_q12 v_q13 v_q14 v_q15 v_q16 j12_0 v_gain v_size v_w v_s v_h v_laidArea r1_1 r1_2 r1_3 r1_4 r1_5 v_waiting v_shiftX v_shiftY v_times v_dotsLaid v_joinedLaid v_hash v_isThereA v_vA v_spotOfA v_inMiddleA v_tintsA v_bufferA v_valuesA v_ranksA v_oldRanksA r1_6 v_allRanksA v_basesA v_isMetA v_metXA v_metYA v_lineA) H := hP
      have hD : va_D A (wdX5 G v_q0 v_q1 v_q2 v_q3 v_q4 v_q5 v_q6 v_q7 v_q8 v_q9 v_q10 v_q11 v_q12 v_q13 v_q14 v_q15 v_q16 j12_0 v_gain v_size v_w v_s v_h v_laidArea r1_1 r1_2 r1_3 r1_4 r1_5 v_waiting v_shiftX v_shiftY v_times v_dotsLaid v_joinedLaid v_hash v_isThereA v_vA v_spotOfA v_inMiddleA v_tintsA v_bufferA v_valuesA v_ranksA v_oldRanksA r1_6 v_allRanksA v_basesA v_isMetA v_metXA v_metYA v_lineA) := hD
      refine lv_aload_n hx hb dX5_load_91 rfl (lv_at hl 2 rfl) ?_
      refine va_get (D := G.1) (ci := 5) (v := .int j12_0) (C := RX5) (T := TX5) (N := 35) hx hb hts fw_X5_load_X5 hown hK.1 hP 0 rfl rfl 0 (by decide) (hts (.fieldLink RX5 59 "HalftoneScreensModel" "thrown" "I") lk_X5_load_f59) (fun _ h9 => h9) rfl dX5_load_92 ?_
      refine lv_if_le (tgt := 100) hx hb dX5_load_95 (by decide) (fun c16 => ?_) (fun c16 => ?_)
      · replace h := ite_t c16 h
        refine lv_aload_n hx hb dX5_load_100 rfl (lv_at hl 2 rfl) ?_
        refine lv_iload_n hx hb dX5_load_101 rfl (lv_at hl 3 rfl) ?_
        refine lv_aload_n hx hb dX5_load_102 rfl (lv_at hl 2 rfl) ?_
        refine va_get (D := G.1) (ci := 5) (v := .ref v_q10) (C := RX5) (T := TX5) (N := 35) hx hb hts fw_X5_load_X5 hown hK.1 hP 0 rfl rfl 17 (by decide) (hts (.fieldLink RX5 38 "HalftoneScreensModel" "part" "[I") lk_X5_load_f38) (fun _ h9 => h9) rfl dX5_load_103 ?_
        refine lv_iconst (v := 0) hx hb dX5_load_106 (by decide) ?_
        obtain ⟨i17, h⟩ := gd_e h
        refine va_iald hx hb hK.1 hP 10 0 rfl rfl i17 dX5_load_107 ?_
        refine lv_aload_n hx hb dX5_load_108 rfl (lv_at hl 2 rfl) ?_
        refine va_get (D := G.1) (ci := 5) (v := .ref v_q10) (C := RX5) (T := TX5) (N := 35) hx hb hts fw_X5_load_X5 hown hK.1 hP 0 rfl rfl 17 (by decide) (hts (.fieldLink RX5 38 "HalftoneScreensModel" "part" "[I") lk_X5_load_f38) (fun _ h9 => h9) rfl dX5_load_109 ?_
        refine lv_iconst (v := 1) hx hb dX5_load_112 (by decide) ?_
        obtain ⟨i18, h⟩ := gd_e h
        refine va_iald hx hb hK.1 hP 10 0 rfl rfl i18 dX5_load_113 ?_
        refine lv_aload_n hx hb dX5_load_114 rfl (lv_at hl 2 rfl) ?_
        refine va_get (D := G.1) (ci := 5) (v := .ref v_q10) (C := RX5) (T := TX5) (N := 35) hx hb hts fw_X5_load_X5 hown hK.1 hP 0 rfl rfl 17 (by decide) (hts (.fieldLink RX5 38 "HalftoneScreensModel" "part" "[I") lk_X5_load_f38) (fun _ h9 => h9) rfl dX5_load_115 ?_
        refine lv_iconst (v := 2) hx hb dX5_load_118 (by decide) ?_
        obtain ⟨i19, h⟩ := gd_e h
        refine va_iald hx hb hK.1 hP 10 0 rfl rfl i19 dX5_load_119 ?_
        refine lv_aload_n hx hb dX5_load_120 rfl (lv_at hl 2 rfl) ?_
        refine va_get (D := G.1) (ci := 5) (v := .ref v_q10) (C := RX5) (T := TX5) (N := 35) hx hb hts fw_X5_load_X5 hown hK.1 hP 0 rfl rfl 17 (by decide) (hts (.fieldLink RX5 38 "HalftoneScreensModel" "part" "[I") lk_X5_load_f38) (fun _ h9 => h9) rfl dX5_load_121 ?_
        refine lv_iconst (v := 3) hx hb dX5_load_124 (by decide) ?_
        obtain ⟨i20, h⟩ := gd_e h
        refine va_iald hx hb hK.1 hP 10 0 rfl rfl i20 dX5_load_125 ?_
        refine lv_aload_n hx hb dX5_load_126 rfl (lv_at hl 2 rfl) ?_
        refine va_get (D := G.1) (ci := 5) (v := .int r1_3) (C := RX5) (T := TX5) (N := 35) hx hb hts fw_X5_load_X5 hown hK.1 hP 0 rfl rfl 19 (by decide) (hts (.fieldLink RX5 136 "HalftoneScreensModel" "readSpot" "I") lk_X5_load_f136) (fun _ h9 => h9) rfl dX5_load_127 ?_
        obtain ⟨r21_0, r21_1, r21_2, r21_3, r21_4, g21, h⟩ := bnd5_e h
        refine rwV_same (rest := []) (As := [.int a0, .int (r1_6 (0 : Int32).toNatClampNeg), .int (r1_6 (1 : Int32).toNatClampNeg), .int (r1_6 (2 : Int32).toNatClampNeg), .int (r1_6 (3 : Int32).toNatClampNeg), .int r1_3]) S (ctX5_put l G v_q0 v_q1 v_q2 v_q3 v_q4 v_q5 v_q6 v_q7 v_q8 v_q9 v_q10 v_q11 v_q12 v_q13 v_q14 v_q15 v_q16 j12_0 v_gain v_size v_w v_s v_h v_laidArea r1_1 r1_2 r1_3 r1_4 r1_5 v_waiting v_shiftX v_shiftY v_times v_dotsLaid v_joinedLaid v_hash v_isThereA v_vA v_spotOfA v_inMiddleA v_tintsA v_bufferA v_valuesA v_ranksA v_oldRanksA r1_6 v_allRanksA v_basesA v_isMetA v_metXA v_metYA v_lineA a0 (r1_6 (0 : Int32).toNatClampNeg) (r1_6 (1 : Int32).toNatClampNeg) (r1_6 (2 : Int32).toNatClampNeg) (r1_6 (3 : Int32).toNatClampNeg) r1_3 r21_0 r21_1 r21_2 r21_3 r21_4 g21) (cwV 6 hts gX5_load_X5_put rfl rfl rfl hvX5_put ⟨Nat.le_of_ble_eq_true rfl, Nat.le_of_ble_eq_true rfl⟩) hK hP hD hS xb_triv (fun _ _ _ => trivial) 0 5 rfl rfl rfl rfl hl.1 rfl (Nat.le_of_ble_eq_true rfl) dX5_load_130 ⟨Nat.le_refl _, Nat.le_refl _⟩ (fun _ H locs hP hD hS => ?_)
        have hP : va_P G.1 vwCl (wdX5 G v_q0 v_q1 v_q2 v_q3 v_q4 v_q5 v_q6 v_q7 v_q8 v_q9 v_q10 v_q11 v_q12 v_q13 v_q14 v_q15 v_q16 j12_0 v_gain v_size v_w v_s v_h v_laidArea r1_1 r1_2 r1_3 r1_4 r1_5 v_waiting v_shiftX v_shiftY v_times v_dotsLaid v_joinedLaid v_hash r21_0 r21_1 r21_2 r21_3 r21_4 v_bufferA v_valuesA v_ranksA v_oldRanksA r1_6 v_allRanksA v_basesA v_isMetA v_metXA v_metYA v_lineA) H := hP
        have hD : va_D A (wdX5 G v_q0 v_q1 v_q2 v_q3 v_q4 v_q5 v_q6 v_q7 v_q8 v_q9 v_q10 v_q11 v_q12 v_q13 v_q14 v_q15 v_q16 j12_0 v_gain v_size v_w v_s v_h v_laidArea r1_1 r1_2 r1_3 r1_4 r1_5 v_waiting v_shiftX v_shiftY v_times v_dotsLaid v_joinedLaid v_hash r21_0 r21_1 r21_2 r21_3 r21_4 v_bufferA v_valuesA v_ranksA v_oldRanksA r1_6 v_allRanksA v_basesA v_isMetA v_metXA v_metYA v_lineA) := hD
        refine lv_aload_n hx hb dX5_load_133 rfl (lv_at hl 2 rfl) ?_
        refine va_get (D := G.1) (ci := 5) (v := .ref v_q4) (C := RX5) (T := TX5) (N := 35) hx hb hts fw_X5_load_X5 hown hK.1 hP 0 rfl rfl 4 (by decide) (hts (.fieldLink RX5 20 "HalftoneScreensModel" "inMiddle" "[Z") lk_X5_load_f20) (fun _ h9 => h9) rfl dX5_load_134 ?_
        refine lv_iload_n hx hb dX5_load_137 rfl (lv_at hl 3 rfl) ?_
        refine lv_aload_n hx hb dX5_load_138 rfl (lv_at hl 2 rfl) ?_
        refine va_get (D := G.1) (ci := 5) (v := .int r1_4) (C := RX5) (T := TX5) (N := 35) hx hb hts fw_X5_load_X5 hown hK.1 hP 0 rfl rfl 20 (by decide) (hts (.fieldLink RX5 142 "HalftoneScreensModel" "isStar" "Z") lk_X5_load_f142) (fun _ h9 => h9) rfl dX5_load_139 ?_
        obtain ⟨i22, h⟩ := gd_e h
        refine va_zast hx hb hK.1 hP hD hS 4 1 rfl rfl i22 dX5_load_142 (fun H locs hP hD hS => ?_)
        have hP : va_P G.1 vwCl (wdX5 G v_q0 v_q1 v_q2 v_q3 v_q4 v_q5 v_q6 v_q7 v_q8 v_q9 v_q10 v_q11 v_q12 v_q13 v_q14 v_q15 v_q16 j12_0 v_gain v_size v_w v_s v_h v_laidArea r1_1 r1_2 r1_3 r1_4 r1_5 v_waiting v_shiftX v_shiftY v_times v_dotsLaid v_joinedLaid v_hash r21_0 r21_1 r21_2 (upd r21_3 a0.toNatClampNeg (vp_nar .boolean r1_4)) r21_4 v_bufferA v_valuesA v_ranksA v_oldRanksA r1_6 v_allRanksA v_basesA v_isMetA v_metXA v_metYA v_lineA) H := hP
        have hD : va_D A (wdX5 G v_q0 v_q1 v_q2 v_q3 v_q4 v_q5 v_q6 v_q7 v_q8 v_q9 v_q10 v_q11 v_q12 v_q13 v_q14 v_q15 v_q16 j12_0 v_gain v_size v_w v_s v_h v_laidArea r1_1 r1_2 r1_3 r1_4 r1_5 v_waiting v_shiftX v_shiftY v_times v_dotsLaid v_joinedLaid v_hash r21_0 r21_1 r21_2 (upd r21_3 a0.toNatClampNeg (vp_nar .boolean r1_4)) r21_4 v_bufferA v_valuesA v_ranksA v_oldRanksA r1_6 v_allRanksA v_basesA v_isMetA v_metXA v_metYA v_lineA) := hD
        refine lv_aload_n hx hb dX5_load_143 rfl (lv_at hl 2 rfl) ?_
        refine lv_iconst (v := 0) hx hb dX5_load_144 (by decide) ?_
        refine va_put (D := G.1) (ci := 5) (v := .int 0) (ty := .int) (C := RX5) (T := TX5) (N := 35) hx hb hts fw_X5_load_X5 tyX5 tyX5_ok nmX5 hown hK.1 hP hD hS 0 rfl rfl 7 (by decide) (hts (.fieldLink RX5 123 "HalftoneScreensModel" "size" "I") lk_X5_load_f123) (fun _ h9 => h9) rfl (tyX5_ok 7 (by decide)) rfl rfl (Nat.le_of_ble_eq_true rfl) dX5_load_145 (fun H locs hP hD hS => ?_)
        have hP : va_P G.1 vwCl (wdX5 G v_q0 v_q1 v_q2 v_q3 v_q4 v_q5 v_q6 v_q7 v_q8 v_q9 v_q10 v_q11 v_q12 v_q13 v_q14 v_q15 v_q16 j12_0 v_gain 0 v_w v_s v_h v_laidArea r1_1 r1_2 r1_3 r1_4 r1_5 v_waiting v_shiftX v_shiftY v_times v_dotsLaid v_joinedLaid v_hash r21_0 r21_1 r21_2 (upd r21_3 a0.toNatClampNeg (vp_nar .boolean r1_4)) r21_4 v_bufferA v_valuesA v_ranksA v_oldRanksA r1_6 v_allRanksA v_basesA v_isMetA v_metXA v_metYA v_lineA) H := hP
        have hD : va_D A (wdX5 G v_q0 v_q1 v_q2 v_q3 v_q4 v_q5 v_q6 v_q7 v_q8 v_q9 v_q10 v_q11 v_q12 v_q13 v_q14 v_q15 v_q16 j12_0 v_gain 0 v_w v_s v_h v_laidArea r1_1 r1_2 r1_3 r1_4 r1_5 v_waiting v_shiftX v_shiftY v_times v_dotsLaid v_joinedLaid v_hash r21_0 r21_1 r21_2 (upd r21_3 a0.toNatClampNeg (vp_nar .boolean r1_4)) r21_4 v_bufferA v_valuesA v_ranksA v_oldRanksA r1_6 v_allRanksA v_basesA v_isMetA v_metXA v_metYA v_lineA) := hD
        refine lv_aload_n hx hb dX5_load_148 rfl (lv_at hl 2 rfl) ?_
        refine lv_iload_n hx hb dX5_load_149 rfl (lv_at hl 3 rfl) ?_
        obtain ⟨r23_0, g23, h⟩ := bnd1_e h
        refine roVi1 (rest := []) (As := [.int a0]) S (ctX5_areaIn l G v_q0 v_q1 v_q2 v_q3 v_q4 v_q5 v_q6 v_q7 v_q8 v_q9 v_q10 v_q11 v_q12 v_q13 v_q14 v_q15 v_q16 j12_0 v_gain 0 v_w v_s v_h v_laidArea r1_1 r1_2 r1_3 r1_4 r1_5 v_waiting v_shiftX v_shiftY v_times v_dotsLaid v_joinedLaid v_hash r21_0 r21_1 r21_2 (upd r21_3 a0.toNatClampNeg (vp_nar .boolean r1_4)) r21_4 v_bufferA v_valuesA v_ranksA v_oldRanksA r1_6 v_allRanksA v_basesA v_isMetA v_metXA v_metYA v_lineA a0 r23_0 g23) (cwV 1 hts gX5_load_X5_areaIn rfl rfl rfl hvX5_areaIn ⟨Nat.le_of_ble_eq_true rfl, Nat.le_of_ble_eq_true rfl⟩) hK hP [0, 1, 2, 3, 4, 5, 6, 7, 8, 9, 10, 11, 12, 13, 14, 15, 16] rfl 0 5 rfl rfl rfl rfl hl.1 rfl (Nat.le_of_ble_eq_true rfl) dX5_load_150 ⟨Nat.le_refl _, Nat.le_refl _⟩ (fun _ => ?_)
        obtain ⟨rfl, rfl, rfl, rfl, rfl, rfl, rfl, rfl, rfl, rfl, rfl, rfl, rfl, rfl⟩ := sm14 h
        exact hret _ _ _ _ _ rfl trivial rfl hP hD hS dX5_load_153
      · replace h := ite_f c16 h
        refine lv_iconst (v := 0) hx hb dX5_load_98 (by decide) ?_
        obtain ⟨rfl, rfl, rfl, rfl, rfl, rfl, rfl, rfl, rfl, rfl, rfl, rfl, rfl, rfl⟩ := sm14 h
        exact hret _ _ _ _ _ rfl trivial rfl hP hD hS dX5_load_99
    refine lv_if_ne (tgt := 71) hx hb dX5_load_64 (by decide) (fun c13 => ?_) (fun c13 => ?_)
    · replace h := ite_f c13 h
      refine lv_iload_n hx hb dX5_load_71 rfl (lv_at hl 1 rfl) ?_
      refine lv_if_ne (tgt := 79) hx hb dX5_load_72 (by decide) (fun c14 => ?_) (fun c14 => ?_)
      · replace h := ite_f c14 h
        refine lv_iload_n hx hb dX5_load_79 rfl (lv_at hl 0 rfl) ?_
        refine lv_if_eq (tgt := 87) hx hb dX5_load_80 (by decide) (fun c15 => ?_) (fun c15 => ?_)
        · replace h := ite_t c15 h
          refine lv_iconst (v := 3) hx hb dX5_load_87 (by decide) ?_
          exact J12 3 H locs ls h hl hP hD hS
        · replace h := ite_f c15 h
          refine lv_iconst (v := 0) hx hb dX5_load_83 (by decide) ?_
          refine lv_goto (tgt := 88) hx hb dX5_load_84 (by decide) ?_
          exact J12 0 H locs ls h hl hP hD hS
      · replace h := ite_t c14 h
        refine lv_iconst (v := 2) hx hb dX5_load_75 (by decide) ?_
        refine lv_goto (tgt := 88) hx hb dX5_load_76 (by decide) ?_
        exact J12 2 H locs ls h hl hP hD hS
    · replace h := ite_t c13 h
      refine lv_iconst (v := 1) hx hb dX5_load_67 (by decide) ?_
      refine lv_goto (tgt := 88) hx hb dX5_load_68 (by decide) ?_
      exact J12 1 H locs ls h hl hP hD hS
  refine lv_icmp_ne (tgt := 23) hx hb dX5_load_8 (by decide) (fun c3 => ?_) (fun c3 => ?_)
  · replace h := ite_f c3 h
    refine lv_iconst (v := 0) hx hb dX5_load_23 (by decide) ?_
    exact J2 0 isZ0 H locs ls h hl hP hD hS
  · replace h := ite_t c3 h
    refine lv_aload_n hx hb dX5_load_11 rfl (lv_at hl 0 rfl) ?_
    refine va_get (D := G.1) (ci := 5) (v := .int r1_3) (C := RX5) (T := TX5) (N := 35) hx hb hts fw_X5_load_X5 hown hK.1 hP 0 rfl rfl 19 (by decide) (hts (.fieldLink RX5 136 "HalftoneScreensModel" "readSpot" "I") lk_X5_load_f136) (fun _ h9 => h9) rfl dX5_load_12 ?_
    refine lv_iconst (v := (-1)) hx hb dX5_load_15 (by decide) ?_
    refine lv_icmp_eq (tgt := 23) hx hb dX5_load_16 (by decide) (fun c4 => ?_) (fun c4 => ?_)
    · replace h := ite_t c4 h
      refine lv_iconst (v := 0) hx hb dX5_load_23 (by decide) ?_
      exact J2 0 isZ0 H locs ls h hl hP hD hS
    · replace h := ite_f c4 h
      refine lv_iconst (v := 1) hx hb dX5_load_19 (by decide) ?_
      refine lv_goto (tgt := 24) hx hb dX5_load_20 (by decide) ?_
      exact J2 1 isZ1 H locs ls h hl hP hD hS
theorem fw_X5_setScreen_X5 : ∀ w ∈ wsX50, w ∈ wsX5_setScreen := fun w h => List.mem_cons_of_mem _ (List.mem_append_right _ h)
theorem lk_X5_setScreen_f59 : Cond.fieldLink RX5 59 "HalftoneScreensModel" "thrown" "I" ∈ wsX5_setScreen := List.mem_of_getElem? (i := 1) rfl
theorem hsX5_isPart : yX5_isPart.cls ≠ "java/lang/invoke/MethodHandle" ∧ yX5_isPart.cls ≠ "java/lang/invoke/VarHandle" ∧ (parseMethodDescriptor yX5_isPart.desc).map (fun d => d.parameters.length) = some 1 := by decide +kernel
theorem hvX5_isPart : yX5_isPart.cls = RX5 ∧ yX5_isPart.cls ≠ "java/lang/invoke/MethodHandle" ∧ yX5_isPart.cls ≠ "java/lang/invoke/VarHandle" ∧ (parseMethodDescriptor yX5_isPart.desc).map (fun d => d.parameters.length) = some 1 := ⟨rfl, hsX5_isPart⟩
abbrev rmX5_setScreen : Room := { frames := 3, cells := 0, slots := 0, locals := 64 }
set_option maxHeartbeats 4000000 in
set_option maxRecDepth 100000 in
theorem ctX5_setScreen (l : Launch) (G : GG) (v_q0 : Nat) (v_q1 : Nat) (v_q2 : Nat) (v_q3 : Nat) (v_q4 : Nat) (v_q5 : Nat) (v_q6 : Nat) (v_q7 : Nat) (v_q8 : Nat) (v_q9 : Nat) (v_q10 : Nat) (v_q11 : Nat) (v_q12 : Nat) (v_q13 : Nat) (v_q14 : Nat) (v_q15 : Nat) (v_q16 : Nat) (v_thrown : Int32) (v_gain : Int32) (v_size : Int32) (v_w : Int32) (v_s : Int32) (v_h : Int32) (v_laidArea : Int32) (v_parts : Int32) (v_isMinus : Int32) (v_readSpot : Int32) (v_isStar : Int32) (v_wantsNumber : Int32) (v_waiting : Int32) (v_shiftX : Int32) (v_shiftY : Int32) (v_times : Int32) (v_dotsLaid : Int32) (v_joinedLaid : Int32) (v_hash : Int64) (v_isThereA : (Nat → Int32)) (v_vA : (Nat → Int32)) (v_spotOfA : (Nat → Int32)) (v_inMiddleA : (Nat → Int32)) (v_tintsA : (Nat → Int32)) (v_bufferA : (Nat → Int32)) (v_valuesA : (Nat → Int32)) (v_ranksA : (Nat → Int32)) (v_oldRanksA : (Nat → Int32)) (v_partA : (Nat → Int32)) (v_allRanksA : (Nat → Int32)) (v_basesA : (Nat → Int32)) (v_isMetA : (Nat → Int32)) (v_metXA : (Nat → Int32)) (v_metYA : (Nat → Int32)) (v_lineA : (Nat → Int32)) (a0 : Int32) (a1 : Int32) (a2 : Int32) (a3 : Int32) (a4 : Int32) (a5 : Int32) (o0 : Int32) (o1 : Int32) (o2 : (Nat → Int32)) (o3 : (Nat → Int32)) (o4 : (Nat → Int32)) (o5 : (Nat → Int32)) (o6 : (Nat → Int32)) (h : mX5_setScreen v_isThereA v_vA v_spotOfA v_inMiddleA v_tintsA a0 a1 a2 a3 a4 a5 = some (o0, o1, o2, o3, o4, o5, o6))  : Met l yX5_setScreen wsX5_setScreen rmX5_setScreen (va_Pc [.ref v_q0, .int a0, .int a1, .int a2, .int a3, .int a4, .int a5] (PreD G (wdX5 G v_q0 v_q1 v_q2 v_q3 v_q4 v_q5 v_q6 v_q7 v_q8 v_q9 v_q10 v_q11 v_q12 v_q13 v_q14 v_q15 v_q16 v_thrown v_gain v_size v_w v_s v_h v_laidArea v_parts v_isMinus v_readSpot v_isStar v_wantsNumber v_waiting v_shiftX v_shiftY v_times v_dotsLaid v_joinedLaid v_hash v_isThereA v_vA v_spotOfA v_inMiddleA v_tintsA v_bufferA v_valuesA v_ranksA v_oldRanksA v_partA v_allRanksA v_basesA v_isMetA v_metXA v_metYA v_lineA) (fun _ => True))) (QwA G (va_A0 (wdX5 G v_q0 v_q1 v_q2 v_q3 v_q4 v_q5 v_q6 v_q7 v_q8 v_q9 v_q10 v_q11 v_q12 v_q13 v_q14 v_q15 v_q16 v_thrown v_gain v_size v_w v_s v_h v_laidArea v_parts v_isMinus v_readSpot v_isStar v_wantsNumber v_waiting v_shiftX v_shiftY v_times v_dotsLaid v_joinedLaid v_hash v_isThereA v_vA v_spotOfA v_inMiddleA v_tintsA v_bufferA v_valuesA v_ranksA v_oldRanksA v_partA v_allRanksA v_basesA v_isMetA v_metXA v_metYA v_lineA)) (wdX5 G v_q0 v_q1 v_q2 v_q3 v_q4 v_q5 v_q6 v_q7 v_q8 v_q9 v_q10 v_q11 v_q12 v_q13 v_q14 v_q15 v_q16 o1 v_gain v_size v_w v_s v_h v_laidArea v_parts v_isMinus v_readSpot v_isStar v_wantsNumber v_waiting v_shiftX v_shiftY v_times v_dotsLaid v_joinedLaid v_hash o2 o3 o4 o5 o6 v_bufferA v_valuesA v_ranksA v_oldRanksA v_partA v_allRanksA v_basesA v_isMetA v_metXA v_metYA v_lineA) (some (.int o0)) True) 0 0 (va_A0 (wdX5 G v_q0 v_q1 v_q2 v_q3 v_q4 v_q5 v_q6 v_q7 v_q8 v_q9 v_q10 v_q11 v_q12 v_q13 v_q14 v_q15 v_q16 v_thrown v_gain v_size v_w v_s v_h v_laidArea v_parts v_isMinus v_readSpot v_isStar v_wantsNumber v_waiting v_shiftX v_shiftY v_times v_dotsLaid v_joinedLaid v_hash v_isThereA v_vA v_spotOfA v_inMiddleA v_tintsA v_bufferA v_valuesA v_ranksA v_oldRanksA v_partA v_allRanksA v_basesA v_isMetA v_metXA v_metYA v_lineA)) := by
  refine of_wi (cc := cX5_setScreen) (maxL := 9) (ty := .int) (plainFor_of_name (by decide)) rfl (Nat.le_of_ble_eq_true rfl) ?_
  intro p e s m args below meth c ls Q A S hl hP hD hS hK hX hA hret
  obtain ⟨H, hH⟩ : ∃ H, H = s.heap := ⟨_, rfl⟩
  obtain ⟨locs, hlocs⟩ : ∃ L : List Loc, L = [] := ⟨_, rfl⟩
  rw [← hlocs]
  rw [← hlocs] at hS
  have hP : va_P G.1 vwCl (wdX5 G v_q0 v_q1 v_q2 v_q3 v_q4 v_q5 v_q6 v_q7 v_q8 v_q9 v_q10 v_q11 v_q12 v_q13 v_q14 v_q15 v_q16 v_thrown v_gain v_size v_w v_s v_h v_laidArea v_parts v_isMinus v_readSpot v_isStar v_wantsNumber v_waiting v_shiftX v_shiftY v_times v_dotsLaid v_joinedLaid v_hash v_isThereA v_vA v_spotOfA v_inMiddleA v_tintsA v_bufferA v_valuesA v_ranksA v_oldRanksA v_partA v_allRanksA v_basesA v_isMetA v_metXA v_metYA v_lineA) H := by rw [hH]; exact hP
  have hS : va_S A s.heap H locs := by rw [hH]; exact hS
  suffices hgo : W p l e rmX5_setScreen s m args below meth c H locs 0 0 Q (F0 m 0 ls []) by rw [hH] at hgo; exact hgo
  have S : CallFix p m c cX5_setScreen 9 s args wsX5_setScreen RX5 := S
  obtain ⟨hx, hb, hml, hown, hts⟩ := id S
  have hl : lv_has ls 9 [(0, .ref v_q0), (1, .int a0), (2, .int a1), (3, .int a2), (4, .int a3), (5, .int a4), (6, .int a5)] := hl
  unfold mX5_setScreen at h
  refine lv_iload_n hx hb dX5_setScreen_0 rfl (lv_at hl 2 rfl) ?_
  obtain ⟨r1_0, g1, h⟩ := bnd1_e h
  refine roSi1 (rest := []) (As := [.int a1]) S (ctX5_isPart l G a1 r1_0 g1) (va_cwS 1 hts gX5_setScreen_X5_isPart rfl rfl rfl hsX5_isPart ⟨Nat.le_of_ble_eq_true rfl, Nat.le_of_ble_eq_true rfl⟩) hK hP [] rfl rfl hl.1 rfl (Nat.le_of_ble_eq_true rfl) dX5_setScreen_1 ⟨Nat.le_refl _, Nat.le_refl _⟩ (fun hz1 => ?_)
  obtain ⟨K2, hK2, h⟩ := jB1_e h
  have J2 : ∀ (j2_0 : Int32) (jz2_0 : isZ j2_0) (H : Heap) (locs : List Loc) (ls : Array Slot), K2 j2_0 = some (o0, o1, o2, o3, o4, o5, o6) → lv_has ls 9 [(0, .ref v_q0), (1, .int a0), (2, .int a1), (3, .int a2), (4, .int a3), (5, .int a4), (6, .int a5)] → va_P G.1 vwCl (wdX5 G v_q0 v_q1 v_q2 v_q3 v_q4 v_q5 v_q6 v_q7 v_q8 v_q9 v_q10 v_q11 v_q12 v_q13 v_q14 v_q15 v_q16 v_thrown v_gain v_size v_w v_s v_h v_laidArea v_parts v_isMinus v_readSpot v_isStar v_wantsNumber v_waiting v_shiftX v_shiftY v_times v_dotsLaid v_joinedLaid v_hash v_isThereA v_vA v_spotOfA v_inMiddleA v_tintsA v_bufferA v_valuesA v_ranksA v_oldRanksA v_partA v_allRanksA v_basesA v_isMetA v_metXA v_metYA v_lineA) H → va_D A (wdX5 G v_q0 v_q1 v_q2 v_q3 v_q4 v_q5 v_q6 v_q7 v_q8 v_q9 v_q10 v_q11 v_q12 v_q13 v_q14 v_q15 v_q16 v_thrown v_gain v_size v_w v_s v_h v_laidArea v_parts v_isMinus v_readSpot v_isStar v_wantsNumber v_waiting v_shiftX v_shiftY v_times v_dotsLaid v_joinedLaid v_hash v_isThereA v_vA v_spotOfA v_inMiddleA v_tintsA v_bufferA v_valuesA v_ranksA v_oldRanksA v_partA v_allRanksA v_basesA v_isMetA v_metXA v_metYA v_lineA) → va_S A s.heap H locs → W p l e rmX5_setScreen s m args below meth c H locs 0 0 Q (F0 m 35 ls [.int j2_0]) := by
    intro j2_0 jz2_0 H locs ls h hl hP hD hS
    replace h := (hK2 j2_0).symm.trans h
    refine lv_istore (lv' := [(7, .int j2_0), (0, .ref v_q0), (1, .int a0), (2, .int a1), (3, .int a2), (4, .int a3), (5, .int a4), (6, .int a5)]) hx hb dX5_setScreen_35 hl (by decide) rfl (fun ls hl => ?_)
    refine lv_iload hx hb dX5_setScreen_37 (lv_at hl 0 rfl) ?_
    obtain ⟨K10, hK10, h⟩ := jB1_e h
    have J10 : ∀ (j10_0 : Int32) (jz10_0 : isZ j10_0) (H : Heap) (locs : List Loc) (ls : Array Slot), K10 j10_0 = some (o0, o1, o2, o3, o4, o5, o6) → lv_has ls 9 [(7, .int j2_0), (0, .ref v_q0), (1, .int a0), (2, .int a1), (3, .int a2), (4, .int a3), (5, .int a4), (6, .int a5)] → va_P G.1 vwCl (wdX5 G v_q0 v_q1 v_q2 v_q3 v_q4 v_q5 v_q6 v_q7 v_q8 v_q9 v_q10 v_q11 v_q12 v_q13 v_q14 v_q15 v_q16 v_thrown v_gain v_size v_w v_s v_h v_laidArea v_parts v_isMinus v_readSpot v_isStar v_wantsNumber v_waiting v_shiftX v_shiftY v_times v_dotsLaid v_joinedLaid v_hash v_isThereA v_vA v_spotOfA v_inMiddleA v_tintsA v_bufferA v_valuesA v_ranksA v_oldRanksA v_partA v_allRanksA v_basesA v_isMetA v_metXA v_metYA v_lineA) H → va_D A (wdX5 G v_q0 v_q1 v_q2 v_q3 v_q4 v_q5 v_q6 v_q7 v_q8 v_q9 v_q10 v_q11 v_q12 v_q13 v_q14 v_q15 v_q16 v_thrown v_gain v_size v_w v_s v_h v_laidArea v_parts v_isMinus v_readSpot v_isStar v_wantsNumber v_waiting v_shiftX v_shiftY v_times v_dotsLaid v_joinedLaid v_hash v_isThereA v_vA v_spotOfA v_inMiddleA v_tintsA v_bufferA v_valuesA v_ranksA v_oldRanksA v_partA v_allRanksA v_basesA v_isMetA v_metXA v_metYA v_lineA) → va_S A s.heap H locs → W p l e rmX5_setScreen s m args below meth c H locs 0 0 Q (F0 m 75 ls [.int j10_0]) := by
      intro j10_0 jz10_0 H locs ls h hl hP hD hS
      replace h := (hK10 j10_0).symm.trans h
      refine lv_istore (lv' := [(8, .int j10_0), (7, .int j2_0), (0, .ref v_q0), (1, .int a0), (2, .int a1), (3, .int a2), (4, .int a3), (5, .int a4), (6, .int a5)]) hx hb dX5_setScreen_75 hl (by decide) rfl (fun ls hl => ?_)
      refine lv_aload_n hx hb dX5_setScreen_77 rfl (lv_at hl 2 rfl) ?_
      refine lv_iload_n hx hb dX5_setScreen_78 rfl (lv_at hl 3 rfl) ?_
      obtain ⟨r17_0, g17, h⟩ := bnd1_e h
      refine roSi1 (rest := [.ref v_q0]) (As := [.int a0]) S (ctX5_isSlot l G a0 r17_0 g17) (va_cwS 1 hts gX5_setScreen_X5_isSlot rfl rfl rfl hsX5_isSlot ⟨Nat.le_of_ble_eq_true rfl, Nat.le_of_ble_eq_true rfl⟩) hK hP [] rfl rfl hl.1 rfl (Nat.le_of_ble_eq_true rfl) dX5_setScreen_79 ⟨Nat.le_refl _, Nat.le_refl _⟩ (fun hz17 => ?_)
      obtain ⟨K18, hK18, h⟩ := jB1_e h
      have J18 : ∀ (j18_0 : Int32) (H : Heap) (locs : List Loc) (ls : Array Slot), K18 j18_0 = some (o0, o1, o2, o3, o4, o5, o6) → lv_has ls 9 [(8, .int j10_0), (7, .int j2_0), (0, .ref v_q0), (1, .int a0), (2, .int a1), (3, .int a2), (4, .int a3), (5, .int a4), (6, .int a5)] → va_P G.1 vwCl (wdX5 G v_q0 v_q1 v_q2 v_q3 v_q4 v_q5 v_q6 v_q7 v_q8 v_q9 v_q10 v_q11 v_q12 v_q13 v_q14 v_q15 v_q16 v_thrown v_gain v_size v_w v_s v_h v_laidArea v_parts v_isMinus v_readSpot v_isStar v_wantsNumber v_waiting v_shiftX v_shiftY v_times v_dotsLaid v_joinedLaid v_hash v_isThereA v_vA v_spotOfA v_inMiddleA v_tintsA v_bufferA v_valuesA v_ranksA v_oldRanksA v_partA v_allRanksA v_basesA v_isMetA v_metXA v_metYA v_lineA) H → va_D A (wdX5 G v_q0 v_q1 v_q2 v_q3 v_q4 v_q5 v_q6 v_q7 v_q8 v_q9 v_q10 v_q11 v_q12 v_q13 v_q14 v_q15 v_q16 v_thrown v_gain v_size v_w v_s v_h v_laidArea v_parts v_isMinus v_readSpot v_isStar v_wantsNumber v_waiting v_shiftX v_shiftY v_times v_dotsLaid v_joinedLaid v_hash v_isThereA v_vA v_spotOfA v_inMiddleA v_tintsA v_bufferA v_valuesA v_ranksA v_oldRanksA v_partA v_allRanksA v_basesA v_isMetA v_metXA v_metYA v_lineA) → va_S A s.heap H locs → W p l e rmX5_setScreen s m args below meth c H locs 0 0 Q (F0 m 99 ls [.int j18_0, .ref v_q0]) := by
        intro j18_0 H locs ls h hl hP hD hS
        replace h := (hK18 j18_0).symm.trans h
        refine va_put (D := G.1) (ci := 5) (v := .int j18_0) (ty := .int) (C := RX5) (T := TX5) (N := 35) hx hb hts fw_X5_setScreen_X5 tyX5 tyX5_ok nmX5 hown hK.1 hP hD hS 0 rfl rfl 0 (by decide) (hts (.fieldLink RX5 59 "HalftoneScreensModel" "thrown" "I") lk_X5_setScreen_f59) (fun _ h9 => h9) rfl (tyX5_ok 0 (by decide)) rfl rfl (Nat.le_of_ble_eq_true rfl) dX5_setScreen_99 (fun H locs hP hD hS => ?_)
        have hP : va_P G.1 vwCl (wdX5 G v_q0 v_q1 v_q2 v_q3 v_q4 v_q5 v_q6 v_q7 v_q8 v_q9 v_q10 v_q11 v_q12 v_q13 v_q14 v_q15 v_q16 j18_0 v_gain v_size v_w v_s v_h v_laidArea v_parts v_isMinus v_readSpot v_isStar v_wantsNumber v_waiting v_shiftX v_shiftY v_times v_dotsLaid v_joinedLaid v_hash v_isThereA v_vA v_spotOfA v_inMiddleA v_tintsA v_bufferA v_valuesA v_ranksA v_oldRanksA v_partA v_allRanksA v_basesA v_isMetA v_metXA v_metYA v_lineA) H := hP
        have hD : va_D A (wdX5 G v_q0 v_q1 v_q2 v_q3 v_q4 v_q5 v_q6 v_q7 v_q8 v_q9 v_q10 v_q11 v_q12 v_q13 v_q14 v_q15 v_q16 j18_0 v_gain v_size v_w v_s v_h v_laidArea v_parts v_isMinus v_readSpot v_isStar v_wantsNumber v_waiting v_shiftX v_shiftY v_times v_dotsLaid v_joinedLaid v_hash v_isThereA v_vA v_spotOfA v_inMiddleA v_tintsA v_bufferA v_valuesA v_ranksA v_oldRanksA v_partA v_allRanksA v_basesA v_isMetA v_metXA v_metYA v_lineA) := hD
        refine lv_aload_n hx hb dX5_setScreen_102 rfl (lv_at hl 2 rfl) ?_
        refine va_get (D := G.1) (ci := 5) (v := .int j18_0) (C := RX5) (T := TX5) (N := 35) hx hb hts fw_X5_setScreen_X5 hown hK.1 hP 0 rfl rfl 0 (by decide) (hts (.fieldLink RX5 59 "HalftoneScreensModel" "thrown" "I") lk_X5_setScreen_f59) (fun _ h9 => h9) rfl dX5_setScreen_103 ?_
        refine lv_if_le (tgt := 111) hx hb dX5_setScreen_106 (by decide) (fun c21 => ?_) (fun c21 => ?_)
        · replace h := ite_t c21 h
          refine lv_aload_n hx hb dX5_setScreen_111 rfl (lv_at hl 2 rfl) ?_
          refine lv_iload_n hx hb dX5_setScreen_112 rfl (lv_at hl 3 rfl) ?_
          refine lv_iload_n hx hb dX5_setScreen_113 rfl (lv_at hl 4 rfl) ?_
          refine lv_iload_n hx hb dX5_setScreen_114 rfl (lv_at hl 5 rfl) ?_
          refine lv_iload hx hb dX5_setScreen_115 (lv_at hl 6 rfl) ?_
          refine lv_iload hx hb dX5_setScreen_117 (lv_at hl 7 rfl) ?_
          refine lv_iload hx hb dX5_setScreen_119 (lv_at hl 8 rfl) ?_
          obtain ⟨r22_0, r22_1, r22_2, r22_3, r22_4, g22, h⟩ := bnd5_e h
          refine rwV_same (rest := []) (As := [.int a0, .int a1, .int a2, .int a3, .int a4, .int a5]) S (ctX5_put l G v_q0 v_q1 v_q2 v_q3 v_q4 v_q5 v_q6 v_q7 v_q8 v_q9 v_q10 v_q11 v_q12 v_q13 v_q14 v_q15 v_q16 j18_0 v_gain v_size v_w v_s v_h v_laidArea v_parts v_isMinus v_readSpot v_isStar v_wantsNumber v_waiting v_shiftX v_shiftY v_times v_dotsLaid v_joinedLaid v_hash v_isThereA v_vA v_spotOfA v_inMiddleA v_tintsA v_bufferA v_valuesA v_ranksA v_oldRanksA v_partA v_allRanksA v_basesA v_isMetA v_metXA v_metYA v_lineA a0 a1 a2 a3 a4 a5 r22_0 r22_1 r22_2 r22_3 r22_4 g22) (cwV 6 hts gX5_setScreen_X5_put rfl rfl rfl hvX5_put ⟨Nat.le_of_ble_eq_true rfl, Nat.le_of_ble_eq_true rfl⟩) hK hP hD hS xb_triv (fun _ _ _ => trivial) 0 5 rfl rfl rfl rfl hl.1 rfl (Nat.le_of_ble_eq_true rfl) dX5_setScreen_121 ⟨Nat.le_refl _, Nat.le_refl _⟩ (fun _ H locs hP hD hS => ?_)
          have hP : va_P G.1 vwCl (wdX5 G v_q0 v_q1 v_q2 v_q3 v_q4 v_q5 v_q6 v_q7 v_q8 v_q9 v_q10 v_q11 v_q12 v_q13 v_q14 v_q15 v_q16 j18_0 v_gain v_size v_w v_s v_h v_laidArea v_parts v_isMinus v_readSpot v_isStar v_wantsNumber v_waiting v_shiftX v_shiftY v_times v_dotsLaid v_joinedLaid v_hash r22_0 r22_1 r22_2 r22_3 r22_4 v_bufferA v_valuesA v_ranksA v_oldRanksA v_partA v_allRanksA v_basesA v_isMetA v_metXA v_metYA v_lineA) H := hP
          have hD : va_D A (wdX5 G v_q0 v_q1 v_q2 v_q3 v_q4 v_q5 v_q6 v_q7 v_q8 v_q9 v_q10 v_q11 v_q12 v_q13 v_q14 v_q15 v_q16 j18_0 v_gain v_size v_w v_s v_h v_laidArea v_parts v_isMinus v_readSpot v_isStar v_wantsNumber v_waiting v_shiftX v_shiftY v_times v_dotsLaid v_joinedLaid v_hash r22_0 r22_1 r22_2 r22_3 r22_4 v_bufferA v_valuesA v_ranksA v_oldRanksA v_partA v_allRanksA v_basesA v_isMetA v_metXA v_metYA v_lineA) := hD
          refine lv_aload_n hx hb dX5_setScreen_124 rfl (lv_at hl 2 rfl) ?_
          refine lv_iload_n hx hb dX5_setScreen_125 rfl (lv_at hl 3 rfl) ?_
          obtain ⟨r23_0, g23, h⟩ := bnd1_e h
          refine roVi1 (rest := []) (As := [.int a0]) S (ctX5_areaIn l G v_q0 v_q1 v_q2 v_q3 v_q4 v_q5 v_q6 v_q7 v_q8 v_q9 v_q10 v_q11 v_q12 v_q13 v_q14 v_q15 v_q16 j18_0 v_gain v_size v_w v_s v_h v_laidArea v_parts v_isMinus v_readSpot v_isStar v_wantsNumber v_waiting v_shiftX v_shiftY v_times v_dotsLaid v_joinedLaid v_hash r22_0 r22_1 r22_2 r22_3 r22_4 v_bufferA v_valuesA v_ranksA v_oldRanksA v_partA v_allRanksA v_basesA v_isMetA v_metXA v_metYA v_lineA a0 r23_0 g23) (cwV 1 hts gX5_setScreen_X5_areaIn rfl rfl rfl hvX5_areaIn ⟨Nat.le_of_ble_eq_true rfl, Nat.le_of_ble_eq_true rfl⟩) hK hP [0, 1, 2, 3, 4, 5, 6, 7, 8, 9, 10, 11, 12, 13, 14, 15, 16] rfl 0 5 rfl rfl rfl rfl hl.1 rfl (Nat.le_of_ble_eq_true rfl) dX5_setScreen_126 ⟨Nat.le_refl _, Nat.le_refl _⟩ (fun _ => ?_)
          obtain ⟨rfl, rfl, rfl, rfl, rfl, rfl, rfl⟩ := sm7 h
          exact hret _ _ _ _ _ rfl trivial rfl hP hD hS dX5_setScreen_129
        · replace h := ite_f c21 h
          refine lv_iconst (v := 0) hx hb dX5_setScreen_109 (by decide) ?_
          obtain ⟨rfl, rfl, rfl, rfl, rfl, rfl, rfl⟩ := sm7 h
          exact hret _ _ _ _ _ rfl trivial rfl hP hD hS dX5_setScreen_110
      refine lv_if_ne (tgt := 89) hx hb dX5_setScreen_82 (by decide) (fun c19 => ?_) (fun c19 => ?_)
      · replace h := ite_f c19 h
        refine lv_iload hx hb dX5_setScreen_89 (lv_at hl 0 rfl) ?_
        refine lv_if_eq (tgt := 98) hx hb dX5_setScreen_91 (by decide) (fun c20 => ?_) (fun c20 => ?_)
        · replace h := ite_t c20 h
          refine lv_iconst (v := 2) hx hb dX5_setScreen_98 (by decide) ?_
          exact J18 2 H locs ls h hl hP hD hS
        · replace h := ite_f c20 h
          refine lv_iconst (v := 0) hx hb dX5_setScreen_94 (by decide) ?_
          refine lv_goto (tgt := 99) hx hb dX5_setScreen_95 (by decide) ?_
          exact J18 0 H locs ls h hl hP hD hS
      · replace h := ite_t c19 h
        refine lv_iconst (v := 1) hx hb dX5_setScreen_85 (by decide) ?_
        refine lv_goto (tgt := 99) hx hb dX5_setScreen_86 (by decide) ?_
        exact J18 1 H locs ls h hl hP hD hS
    refine lv_if_eq (tgt := 74) hx hb dX5_setScreen_39 (by decide) (fun c11 => ?_) (fun c11 => ?_)
    · replace h := ite_t c11 h
      refine lv_iconst (v := 0) hx hb dX5_setScreen_74 (by decide) ?_
      exact J10 0 isZ0 H locs ls h hl hP hD hS
    · replace h := ite_f c11 h
      refine lv_iload hx hb dX5_setScreen_42 (lv_at hl 7 rfl) ?_
      refine lv_iconst (v := 0) hx hb dX5_setScreen_44 (by decide) ?_
      refine lv_iconst (v := 4) hx hb dX5_setScreen_45 (by decide) ?_
      obtain ⟨r12_0, g12, h⟩ := bnd1_e h
      refine roSi1 (rest := []) (As := [.int a5, .int 0, .int 4]) S (ctX5_within l G a5 0 4 r12_0 g12) (va_cwS 3 hts gX5_setScreen_X5_within rfl rfl rfl hsX5_within ⟨Nat.le_of_ble_eq_true rfl, Nat.le_of_ble_eq_true rfl⟩) hK hP [] rfl rfl hl.1 rfl (Nat.le_of_ble_eq_true rfl) dX5_setScreen_46 ⟨Nat.le_refl _, Nat.le_refl _⟩ (fun hz12 => ?_)
      refine lv_if_eq (tgt := 74) hx hb dX5_setScreen_49 (by decide) (fun c13 => ?_) (fun c13 => ?_)
      · replace h := ite_t c13 h
        refine lv_iconst (v := 0) hx hb dX5_setScreen_74 (by decide) ?_
        exact J10 0 isZ0 H locs ls h hl hP hD hS
      · replace h := ite_f c13 h
        refine lv_iload_n hx hb dX5_setScreen_52 rfl (lv_at hl 3 rfl) ?_
        refine lv_iload_n hx hb dX5_setScreen_53 rfl (lv_at hl 4 rfl) ?_
        refine lv_iload hx hb dX5_setScreen_54 (lv_at hl 5 rfl) ?_
        refine lv_iload hx hb dX5_setScreen_56 (lv_at hl 6 rfl) ?_
        obtain ⟨r14_0, g14, h⟩ := bnd1_e h
        refine roSi1 (rest := []) (As := [.int a1, .int a2, .int a3, .int a4]) S (ctX5_areaOf l G a1 a2 a3 a4 r14_0 g14) (va_cwS 4 hts gX5_setScreen_X5_areaOf rfl rfl rfl hsX5_areaOf ⟨Nat.le_of_ble_eq_true rfl, Nat.le_of_ble_eq_true rfl⟩) hK hP [] rfl rfl hl.1 rfl (Nat.le_of_ble_eq_true rfl) dX5_setScreen_58 ⟨Nat.le_refl _, Nat.le_refl _⟩ (fun _ => ?_)
        refine lv_iconst (v := 1) hx hb dX5_setScreen_61 (by decide) ?_
        refine lv_bipush (v := 64) hx hb dX5_setScreen_62 (by decide) ?_
        obtain ⟨r15_0, g15, h⟩ := bnd1_e h
        refine roSi1 (rest := []) (As := [.int r14_0, .int 1, .int 64]) S (ctX5_within l G r14_0 1 64 r15_0 g15) (va_cwS 3 hts gX5_setScreen_X5_within rfl rfl rfl hsX5_within ⟨Nat.le_of_ble_eq_true rfl, Nat.le_of_ble_eq_true rfl⟩) hK hP [] rfl rfl hl.1 rfl (Nat.le_of_ble_eq_true rfl) dX5_setScreen_64 ⟨Nat.le_refl _, Nat.le_refl _⟩ (fun hz15 => ?_)
        refine lv_if_eq (tgt := 74) hx hb dX5_setScreen_67 (by decide) (fun c16 => ?_) (fun c16 => ?_)
        · replace h := ite_t c16 h
          refine lv_iconst (v := 0) hx hb dX5_setScreen_74 (by decide) ?_
          exact J10 0 isZ0 H locs ls h hl hP hD hS
        · replace h := ite_f c16 h
          refine lv_iconst (v := 1) hx hb dX5_setScreen_70 (by decide) ?_
          refine lv_goto (tgt := 75) hx hb dX5_setScreen_71 (by decide) ?_
          exact J10 1 isZ1 H locs ls h hl hP hD hS
  refine lv_if_eq (tgt := 34) hx hb dX5_setScreen_4 (by decide) (fun c3 => ?_) (fun c3 => ?_)
  · replace h := ite_t c3 h
    refine lv_iconst (v := 0) hx hb dX5_setScreen_34 (by decide) ?_
    exact J2 0 isZ0 H locs ls h hl hP hD hS
  · replace h := ite_f c3 h
    refine lv_iload_n hx hb dX5_setScreen_7 rfl (lv_at hl 3 rfl) ?_
    obtain ⟨r4_0, g4, h⟩ := bnd1_e h
    refine roSi1 (rest := []) (As := [.int a2]) S (ctX5_isPart l G a2 r4_0 g4) (va_cwS 1 hts gX5_setScreen_X5_isPart rfl rfl rfl hsX5_isPart ⟨Nat.le_of_ble_eq_true rfl, Nat.le_of_ble_eq_true rfl⟩) hK hP [] rfl rfl hl.1 rfl (Nat.le_of_ble_eq_true rfl) dX5_setScreen_8 ⟨Nat.le_refl _, Nat.le_refl _⟩ (fun hz4 => ?_)
    refine lv_if_eq (tgt := 34) hx hb dX5_setScreen_11 (by decide) (fun c5 => ?_) (fun c5 => ?_)
    · replace h := ite_t c5 h
      refine lv_iconst (v := 0) hx hb dX5_setScreen_34 (by decide) ?_
      exact J2 0 isZ0 H locs ls h hl hP hD hS
    · replace h := ite_f c5 h
      refine lv_iload hx hb dX5_setScreen_14 (lv_at hl 4 rfl) ?_
      obtain ⟨r6_0, g6, h⟩ := bnd1_e h
      refine roSi1 (rest := []) (As := [.int a3]) S (ctX5_isPart l G a3 r6_0 g6) (va_cwS 1 hts gX5_setScreen_X5_isPart rfl rfl rfl hsX5_isPart ⟨Nat.le_of_ble_eq_true rfl, Nat.le_of_ble_eq_true rfl⟩) hK hP [] rfl rfl hl.1 rfl (Nat.le_of_ble_eq_true rfl) dX5_setScreen_16 ⟨Nat.le_refl _, Nat.le_refl _⟩ (fun hz6 => ?_)
      refine lv_if_eq (tgt := 34) hx hb dX5_setScreen_19 (by decide) (fun c7 => ?_) (fun c7 => ?_)
      · replace h := ite_t c7 h
        refine lv_iconst (v := 0) hx hb dX5_setScreen_34 (by decide) ?_
        exact J2 0 isZ0 H locs ls h hl hP hD hS
      · replace h := ite_f c7 h
        refine lv_iload hx hb dX5_setScreen_22 (lv_at hl 5 rfl) ?_
        obtain ⟨r8_0, g8, h⟩ := bnd1_e h
        refine roSi1 (rest := []) (As := [.int a4]) S (ctX5_isPart l G a4 r8_0 g8) (va_cwS 1 hts gX5_setScreen_X5_isPart rfl rfl rfl hsX5_isPart ⟨Nat.le_of_ble_eq_true rfl, Nat.le_of_ble_eq_true rfl⟩) hK hP [] rfl rfl hl.1 rfl (Nat.le_of_ble_eq_true rfl) dX5_setScreen_24 ⟨Nat.le_refl _, Nat.le_refl _⟩ (fun hz8 => ?_)
        refine lv_if_eq (tgt := 34) hx hb dX5_setScreen_27 (by decide) (fun c9 => ?_) (fun c9 => ?_)
        · replace h := ite_t c9 h
          refine lv_iconst (v := 0) hx hb dX5_setScreen_34 (by decide) ?_
          exact J2 0 isZ0 H locs ls h hl hP hD hS
        · replace h := ite_f c9 h
          refine lv_iconst (v := 1) hx hb dX5_setScreen_30 (by decide) ?_
          refine lv_goto (tgt := 35) hx hb dX5_setScreen_31 (by decide) ?_
          exact J2 1 isZ1 H locs ls h hl hP hD hS
theorem fw_X5_remove_X5 : ∀ w ∈ wsX50, w ∈ wsX5_remove := fun w h => List.mem_cons_of_mem _ (List.mem_append_right _ h)
theorem lk_X5_remove_f59 : Cond.fieldLink RX5 59 "HalftoneScreensModel" "thrown" "I" ∈ wsX5_remove := List.mem_of_getElem? (i := 1) rfl
theorem lk_X5_remove_f7 : Cond.fieldLink RX5 7 "HalftoneScreensModel" "isThere" "[Z" ∈ wsX5_remove := List.mem_of_getElem? (i := 2) rfl
theorem hsX5_screens : yX5_screens.cls ≠ "java/lang/invoke/MethodHandle" ∧ yX5_screens.cls ≠ "java/lang/invoke/VarHandle" ∧ (parseMethodDescriptor yX5_screens.desc).map (fun d => d.parameters.length) = some 0 := by decide +kernel
theorem hvX5_screens : yX5_screens.cls = RX5 ∧ yX5_screens.cls ≠ "java/lang/invoke/MethodHandle" ∧ yX5_screens.cls ≠ "java/lang/invoke/VarHandle" ∧ (parseMethodDescriptor yX5_screens.desc).map (fun d => d.parameters.length) = some 0 := ⟨rfl, hsX5_screens⟩
abbrev rmX5_remove : Room := { frames := 3, cells := 0, slots := 0, locals := 63 }
set_option maxHeartbeats 4000000 in
set_option maxRecDepth 100000 in
theorem ctX5_remove (l : Launch) (G : GG) (v_q0 : Nat) (v_q1 : Nat) (v_q2 : Nat) (v_q3 : Nat) (v_q4 : Nat) (v_q5 : Nat) (v_q6 : Nat) (v_q7 : Nat) (v_q8 : Nat) (v_q9 : Nat) (v_q10 : Nat) (v_q11 : Nat) (v_q12 : Nat) (v_q13 : Nat) (v_q14 : Nat) (v_q15 : Nat) (v_q16 : Nat) (v_thrown : Int32) (v_gain : Int32) (v_size : Int32) (v_w : Int32) (v_s : Int32) (v_h : Int32) (v_laidArea : Int32) (v_parts : Int32) (v_isMinus : Int32) (v_readSpot : Int32) (v_isStar : Int32) (v_wantsNumber : Int32) (v_waiting : Int32) (v_shiftX : Int32) (v_shiftY : Int32) (v_times : Int32) (v_dotsLaid : Int32) (v_joinedLaid : Int32) (v_hash : Int64) (v_isThereA : (Nat → Int32)) (v_vA : (Nat → Int32)) (v_spotOfA : (Nat → Int32)) (v_inMiddleA : (Nat → Int32)) (v_tintsA : (Nat → Int32)) (v_bufferA : (Nat → Int32)) (v_valuesA : (Nat → Int32)) (v_ranksA : (Nat → Int32)) (v_oldRanksA : (Nat → Int32)) (v_partA : (Nat → Int32)) (v_allRanksA : (Nat → Int32)) (v_basesA : (Nat → Int32)) (v_isMetA : (Nat → Int32)) (v_metXA : (Nat → Int32)) (v_metYA : (Nat → Int32)) (v_lineA : (Nat → Int32)) (a0 : Int32) (o0 : Int32) (o1 : Int32) (o2 : (Nat → Int32)) (h : mX5_remove v_isThereA a0 = some (o0, o1, o2))  : Met l yX5_remove wsX5_remove rmX5_remove (va_Pc [.ref v_q0, .int a0] (PreD G (wdX5 G v_q0 v_q1 v_q2 v_q3 v_q4 v_q5 v_q6 v_q7 v_q8 v_q9 v_q10 v_q11 v_q12 v_q13 v_q14 v_q15 v_q16 v_thrown v_gain v_size v_w v_s v_h v_laidArea v_parts v_isMinus v_readSpot v_isStar v_wantsNumber v_waiting v_shiftX v_shiftY v_times v_dotsLaid v_joinedLaid v_hash v_isThereA v_vA v_spotOfA v_inMiddleA v_tintsA v_bufferA v_valuesA v_ranksA v_oldRanksA v_partA v_allRanksA v_basesA v_isMetA v_metXA v_metYA v_lineA) (fun _ => True))) (QwA G (va_A0 (wdX5 G v_q0 v_q1 v_q2 v_q3 v_q4 v_q5 v_q6 v_q7 v_q8 v_q9 v_q10 v_q11 v_q12 v_q13 v_q14 v_q15 v_q16 v_thrown v_gain v_size v_w v_s v_h v_laidArea v_parts v_isMinus v_readSpot v_isStar v_wantsNumber v_waiting v_shiftX v_shiftY v_times v_dotsLaid v_joinedLaid v_hash v_isThereA v_vA v_spotOfA v_inMiddleA v_tintsA v_bufferA v_valuesA v_ranksA v_oldRanksA v_partA v_allRanksA v_basesA v_isMetA v_metXA v_metYA v_lineA)) (wdX5 G v_q0 v_q1 v_q2 v_q3 v_q4 v_q5 v_q6 v_q7 v_q8 v_q9 v_q10 v_q11 v_q12 v_q13 v_q14 v_q15 v_q16 o1 v_gain v_size v_w v_s v_h v_laidArea v_parts v_isMinus v_readSpot v_isStar v_wantsNumber v_waiting v_shiftX v_shiftY v_times v_dotsLaid v_joinedLaid v_hash o2 v_vA v_spotOfA v_inMiddleA v_tintsA v_bufferA v_valuesA v_ranksA v_oldRanksA v_partA v_allRanksA v_basesA v_isMetA v_metXA v_metYA v_lineA) (some (.int o0)) True) 0 0 (va_A0 (wdX5 G v_q0 v_q1 v_q2 v_q3 v_q4 v_q5 v_q6 v_q7 v_q8 v_q9 v_q10 v_q11 v_q12 v_q13 v_q14 v_q15 v_q16 v_thrown v_gain v_size v_w v_s v_h v_laidArea v_parts v_isMinus v_readSpot v_isStar v_wantsNumber v_waiting v_shiftX v_shiftY v_times v_dotsLaid v_joinedLaid v_hash v_isThereA v_vA v_spotOfA v_inMiddleA v_tintsA v_bufferA v_valuesA v_ranksA v_oldRanksA v_partA v_allRanksA v_basesA v_isMetA v_metXA v_metYA v_lineA)) := by
  refine of_wi (cc := cX5_remove) (maxL := 2) (ty := .int) (plainFor_of_name (by decide)) rfl (Nat.le_of_ble_eq_true rfl) ?_
  intro p e s m args below meth c ls Q A S hl hP hD hS hK hX hA hret
  obtain ⟨H, hH⟩ : ∃ H, H = s.heap := ⟨_, rfl⟩
  obtain ⟨locs, hlocs⟩ : ∃ L : List Loc, L = [] := ⟨_, rfl⟩
  rw [← hlocs]
  rw [← hlocs] at hS
  have hP : va_P G.1 vwCl (wdX5 G v_q0 v_q1 v_q2 v_q3 v_q4 v_q5 v_q6 v_q7 v_q8 v_q9 v_q10 v_q11 v_q12 v_q13 v_q14 v_q15 v_q16 v_thrown v_gain v_size v_w v_s v_h v_laidArea v_parts v_isMinus v_readSpot v_isStar v_wantsNumber v_waiting v_shiftX v_shiftY v_times v_dotsLaid v_joinedLaid v_hash v_isThereA v_vA v_spotOfA v_inMiddleA v_tintsA v_bufferA v_valuesA v_ranksA v_oldRanksA v_partA v_allRanksA v_basesA v_isMetA v_metXA v_metYA v_lineA) H := by rw [hH]; exact hP
  have hS : va_S A s.heap H locs := by rw [hH]; exact hS
  suffices hgo : W p l e rmX5_remove s m args below meth c H locs 0 0 Q (F0 m 0 ls []) by rw [hH] at hgo; exact hgo
  have S : CallFix p m c cX5_remove 2 s args wsX5_remove RX5 := S
  obtain ⟨hx, hb, hml, hown, hts⟩ := id S
  have hl : lv_has ls 2 [(0, .ref v_q0), (1, .int a0)] := hl
  unfold mX5_remove at h
  refine lv_aload_n hx hb dX5_remove_0 rfl (lv_at hl 0 rfl) ?_
  refine lv_aload_n hx hb dX5_remove_1 rfl (lv_at hl 0 rfl) ?_
  refine lv_iload_n hx hb dX5_remove_2 rfl (lv_at hl 1 rfl) ?_
  obtain ⟨r1_0, g1, h⟩ := bnd1_e h
  refine roVi1 (rest := [.ref v_q0]) (As := [.int a0]) S (ctX5_missing l G v_q0 v_q1 v_q2 v_q3 v_q4 v_q5 v_q6 v_q7 v_q8 v_q9 v_q10 v_q11 v_q12 v_q13 v_q14 v_q15 v_q16 v_thrown v_gain v_size v_w v_s v_h v_laidArea v_parts v_isMinus v_readSpot v_isStar v_wantsNumber v_waiting v_shiftX v_shiftY v_times v_dotsLaid v_joinedLaid v_hash v_isThereA v_vA v_spotOfA v_inMiddleA v_tintsA v_bufferA v_valuesA v_ranksA v_oldRanksA v_partA v_allRanksA v_basesA v_isMetA v_metXA v_metYA v_lineA a0 r1_0 g1) (cwV 1 hts gX5_remove_X5_missing rfl rfl rfl hvX5_missing ⟨Nat.le_of_ble_eq_true rfl, Nat.le_of_ble_eq_true rfl⟩) hK hP [0, 1, 2, 3, 4, 5, 6, 7, 8, 9, 10, 11, 12, 13, 14, 15, 16] rfl 0 5 rfl rfl rfl rfl hl.1 rfl (Nat.le_of_ble_eq_true rfl) dX5_remove_3 ⟨Nat.le_refl _, Nat.le_refl _⟩ (fun _ => ?_)
  refine va_put (D := G.1) (ci := 5) (v := .int r1_0) (ty := .int) (C := RX5) (T := TX5) (N := 35) hx hb hts fw_X5_remove_X5 tyX5 tyX5_ok nmX5 hown hK.1 hP hD hS 0 rfl rfl 0 (by decide) (hts (.fieldLink RX5 59 "HalftoneScreensModel" "thrown" "I") lk_X5_remove_f59) (fun _ h9 => h9) rfl (tyX5_ok 0 (by decide)) rfl rfl (Nat.le_of_ble_eq_true rfl) dX5_remove_6 (fun H locs hP hD hS => ?_)
  have hP : va_P G.1 vwCl (wdX5 G v_q0 v_q1 v_q2 v_q3 v_q4 v_q5 v_q6 v_q7 v_q8 v_q9 v_q10 v_q11 v_q12 v_q13 v_q14 v_q15 v_q16 r1_0 v_gain v_size v_w v_s v_h v_laidArea v_parts v_isMinus v_readSpot v_isStar v_wantsNumber v_waiting v_shiftX v_shiftY v_times v_dotsLaid v_joinedLaid v_hash v_isThereA v_vA v_spotOfA v_inMiddleA v_tintsA v_bufferA v_valuesA v_ranksA v_oldRanksA v_partA v_allRanksA v_basesA v_isMetA v_metXA v_metYA v_lineA) H := hP
  have hD : va_D A (wdX5 G v_q0 v_q1 v_q2 v_q3 v_q4 v_q5 v_q6 v_q7 v_q8 v_q9 v_q10 v_q11 v_q12 v_q13 v_q14 v_q15 v_q16 r1_0 v_gain v_size v_w v_s v_h v_laidArea v_parts v_isMinus v_readSpot v_isStar v_wantsNumber v_waiting v_shiftX v_shiftY v_times v_dotsLaid v_joinedLaid v_hash v_isThereA v_vA v_spotOfA v_inMiddleA v_tintsA v_bufferA v_valuesA v_ranksA v_oldRanksA v_partA v_allRanksA v_basesA v_isMetA v_metXA v_metYA v_lineA) := hD
  refine lv_aload_n hx hb dX5_remove_9 rfl (lv_at hl 0 rfl) ?_
  refine va_get (D := G.1) (ci := 5) (v := .int r1_0) (C := RX5) (T := TX5) (N := 35) hx hb hts fw_X5_remove_X5 hown hK.1 hP 0 rfl rfl 0 (by decide) (hts (.fieldLink RX5 59 "HalftoneScreensModel" "thrown" "I") lk_X5_remove_f59) (fun _ h9 => h9) rfl dX5_remove_10 ?_
  refine lv_if_le (tgt := 18) hx hb dX5_remove_13 (by decide) (fun c2 => ?_) (fun c2 => ?_)
  · replace h := ite_t c2 h
    refine lv_aload_n hx hb dX5_remove_18 rfl (lv_at hl 0 rfl) ?_
    refine va_get (D := G.1) (ci := 5) (v := .ref v_q1) (C := RX5) (T := TX5) (N := 35) hx hb hts fw_X5_remove_X5 hown hK.1 hP 0 rfl rfl 1 (by decide) (hts (.fieldLink RX5 7 "HalftoneScreensModel" "isThere" "[Z") lk_X5_remove_f7) (fun _ h9 => h9) rfl dX5_remove_19 ?_
    refine lv_iload_n hx hb dX5_remove_22 rfl (lv_at hl 1 rfl) ?_
    refine lv_iconst (v := 0) hx hb dX5_remove_23 (by decide) ?_
    obtain ⟨i3, h⟩ := gd_e h
    refine va_zast hx hb hK.1 hP hD hS 1 1 rfl rfl i3 dX5_remove_24 (fun H locs hP hD hS => ?_)
    have hP : va_P G.1 vwCl (wdX5 G v_q0 v_q1 v_q2 v_q3 v_q4 v_q5 v_q6 v_q7 v_q8 v_q9 v_q10 v_q11 v_q12 v_q13 v_q14 v_q15 v_q16 r1_0 v_gain v_size v_w v_s v_h v_laidArea v_parts v_isMinus v_readSpot v_isStar v_wantsNumber v_waiting v_shiftX v_shiftY v_times v_dotsLaid v_joinedLaid v_hash (upd v_isThereA a0.toNatClampNeg (vp_nar .boolean 0)) v_vA v_spotOfA v_inMiddleA v_tintsA v_bufferA v_valuesA v_ranksA v_oldRanksA v_partA v_allRanksA v_basesA v_isMetA v_metXA v_metYA v_lineA) H := hP
    have hD : va_D A (wdX5 G v_q0 v_q1 v_q2 v_q3 v_q4 v_q5 v_q6 v_q7 v_q8 v_q9 v_q10 v_q11 v_q12 v_q13 v_q14 v_q15 v_q16 r1_0 v_gain v_size v_w v_s v_h v_laidArea v_parts v_isMinus v_readSpot v_isStar v_wantsNumber v_waiting v_shiftX v_shiftY v_times v_dotsLaid v_joinedLaid v_hash (upd v_isThereA a0.toNatClampNeg (vp_nar .boolean 0)) v_vA v_spotOfA v_inMiddleA v_tintsA v_bufferA v_valuesA v_ranksA v_oldRanksA v_partA v_allRanksA v_basesA v_isMetA v_metXA v_metYA v_lineA) := hD
    refine lv_aload_n hx hb dX5_remove_25 rfl (lv_at hl 0 rfl) ?_
    obtain ⟨r4_0, g4, h⟩ := bnd1_e h
    refine roVi1 (rest := []) (As := []) S (ctX5_screens l G v_q0 v_q1 v_q2 v_q3 v_q4 v_q5 v_q6 v_q7 v_q8 v_q9 v_q10 v_q11 v_q12 v_q13 v_q14 v_q15 v_q16 r1_0 v_gain v_size v_w v_s v_h v_laidArea v_parts v_isMinus v_readSpot v_isStar v_wantsNumber v_waiting v_shiftX v_shiftY v_times v_dotsLaid v_joinedLaid v_hash (upd v_isThereA a0.toNatClampNeg (vp_nar .boolean 0)) v_vA v_spotOfA v_inMiddleA v_tintsA v_bufferA v_valuesA v_ranksA v_oldRanksA v_partA v_allRanksA v_basesA v_isMetA v_metXA v_metYA v_lineA r4_0 g4) (cwV 0 hts gX5_remove_X5_screens rfl rfl rfl hvX5_screens ⟨Nat.le_of_ble_eq_true rfl, Nat.le_of_ble_eq_true rfl⟩) hK hP [0, 1, 2, 3, 4, 5, 6, 7, 8, 9, 10, 11, 12, 13, 14, 15, 16] rfl 0 5 rfl rfl rfl rfl hl.1 rfl (Nat.le_of_ble_eq_true rfl) dX5_remove_26 ⟨Nat.le_refl _, Nat.le_refl _⟩ (fun _ => ?_)
    obtain ⟨rfl, rfl, rfl⟩ := sm3 h
    exact hret _ _ _ _ _ rfl trivial rfl hP hD hS dX5_remove_29
  · replace h := ite_f c2 h
    refine lv_iconst (v := 0) hx hb dX5_remove_16 (by decide) ?_
    obtain ⟨rfl, rfl, rfl⟩ := sm3 h
    exact hret _ _ _ _ _ rfl trivial rfl hP hD hS dX5_remove_17
theorem fw_X5_turnVector_X5 : ∀ w ∈ wsX50, w ∈ wsX5_turnVector := fun w h => List.mem_cons_of_mem _ (List.mem_append_right _ h)
theorem lk_X5_turnVector_f13 : Cond.fieldLink RX5 13 "HalftoneScreensModel" "v" "[I" ∈ wsX5_turnVector := List.mem_of_getElem? (i := 1) rfl
abbrev rmX5_turnVector : Room := { frames := 0, cells := 0, slots := 0, locals := 0 }
set_option maxHeartbeats 4000000 in
set_option maxRecDepth 100000 in
theorem ctX5_turnVector (l : Launch) (G : GG) (v_q0 : Nat) (v_q1 : Nat) (v_q2 : Nat) (v_q3 : Nat) (v_q4 : Nat) (v_q5 : Nat) (v_q6 : Nat) (v_q7 : Nat) (v_q8 : Nat) (v_q9 : Nat) (v_q10 : Nat) (v_q11 : Nat) (v_q12 : Nat) (v_q13 : Nat) (v_q14 : Nat) (v_q15 : Nat) (v_q16 : Nat) (v_thrown : Int32) (v_gain : Int32) (v_size : Int32) (v_w : Int32) (v_s : Int32) (v_h : Int32) (v_laidArea : Int32) (v_parts : Int32) (v_isMinus : Int32) (v_readSpot : Int32) (v_isStar : Int32) (v_wantsNumber : Int32) (v_waiting : Int32) (v_shiftX : Int32) (v_shiftY : Int32) (v_times : Int32) (v_dotsLaid : Int32) (v_joinedLaid : Int32) (v_hash : Int64) (v_isThereA : (Nat → Int32)) (v_vA : (Nat → Int32)) (v_spotOfA : (Nat → Int32)) (v_inMiddleA : (Nat → Int32)) (v_tintsA : (Nat → Int32)) (v_bufferA : (Nat → Int32)) (v_valuesA : (Nat → Int32)) (v_ranksA : (Nat → Int32)) (v_oldRanksA : (Nat → Int32)) (v_partA : (Nat → Int32)) (v_allRanksA : (Nat → Int32)) (v_basesA : (Nat → Int32)) (v_isMetA : (Nat → Int32)) (v_metXA : (Nat → Int32)) (v_metYA : (Nat → Int32)) (v_lineA : (Nat → Int32)) (a0 : Int32) (a1 : Int32) (o0 : (Nat → Int32)) (h : mX5_turnVector v_vA a0 a1 = some (o0))  : Met l yX5_turnVector wsX5_turnVector rmX5_turnVector (va_Pc [.ref v_q0, .int a0, .int a1] (PreD G (wdX5 G v_q0 v_q1 v_q2 v_q3 v_q4 v_q5 v_q6 v_q7 v_q8 v_q9 v_q10 v_q11 v_q12 v_q13 v_q14 v_q15 v_q16 v_thrown v_gain v_size v_w v_s v_h v_laidArea v_parts v_isMinus v_readSpot v_isStar v_wantsNumber v_waiting v_shiftX v_shiftY v_times v_dotsLaid v_joinedLaid v_hash v_isThereA v_vA v_spotOfA v_inMiddleA v_tintsA v_bufferA v_valuesA v_ranksA v_oldRanksA v_partA v_allRanksA v_basesA v_isMetA v_metXA v_metYA v_lineA) (fun _ => True))) (QwA G (va_A0 (wdX5 G v_q0 v_q1 v_q2 v_q3 v_q4 v_q5 v_q6 v_q7 v_q8 v_q9 v_q10 v_q11 v_q12 v_q13 v_q14 v_q15 v_q16 v_thrown v_gain v_size v_w v_s v_h v_laidArea v_parts v_isMinus v_readSpot v_isStar v_wantsNumber v_waiting v_shiftX v_shiftY v_times v_dotsLaid v_joinedLaid v_hash v_isThereA v_vA v_spotOfA v_inMiddleA v_tintsA v_bufferA v_valuesA v_ranksA v_oldRanksA v_partA v_allRanksA v_basesA v_isMetA v_metXA v_metYA v_lineA)) (wdX5 G v_q0 v_q1 v_q2 v_q3 v_q4 v_q5 v_q6 v_q7 v_q8 v_q9 v_q10 v_q11 v_q12 v_q13 v_q14 v_q15 v_q16 v_thrown v_gain v_size v_w v_s v_h v_laidArea v_parts v_isMinus v_readSpot v_isStar v_wantsNumber v_waiting v_shiftX v_shiftY v_times v_dotsLaid v_joinedLaid v_hash v_isThereA o0 v_spotOfA v_inMiddleA v_tintsA v_bufferA v_valuesA v_ranksA v_oldRanksA v_partA v_allRanksA v_basesA v_isMetA v_metXA v_metYA v_lineA) none True) 0 0 (va_A0 (wdX5 G v_q0 v_q1 v_q2 v_q3 v_q4 v_q5 v_q6 v_q7 v_q8 v_q9 v_q10 v_q11 v_q12 v_q13 v_q14 v_q15 v_q16 v_thrown v_gain v_size v_w v_s v_h v_laidArea v_parts v_isMinus v_readSpot v_isStar v_wantsNumber v_waiting v_shiftX v_shiftY v_times v_dotsLaid v_joinedLaid v_hash v_isThereA v_vA v_spotOfA v_inMiddleA v_tintsA v_bufferA v_valuesA v_ranksA v_oldRanksA v_partA v_allRanksA v_basesA v_isMetA v_metXA v_metYA v_lineA)) := by
  refine of_wv (cc := cX5_turnVector) (maxL := 5) (plainFor_of_name (by decide)) rfl (Nat.le_of_ble_eq_true rfl) ?_
  intro p e s m args below meth c ls Q A S hl hP hD hS hK hX hA hret
  obtain ⟨H, hH⟩ : ∃ H, H = s.heap := ⟨_, rfl⟩
  obtain ⟨locs, hlocs⟩ : ∃ L : List Loc, L = [] := ⟨_, rfl⟩
  rw [← hlocs]
  rw [← hlocs] at hS
  have hP : va_P G.1 vwCl (wdX5 G v_q0 v_q1 v_q2 v_q3 v_q4 v_q5 v_q6 v_q7 v_q8 v_q9 v_q10 v_q11 v_q12 v_q13 v_q14 v_q15 v_q16 v_thrown v_gain v_size v_w v_s v_h v_laidArea v_parts v_isMinus v_readSpot v_isStar v_wantsNumber v_waiting v_shiftX v_shiftY v_times v_dotsLaid v_joinedLaid v_hash v_isThereA v_vA v_spotOfA v_inMiddleA v_tintsA v_bufferA v_valuesA v_ranksA v_oldRanksA v_partA v_allRanksA v_basesA v_isMetA v_metXA v_metYA v_lineA) H := by rw [hH]; exact hP
  have hS : va_S A s.heap H locs := by rw [hH]; exact hS
  suffices hgo : W p l e rmX5_turnVector s m args below meth c H locs 0 0 Q (F0 m 0 ls []) by rw [hH] at hgo; exact hgo
  have S : CallFix p m c cX5_turnVector 5 s args wsX5_turnVector RX5 := S
  obtain ⟨hx, hb, hml, hown, hts⟩ := id S
  have hl : lv_has ls 5 [(0, .ref v_q0), (1, .int a0), (2, .int a1)] := hl
  unfold mX5_turnVector at h
  refine lv_aload_n hx hb dX5_turnVector_0 rfl (lv_at hl 0 rfl) ?_
  refine va_get (D := G.1) (ci := 5) (v := .ref v_q2) (C := RX5) (T := TX5) (N := 35) hx hb hts fw_X5_turnVector_X5 hown hK.1 hP 0 rfl rfl 2 (by decide) (hts (.fieldLink RX5 13 "HalftoneScreensModel" "v" "[I") lk_X5_turnVector_f13) (fun _ h9 => h9) rfl dX5_turnVector_1 ?_
  refine lv_iload_n hx hb dX5_turnVector_4 rfl (lv_at hl 1 rfl) ?_
  obtain ⟨i1, h⟩ := gd_e h
  refine va_iald hx hb hK.1 hP 2 0 rfl rfl i1 dX5_turnVector_5 ?_
  refine lv_topi (fun x2 e2 => ?_)
  replace h := nmB_e e2 h
  refine lv_istore_n (lv' := [(3, .int x2), (0, .ref v_q0), (1, .int a0), (2, .int a1)]) hx hb dX5_turnVector_6 rfl hl (by decide) rfl (fun ls hl => ?_)
  refine lv_aload_n hx hb dX5_turnVector_7 rfl (lv_at hl 1 rfl) ?_
  refine va_get (D := G.1) (ci := 5) (v := .ref v_q2) (C := RX5) (T := TX5) (N := 35) hx hb hts fw_X5_turnVector_X5 hown hK.1 hP 0 rfl rfl 2 (by decide) (hts (.fieldLink RX5 13 "HalftoneScreensModel" "v" "[I") lk_X5_turnVector_f13) (fun _ h9 => h9) rfl dX5_turnVector_8 ?_
  refine lv_iload_n hx hb dX5_turnVector_11 rfl (lv_at hl 2 rfl) ?_
  refine lv_iconst (v := 1) hx hb dX5_turnVector_12 (by decide) ?_
  refine lv_iadd hx hb dX5_turnVector_13 ?_
  obtain ⟨i3, h⟩ := gd_e h
  refine va_iald hx hb hK.1 hP 2 0 rfl rfl i3 dX5_turnVector_14 ?_
  refine lv_topi (fun x4 e4 => ?_)
  replace h := nmB_e e4 h
  refine lv_istore (lv' := [(4, .int x4), (3, .int x2), (0, .ref v_q0), (1, .int a0), (2, .int a1)]) hx hb dX5_turnVector_15 hl (by decide) rfl (fun ls hl => ?_)
  refine lv_aload_n hx hb dX5_turnVector_17 rfl (lv_at hl 2 rfl) ?_
  refine va_get (D := G.1) (ci := 5) (v := .ref v_q2) (C := RX5) (T := TX5) (N := 35) hx hb hts fw_X5_turnVector_X5 hown hK.1 hP 0 rfl rfl 2 (by decide) (hts (.fieldLink RX5 13 "HalftoneScreensModel" "v" "[I") lk_X5_turnVector_f13) (fun _ h9 => h9) rfl dX5_turnVector_18 ?_
  refine lv_iload_n hx hb dX5_turnVector_21 rfl (lv_at hl 3 rfl) ?_
  refine lv_iload_n hx hb dX5_turnVector_22 rfl (lv_at hl 4 rfl) ?_
  refine lv_iconst (v := 1) hx hb dX5_turnVector_23 (by decide) ?_
  obtain ⟨K5, hK5, h⟩ := jB1_e h
  have J5 : ∀ (j5_0 : Int32) (H : Heap) (locs : List Loc) (ls : Array Slot), K5 j5_0 = some (o0) → lv_has ls 5 [(4, .int x4), (3, .int x2), (0, .ref v_q0), (1, .int a0), (2, .int a1)] → va_P G.1 vwCl (wdX5 G v_q0 v_q1 v_q2 v_q3 v_q4 v_q5 v_q6 v_q7 v_q8 v_q9 v_q10 v_q11 v_q12 v_q13 v_q14 v_q15 v_q16 v_thrown v_gain v_size v_w v_s v_h v_laidArea v_parts v_isMinus v_readSpot v_isStar v_wantsNumber v_waiting v_shiftX v_shiftY v_times v_dotsLaid v_joinedLaid v_hash v_isThereA v_vA v_spotOfA v_inMiddleA v_tintsA v_bufferA v_valuesA v_ranksA v_oldRanksA v_partA v_allRanksA v_basesA v_isMetA v_metXA v_metYA v_lineA) H → va_D A (wdX5 G v_q0 v_q1 v_q2 v_q3 v_q4 v_q5 v_q6 v_q7 v_q8 v_q9 v_q10 v_q11 v_q12 v_q13 v_q14 v_q15 v_q16 v_thrown v_gain v_size v_w v_s v_h v_laidArea v_parts v_isMinus v_readSpot v_isStar v_wantsNumber v_waiting v_shiftX v_shiftY v_times v_dotsLaid v_joinedLaid v_hash v_isThereA v_vA v_spotOfA v_inMiddleA v_tintsA v_bufferA v_valuesA v_ranksA v_oldRanksA v_partA v_allRanksA v_basesA v_isMetA v_metXA v_metYA v_lineA) → va_S A s.heap H locs → W p l e rmX5_turnVector s m args below meth c H locs 0 0 Q (F0 m 44 ls [.int j5_0, .int a0, .ref v_q2]) := by
    intro j5_0 H locs ls h hl hP hD hS
    replace h := (hK5 j5_0).symm.trans h
    obtain ⟨i8, h⟩ := gd_e h
    refine va_iast hx hb hK.1 hP hD hS 2 0 rfl rfl i8 dX5_turnVector_44 (fun H locs hP hD hS => ?_)
    have hP : va_P G.1 vwCl (wdX5 G v_q0 v_q1 v_q2 v_q3 v_q4 v_q5 v_q6 v_q7 v_q8 v_q9 v_q10 v_q11 v_q12 v_q13 v_q14 v_q15 v_q16 v_thrown v_gain v_size v_w v_s v_h v_laidArea v_parts v_isMinus v_readSpot v_isStar v_wantsNumber v_waiting v_shiftX v_shiftY v_times v_dotsLaid v_joinedLaid v_hash v_isThereA (upd v_vA a0.toNatClampNeg j5_0) v_spotOfA v_inMiddleA v_tintsA v_bufferA v_valuesA v_ranksA v_oldRanksA v_partA v_allRanksA v_basesA v_isMetA v_metXA v_metYA v_lineA) H := hP
    have hD : va_D A (wdX5 G v_q0 v_q1 v_q2 v_q3 v_q4 v_q5 v_q6 v_q7 v_q8 v_q9 v_q10 v_q11 v_q12 v_q13 v_q14 v_q15 v_q16 v_thrown v_gain v_size v_w v_s v_h v_laidArea v_parts v_isMinus v_readSpot v_isStar v_wantsNumber v_waiting v_shiftX v_shiftY v_times v_dotsLaid v_joinedLaid v_hash v_isThereA (upd v_vA a0.toNatClampNeg j5_0) v_spotOfA v_inMiddleA v_tintsA v_bufferA v_valuesA v_ranksA v_oldRanksA v_partA v_allRanksA v_basesA v_isMetA v_metXA v_metYA v_lineA) := hD
    refine lv_aload_n hx hb dX5_turnVector_45 rfl (lv_at hl 2 rfl) ?_
    refine va_get (D := G.1) (ci := 5) (v := .ref v_q2) (C := RX5) (T := TX5) (N := 35) hx hb hts fw_X5_turnVector_X5 hown hK.1 hP 0 rfl rfl 2 (by decide) (hts (.fieldLink RX5 13 "HalftoneScreensModel" "v" "[I") lk_X5_turnVector_f13) (fun _ h9 => h9) rfl dX5_turnVector_46 ?_
    refine lv_iload_n hx hb dX5_turnVector_49 rfl (lv_at hl 3 rfl) ?_
    refine lv_iconst (v := 1) hx hb dX5_turnVector_50 (by decide) ?_
    refine lv_iadd hx hb dX5_turnVector_51 ?_
    refine lv_iload_n hx hb dX5_turnVector_52 rfl (lv_at hl 4 rfl) ?_
    refine lv_iconst (v := 1) hx hb dX5_turnVector_53 (by decide) ?_
    refine lv_icmp_ne (tgt := 62) hx hb dX5_turnVector_54 (by decide) (fun c9 => ?_) (fun c9 => ?_)
    · replace h := ite_f c9 h
      refine lv_iload_n hx hb dX5_turnVector_62 rfl (lv_at hl 1 rfl) ?_
      obtain ⟨i10, h⟩ := gd_e h
      refine va_iast hx hb hK.1 hP hD hS 2 0 rfl rfl i10 dX5_turnVector_63 (fun H locs hP hD hS => ?_)
      have hP : va_P G.1 vwCl (wdX5 G v_q0 v_q1 v_q2 v_q3 v_q4 v_q5 v_q6 v_q7 v_q8 v_q9 v_q10 v_q11 v_q12 v_q13 v_q14 v_q15 v_q16 v_thrown v_gain v_size v_w v_s v_h v_laidArea v_parts v_isMinus v_readSpot v_isStar v_wantsNumber v_waiting v_shiftX v_shiftY v_times v_dotsLaid v_joinedLaid v_hash v_isThereA (upd (upd v_vA a0.toNatClampNeg j5_0) (a0 + 1).toNatClampNeg x2) v_spotOfA v_inMiddleA v_tintsA v_bufferA v_valuesA v_ranksA v_oldRanksA v_partA v_allRanksA v_basesA v_isMetA v_metXA v_metYA v_lineA) H := hP
      have hD : va_D A (wdX5 G v_q0 v_q1 v_q2 v_q3 v_q4 v_q5 v_q6 v_q7 v_q8 v_q9 v_q10 v_q11 v_q12 v_q13 v_q14 v_q15 v_q16 v_thrown v_gain v_size v_w v_s v_h v_laidArea v_parts v_isMinus v_readSpot v_isStar v_wantsNumber v_waiting v_shiftX v_shiftY v_times v_dotsLaid v_joinedLaid v_hash v_isThereA (upd (upd v_vA a0.toNatClampNeg j5_0) (a0 + 1).toNatClampNeg x2) v_spotOfA v_inMiddleA v_tintsA v_bufferA v_valuesA v_ranksA v_oldRanksA v_partA v_allRanksA v_basesA v_isMetA v_metXA v_metYA v_lineA) := hD
      obtain rfl := sm1 h
      exact hret _ _ _ _ trivial hP hD hS dX5_turnVector_64
    · replace h := ite_t c9 h
      refine lv_iload hx hb dX5_turnVector_57 (lv_at hl 0 rfl) ?_
      refine lv_goto (tgt := 63) hx hb dX5_turnVector_59 (by decide) ?_
      obtain ⟨i11, h⟩ := gd_e h
      refine va_iast hx hb hK.1 hP hD hS 2 0 rfl rfl i11 dX5_turnVector_63 (fun H locs hP hD hS => ?_)
      have hP : va_P G.1 vwCl (wdX5 G v_q0 v_q1 v_q2 v_q3 v_q4 v_q5 v_q6 v_q7 v_q8 v_q9 v_q10 v_q11 v_q12 v_q13 v_q14 v_q15 v_q16 v_thrown v_gain v_size v_w v_s v_h v_laidArea v_parts v_isMinus v_readSpot v_isStar v_wantsNumber v_waiting v_shiftX v_shiftY v_times v_dotsLaid v_joinedLaid v_hash v_isThereA (upd (upd v_vA a0.toNatClampNeg j5_0) (a0 + 1).toNatClampNeg x4) v_spotOfA v_inMiddleA v_tintsA v_bufferA v_valuesA v_ranksA v_oldRanksA v_partA v_allRanksA v_basesA v_isMetA v_metXA v_metYA v_lineA) H := hP
      have hD : va_D A (wdX5 G v_q0 v_q1 v_q2 v_q3 v_q4 v_q5 v_q6 v_q7 v_q8 v_q9 v_q10 v_q11 v_q12 v_q13 v_q14 v_q15 v_q16 v_thrown v_gain v_size v_w v_s v_h v_laidArea v_parts v_isMinus v_readSpot v_isStar v_wantsNumber v_waiting v_shiftX v_shiftY v_times v_dotsLaid v_joinedLaid v_hash v_isThereA (upd (upd v_vA a0.toNatClampNeg j5_0) (a0 + 1).toNatClampNeg x4) v_spotOfA v_inMiddleA v_tintsA v_bufferA v_valuesA v_ranksA v_oldRanksA v_partA v_allRanksA v_basesA v_isMetA v_metXA v_metYA v_lineA) := hD
      obtain rfl := sm1 h
      exact hret _ _ _ _ trivial hP hD hS dX5_turnVector_64
  refine lv_icmp_ne (tgt := 32) hx hb dX5_turnVector_24 (by decide) (fun c6 => ?_) (fun c6 => ?_)
  · replace h := ite_f c6 h
    refine lv_iload_n hx hb dX5_turnVector_32 rfl (lv_at hl 4 rfl) ?_
    refine lv_if_ne (tgt := 42) hx hb dX5_turnVector_33 (by decide) (fun c7 => ?_) (fun c7 => ?_)
    · replace h := ite_f c7 h
      refine lv_iload hx hb dX5_turnVector_42 (lv_at hl 0 rfl) ?_
      exact J5 x4 H locs ls h hl hP hD hS
    · replace h := ite_t c7 h
      refine lv_iload hx hb dX5_turnVector_36 (lv_at hl 0 rfl) ?_
      refine lv_ineg hx hb dX5_turnVector_38 ?_
      refine lv_goto (tgt := 44) hx hb dX5_turnVector_39 (by decide) ?_
      exact J5 (-x4) H locs ls h hl hP hD hS
  · replace h := ite_t c6 h
    refine lv_iload_n hx hb dX5_turnVector_27 rfl (lv_at hl 1 rfl) ?_
    refine lv_ineg hx hb dX5_turnVector_28 ?_
    refine lv_goto (tgt := 44) hx hb dX5_turnVector_29 (by decide) ?_
    exact J5 (-x2) H locs ls h hl hP hD hS
theorem fw_X5_exchange_X5 : ∀ w ∈ wsX50, w ∈ wsX5_exchange := fun w h => List.mem_cons_of_mem _ (List.mem_append_right _ h)
theorem lk_X5_exchange_f13 : Cond.fieldLink RX5 13 "HalftoneScreensModel" "v" "[I" ∈ wsX5_exchange := List.mem_of_getElem? (i := 1) rfl
abbrev rmX5_exchange : Room := { frames := 0, cells := 0, slots := 0, locals := 0 }
set_option maxHeartbeats 4000000 in
set_option maxRecDepth 100000 in
theorem ctX5_exchange (l : Launch) (G : GG) (v_q0 : Nat) (v_q1 : Nat) (v_q2 : Nat) (v_q3 : Nat) (v_q4 : Nat) (v_q5 : Nat) (v_q6 : Nat) (v_q7 : Nat) (v_q8 : Nat) (v_q9 : Nat) (v_q10 : Nat) (v_q11 : Nat) (v_q12 : Nat) (v_q13 : Nat) (v_q14 : Nat) (v_q15 : Nat) (v_q16 : Nat) (v_thrown : Int32) (v_gain : Int32) (v_size : Int32) (v_w : Int32) (v_s : Int32) (v_h : Int32) (v_laidArea : Int32) (v_parts : Int32) (v_isMinus : Int32) (v_readSpot : Int32) (v_isStar : Int32) (v_wantsNumber : Int32) (v_waiting : Int32) (v_shiftX : Int32) (v_shiftY : Int32) (v_times : Int32) (v_dotsLaid : Int32) (v_joinedLaid : Int32) (v_hash : Int64) (v_isThereA : (Nat → Int32)) (v_vA : (Nat → Int32)) (v_spotOfA : (Nat → Int32)) (v_inMiddleA : (Nat → Int32)) (v_tintsA : (Nat → Int32)) (v_bufferA : (Nat → Int32)) (v_valuesA : (Nat → Int32)) (v_ranksA : (Nat → Int32)) (v_oldRanksA : (Nat → Int32)) (v_partA : (Nat → Int32)) (v_allRanksA : (Nat → Int32)) (v_basesA : (Nat → Int32)) (v_isMetA : (Nat → Int32)) (v_metXA : (Nat → Int32)) (v_metYA : (Nat → Int32)) (v_lineA : (Nat → Int32)) (a0 : Int32) (o0 : (Nat → Int32)) (h : mX5_exchange v_vA a0 = some (o0))  : Met l yX5_exchange wsX5_exchange rmX5_exchange (va_Pc [.ref v_q0, .int a0] (PreD G (wdX5 G v_q0 v_q1 v_q2 v_q3 v_q4 v_q5 v_q6 v_q7 v_q8 v_q9 v_q10 v_q11 v_q12 v_q13 v_q14 v_q15 v_q16 v_thrown v_gain v_size v_w v_s v_h v_laidArea v_parts v_isMinus v_readSpot v_isStar v_wantsNumber v_waiting v_shiftX v_shiftY v_times v_dotsLaid v_joinedLaid v_hash v_isThereA v_vA v_spotOfA v_inMiddleA v_tintsA v_bufferA v_valuesA v_ranksA v_oldRanksA v_partA v_allRanksA v_basesA v_isMetA v_metXA v_metYA v_lineA) (fun _ => True))) (QwA G (va_A0 (wdX5 G v_q0 v_q1 v_q2 v_q3 v_q4 v_q5 v_q6 v_q7 v_q8 v_q9 v_q10 v_q11 v_q12 v_q13 v_q14 v_q15 v_q16 v_thrown v_gain v_size v_w v_s v_h v_laidArea v_parts v_isMinus v_readSpot v_isStar v_wantsNumber v_waiting v_shiftX v_shiftY v_times v_dotsLaid v_joinedLaid v_hash v_isThereA v_vA v_spotOfA v_inMiddleA v_tintsA v_bufferA v_valuesA v_ranksA v_oldRanksA v_partA v_allRanksA v_basesA v_isMetA v_metXA v_metYA v_lineA)) (wdX5 G v_q0 v_q1 v_q2 v_q3 v_q4 v_q5 v_q6 v_q7 v_q8 v_q9 v_q10 v_q11 v_q12 v_q13 v_q14 v_q15 v_q16 v_thrown v_gain v_size v_w v_s v_h v_laidArea v_parts v_isMinus v_readSpot v_isStar v_wantsNumber v_waiting v_shiftX v_shiftY v_times v_dotsLaid v_joinedLaid v_hash v_isThereA o0 v_spotOfA v_inMiddleA v_tintsA v_bufferA v_valuesA v_ranksA v_oldRanksA v_partA v_allRanksA v_basesA v_isMetA v_metXA v_metYA v_lineA) none True) 0 0 (va_A0 (wdX5 G v_q0 v_q1 v_q2 v_q3 v_q4 v_q5 v_q6 v_q7 v_q8 v_q9 v_q10 v_q11 v_q12 v_q13 v_q14 v_q15 v_q16 v_thrown v_gain v_size v_w v_s v_h v_laidArea v_parts v_isMinus v_readSpot v_isStar v_wantsNumber v_waiting v_shiftX v_shiftY v_times v_dotsLaid v_joinedLaid v_hash v_isThereA v_vA v_spotOfA v_inMiddleA v_tintsA v_bufferA v_valuesA v_ranksA v_oldRanksA v_partA v_allRanksA v_basesA v_isMetA v_metXA v_metYA v_lineA)) := by
  refine of_wv (cc := cX5_exchange) (maxL := 4) (plainFor_of_name (by decide)) rfl (Nat.le_of_ble_eq_true rfl) ?_
  intro p e s m args below meth c ls Q A S hl hP hD hS hK hX hA hret
  obtain ⟨H, hH⟩ : ∃ H, H = s.heap := ⟨_, rfl⟩
  obtain ⟨locs, hlocs⟩ : ∃ L : List Loc, L = [] := ⟨_, rfl⟩
  rw [← hlocs]
  rw [← hlocs] at hS
  have hP : va_P G.1 vwCl (wdX5 G v_q0 v_q1 v_q2 v_q3 v_q4 v_q5 v_q6 v_q7 v_q8 v_q9 v_q10 v_q11 v_q12 v_q13 v_q14 v_q15 v_q16 v_thrown v_gain v_size v_w v_s v_h v_laidArea v_parts v_isMinus v_readSpot v_isStar v_wantsNumber v_waiting v_shiftX v_shiftY v_times v_dotsLaid v_joinedLaid v_hash v_isThereA v_vA v_spotOfA v_inMiddleA v_tintsA v_bufferA v_valuesA v_ranksA v_oldRanksA v_partA v_allRanksA v_basesA v_isMetA v_metXA v_metYA v_lineA) H := by rw [hH]; exact hP
  have hS : va_S A s.heap H locs := by rw [hH]; exact hS
  suffices hgo : W p l e rmX5_exchange s m args below meth c H locs 0 0 Q (F0 m 0 ls []) by rw [hH] at hgo; exact hgo
  have S : CallFix p m c cX5_exchange 4 s args wsX5_exchange RX5 := S
  obtain ⟨hx, hb, hml, hown, hts⟩ := id S
  have hl : lv_has ls 4 [(0, .ref v_q0), (1, .int a0)] := hl
  unfold mX5_exchange at h
  refine lv_iconst (v := 0) hx hb dX5_exchange_0 (by decide) ?_
  refine lv_istore_n (lv' := [(2, .int 0), (0, .ref v_q0), (1, .int a0)]) hx hb dX5_exchange_1 rfl hl (by decide) rfl (fun ls hl => ?_)
  obtain ⟨u1_0, u1_1, g1, h⟩ := bnd2_e h
  have L1 : ∀ (fu : Nat) (v1_0 : Int32) (v1_1 : (Nat → Int32)) (u1_0 : Int32) (u1_1 : (Nat → Int32)) (H : Heap) (locs : List Loc) (ls : Array Slot), mX5_exchange_L2 a0 fu v1_0 v1_1 = some (u1_0, u1_1) → lv_has ls 4 [(2, .int v1_0), (0, .ref v_q0), (1, .int a0)] → va_P G.1 vwCl (wdX5 G v_q0 v_q1 v_q2 v_q3 v_q4 v_q5 v_q6 v_q7 v_q8 v_q9 v_q10 v_q11 v_q12 v_q13 v_q14 v_q15 v_q16 v_thrown v_gain v_size v_w v_s v_h v_laidArea v_parts v_isMinus v_readSpot v_isStar v_wantsNumber v_waiting v_shiftX v_shiftY v_times v_dotsLaid v_joinedLaid v_hash v_isThereA v1_1 v_spotOfA v_inMiddleA v_tintsA v_bufferA v_valuesA v_ranksA v_oldRanksA v_partA v_allRanksA v_basesA v_isMetA v_metXA v_metYA v_lineA) H → va_D A (wdX5 G v_q0 v_q1 v_q2 v_q3 v_q4 v_q5 v_q6 v_q7 v_q8 v_q9 v_q10 v_q11 v_q12 v_q13 v_q14 v_q15 v_q16 v_thrown v_gain v_size v_w v_s v_h v_laidArea v_parts v_isMinus v_readSpot v_isStar v_wantsNumber v_waiting v_shiftX v_shiftY v_times v_dotsLaid v_joinedLaid v_hash v_isThereA v1_1 v_spotOfA v_inMiddleA v_tintsA v_bufferA v_valuesA v_ranksA v_oldRanksA v_partA v_allRanksA v_basesA v_isMetA v_metXA v_metYA v_lineA) → va_S A s.heap H locs → (∀ (H : Heap) (locs : List Loc) (ls : Array Slot), lv_has ls 4 [(2, .int u1_0), (0, .ref v_q0), (1, .int a0)] → va_P G.1 vwCl (wdX5 G v_q0 v_q1 v_q2 v_q3 v_q4 v_q5 v_q6 v_q7 v_q8 v_q9 v_q10 v_q11 v_q12 v_q13 v_q14 v_q15 v_q16 v_thrown v_gain v_size v_w v_s v_h v_laidArea v_parts v_isMinus v_readSpot v_isStar v_wantsNumber v_waiting v_shiftX v_shiftY v_times v_dotsLaid v_joinedLaid v_hash v_isThereA u1_1 v_spotOfA v_inMiddleA v_tintsA v_bufferA v_valuesA v_ranksA v_oldRanksA v_partA v_allRanksA v_basesA v_isMetA v_metXA v_metYA v_lineA) H → va_D A (wdX5 G v_q0 v_q1 v_q2 v_q3 v_q4 v_q5 v_q6 v_q7 v_q8 v_q9 v_q10 v_q11 v_q12 v_q13 v_q14 v_q15 v_q16 v_thrown v_gain v_size v_w v_s v_h v_laidArea v_parts v_isMinus v_readSpot v_isStar v_wantsNumber v_waiting v_shiftX v_shiftY v_times v_dotsLaid v_joinedLaid v_hash v_isThereA u1_1 v_spotOfA v_inMiddleA v_tintsA v_bufferA v_valuesA v_ranksA v_oldRanksA v_partA v_allRanksA v_basesA v_isMetA v_metXA v_metYA v_lineA) → va_S A s.heap H locs → W p l e rmX5_exchange s m args below meth c H locs 0 0 Q (F0 m 51 ls [])) → W p l e rmX5_exchange s m args below meth c H locs 0 0 Q (F0 m 2 ls []) := by
    intro fu
    induction fu with
    | zero => intro v1_0 v1_1 u1_0 u1_1 H locs ls h; exact nomatch h
    | succ fu ih =>
      intro v1_0 v1_1 u1_0 u1_1 H locs ls h hl hP hD hS kE
      rw [mX5_exchange_L2] at h
      refine lv_iload_n hx hb dX5_exchange_2 rfl (lv_at hl 0 rfl) ?_
      refine lv_iconst (v := 2) hx hb dX5_exchange_3 (by decide) ?_
      refine lv_icmp_ge (tgt := 51) hx hb dX5_exchange_4 (by decide) (fun c2 => ?_) (fun c2 => ?_)
      · replace h := ite_t c2 h
        obtain ⟨rfl, rfl⟩ := sm2 h
        exact kE H locs ls hl hP hD hS
      · replace h := ite_f c2 h
        refine lv_aload_n hx hb dX5_exchange_7 rfl (lv_at hl 1 rfl) ?_
        refine va_get (D := G.1) (ci := 5) (v := .ref v_q2) (C := RX5) (T := TX5) (N := 35) hx hb hts fw_X5_exchange_X5 hown hK.1 hP 0 rfl rfl 2 (by decide) (hts (.fieldLink RX5 13 "HalftoneScreensModel" "v" "[I") lk_X5_exchange_f13) (fun _ h9 => h9) rfl dX5_exchange_8 ?_
        refine lv_iload_n hx hb dX5_exchange_11 rfl (lv_at hl 2 rfl) ?_
        refine lv_iload_n hx hb dX5_exchange_12 rfl (lv_at hl 0 rfl) ?_
        refine lv_iadd hx hb dX5_exchange_13 ?_
        obtain ⟨i3, h⟩ := gd_e h
        refine va_iald hx hb hK.1 hP 2 0 rfl rfl i3 dX5_exchange_14 ?_
        refine lv_topi (fun x4 e4 => ?_)
        replace h := nmB_e e4 h
        refine lv_istore_n (lv' := [(3, .int x4), (2, .int v1_0), (0, .ref v_q0), (1, .int a0)]) hx hb dX5_exchange_15 rfl hl (by decide) rfl (fun ls hl => ?_)
        refine lv_aload_n hx hb dX5_exchange_16 rfl (lv_at hl 2 rfl) ?_
        refine va_get (D := G.1) (ci := 5) (v := .ref v_q2) (C := RX5) (T := TX5) (N := 35) hx hb hts fw_X5_exchange_X5 hown hK.1 hP 0 rfl rfl 2 (by decide) (hts (.fieldLink RX5 13 "HalftoneScreensModel" "v" "[I") lk_X5_exchange_f13) (fun _ h9 => h9) rfl dX5_exchange_17 ?_
        refine lv_iload_n hx hb dX5_exchange_20 rfl (lv_at hl 3 rfl) ?_
        refine lv_iload_n hx hb dX5_exchange_21 rfl (lv_at hl 1 rfl) ?_
        refine lv_iadd hx hb dX5_exchange_22 ?_
        refine lv_aload_n hx hb dX5_exchange_23 rfl (lv_at hl 2 rfl) ?_
        refine va_get (D := G.1) (ci := 5) (v := .ref v_q2) (C := RX5) (T := TX5) (N := 35) hx hb hts fw_X5_exchange_X5 hown hK.1 hP 0 rfl rfl 2 (by decide) (hts (.fieldLink RX5 13 "HalftoneScreensModel" "v" "[I") lk_X5_exchange_f13) (fun _ h9 => h9) rfl dX5_exchange_24 ?_
        refine lv_iload_n hx hb dX5_exchange_27 rfl (lv_at hl 3 rfl) ?_
        refine lv_iconst (v := 2) hx hb dX5_exchange_28 (by decide) ?_
        refine lv_iadd hx hb dX5_exchange_29 ?_
        refine lv_iload_n hx hb dX5_exchange_30 rfl (lv_at hl 1 rfl) ?_
        refine lv_iadd hx hb dX5_exchange_31 ?_
        obtain ⟨i5, h⟩ := gd_e h
        refine va_iald hx hb hK.1 hP 2 0 rfl rfl i5 dX5_exchange_32 ?_
        refine lv_topi (fun x6 e6 => ?_)
        replace h := nmB_e e6 h
        obtain ⟨i7, h⟩ := gd_e h
        refine va_iast hx hb hK.1 hP hD hS 2 0 rfl rfl i7 dX5_exchange_33 (fun H locs hP hD hS => ?_)
        have hP : va_P G.1 vwCl (wdX5 G v_q0 v_q1 v_q2 v_q3 v_q4 v_q5 v_q6 v_q7 v_q8 v_q9 v_q10 v_q11 v_q12 v_q13 v_q14 v_q15 v_q16 v_thrown v_gain v_size v_w v_s v_h v_laidArea v_parts v_isMinus v_readSpot v_isStar v_wantsNumber v_waiting v_shiftX v_shiftY v_times v_dotsLaid v_joinedLaid v_hash v_isThereA (upd v1_1 (a0 + v1_0).toNatClampNeg x6) v_spotOfA v_inMiddleA v_tintsA v_bufferA v_valuesA v_ranksA v_oldRanksA v_partA v_allRanksA v_basesA v_isMetA v_metXA v_metYA v_lineA) H := hP
        have hD : va_D A (wdX5 G v_q0 v_q1 v_q2 v_q3 v_q4 v_q5 v_q6 v_q7 v_q8 v_q9 v_q10 v_q11 v_q12 v_q13 v_q14 v_q15 v_q16 v_thrown v_gain v_size v_w v_s v_h v_laidArea v_parts v_isMinus v_readSpot v_isStar v_wantsNumber v_waiting v_shiftX v_shiftY v_times v_dotsLaid v_joinedLaid v_hash v_isThereA (upd v1_1 (a0 + v1_0).toNatClampNeg x6) v_spotOfA v_inMiddleA v_tintsA v_bufferA v_valuesA v_ranksA v_oldRanksA v_partA v_allRanksA v_basesA v_isMetA v_metXA v_metYA v_lineA) := hD
        refine lv_aload_n hx hb dX5_exchange_34 rfl (lv_at hl 2 rfl) ?_
        refine va_get (D := G.1) (ci := 5) (v := .ref v_q2) (C := RX5) (T := TX5) (N := 35) hx hb hts fw_X5_exchange_X5 hown hK.1 hP 0 rfl rfl 2 (by decide) (hts (.fieldLink RX5 13 "HalftoneScreensModel" "v" "[I") lk_X5_exchange_f13) (fun _ h9 => h9) rfl dX5_exchange_35 ?_
        refine lv_iload_n hx hb dX5_exchange_38 rfl (lv_at hl 3 rfl) ?_
        refine lv_iconst (v := 2) hx hb dX5_exchange_39 (by decide) ?_
        refine lv_iadd hx hb dX5_exchange_40 ?_
        refine lv_iload_n hx hb dX5_exchange_41 rfl (lv_at hl 1 rfl) ?_
        refine lv_iadd hx hb dX5_exchange_42 ?_
        refine lv_iload_n hx hb dX5_exchange_43 rfl (lv_at hl 0 rfl) ?_
        obtain ⟨i8, h⟩ := gd_e h
        refine va_iast hx hb hK.1 hP hD hS 2 0 rfl rfl i8 dX5_exchange_44 (fun H locs hP hD hS => ?_)
        have hP : va_P G.1 vwCl (wdX5 G v_q0 v_q1 v_q2 v_q3 v_q4 v_q5 v_q6 v_q7 v_q8 v_q9 v_q10 v_q11 v_q12 v_q13 v_q14 v_q15 v_q16 v_thrown v_gain v_size v_w v_s v_h v_laidArea v_parts v_isMinus v_readSpot v_isStar v_wantsNumber v_waiting v_shiftX v_shiftY v_times v_dotsLaid v_joinedLaid v_hash v_isThereA (upd (upd v1_1 (a0 + v1_0).toNatClampNeg x6) ((a0 + 2) + v1_0).toNatClampNeg x4) v_spotOfA v_inMiddleA v_tintsA v_bufferA v_valuesA v_ranksA v_oldRanksA v_partA v_allRanksA v_basesA v_isMetA v_metXA v_metYA v_lineA) H := hP
        have hD : va_D A (wdX5 G v_q0 v_q1 v_q2 v_q3 v_q4 v_q5 v_q6 v_q7 v_q8 v_q9 v_q10 v_q11 v_q12 v_q13 v_q14 v_q15 v_q16 v_thrown v_gain v_size v_w v_s v_h v_laidArea v_parts v_isMinus v_readSpot v_isStar v_wantsNumber v_waiting v_shiftX v_shiftY v_times v_dotsLaid v_joinedLaid v_hash v_isThereA (upd (upd v1_1 (a0 + v1_0).toNatClampNeg x6) ((a0 + 2) + v1_0).toNatClampNeg x4) v_spotOfA v_inMiddleA v_tintsA v_bufferA v_valuesA v_ranksA v_oldRanksA v_partA v_allRanksA v_basesA v_isMetA v_metXA v_metYA v_lineA) := hD
        obtain ⟨x9, e9⟩ : ∃ y : Int32, y = v1_0 + 1 := ⟨_, rfl⟩
        replace h := nmB_e e9 h
        refine lv_iinc (v := x9) (lv' := [(2, .int x9), (3, .int x4), (0, .ref v_q0), (1, .int a0)]) hx hb dX5_exchange_45 hl (k := 1) rfl (by rw [e9]; rfl) (by decide) rfl (fun ls hl => ?_)
        refine lv_goto (tgt := 2) hx hb dX5_exchange_48 (by decide) ?_
        exact ih x9 (upd (upd v1_1 (a0 + v1_0).toNatClampNeg x6) ((a0 + 2) + v1_0).toNatClampNeg x4) u1_0 u1_1 H locs ls h (lv_sub hl [0, 2, 3] rfl) hP hD hS kE
  refine L1 FU 0 v_vA u1_0 u1_1 H locs ls g1 hl hP hD hS (fun H locs ls hl hP hD hS => ?_)
  obtain rfl := sm1 h
  exact hret _ _ _ _ trivial hP hD hS dX5_exchange_51
theorem fw_X5_setCenter_X5 : ∀ w ∈ wsX50, w ∈ wsX5_setCenter := fun w h => List.mem_cons_of_mem _ (List.mem_append_right _ h)
theorem lk_X5_setCenter_f59 : Cond.fieldLink RX5 59 "HalftoneScreensModel" "thrown" "I" ∈ wsX5_setCenter := List.mem_of_getElem? (i := 1) rfl
theorem lk_X5_setCenter_f20 : Cond.fieldLink RX5 20 "HalftoneScreensModel" "inMiddle" "[Z" ∈ wsX5_setCenter := List.mem_of_getElem? (i := 2) rfl
theorem hsX5_keepRanks : yX5_keepRanks.cls ≠ "java/lang/invoke/MethodHandle" ∧ yX5_keepRanks.cls ≠ "java/lang/invoke/VarHandle" ∧ (parseMethodDescriptor yX5_keepRanks.desc).map (fun d => d.parameters.length) = some 1 := by decide +kernel
theorem hvX5_keepRanks : yX5_keepRanks.cls = RX5 ∧ yX5_keepRanks.cls ≠ "java/lang/invoke/MethodHandle" ∧ yX5_keepRanks.cls ≠ "java/lang/invoke/VarHandle" ∧ (parseMethodDescriptor yX5_keepRanks.desc).map (fun d => d.parameters.length) = some 1 := ⟨rfl, hsX5_keepRanks⟩
theorem hsX5_otherRanks : yX5_otherRanks.cls ≠ "java/lang/invoke/MethodHandle" ∧ yX5_otherRanks.cls ≠ "java/lang/invoke/VarHandle" ∧ (parseMethodDescriptor yX5_otherRanks.desc).map (fun d => d.parameters.length) = some 1 := by decide +kernel
theorem hvX5_otherRanks : yX5_otherRanks.cls = RX5 ∧ yX5_otherRanks.cls ≠ "java/lang/invoke/MethodHandle" ∧ yX5_otherRanks.cls ≠ "java/lang/invoke/VarHandle" ∧ (parseMethodDescriptor yX5_otherRanks.desc).map (fun d => d.parameters.length) = some 1 := ⟨rfl, hsX5_otherRanks⟩
abbrev rmX5_setCenter : Room := { frames := 6, cells := 0, slots := 0, locals := 153 }
set_option maxHeartbeats 4000000 in
set_option maxRecDepth 100000 in
theorem ctX5_setCenter (l : Launch) (G : GG) (v_q0 : Nat) (v_q1 : Nat) (v_q2 : Nat) (v_q3 : Nat) (v_q4 : Nat) (v_q5 : Nat) (v_q6 : Nat) (v_q7 : Nat) (v_q8 : Nat) (v_q9 : Nat) (v_q10 : Nat) (v_q11 : Nat) (v_q12 : Nat) (v_q13 : Nat) (v_q14 : Nat) (v_q15 : Nat) (v_q16 : Nat) (v_thrown : Int32) (v_gain : Int32) (v_size : Int32) (v_w : Int32) (v_s : Int32) (v_h : Int32) (v_laidArea : Int32) (v_parts : Int32) (v_isMinus : Int32) (v_readSpot : Int32) (v_isStar : Int32) (v_wantsNumber : Int32) (v_waiting : Int32) (v_shiftX : Int32) (v_shiftY : Int32) (v_times : Int32) (v_dotsLaid : Int32) (v_joinedLaid : Int32) (v_hash : Int64) (v_isThereA : (Nat → Int32)) (v_vA : (Nat → Int32)) (v_spotOfA : (Nat → Int32)) (v_inMiddleA : (Nat → Int32)) (v_tintsA : (Nat → Int32)) (v_bufferA : (Nat → Int32)) (v_valuesA : (Nat → Int32)) (v_ranksA : (Nat → Int32)) (v_oldRanksA : (Nat → Int32)) (v_partA : (Nat → Int32)) (v_allRanksA : (Nat → Int32)) (v_basesA : (Nat → Int32)) (v_isMetA : (Nat → Int32)) (v_metXA : (Nat → Int32)) (v_metYA : (Nat → Int32)) (v_lineA : (Nat → Int32)) (a0 : Int32) (a1 : Int32) (o0 : Int32) (o1 : Int32) (o2 : Int32) (o3 : Int32) (o4 : Int32) (o5 : Int32) (o6 : (Nat → Int32)) (o7 : (Nat → Int32)) (o8 : (Nat → Int32)) (o9 : (Nat → Int32)) (h : mX5_setCenter v_w v_s v_h v_laidArea v_isThereA v_vA v_spotOfA v_inMiddleA v_valuesA v_ranksA v_oldRanksA a0 a1 = some (o0, o1, o2, o3, o4, o5, o6, o7, o8, o9))  : Met l yX5_setCenter wsX5_setCenter rmX5_setCenter (va_Pc [.ref v_q0, .int a0, .int a1] (PreD G (wdX5 G v_q0 v_q1 v_q2 v_q3 v_q4 v_q5 v_q6 v_q7 v_q8 v_q9 v_q10 v_q11 v_q12 v_q13 v_q14 v_q15 v_q16 v_thrown v_gain v_size v_w v_s v_h v_laidArea v_parts v_isMinus v_readSpot v_isStar v_wantsNumber v_waiting v_shiftX v_shiftY v_times v_dotsLaid v_joinedLaid v_hash v_isThereA v_vA v_spotOfA v_inMiddleA v_tintsA v_bufferA v_valuesA v_ranksA v_oldRanksA v_partA v_allRanksA v_basesA v_isMetA v_metXA v_metYA v_lineA) (fun _ => True))) (QwA G (va_A0 (wdX5 G v_q0 v_q1 v_q2 v_q3 v_q4 v_q5 v_q6 v_q7 v_q8 v_q9 v_q10 v_q11 v_q12 v_q13 v_q14 v_q15 v_q16 v_thrown v_gain v_size v_w v_s v_h v_laidArea v_parts v_isMinus v_readSpot v_isStar v_wantsNumber v_waiting v_shiftX v_shiftY v_times v_dotsLaid v_joinedLaid v_hash v_isThereA v_vA v_spotOfA v_inMiddleA v_tintsA v_bufferA v_valuesA v_ranksA v_oldRanksA v_partA v_allRanksA v_basesA v_isMetA v_metXA v_metYA v_lineA)) (wdX5 G v_q0 v_q1 v_q2 v_q3 v_q4 v_q5 v_q6 v_q7 v_q8 v_q9 v_q10 v_q11 v_q12 v_q13 v_q14 v_q15 v_q16 o1 v_gain v_size o2 o3 o4 o5 v_parts v_isMinus v_readSpot v_isStar v_wantsNumber v_waiting v_shiftX v_shiftY v_times v_dotsLaid v_joinedLaid v_hash v_isThereA v_vA v_spotOfA o6 v_tintsA v_bufferA o7 o8 o9 v_partA v_allRanksA v_basesA v_isMetA v_metXA v_metYA v_lineA) (some (.int o0)) True) 0 0 (va_A0 (wdX5 G v_q0 v_q1 v_q2 v_q3 v_q4 v_q5 v_q6 v_q7 v_q8 v_q9 v_q10 v_q11 v_q12 v_q13 v_q14 v_q15 v_q16 v_thrown v_gain v_size v_w v_s v_h v_laidArea v_parts v_isMinus v_readSpot v_isStar v_wantsNumber v_waiting v_shiftX v_shiftY v_times v_dotsLaid v_joinedLaid v_hash v_isThereA v_vA v_spotOfA v_inMiddleA v_tintsA v_bufferA v_valuesA v_ranksA v_oldRanksA v_partA v_allRanksA v_basesA v_isMetA v_metXA v_metYA v_lineA)) := by
  refine of_wi (cc := cX5_setCenter) (maxL := 3) (ty := .int) (plainFor_of_name (by decide)) rfl (Nat.le_of_ble_eq_true rfl) ?_
  intro p e s m args below meth c ls Q A S hl hP hD hS hK hX hA hret
  obtain ⟨H, hH⟩ : ∃ H, H = s.heap := ⟨_, rfl⟩
  obtain ⟨locs, hlocs⟩ : ∃ L : List Loc, L = [] := ⟨_, rfl⟩
  rw [← hlocs]
  rw [← hlocs] at hS
  have hP : va_P G.1 vwCl (wdX5 G v_q0 v_q1 v_q2 v_q3 v_q4 v_q5 v_q6 v_q7 v_q8 v_q9 v_q10 v_q11 v_q12 v_q13 v_q14 v_q15 v_q16 v_thrown v_gain v_size v_w v_s v_h v_laidArea v_parts v_isMinus v_readSpot v_isStar v_wantsNumber v_waiting v_shiftX v_shiftY v_times v_dotsLaid v_joinedLaid v_hash v_isThereA v_vA v_spotOfA v_inMiddleA v_tintsA v_bufferA v_valuesA v_ranksA v_oldRanksA v_partA v_allRanksA v_basesA v_isMetA v_metXA v_metYA v_lineA) H := by rw [hH]; exact hP
  have hS : va_S A s.heap H locs := by rw [hH]; exact hS
  suffices hgo : W p l e rmX5_setCenter s m args below meth c H locs 0 0 Q (F0 m 0 ls []) by rw [hH] at hgo; exact hgo
  have S : CallFix p m c cX5_setCenter 3 s args wsX5_setCenter RX5 := S
  obtain ⟨hx, hb, hml, hown, hts⟩ := id S
  have hl : lv_has ls 3 [(0, .ref v_q0), (1, .int a0), (2, .int a1)] := hl
  unfold mX5_setCenter at h
  refine lv_aload_n hx hb dX5_setCenter_0 rfl (lv_at hl 0 rfl) ?_
  refine lv_aload_n hx hb dX5_setCenter_1 rfl (lv_at hl 0 rfl) ?_
  refine lv_iload_n hx hb dX5_setCenter_2 rfl (lv_at hl 1 rfl) ?_
  obtain ⟨r1_0, g1, h⟩ := bnd1_e h
  refine roVi1 (rest := [.ref v_q0]) (As := [.int a0]) S (ctX5_missing l G v_q0 v_q1 v_q2 v_q3 v_q4 v_q5 v_q6 v_q7 v_q8 v_q9 v_q10 v_q11 v_q12 v_q13 v_q14 v_q15 v_q16 v_thrown v_gain v_size v_w v_s v_h v_laidArea v_parts v_isMinus v_readSpot v_isStar v_wantsNumber v_waiting v_shiftX v_shiftY v_times v_dotsLaid v_joinedLaid v_hash v_isThereA v_vA v_spotOfA v_inMiddleA v_tintsA v_bufferA v_valuesA v_ranksA v_oldRanksA v_partA v_allRanksA v_basesA v_isMetA v_metXA v_metYA v_lineA a0 r1_0 g1) (cwV 1 hts gX5_setCenter_X5_missing rfl rfl rfl hvX5_missing ⟨Nat.le_of_ble_eq_true rfl, Nat.le_of_ble_eq_true rfl⟩) hK hP [0, 1, 2, 3, 4, 5, 6, 7, 8, 9, 10, 11, 12, 13, 14, 15, 16] rfl 0 5 rfl rfl rfl rfl hl.1 rfl (Nat.le_of_ble_eq_true rfl) dX5_setCenter_3 ⟨Nat.le_refl _, Nat.le_refl _⟩ (fun _ => ?_)
  refine va_put (D := G.1) (ci := 5) (v := .int r1_0) (ty := .int) (C := RX5) (T := TX5) (N := 35) hx hb hts fw_X5_setCenter_X5 tyX5 tyX5_ok nmX5 hown hK.1 hP hD hS 0 rfl rfl 0 (by decide) (hts (.fieldLink RX5 59 "HalftoneScreensModel" "thrown" "I") lk_X5_setCenter_f59) (fun _ h9 => h9) rfl (tyX5_ok 0 (by decide)) rfl rfl (Nat.le_of_ble_eq_true rfl) dX5_setCenter_6 (fun H locs hP hD hS => ?_)
  have hP : va_P G.1 vwCl (wdX5 G v_q0 v_q1 v_q2 v_q3 v_q4 v_q5 v_q6 v_q7 v_q8 v_q9 v_q10 v_q11 v_q12 v_q13 v_q14 v_q15 v_q16 r1_0 v_gain v_size v_w v_s v_h v_laidArea v_parts v_isMinus v_readSpot v_isStar v_wantsNumber v_waiting v_shiftX v_shiftY v_times v_dotsLaid v_joinedLaid v_hash v_isThereA v_vA v_spotOfA v_inMiddleA v_tintsA v_bufferA v_valuesA v_ranksA v_oldRanksA v_partA v_allRanksA v_basesA v_isMetA v_metXA v_metYA v_lineA) H := hP
  have hD : va_D A (wdX5 G v_q0 v_q1 v_q2 v_q3 v_q4 v_q5 v_q6 v_q7 v_q8 v_q9 v_q10 v_q11 v_q12 v_q13 v_q14 v_q15 v_q16 r1_0 v_gain v_size v_w v_s v_h v_laidArea v_parts v_isMinus v_readSpot v_isStar v_wantsNumber v_waiting v_shiftX v_shiftY v_times v_dotsLaid v_joinedLaid v_hash v_isThereA v_vA v_spotOfA v_inMiddleA v_tintsA v_bufferA v_valuesA v_ranksA v_oldRanksA v_partA v_allRanksA v_basesA v_isMetA v_metXA v_metYA v_lineA) := hD
  refine lv_aload_n hx hb dX5_setCenter_9 rfl (lv_at hl 0 rfl) ?_
  refine va_get (D := G.1) (ci := 5) (v := .int r1_0) (C := RX5) (T := TX5) (N := 35) hx hb hts fw_X5_setCenter_X5 hown hK.1 hP 0 rfl rfl 0 (by decide) (hts (.fieldLink RX5 59 "HalftoneScreensModel" "thrown" "I") lk_X5_setCenter_f59) (fun _ h9 => h9) rfl dX5_setCenter_10 ?_
  refine lv_if_le (tgt := 18) hx hb dX5_setCenter_13 (by decide) (fun c2 => ?_) (fun c2 => ?_)
  · replace h := ite_t c2 h
    refine lv_aload_n hx hb dX5_setCenter_18 rfl (lv_at hl 0 rfl) ?_
    refine lv_iload_n hx hb dX5_setCenter_19 rfl (lv_at hl 1 rfl) ?_
    obtain ⟨r3_0, r3_1, r3_2, r3_3, r3_4, r3_5, r3_6, g3, h⟩ := bnd7_e h
    refine rwV_same (rest := []) (As := [.int a0]) S (ctX5_keepRanks l G v_q0 v_q1 v_q2 v_q3 v_q4 v_q5 v_q6 v_q7 v_q8 v_q9 v_q10 v_q11 v_q12 v_q13 v_q14 v_q15 v_q16 r1_0 v_gain v_size v_w v_s v_h v_laidArea v_parts v_isMinus v_readSpot v_isStar v_wantsNumber v_waiting v_shiftX v_shiftY v_times v_dotsLaid v_joinedLaid v_hash v_isThereA v_vA v_spotOfA v_inMiddleA v_tintsA v_bufferA v_valuesA v_ranksA v_oldRanksA v_partA v_allRanksA v_basesA v_isMetA v_metXA v_metYA v_lineA a0 r3_0 r3_1 r3_2 r3_3 r3_4 r3_5 r3_6 g3) (cwV 1 hts gX5_setCenter_X5_keepRanks rfl rfl rfl hvX5_keepRanks ⟨Nat.le_of_ble_eq_true rfl, Nat.le_of_ble_eq_true rfl⟩) hK hP hD hS xb_triv (fun _ _ _ => trivial) 0 5 rfl rfl rfl rfl hl.1 rfl (Nat.le_of_ble_eq_true rfl) dX5_setCenter_20 ⟨Nat.le_refl _, Nat.le_refl _⟩ (fun _ H locs hP hD hS => ?_)
    have hP : va_P G.1 vwCl (wdX5 G v_q0 v_q1 v_q2 v_q3 v_q4 v_q5 v_q6 v_q7 v_q8 v_q9 v_q10 v_q11 v_q12 v_q13 v_q14 v_q15 v_q16 r1_0 v_gain v_size r3_0 r3_1 r3_2 r3_3 v_parts v_isMinus v_readSpot v_isStar v_wantsNumber v_waiting v_shiftX v_shiftY v_times v_dotsLaid v_joinedLaid v_hash v_isThereA v_vA v_spotOfA v_inMiddleA v_tintsA v_bufferA r3_4 r3_5 r3_6 v_partA v_allRanksA v_basesA v_isMetA v_metXA v_metYA v_lineA) H := hP
    have hD : va_D A (wdX5 G v_q0 v_q1 v_q2 v_q3 v_q4 v_q5 v_q6 v_q7 v_q8 v_q9 v_q10 v_q11 v_q12 v_q13 v_q14 v_q15 v_q16 r1_0 v_gain v_size r3_0 r3_1 r3_2 r3_3 v_parts v_isMinus v_readSpot v_isStar v_wantsNumber v_waiting v_shiftX v_shiftY v_times v_dotsLaid v_joinedLaid v_hash v_isThereA v_vA v_spotOfA v_inMiddleA v_tintsA v_bufferA r3_4 r3_5 r3_6 v_partA v_allRanksA v_basesA v_isMetA v_metXA v_metYA v_lineA) := hD
    refine lv_aload_n hx hb dX5_setCenter_23 rfl (lv_at hl 0 rfl) ?_
    refine va_get (D := G.1) (ci := 5) (v := .ref v_q4) (C := RX5) (T := TX5) (N := 35) hx hb hts fw_X5_setCenter_X5 hown hK.1 hP 0 rfl rfl 4 (by decide) (hts (.fieldLink RX5 20 "HalftoneScreensModel" "inMiddle" "[Z") lk_X5_setCenter_f20) (fun _ h9 => h9) rfl dX5_setCenter_24 ?_
    refine lv_iload_n hx hb dX5_setCenter_27 rfl (lv_at hl 1 rfl) ?_
    refine lv_iload_n hx hb dX5_setCenter_28 rfl (lv_at hl 2 rfl) ?_
    obtain ⟨i4, h⟩ := gd_e h
    refine va_zast hx hb hK.1 hP hD hS 4 1 rfl rfl i4 dX5_setCenter_29 (fun H locs hP hD hS => ?_)
    have hP : va_P G.1 vwCl (wdX5 G v_q0 v_q1 v_q2 v_q3 v_q4 v_q5 v_q6 v_q7 v_q8 v_q9 v_q10 v_q11 v_q12 v_q13 v_q14 v_q15 v_q16 r1_0 v_gain v_size r3_0 r3_1 r3_2 r3_3 v_parts v_isMinus v_readSpot v_isStar v_wantsNumber v_waiting v_shiftX v_shiftY v_times v_dotsLaid v_joinedLaid v_hash v_isThereA v_vA v_spotOfA (upd v_inMiddleA a0.toNatClampNeg (vp_nar .boolean a1)) v_tintsA v_bufferA r3_4 r3_5 r3_6 v_partA v_allRanksA v_basesA v_isMetA v_metXA v_metYA v_lineA) H := hP
    have hD : va_D A (wdX5 G v_q0 v_q1 v_q2 v_q3 v_q4 v_q5 v_q6 v_q7 v_q8 v_q9 v_q10 v_q11 v_q12 v_q13 v_q14 v_q15 v_q16 r1_0 v_gain v_size r3_0 r3_1 r3_2 r3_3 v_parts v_isMinus v_readSpot v_isStar v_wantsNumber v_waiting v_shiftX v_shiftY v_times v_dotsLaid v_joinedLaid v_hash v_isThereA v_vA v_spotOfA (upd v_inMiddleA a0.toNatClampNeg (vp_nar .boolean a1)) v_tintsA v_bufferA r3_4 r3_5 r3_6 v_partA v_allRanksA v_basesA v_isMetA v_metXA v_metYA v_lineA) := hD
    refine lv_aload_n hx hb dX5_setCenter_30 rfl (lv_at hl 0 rfl) ?_
    refine lv_iload_n hx hb dX5_setCenter_31 rfl (lv_at hl 1 rfl) ?_
    obtain ⟨r5_0, r5_1, r5_2, r5_3, r5_4, r5_5, r5_6, g5, h⟩ := bnd7_e h
    refine rwV_same (rest := []) (As := [.int a0]) S (ctX5_otherRanks l G v_q0 v_q1 v_q2 v_q3 v_q4 v_q5 v_q6 v_q7 v_q8 v_q9 v_q10 v_q11 v_q12 v_q13 v_q14 v_q15 v_q16 r1_0 v_gain v_size r3_0 r3_1 r3_2 r3_3 v_parts v_isMinus v_readSpot v_isStar v_wantsNumber v_waiting v_shiftX v_shiftY v_times v_dotsLaid v_joinedLaid v_hash v_isThereA v_vA v_spotOfA (upd v_inMiddleA a0.toNatClampNeg (vp_nar .boolean a1)) v_tintsA v_bufferA r3_4 r3_5 r3_6 v_partA v_allRanksA v_basesA v_isMetA v_metXA v_metYA v_lineA a0 r5_0 r5_1 r5_2 r5_3 r5_4 r5_5 r5_6 g5) (cwV 1 hts gX5_setCenter_X5_otherRanks rfl rfl rfl hvX5_otherRanks ⟨Nat.le_of_ble_eq_true rfl, Nat.le_of_ble_eq_true rfl⟩) hK hP hD hS xb_triv (fun _ _ _ => trivial) 0 5 rfl rfl rfl rfl hl.1 rfl (Nat.le_of_ble_eq_true rfl) dX5_setCenter_32 ⟨Nat.le_refl _, Nat.le_refl _⟩ (fun _ H locs hP hD hS => ?_)
    have hP : va_P G.1 vwCl (wdX5 G v_q0 v_q1 v_q2 v_q3 v_q4 v_q5 v_q6 v_q7 v_q8 v_q9 v_q10 v_q11 v_q12 v_q13 v_q14 v_q15 v_q16 r1_0 v_gain v_size r5_1 r5_2 r5_3 r5_4 v_parts v_isMinus v_readSpot v_isStar v_wantsNumber v_waiting v_shiftX v_shiftY v_times v_dotsLaid v_joinedLaid v_hash v_isThereA v_vA v_spotOfA (upd v_inMiddleA a0.toNatClampNeg (vp_nar .boolean a1)) v_tintsA v_bufferA r5_5 r5_6 r3_6 v_partA v_allRanksA v_basesA v_isMetA v_metXA v_metYA v_lineA) H := hP
    have hD : va_D A (wdX5 G v_q0 v_q1 v_q2 v_q3 v_q4 v_q5 v_q6 v_q7 v_q8 v_q9 v_q10 v_q11 v_q12 v_q13 v_q14 v_q15 v_q16 r1_0 v_gain v_size r5_1 r5_2 r5_3 r5_4 v_parts v_isMinus v_readSpot v_isStar v_wantsNumber v_waiting v_shiftX v_shiftY v_times v_dotsLaid v_joinedLaid v_hash v_isThereA v_vA v_spotOfA (upd v_inMiddleA a0.toNatClampNeg (vp_nar .boolean a1)) v_tintsA v_bufferA r5_5 r5_6 r3_6 v_partA v_allRanksA v_basesA v_isMetA v_metXA v_metYA v_lineA) := hD
    obtain ⟨rfl, rfl, rfl, rfl, rfl, rfl, rfl, rfl, rfl, rfl⟩ := sm10 h
    exact hret _ _ _ _ _ rfl trivial rfl hP hD hS dX5_setCenter_35
  · replace h := ite_f c2 h
    refine lv_iconst (v := 0) hx hb dX5_setCenter_16 (by decide) ?_
    obtain ⟨rfl, rfl, rfl, rfl, rfl, rfl, rfl, rfl, rfl, rfl⟩ := sm10 h
    exact hret _ _ _ _ _ rfl trivial rfl hP hD hS dX5_setCenter_17
theorem fw_X5_turn_X5 : ∀ w ∈ wsX50, w ∈ wsX5_turn := fun w h => List.mem_cons_of_mem _ (List.mem_append_right _ h)
theorem lk_X5_turn_f59 : Cond.fieldLink RX5 59 "HalftoneScreensModel" "thrown" "I" ∈ wsX5_turn := List.mem_of_getElem? (i := 1) rfl
theorem hsX5_turnVector : yX5_turnVector.cls ≠ "java/lang/invoke/MethodHandle" ∧ yX5_turnVector.cls ≠ "java/lang/invoke/VarHandle" ∧ (parseMethodDescriptor yX5_turnVector.desc).map (fun d => d.parameters.length) = some 2 := by decide +kernel
theorem hvX5_turnVector : yX5_turnVector.cls = RX5 ∧ yX5_turnVector.cls ≠ "java/lang/invoke/MethodHandle" ∧ yX5_turnVector.cls ≠ "java/lang/invoke/VarHandle" ∧ (parseMethodDescriptor yX5_turnVector.desc).map (fun d => d.parameters.length) = some 2 := ⟨rfl, hsX5_turnVector⟩
theorem hsX5_wrong : yX5_wrong.cls ≠ "java/lang/invoke/MethodHandle" ∧ yX5_wrong.cls ≠ "java/lang/invoke/VarHandle" ∧ (parseMethodDescriptor yX5_wrong.desc).map (fun d => d.parameters.length) = some 2 := by decide +kernel
theorem hvX5_wrong : yX5_wrong.cls = RX5 ∧ yX5_wrong.cls ≠ "java/lang/invoke/MethodHandle" ∧ yX5_wrong.cls ≠ "java/lang/invoke/VarHandle" ∧ (parseMethodDescriptor yX5_wrong.desc).map (fun d => d.parameters.length) = some 2 := ⟨rfl, hsX5_wrong⟩
abbrev rmX5_turn : Room := { frames := 6, cells := 0, slots := 0, locals := 153 }
set_option maxHeartbeats 4000000 in
set_option maxRecDepth 100000 in
theorem ctX5_turn (l : Launch) (G : GG) (v_q0 : Nat) (v_q1 : Nat) (v_q2 : Nat) (v_q3 : Nat) (v_q4 : Nat) (v_q5 : Nat) (v_q6 : Nat) (v_q7 : Nat) (v_q8 : Nat) (v_q9 : Nat) (v_q10 : Nat) (v_q11 : Nat) (v_q12 : Nat) (v_q13 : Nat) (v_q14 : Nat) (v_q15 : Nat) (v_q16 : Nat) (v_thrown : Int32) (v_gain : Int32) (v_size : Int32) (v_w : Int32) (v_s : Int32) (v_h : Int32) (v_laidArea : Int32) (v_parts : Int32) (v_isMinus : Int32) (v_readSpot : Int32) (v_isStar : Int32) (v_wantsNumber : Int32) (v_waiting : Int32) (v_shiftX : Int32) (v_shiftY : Int32) (v_times : Int32) (v_dotsLaid : Int32) (v_joinedLaid : Int32) (v_hash : Int64) (v_isThereA : (Nat → Int32)) (v_vA : (Nat → Int32)) (v_spotOfA : (Nat → Int32)) (v_inMiddleA : (Nat → Int32)) (v_tintsA : (Nat → Int32)) (v_bufferA : (Nat → Int32)) (v_valuesA : (Nat → Int32)) (v_ranksA : (Nat → Int32)) (v_oldRanksA : (Nat → Int32)) (v_partA : (Nat → Int32)) (v_allRanksA : (Nat → Int32)) (v_basesA : (Nat → Int32)) (v_isMetA : (Nat → Int32)) (v_metXA : (Nat → Int32)) (v_metYA : (Nat → Int32)) (v_lineA : (Nat → Int32)) (a0 : Int32) (a1 : Int32) (o0 : Int32) (o1 : Int32) (o2 : Int32) (o3 : Int32) (o4 : Int32) (o5 : Int32) (o6 : (Nat → Int32)) (o7 : (Nat → Int32)) (o8 : (Nat → Int32)) (o9 : (Nat → Int32)) (h : mX5_turn v_w v_s v_h v_laidArea v_isThereA v_vA v_spotOfA v_inMiddleA v_valuesA v_ranksA v_oldRanksA a0 a1 = some (o0, o1, o2, o3, o4, o5, o6, o7, o8, o9))  : Met l yX5_turn wsX5_turn rmX5_turn (va_Pc [.ref v_q0, .int a0, .int a1] (PreD G (wdX5 G v_q0 v_q1 v_q2 v_q3 v_q4 v_q5 v_q6 v_q7 v_q8 v_q9 v_q10 v_q11 v_q12 v_q13 v_q14 v_q15 v_q16 v_thrown v_gain v_size v_w v_s v_h v_laidArea v_parts v_isMinus v_readSpot v_isStar v_wantsNumber v_waiting v_shiftX v_shiftY v_times v_dotsLaid v_joinedLaid v_hash v_isThereA v_vA v_spotOfA v_inMiddleA v_tintsA v_bufferA v_valuesA v_ranksA v_oldRanksA v_partA v_allRanksA v_basesA v_isMetA v_metXA v_metYA v_lineA) (fun _ => True))) (QwA G (va_A0 (wdX5 G v_q0 v_q1 v_q2 v_q3 v_q4 v_q5 v_q6 v_q7 v_q8 v_q9 v_q10 v_q11 v_q12 v_q13 v_q14 v_q15 v_q16 v_thrown v_gain v_size v_w v_s v_h v_laidArea v_parts v_isMinus v_readSpot v_isStar v_wantsNumber v_waiting v_shiftX v_shiftY v_times v_dotsLaid v_joinedLaid v_hash v_isThereA v_vA v_spotOfA v_inMiddleA v_tintsA v_bufferA v_valuesA v_ranksA v_oldRanksA v_partA v_allRanksA v_basesA v_isMetA v_metXA v_metYA v_lineA)) (wdX5 G v_q0 v_q1 v_q2 v_q3 v_q4 v_q5 v_q6 v_q7 v_q8 v_q9 v_q10 v_q11 v_q12 v_q13 v_q14 v_q15 v_q16 o1 v_gain v_size o2 o3 o4 o5 v_parts v_isMinus v_readSpot v_isStar v_wantsNumber v_waiting v_shiftX v_shiftY v_times v_dotsLaid v_joinedLaid v_hash v_isThereA o6 v_spotOfA v_inMiddleA v_tintsA v_bufferA o7 o8 o9 v_partA v_allRanksA v_basesA v_isMetA v_metXA v_metYA v_lineA) (some (.int o0)) True) 0 0 (va_A0 (wdX5 G v_q0 v_q1 v_q2 v_q3 v_q4 v_q5 v_q6 v_q7 v_q8 v_q9 v_q10 v_q11 v_q12 v_q13 v_q14 v_q15 v_q16 v_thrown v_gain v_size v_w v_s v_h v_laidArea v_parts v_isMinus v_readSpot v_isStar v_wantsNumber v_waiting v_shiftX v_shiftY v_times v_dotsLaid v_joinedLaid v_hash v_isThereA v_vA v_spotOfA v_inMiddleA v_tintsA v_bufferA v_valuesA v_ranksA v_oldRanksA v_partA v_allRanksA v_basesA v_isMetA v_metXA v_metYA v_lineA)) := by
  refine of_wi (cc := cX5_turn) (maxL := 3) (ty := .int) (plainFor_of_name (by decide)) rfl (Nat.le_of_ble_eq_true rfl) ?_
  intro p e s m args below meth c ls Q A S hl hP hD hS hK hX hA hret
  obtain ⟨H, hH⟩ : ∃ H, H = s.heap := ⟨_, rfl⟩
  obtain ⟨locs, hlocs⟩ : ∃ L : List Loc, L = [] := ⟨_, rfl⟩
  rw [← hlocs]
  rw [← hlocs] at hS
  have hP : va_P G.1 vwCl (wdX5 G v_q0 v_q1 v_q2 v_q3 v_q4 v_q5 v_q6 v_q7 v_q8 v_q9 v_q10 v_q11 v_q12 v_q13 v_q14 v_q15 v_q16 v_thrown v_gain v_size v_w v_s v_h v_laidArea v_parts v_isMinus v_readSpot v_isStar v_wantsNumber v_waiting v_shiftX v_shiftY v_times v_dotsLaid v_joinedLaid v_hash v_isThereA v_vA v_spotOfA v_inMiddleA v_tintsA v_bufferA v_valuesA v_ranksA v_oldRanksA v_partA v_allRanksA v_basesA v_isMetA v_metXA v_metYA v_lineA) H := by rw [hH]; exact hP
  have hS : va_S A s.heap H locs := by rw [hH]; exact hS
  suffices hgo : W p l e rmX5_turn s m args below meth c H locs 0 0 Q (F0 m 0 ls []) by rw [hH] at hgo; exact hgo
  have S : CallFix p m c cX5_turn 3 s args wsX5_turn RX5 := S
  obtain ⟨hx, hb, hml, hown, hts⟩ := id S
  have hl : lv_has ls 3 [(0, .ref v_q0), (1, .int a0), (2, .int a1)] := hl
  unfold mX5_turn at h
  refine lv_aload_n hx hb dX5_turn_0 rfl (lv_at hl 0 rfl) ?_
  refine lv_aload_n hx hb dX5_turn_1 rfl (lv_at hl 0 rfl) ?_
  refine lv_iload_n hx hb dX5_turn_2 rfl (lv_at hl 1 rfl) ?_
  refine lv_iload_n hx hb dX5_turn_3 rfl (lv_at hl 2 rfl) ?_
  refine lv_iconst (v := 0) hx hb dX5_turn_4 (by decide) ?_
  refine lv_iconst (v := 2) hx hb dX5_turn_5 (by decide) ?_
  obtain ⟨r1_0, g1, h⟩ := bnd1_e h
  refine roSi1 (rest := [.int a0, .ref v_q0, .ref v_q0]) (As := [.int a1, .int 0, .int 2]) S (ctX5_within l G a1 0 2 r1_0 g1) (va_cwS 3 hts gX5_turn_X5_within rfl rfl rfl hsX5_within ⟨Nat.le_of_ble_eq_true rfl, Nat.le_of_ble_eq_true rfl⟩) hK hP [] rfl rfl hl.1 rfl (Nat.le_of_ble_eq_true rfl) dX5_turn_6 ⟨Nat.le_refl _, Nat.le_refl _⟩ (fun hz1 => ?_)
  obtain ⟨r2_0, g2, h⟩ := bnd1_e h
  refine roVi1 (rest := [.ref v_q0]) (As := [.int a0, .int r1_0]) S (ctX5_wrong l G v_q0 v_q1 v_q2 v_q3 v_q4 v_q5 v_q6 v_q7 v_q8 v_q9 v_q10 v_q11 v_q12 v_q13 v_q14 v_q15 v_q16 v_thrown v_gain v_size v_w v_s v_h v_laidArea v_parts v_isMinus v_readSpot v_isStar v_wantsNumber v_waiting v_shiftX v_shiftY v_times v_dotsLaid v_joinedLaid v_hash v_isThereA v_vA v_spotOfA v_inMiddleA v_tintsA v_bufferA v_valuesA v_ranksA v_oldRanksA v_partA v_allRanksA v_basesA v_isMetA v_metXA v_metYA v_lineA a0 r1_0 r2_0 g2) (cwV 2 hts gX5_turn_X5_wrong rfl rfl rfl hvX5_wrong ⟨Nat.le_of_ble_eq_true rfl, Nat.le_of_ble_eq_true rfl⟩) hK hP [0, 1, 2, 3, 4, 5, 6, 7, 8, 9, 10, 11, 12, 13, 14, 15, 16] rfl 0 5 rfl rfl rfl rfl hl.1 rfl (Nat.le_of_ble_eq_true rfl) dX5_turn_9 ⟨Nat.le_refl _, Nat.le_refl _⟩ (fun _ => ?_)
  refine va_put (D := G.1) (ci := 5) (v := .int r2_0) (ty := .int) (C := RX5) (T := TX5) (N := 35) hx hb hts fw_X5_turn_X5 tyX5 tyX5_ok nmX5 hown hK.1 hP hD hS 0 rfl rfl 0 (by decide) (hts (.fieldLink RX5 59 "HalftoneScreensModel" "thrown" "I") lk_X5_turn_f59) (fun _ h9 => h9) rfl (tyX5_ok 0 (by decide)) rfl rfl (Nat.le_of_ble_eq_true rfl) dX5_turn_12 (fun H locs hP hD hS => ?_)
  have hP : va_P G.1 vwCl (wdX5 G v_q0 v_q1 v_q2 v_q3 v_q4 v_q5 v_q6 v_q7 v_q8 v_q9 v_q10 v_q11 v_q12 v_q13 v_q14 v_q15 v_q16 r2_0 v_gain v_size v_w v_s v_h v_laidArea v_parts v_isMinus v_readSpot v_isStar v_wantsNumber v_waiting v_shiftX v_shiftY v_times v_dotsLaid v_joinedLaid v_hash v_isThereA v_vA v_spotOfA v_inMiddleA v_tintsA v_bufferA v_valuesA v_ranksA v_oldRanksA v_partA v_allRanksA v_basesA v_isMetA v_metXA v_metYA v_lineA) H := hP
  have hD : va_D A (wdX5 G v_q0 v_q1 v_q2 v_q3 v_q4 v_q5 v_q6 v_q7 v_q8 v_q9 v_q10 v_q11 v_q12 v_q13 v_q14 v_q15 v_q16 r2_0 v_gain v_size v_w v_s v_h v_laidArea v_parts v_isMinus v_readSpot v_isStar v_wantsNumber v_waiting v_shiftX v_shiftY v_times v_dotsLaid v_joinedLaid v_hash v_isThereA v_vA v_spotOfA v_inMiddleA v_tintsA v_bufferA v_valuesA v_ranksA v_oldRanksA v_partA v_allRanksA v_basesA v_isMetA v_metXA v_metYA v_lineA) := hD
  refine lv_aload_n hx hb dX5_turn_15 rfl (lv_at hl 0 rfl) ?_
  refine va_get (D := G.1) (ci := 5) (v := .int r2_0) (C := RX5) (T := TX5) (N := 35) hx hb hts fw_X5_turn_X5 hown hK.1 hP 0 rfl rfl 0 (by decide) (hts (.fieldLink RX5 59 "HalftoneScreensModel" "thrown" "I") lk_X5_turn_f59) (fun _ h9 => h9) rfl dX5_turn_16 ?_
  refine lv_if_le (tgt := 24) hx hb dX5_turn_19 (by decide) (fun c3 => ?_) (fun c3 => ?_)
  · replace h := ite_t c3 h
    refine lv_aload_n hx hb dX5_turn_24 rfl (lv_at hl 0 rfl) ?_
    refine lv_iload_n hx hb dX5_turn_25 rfl (lv_at hl 1 rfl) ?_
    obtain ⟨r4_0, r4_1, r4_2, r4_3, r4_4, r4_5, r4_6, g4, h⟩ := bnd7_e h
    refine rwV_same (rest := []) (As := [.int a0]) S (ctX5_keepRanks l G v_q0 v_q1 v_q2 v_q3 v_q4 v_q5 v_q6 v_q7 v_q8 v_q9 v_q10 v_q11 v_q12 v_q13 v_q14 v_q15 v_q16 r2_0 v_gain v_size v_w v_s v_h v_laidArea v_parts v_isMinus v_readSpot v_isStar v_wantsNumber v_waiting v_shiftX v_shiftY v_times v_dotsLaid v_joinedLaid v_hash v_isThereA v_vA v_spotOfA v_inMiddleA v_tintsA v_bufferA v_valuesA v_ranksA v_oldRanksA v_partA v_allRanksA v_basesA v_isMetA v_metXA v_metYA v_lineA a0 r4_0 r4_1 r4_2 r4_3 r4_4 r4_5 r4_6 g4) (cwV 1 hts gX5_turn_X5_keepRanks rfl rfl rfl hvX5_keepRanks ⟨Nat.le_of_ble_eq_true rfl, Nat.le_of_ble_eq_true rfl⟩) hK hP hD hS xb_triv (fun _ _ _ => trivial) 0 5 rfl rfl rfl rfl hl.1 rfl (Nat.le_of_ble_eq_true rfl) dX5_turn_26 ⟨Nat.le_refl _, Nat.le_refl _⟩ (fun _ H locs hP hD hS => ?_)
    have hP : va_P G.1 vwCl (wdX5 G v_q0 v_q1 v_q2 v_q3 v_q4 v_q5 v_q6 v_q7 v_q8 v_q9 v_q10 v_q11 v_q12 v_q13 v_q14 v_q15 v_q16 r2_0 v_gain v_size r4_0 r4_1 r4_2 r4_3 v_parts v_isMinus v_readSpot v_isStar v_wantsNumber v_waiting v_shiftX v_shiftY v_times v_dotsLaid v_joinedLaid v_hash v_isThereA v_vA v_spotOfA v_inMiddleA v_tintsA v_bufferA r4_4 r4_5 r4_6 v_partA v_allRanksA v_basesA v_isMetA v_metXA v_metYA v_lineA) H := hP
    have hD : va_D A (wdX5 G v_q0 v_q1 v_q2 v_q3 v_q4 v_q5 v_q6 v_q7 v_q8 v_q9 v_q10 v_q11 v_q12 v_q13 v_q14 v_q15 v_q16 r2_0 v_gain v_size r4_0 r4_1 r4_2 r4_3 v_parts v_isMinus v_readSpot v_isStar v_wantsNumber v_waiting v_shiftX v_shiftY v_times v_dotsLaid v_joinedLaid v_hash v_isThereA v_vA v_spotOfA v_inMiddleA v_tintsA v_bufferA r4_4 r4_5 r4_6 v_partA v_allRanksA v_basesA v_isMetA v_metXA v_metYA v_lineA) := hD
    refine lv_aload_n hx hb dX5_turn_29 rfl (lv_at hl 0 rfl) ?_
    refine lv_iconst (v := 4) hx hb dX5_turn_30 (by decide) ?_
    refine lv_iload_n hx hb dX5_turn_31 rfl (lv_at hl 1 rfl) ?_
    refine lv_imul hx hb dX5_turn_32 ?_
    refine lv_iload_n hx hb dX5_turn_33 rfl (lv_at hl 2 rfl) ?_
    obtain ⟨r5_0, g5, h⟩ := bnd1_e h
    refine rwV_same (rest := []) (As := [.int (4 * a0), .int a1]) S (ctX5_turnVector l G v_q0 v_q1 v_q2 v_q3 v_q4 v_q5 v_q6 v_q7 v_q8 v_q9 v_q10 v_q11 v_q12 v_q13 v_q14 v_q15 v_q16 r2_0 v_gain v_size r4_0 r4_1 r4_2 r4_3 v_parts v_isMinus v_readSpot v_isStar v_wantsNumber v_waiting v_shiftX v_shiftY v_times v_dotsLaid v_joinedLaid v_hash v_isThereA v_vA v_spotOfA v_inMiddleA v_tintsA v_bufferA r4_4 r4_5 r4_6 v_partA v_allRanksA v_basesA v_isMetA v_metXA v_metYA v_lineA (4 * a0) a1 r5_0 g5) (cwV 2 hts gX5_turn_X5_turnVector rfl rfl rfl hvX5_turnVector ⟨Nat.le_of_ble_eq_true rfl, Nat.le_of_ble_eq_true rfl⟩) hK hP hD hS xb_triv (fun _ _ _ => trivial) 0 5 rfl rfl rfl rfl hl.1 rfl (Nat.le_of_ble_eq_true rfl) dX5_turn_34 ⟨Nat.le_refl _, Nat.le_refl _⟩ (fun _ H locs hP hD hS => ?_)
    have hP : va_P G.1 vwCl (wdX5 G v_q0 v_q1 v_q2 v_q3 v_q4 v_q5 v_q6 v_q7 v_q8 v_q9 v_q10 v_q11 v_q12 v_q13 v_q14 v_q15 v_q16 r2_0 v_gain v_size r4_0 r4_1 r4_2 r4_3 v_parts v_isMinus v_readSpot v_isStar v_wantsNumber v_waiting v_shiftX v_shiftY v_times v_dotsLaid v_joinedLaid v_hash v_isThereA r5_0 v_spotOfA v_inMiddleA v_tintsA v_bufferA r4_4 r4_5 r4_6 v_partA v_allRanksA v_basesA v_isMetA v_metXA v_metYA v_lineA) H := hP
    have hD : va_D A (wdX5 G v_q0 v_q1 v_q2 v_q3 v_q4 v_q5 v_q6 v_q7 v_q8 v_q9 v_q10 v_q11 v_q12 v_q13 v_q14 v_q15 v_q16 r2_0 v_gain v_size r4_0 r4_1 r4_2 r4_3 v_parts v_isMinus v_readSpot v_isStar v_wantsNumber v_waiting v_shiftX v_shiftY v_times v_dotsLaid v_joinedLaid v_hash v_isThereA r5_0 v_spotOfA v_inMiddleA v_tintsA v_bufferA r4_4 r4_5 r4_6 v_partA v_allRanksA v_basesA v_isMetA v_metXA v_metYA v_lineA) := hD
    refine lv_aload_n hx hb dX5_turn_37 rfl (lv_at hl 0 rfl) ?_
    refine lv_iconst (v := 4) hx hb dX5_turn_38 (by decide) ?_
    refine lv_iload_n hx hb dX5_turn_39 rfl (lv_at hl 1 rfl) ?_
    refine lv_imul hx hb dX5_turn_40 ?_
    refine lv_iconst (v := 2) hx hb dX5_turn_41 (by decide) ?_
    refine lv_iadd hx hb dX5_turn_42 ?_
    refine lv_iload_n hx hb dX5_turn_43 rfl (lv_at hl 2 rfl) ?_
    obtain ⟨r6_0, g6, h⟩ := bnd1_e h
    refine rwV_same (rest := []) (As := [.int ((4 * a0) + 2), .int a1]) S (ctX5_turnVector l G v_q0 v_q1 v_q2 v_q3 v_q4 v_q5 v_q6 v_q7 v_q8 v_q9 v_q10 v_q11 v_q12 v_q13 v_q14 v_q15 v_q16 r2_0 v_gain v_size r4_0 r4_1 r4_2 r4_3 v_parts v_isMinus v_readSpot v_isStar v_wantsNumber v_waiting v_shiftX v_shiftY v_times v_dotsLaid v_joinedLaid v_hash v_isThereA r5_0 v_spotOfA v_inMiddleA v_tintsA v_bufferA r4_4 r4_5 r4_6 v_partA v_allRanksA v_basesA v_isMetA v_metXA v_metYA v_lineA ((4 * a0) + 2) a1 r6_0 g6) (cwV 2 hts gX5_turn_X5_turnVector rfl rfl rfl hvX5_turnVector ⟨Nat.le_of_ble_eq_true rfl, Nat.le_of_ble_eq_true rfl⟩) hK hP hD hS xb_triv (fun _ _ _ => trivial) 0 5 rfl rfl rfl rfl hl.1 rfl (Nat.le_of_ble_eq_true rfl) dX5_turn_44 ⟨Nat.le_refl _, Nat.le_refl _⟩ (fun _ H locs hP hD hS => ?_)
    have hP : va_P G.1 vwCl (wdX5 G v_q0 v_q1 v_q2 v_q3 v_q4 v_q5 v_q6 v_q7 v_q8 v_q9 v_q10 v_q11 v_q12 v_q13 v_q14 v_q15 v_q16 r2_0 v_gain v_size r4_0 r4_1 r4_2 r4_3 v_parts v_isMinus v_readSpot v_isStar v_wantsNumber v_waiting v_shiftX v_shiftY v_times v_dotsLaid v_joinedLaid v_hash v_isThereA r6_0 v_spotOfA v_inMiddleA v_tintsA v_bufferA r4_4 r4_5 r4_6 v_partA v_allRanksA v_basesA v_isMetA v_metXA v_metYA v_lineA) H := hP
    have hD : va_D A (wdX5 G v_q0 v_q1 v_q2 v_q3 v_q4 v_q5 v_q6 v_q7 v_q8 v_q9 v_q10 v_q11 v_q12 v_q13 v_q14 v_q15 v_q16 r2_0 v_gain v_size r4_0 r4_1 r4_2 r4_3 v_parts v_isMinus v_readSpot v_isStar v_wantsNumber v_waiting v_shiftX v_shiftY v_times v_dotsLaid v_joinedLaid v_hash v_isThereA r6_0 v_spotOfA v_inMiddleA v_tintsA v_bufferA r4_4 r4_5 r4_6 v_partA v_allRanksA v_basesA v_isMetA v_metXA v_metYA v_lineA) := hD
    refine lv_aload_n hx hb dX5_turn_47 rfl (lv_at hl 0 rfl) ?_
    refine lv_iload_n hx hb dX5_turn_48 rfl (lv_at hl 1 rfl) ?_
    obtain ⟨r7_0, r7_1, r7_2, r7_3, r7_4, r7_5, r7_6, g7, h⟩ := bnd7_e h
    refine rwV_same (rest := []) (As := [.int a0]) S (ctX5_otherRanks l G v_q0 v_q1 v_q2 v_q3 v_q4 v_q5 v_q6 v_q7 v_q8 v_q9 v_q10 v_q11 v_q12 v_q13 v_q14 v_q15 v_q16 r2_0 v_gain v_size r4_0 r4_1 r4_2 r4_3 v_parts v_isMinus v_readSpot v_isStar v_wantsNumber v_waiting v_shiftX v_shiftY v_times v_dotsLaid v_joinedLaid v_hash v_isThereA r6_0 v_spotOfA v_inMiddleA v_tintsA v_bufferA r4_4 r4_5 r4_6 v_partA v_allRanksA v_basesA v_isMetA v_metXA v_metYA v_lineA a0 r7_0 r7_1 r7_2 r7_3 r7_4 r7_5 r7_6 g7) (cwV 1 hts gX5_turn_X5_otherRanks rfl rfl rfl hvX5_otherRanks ⟨Nat.le_of_ble_eq_true rfl, Nat.le_of_ble_eq_true rfl⟩) hK hP hD hS xb_triv (fun _ _ _ => trivial) 0 5 rfl rfl rfl rfl hl.1 rfl (Nat.le_of_ble_eq_true rfl) dX5_turn_49 ⟨Nat.le_refl _, Nat.le_refl _⟩ (fun _ H locs hP hD hS => ?_)
    have hP : va_P G.1 vwCl (wdX5 G v_q0 v_q1 v_q2 v_q3 v_q4 v_q5 v_q6 v_q7 v_q8 v_q9 v_q10 v_q11 v_q12 v_q13 v_q14 v_q15 v_q16 r2_0 v_gain v_size r7_1 r7_2 r7_3 r7_4 v_parts v_isMinus v_readSpot v_isStar v_wantsNumber v_waiting v_shiftX v_shiftY v_times v_dotsLaid v_joinedLaid v_hash v_isThereA r6_0 v_spotOfA v_inMiddleA v_tintsA v_bufferA r7_5 r7_6 r4_6 v_partA v_allRanksA v_basesA v_isMetA v_metXA v_metYA v_lineA) H := hP
    have hD : va_D A (wdX5 G v_q0 v_q1 v_q2 v_q3 v_q4 v_q5 v_q6 v_q7 v_q8 v_q9 v_q10 v_q11 v_q12 v_q13 v_q14 v_q15 v_q16 r2_0 v_gain v_size r7_1 r7_2 r7_3 r7_4 v_parts v_isMinus v_readSpot v_isStar v_wantsNumber v_waiting v_shiftX v_shiftY v_times v_dotsLaid v_joinedLaid v_hash v_isThereA r6_0 v_spotOfA v_inMiddleA v_tintsA v_bufferA r7_5 r7_6 r4_6 v_partA v_allRanksA v_basesA v_isMetA v_metXA v_metYA v_lineA) := hD
    obtain ⟨rfl, rfl, rfl, rfl, rfl, rfl, rfl, rfl, rfl, rfl⟩ := sm10 h
    exact hret _ _ _ _ _ rfl trivial rfl hP hD hS dX5_turn_52
  · replace h := ite_f c3 h
    refine lv_iconst (v := 0) hx hb dX5_turn_22 (by decide) ?_
    obtain ⟨rfl, rfl, rfl, rfl, rfl, rfl, rfl, rfl, rfl, rfl⟩ := sm10 h
    exact hret _ _ _ _ _ rfl trivial rfl hP hD hS dX5_turn_23
theorem fw_X5_shorten_X5 : ∀ w ∈ wsX50, w ∈ wsX5_shorten := fun w h => List.mem_cons_of_mem _ (List.mem_append_right _ h)
theorem lk_X5_shorten_f59 : Cond.fieldLink RX5 59 "HalftoneScreensModel" "thrown" "I" ∈ wsX5_shorten := List.mem_of_getElem? (i := 1) rfl
theorem lk_X5_shorten_f13 : Cond.fieldLink RX5 13 "HalftoneScreensModel" "v" "[I" ∈ wsX5_shorten := List.mem_of_getElem? (i := 2) rfl
theorem hsX5_exchange : yX5_exchange.cls ≠ "java/lang/invoke/MethodHandle" ∧ yX5_exchange.cls ≠ "java/lang/invoke/VarHandle" ∧ (parseMethodDescriptor yX5_exchange.desc).map (fun d => d.parameters.length) = some 1 := by decide +kernel
theorem hvX5_exchange : yX5_exchange.cls = RX5 ∧ yX5_exchange.cls ≠ "java/lang/invoke/MethodHandle" ∧ yX5_exchange.cls ≠ "java/lang/invoke/VarHandle" ∧ (parseMethodDescriptor yX5_exchange.desc).map (fun d => d.parameters.length) = some 1 := ⟨rfl, hsX5_exchange⟩
theorem hsX5_product : yX5_product.cls ≠ "java/lang/invoke/MethodHandle" ∧ yX5_product.cls ≠ "java/lang/invoke/VarHandle" ∧ (parseMethodDescriptor yX5_product.desc).map (fun d => d.parameters.length) = some 2 := by decide +kernel
theorem hvX5_product : yX5_product.cls = RX5 ∧ yX5_product.cls ≠ "java/lang/invoke/MethodHandle" ∧ yX5_product.cls ≠ "java/lang/invoke/VarHandle" ∧ (parseMethodDescriptor yX5_product.desc).map (fun d => d.parameters.length) = some 2 := ⟨rfl, hsX5_product⟩
theorem hsX5_rounded : yX5_rounded.cls ≠ "java/lang/invoke/MethodHandle" ∧ yX5_rounded.cls ≠ "java/lang/invoke/VarHandle" ∧ (parseMethodDescriptor yX5_rounded.desc).map (fun d => d.parameters.length) = some 2 := by decide +kernel
theorem hvX5_rounded : yX5_rounded.cls = RX5 ∧ yX5_rounded.cls ≠ "java/lang/invoke/MethodHandle" ∧ yX5_rounded.cls ≠ "java/lang/invoke/VarHandle" ∧ (parseMethodDescriptor yX5_rounded.desc).map (fun d => d.parameters.length) = some 2 := ⟨rfl, hsX5_rounded⟩
abbrev rmX5_shorten : Room := { frames := 3, cells := 0, slots := 0, locals := 63 }
set_option maxHeartbeats 4000000 in
set_option maxRecDepth 100000 in
theorem ctX5_shorten (l : Launch) (G : GG) (v_q0 : Nat) (v_q1 : Nat) (v_q2 : Nat) (v_q3 : Nat) (v_q4 : Nat) (v_q5 : Nat) (v_q6 : Nat) (v_q7 : Nat) (v_q8 : Nat) (v_q9 : Nat) (v_q10 : Nat) (v_q11 : Nat) (v_q12 : Nat) (v_q13 : Nat) (v_q14 : Nat) (v_q15 : Nat) (v_q16 : Nat) (v_thrown : Int32) (v_gain : Int32) (v_size : Int32) (v_w : Int32) (v_s : Int32) (v_h : Int32) (v_laidArea : Int32) (v_parts : Int32) (v_isMinus : Int32) (v_readSpot : Int32) (v_isStar : Int32) (v_wantsNumber : Int32) (v_waiting : Int32) (v_shiftX : Int32) (v_shiftY : Int32) (v_times : Int32) (v_dotsLaid : Int32) (v_joinedLaid : Int32) (v_hash : Int64) (v_isThereA : (Nat → Int32)) (v_vA : (Nat → Int32)) (v_spotOfA : (Nat → Int32)) (v_inMiddleA : (Nat → Int32)) (v_tintsA : (Nat → Int32)) (v_bufferA : (Nat → Int32)) (v_valuesA : (Nat → Int32)) (v_ranksA : (Nat → Int32)) (v_oldRanksA : (Nat → Int32)) (v_partA : (Nat → Int32)) (v_allRanksA : (Nat → Int32)) (v_basesA : (Nat → Int32)) (v_isMetA : (Nat → Int32)) (v_metXA : (Nat → Int32)) (v_metYA : (Nat → Int32)) (v_lineA : (Nat → Int32)) (a0 : Int32) (o0 : Int32) (o1 : Int32) (o2 : (Nat → Int32)) (h : mX5_shorten v_isThereA v_vA a0 = some (o0, o1, o2))  : Met l yX5_shorten wsX5_shorten rmX5_shorten (va_Pc [.ref v_q0, .int a0] (PreD G (wdX5 G v_q0 v_q1 v_q2 v_q3 v_q4 v_q5 v_q6 v_q7 v_q8 v_q9 v_q10 v_q11 v_q12 v_q13 v_q14 v_q15 v_q16 v_thrown v_gain v_size v_w v_s v_h v_laidArea v_parts v_isMinus v_readSpot v_isStar v_wantsNumber v_waiting v_shiftX v_shiftY v_times v_dotsLaid v_joinedLaid v_hash v_isThereA v_vA v_spotOfA v_inMiddleA v_tintsA v_bufferA v_valuesA v_ranksA v_oldRanksA v_partA v_allRanksA v_basesA v_isMetA v_metXA v_metYA v_lineA) (fun _ => True))) (QwA G (va_A0 (wdX5 G v_q0 v_q1 v_q2 v_q3 v_q4 v_q5 v_q6 v_q7 v_q8 v_q9 v_q10 v_q11 v_q12 v_q13 v_q14 v_q15 v_q16 v_thrown v_gain v_size v_w v_s v_h v_laidArea v_parts v_isMinus v_readSpot v_isStar v_wantsNumber v_waiting v_shiftX v_shiftY v_times v_dotsLaid v_joinedLaid v_hash v_isThereA v_vA v_spotOfA v_inMiddleA v_tintsA v_bufferA v_valuesA v_ranksA v_oldRanksA v_partA v_allRanksA v_basesA v_isMetA v_metXA v_metYA v_lineA)) (wdX5 G v_q0 v_q1 v_q2 v_q3 v_q4 v_q5 v_q6 v_q7 v_q8 v_q9 v_q10 v_q11 v_q12 v_q13 v_q14 v_q15 v_q16 o1 v_gain v_size v_w v_s v_h v_laidArea v_parts v_isMinus v_readSpot v_isStar v_wantsNumber v_waiting v_shiftX v_shiftY v_times v_dotsLaid v_joinedLaid v_hash v_isThereA o2 v_spotOfA v_inMiddleA v_tintsA v_bufferA v_valuesA v_ranksA v_oldRanksA v_partA v_allRanksA v_basesA v_isMetA v_metXA v_metYA v_lineA) (some (.int o0)) True) 0 0 (va_A0 (wdX5 G v_q0 v_q1 v_q2 v_q3 v_q4 v_q5 v_q6 v_q7 v_q8 v_q9 v_q10 v_q11 v_q12 v_q13 v_q14 v_q15 v_q16 v_thrown v_gain v_size v_w v_s v_h v_laidArea v_parts v_isMinus v_readSpot v_isStar v_wantsNumber v_waiting v_shiftX v_shiftY v_times v_dotsLaid v_joinedLaid v_hash v_isThereA v_vA v_spotOfA v_inMiddleA v_tintsA v_bufferA v_valuesA v_ranksA v_oldRanksA v_partA v_allRanksA v_basesA v_isMetA v_metXA v_metYA v_lineA)) := by
  refine of_wi (cc := cX5_shorten) (maxL := 5) (ty := .int) (plainFor_of_name (by decide)) rfl (Nat.le_of_ble_eq_true rfl) ?_
  intro p e s m args below meth c ls Q A S hl hP hD hS hK hX hA hret
  obtain ⟨H, hH⟩ : ∃ H, H = s.heap := ⟨_, rfl⟩
  obtain ⟨locs, hlocs⟩ : ∃ L : List Loc, L = [] := ⟨_, rfl⟩
  rw [← hlocs]
  rw [← hlocs] at hS
  have hP : va_P G.1 vwCl (wdX5 G v_q0 v_q1 v_q2 v_q3 v_q4 v_q5 v_q6 v_q7 v_q8 v_q9 v_q10 v_q11 v_q12 v_q13 v_q14 v_q15 v_q16 v_thrown v_gain v_size v_w v_s v_h v_laidArea v_parts v_isMinus v_readSpot v_isStar v_wantsNumber v_waiting v_shiftX v_shiftY v_times v_dotsLaid v_joinedLaid v_hash v_isThereA v_vA v_spotOfA v_inMiddleA v_tintsA v_bufferA v_valuesA v_ranksA v_oldRanksA v_partA v_allRanksA v_basesA v_isMetA v_metXA v_metYA v_lineA) H := by rw [hH]; exact hP
  have hS : va_S A s.heap H locs := by rw [hH]; exact hS
  suffices hgo : W p l e rmX5_shorten s m args below meth c H locs 0 0 Q (F0 m 0 ls []) by rw [hH] at hgo; exact hgo
  have S : CallFix p m c cX5_shorten 5 s args wsX5_shorten RX5 := S
  obtain ⟨hx, hb, hml, hown, hts⟩ := id S
  have hl : lv_has ls 5 [(0, .ref v_q0), (1, .int a0)] := hl
  unfold mX5_shorten at h
  refine lv_aload_n hx hb dX5_shorten_0 rfl (lv_at hl 0 rfl) ?_
  refine lv_aload_n hx hb dX5_shorten_1 rfl (lv_at hl 0 rfl) ?_
  refine lv_iload_n hx hb dX5_shorten_2 rfl (lv_at hl 1 rfl) ?_
  obtain ⟨r1_0, g1, h⟩ := bnd1_e h
  refine roVi1 (rest := [.ref v_q0]) (As := [.int a0]) S (ctX5_missing l G v_q0 v_q1 v_q2 v_q3 v_q4 v_q5 v_q6 v_q7 v_q8 v_q9 v_q10 v_q11 v_q12 v_q13 v_q14 v_q15 v_q16 v_thrown v_gain v_size v_w v_s v_h v_laidArea v_parts v_isMinus v_readSpot v_isStar v_wantsNumber v_waiting v_shiftX v_shiftY v_times v_dotsLaid v_joinedLaid v_hash v_isThereA v_vA v_spotOfA v_inMiddleA v_tintsA v_bufferA v_valuesA v_ranksA v_oldRanksA v_partA v_allRanksA v_basesA v_isMetA v_metXA v_metYA v_lineA a0 r1_0 g1) (cwV 1 hts gX5_shorten_X5_missing rfl rfl rfl hvX5_missing ⟨Nat.le_of_ble_eq_true rfl, Nat.le_of_ble_eq_true rfl⟩) hK hP [0, 1, 2, 3, 4, 5, 6, 7, 8, 9, 10, 11, 12, 13, 14, 15, 16] rfl 0 5 rfl rfl rfl rfl hl.1 rfl (Nat.le_of_ble_eq_true rfl) dX5_shorten_3 ⟨Nat.le_refl _, Nat.le_refl _⟩ (fun _ => ?_)
  refine va_put (D := G.1) (ci := 5) (v := .int r1_0) (ty := .int) (C := RX5) (T := TX5) (N := 35) hx hb hts fw_X5_shorten_X5 tyX5 tyX5_ok nmX5 hown hK.1 hP hD hS 0 rfl rfl 0 (by decide) (hts (.fieldLink RX5 59 "HalftoneScreensModel" "thrown" "I") lk_X5_shorten_f59) (fun _ h9 => h9) rfl (tyX5_ok 0 (by decide)) rfl rfl (Nat.le_of_ble_eq_true rfl) dX5_shorten_6 (fun H locs hP hD hS => ?_)
  have hP : va_P G.1 vwCl (wdX5 G v_q0 v_q1 v_q2 v_q3 v_q4 v_q5 v_q6 v_q7 v_q8 v_q9 v_q10 v_q11 v_q12 v_q13 v_q14 v_q15 v_q16 r1_0 v_gain v_size v_w v_s v_h v_laidArea v_parts v_isMinus v_readSpot v_isStar v_wantsNumber v_waiting v_shiftX v_shiftY v_times v_dotsLaid v_joinedLaid v_hash v_isThereA v_vA v_spotOfA v_inMiddleA v_tintsA v_bufferA v_valuesA v_ranksA v_oldRanksA v_partA v_allRanksA v_basesA v_isMetA v_metXA v_metYA v_lineA) H := hP
  have hD : va_D A (wdX5 G v_q0 v_q1 v_q2 v_q3 v_q4 v_q5 v_q6 v_q7 v_q8 v_q9 v_q10 v_q11 v_q12 v_q13 v_q14 v_q15 v_q16 r1_0 v_gain v_size v_w v_s v_h v_laidArea v_parts v_isMinus v_readSpot v_isStar v_wantsNumber v_waiting v_shiftX v_shiftY v_times v_dotsLaid v_joinedLaid v_hash v_isThereA v_vA v_spotOfA v_inMiddleA v_tintsA v_bufferA v_valuesA v_ranksA v_oldRanksA v_partA v_allRanksA v_basesA v_isMetA v_metXA v_metYA v_lineA) := hD
  refine lv_aload_n hx hb dX5_shorten_9 rfl (lv_at hl 0 rfl) ?_
  refine va_get (D := G.1) (ci := 5) (v := .int r1_0) (C := RX5) (T := TX5) (N := 35) hx hb hts fw_X5_shorten_X5 hown hK.1 hP 0 rfl rfl 0 (by decide) (hts (.fieldLink RX5 59 "HalftoneScreensModel" "thrown" "I") lk_X5_shorten_f59) (fun _ h9 => h9) rfl dX5_shorten_10 ?_
  refine lv_if_le (tgt := 18) hx hb dX5_shorten_13 (by decide) (fun c2 => ?_) (fun c2 => ?_)
  · replace h := ite_t c2 h
    refine lv_iconst (v := 4) hx hb dX5_shorten_18 (by decide) ?_
    refine lv_iload_n hx hb dX5_shorten_19 rfl (lv_at hl 1 rfl) ?_
    refine lv_imul hx hb dX5_shorten_20 ?_
    refine lv_topi (fun x3 e3 => ?_)
    replace h := nmB_e e3 h
    refine lv_istore_n (lv' := [(2, .int x3), (0, .ref v_q0), (1, .int a0)]) hx hb dX5_shorten_21 rfl hl (by decide) rfl (fun ls hl => ?_)
    refine lv_iconst (v := 0) hx hb dX5_shorten_22 (by decide) ?_
    refine lv_istore_n (lv' := [(3, .int 0), (2, .int x3), (0, .ref v_q0), (1, .int a0)]) hx hb dX5_shorten_23 rfl hl (by decide) rfl (fun ls hl => ?_)
    refine lv_iconst (v := 1) hx hb dX5_shorten_24 (by decide) ?_
    refine lv_istore (lv' := [(4, .int 1), (3, .int 0), (2, .int x3), (0, .ref v_q0), (1, .int a0)]) hx hb dX5_shorten_25 hl (by decide) rfl (fun ls hl => ?_)
    obtain ⟨u4_0, u4_1, u4_2, g4, h⟩ := bnd3_e h
    have L4 : ∀ (fu : Nat) (v4_0 : Int32) (v4_1 : Int32) (v4_2 : (Nat → Int32)) (u4_0 : Int32) (u4_1 : Int32) (u4_2 : (Nat → Int32)) (H : Heap) (locs : List Loc) (ls : Array Slot), mX5_shorten_L27 x3 fu v4_0 v4_1 v4_2 = some (u4_0, u4_1, u4_2) → lv_has ls 5 [(4, .int v4_0), (3, .int v4_1), (2, .int x3), (0, .ref v_q0), (1, .int a0)] → va_P G.1 vwCl (wdX5 G v_q0 v_q1 v_q2 v_q3 v_q4 v_q5 v_q6 v_q7 v_q8 v_q9 v_q10 v_q11 v_q12 v_q13 v_q14 v_q15 v_q16 r1_0 v_gain v_size v_w v_s v_h v_laidArea v_parts v_isMinus v_readSpot v_isStar v_wantsNumber v_waiting v_shiftX v_shiftY v_times v_dotsLaid v_joinedLaid v_hash v_isThereA v4_2 v_spotOfA v_inMiddleA v_tintsA v_bufferA v_valuesA v_ranksA v_oldRanksA v_partA v_allRanksA v_basesA v_isMetA v_metXA v_metYA v_lineA) H → va_D A (wdX5 G v_q0 v_q1 v_q2 v_q3 v_q4 v_q5 v_q6 v_q7 v_q8 v_q9 v_q10 v_q11 v_q12 v_q13 v_q14 v_q15 v_q16 r1_0 v_gain v_size v_w v_s v_h v_laidArea v_parts v_isMinus v_readSpot v_isStar v_wantsNumber v_waiting v_shiftX v_shiftY v_times v_dotsLaid v_joinedLaid v_hash v_isThereA v4_2 v_spotOfA v_inMiddleA v_tintsA v_bufferA v_valuesA v_ranksA v_oldRanksA v_partA v_allRanksA v_basesA v_isMetA v_metXA v_metYA v_lineA) → va_S A s.heap H locs → (∀ (H : Heap) (locs : List Loc) (ls : Array Slot), lv_has ls 5 [(4, .int u4_0), (3, .int u4_1), (2, .int x3), (0, .ref v_q0), (1, .int a0)] → va_P G.1 vwCl (wdX5 G v_q0 v_q1 v_q2 v_q3 v_q4 v_q5 v_q6 v_q7 v_q8 v_q9 v_q10 v_q11 v_q12 v_q13 v_q14 v_q15 v_q16 r1_0 v_gain v_size v_w v_s v_h v_laidArea v_parts v_isMinus v_readSpot v_isStar v_wantsNumber v_waiting v_shiftX v_shiftY v_times v_dotsLaid v_joinedLaid v_hash v_isThereA u4_2 v_spotOfA v_inMiddleA v_tintsA v_bufferA v_valuesA v_ranksA v_oldRanksA v_partA v_allRanksA v_basesA v_isMetA v_metXA v_metYA v_lineA) H → va_D A (wdX5 G v_q0 v_q1 v_q2 v_q3 v_q4 v_q5 v_q6 v_q7 v_q8 v_q9 v_q10 v_q11 v_q12 v_q13 v_q14 v_q15 v_q16 r1_0 v_gain v_size v_w v_s v_h v_laidArea v_parts v_isMinus v_readSpot v_isStar v_wantsNumber v_waiting v_shiftX v_shiftY v_times v_dotsLaid v_joinedLaid v_hash v_isThereA u4_2 v_spotOfA v_inMiddleA v_tintsA v_bufferA v_valuesA v_ranksA v_oldRanksA v_partA v_allRanksA v_basesA v_isMetA v_metXA v_metYA v_lineA) → va_S A s.heap H locs → W p l e rmX5_shorten s m args below meth c H locs 0 0 Q (F0 m 133 ls [])) → W p l e rmX5_shorten s m args below meth c H locs 0 0 Q (F0 m 27 ls []) := by
      intro fu
      induction fu with
      | zero => intro v4_0 v4_1 v4_2 u4_0 u4_1 u4_2 H locs ls h; exact nomatch h
      | succ fu ih =>
        intro v4_0 v4_1 v4_2 u4_0 u4_1 u4_2 H locs ls h hl hP hD hS kE
        rw [mX5_shorten_L27] at h
        refine lv_iload hx hb dX5_shorten_27 (lv_at hl 0 rfl) ?_
        refine lv_if_eq (tgt := 133) hx hb dX5_shorten_29 (by decide) (fun c5 => ?_) (fun c5 => ?_)
        · replace h := ite_t c5 h
          obtain ⟨rfl, rfl, rfl⟩ := sm3 h
          exact kE H locs ls hl hP hD hS
        · replace h := ite_f c5 h
          refine lv_aload_n hx hb dX5_shorten_32 rfl (lv_at hl 3 rfl) ?_
          refine lv_iload_n hx hb dX5_shorten_33 rfl (lv_at hl 2 rfl) ?_
          refine lv_iconst (v := 2) hx hb dX5_shorten_34 (by decide) ?_
          refine lv_iadd hx hb dX5_shorten_35 ?_
          refine lv_iload_n hx hb dX5_shorten_36 rfl (lv_at hl 2 rfl) ?_
          refine lv_iconst (v := 2) hx hb dX5_shorten_37 (by decide) ?_
          refine lv_iadd hx hb dX5_shorten_38 ?_
          obtain ⟨r6_0, g6, h⟩ := bnd1_e h
          refine roVi1 (rest := []) (As := [.int (x3 + 2), .int (x3 + 2)]) S (ctX5_product l G v_q0 v_q1 v_q2 v_q3 v_q4 v_q5 v_q6 v_q7 v_q8 v_q9 v_q10 v_q11 v_q12 v_q13 v_q14 v_q15 v_q16 r1_0 v_gain v_size v_w v_s v_h v_laidArea v_parts v_isMinus v_readSpot v_isStar v_wantsNumber v_waiting v_shiftX v_shiftY v_times v_dotsLaid v_joinedLaid v_hash v_isThereA v4_2 v_spotOfA v_inMiddleA v_tintsA v_bufferA v_valuesA v_ranksA v_oldRanksA v_partA v_allRanksA v_basesA v_isMetA v_metXA v_metYA v_lineA (x3 + 2) (x3 + 2) r6_0 g6) (cwV 2 hts gX5_shorten_X5_product rfl rfl rfl hvX5_product ⟨Nat.le_of_ble_eq_true rfl, Nat.le_of_ble_eq_true rfl⟩) hK hP [0, 1, 2, 3, 4, 5, 6, 7, 8, 9, 10, 11, 12, 13, 14, 15, 16] rfl 0 5 rfl rfl rfl rfl hl.1 rfl (Nat.le_of_ble_eq_true rfl) dX5_shorten_39 ⟨Nat.le_refl _, Nat.le_refl _⟩ (fun _ => ?_)
          refine lv_aload_n hx hb dX5_shorten_42 rfl (lv_at hl 3 rfl) ?_
          refine lv_iload_n hx hb dX5_shorten_43 rfl (lv_at hl 2 rfl) ?_
          refine lv_iload_n hx hb dX5_shorten_44 rfl (lv_at hl 2 rfl) ?_
          obtain ⟨r7_0, g7, h⟩ := bnd1_e h
          refine roVi1 (rest := [.int r6_0]) (As := [.int x3, .int x3]) S (ctX5_product l G v_q0 v_q1 v_q2 v_q3 v_q4 v_q5 v_q6 v_q7 v_q8 v_q9 v_q10 v_q11 v_q12 v_q13 v_q14 v_q15 v_q16 r1_0 v_gain v_size v_w v_s v_h v_laidArea v_parts v_isMinus v_readSpot v_isStar v_wantsNumber v_waiting v_shiftX v_shiftY v_times v_dotsLaid v_joinedLaid v_hash v_isThereA v4_2 v_spotOfA v_inMiddleA v_tintsA v_bufferA v_valuesA v_ranksA v_oldRanksA v_partA v_allRanksA v_basesA v_isMetA v_metXA v_metYA v_lineA x3 x3 r7_0 g7) (cwV 2 hts gX5_shorten_X5_product rfl rfl rfl hvX5_product ⟨Nat.le_of_ble_eq_true rfl, Nat.le_of_ble_eq_true rfl⟩) hK hP [0, 1, 2, 3, 4, 5, 6, 7, 8, 9, 10, 11, 12, 13, 14, 15, 16] rfl 0 5 rfl rfl rfl rfl hl.1 rfl (Nat.le_of_ble_eq_true rfl) dX5_shorten_45 ⟨Nat.le_refl _, Nat.le_refl _⟩ (fun _ => ?_)
          obtain ⟨K8, hK8, h⟩ := jB1_e h
          have J8 : ∀ (j8_0 : (Nat → Int32)) (H : Heap) (locs : List Loc) (ls : Array Slot), K8 j8_0 = some (u4_0, u4_1, u4_2) → lv_has ls 5 [(4, .int v4_0), (3, .int v4_1), (2, .int x3), (0, .ref v_q0), (1, .int a0)] → va_P G.1 vwCl (wdX5 G v_q0 v_q1 v_q2 v_q3 v_q4 v_q5 v_q6 v_q7 v_q8 v_q9 v_q10 v_q11 v_q12 v_q13 v_q14 v_q15 v_q16 r1_0 v_gain v_size v_w v_s v_h v_laidArea v_parts v_isMinus v_readSpot v_isStar v_wantsNumber v_waiting v_shiftX v_shiftY v_times v_dotsLaid v_joinedLaid v_hash v_isThereA j8_0 v_spotOfA v_inMiddleA v_tintsA v_bufferA v_valuesA v_ranksA v_oldRanksA v_partA v_allRanksA v_basesA v_isMetA v_metXA v_metYA v_lineA) H → va_D A (wdX5 G v_q0 v_q1 v_q2 v_q3 v_q4 v_q5 v_q6 v_q7 v_q8 v_q9 v_q10 v_q11 v_q12 v_q13 v_q14 v_q15 v_q16 r1_0 v_gain v_size v_w v_s v_h v_laidArea v_parts v_isMinus v_readSpot v_isStar v_wantsNumber v_waiting v_shiftX v_shiftY v_times v_dotsLaid v_joinedLaid v_hash v_isThereA j8_0 v_spotOfA v_inMiddleA v_tintsA v_bufferA v_valuesA v_ranksA v_oldRanksA v_partA v_allRanksA v_basesA v_isMetA v_metXA v_metYA v_lineA) → va_S A s.heap H locs → W p l e rmX5_shorten s m args below meth c H locs 0 0 Q (F0 m 56 ls []) := by
            intro j8_0 H locs ls h hl hP hD hS
            replace h := (hK8 j8_0).symm.trans h
            refine lv_aload_n hx hb dX5_shorten_56 rfl (lv_at hl 3 rfl) ?_
            refine lv_iload_n hx hb dX5_shorten_57 rfl (lv_at hl 2 rfl) ?_
            refine lv_iload_n hx hb dX5_shorten_58 rfl (lv_at hl 2 rfl) ?_
            refine lv_iconst (v := 2) hx hb dX5_shorten_59 (by decide) ?_
            refine lv_iadd hx hb dX5_shorten_60 ?_
            obtain ⟨r11_0, g11, h⟩ := bnd1_e h
            refine roVi1 (rest := []) (As := [.int x3, .int (x3 + 2)]) S (ctX5_product l G v_q0 v_q1 v_q2 v_q3 v_q4 v_q5 v_q6 v_q7 v_q8 v_q9 v_q10 v_q11 v_q12 v_q13 v_q14 v_q15 v_q16 r1_0 v_gain v_size v_w v_s v_h v_laidArea v_parts v_isMinus v_readSpot v_isStar v_wantsNumber v_waiting v_shiftX v_shiftY v_times v_dotsLaid v_joinedLaid v_hash v_isThereA j8_0 v_spotOfA v_inMiddleA v_tintsA v_bufferA v_valuesA v_ranksA v_oldRanksA v_partA v_allRanksA v_basesA v_isMetA v_metXA v_metYA v_lineA x3 (x3 + 2) r11_0 g11) (cwV 2 hts gX5_shorten_X5_product rfl rfl rfl hvX5_product ⟨Nat.le_of_ble_eq_true rfl, Nat.le_of_ble_eq_true rfl⟩) hK hP [0, 1, 2, 3, 4, 5, 6, 7, 8, 9, 10, 11, 12, 13, 14, 15, 16] rfl 0 5 rfl rfl rfl rfl hl.1 rfl (Nat.le_of_ble_eq_true rfl) dX5_shorten_61 ⟨Nat.le_refl _, Nat.le_refl _⟩ (fun _ => ?_)
            refine lv_aload_n hx hb dX5_shorten_64 rfl (lv_at hl 3 rfl) ?_
            refine lv_iload_n hx hb dX5_shorten_65 rfl (lv_at hl 2 rfl) ?_
            refine lv_iload_n hx hb dX5_shorten_66 rfl (lv_at hl 2 rfl) ?_
            obtain ⟨r12_0, g12, h⟩ := bnd1_e h
            refine roVi1 (rest := [.int r11_0]) (As := [.int x3, .int x3]) S (ctX5_product l G v_q0 v_q1 v_q2 v_q3 v_q4 v_q5 v_q6 v_q7 v_q8 v_q9 v_q10 v_q11 v_q12 v_q13 v_q14 v_q15 v_q16 r1_0 v_gain v_size v_w v_s v_h v_laidArea v_parts v_isMinus v_readSpot v_isStar v_wantsNumber v_waiting v_shiftX v_shiftY v_times v_dotsLaid v_joinedLaid v_hash v_isThereA j8_0 v_spotOfA v_inMiddleA v_tintsA v_bufferA v_valuesA v_ranksA v_oldRanksA v_partA v_allRanksA v_basesA v_isMetA v_metXA v_metYA v_lineA x3 x3 r12_0 g12) (cwV 2 hts gX5_shorten_X5_product rfl rfl rfl hvX5_product ⟨Nat.le_of_ble_eq_true rfl, Nat.le_of_ble_eq_true rfl⟩) hK hP [0, 1, 2, 3, 4, 5, 6, 7, 8, 9, 10, 11, 12, 13, 14, 15, 16] rfl 0 5 rfl rfl rfl rfl hl.1 rfl (Nat.le_of_ble_eq_true rfl) dX5_shorten_67 ⟨Nat.le_refl _, Nat.le_refl _⟩ (fun _ => ?_)
            obtain ⟨r13_0, g13, h⟩ := bnd1_e h
            refine roSi1 (rest := []) (As := [.int r11_0, .int r12_0]) S (ctX5_rounded l G r11_0 r12_0 r13_0 g13) (va_cwS 2 hts gX5_shorten_X5_rounded rfl rfl rfl hsX5_rounded ⟨Nat.le_of_ble_eq_true rfl, Nat.le_of_ble_eq_true rfl⟩) hK hP [] rfl rfl hl.1 rfl (Nat.le_of_ble_eq_true rfl) dX5_shorten_70 ⟨Nat.le_refl _, Nat.le_refl _⟩ (fun _ => ?_)
            refine lv_istore (lv' := [(4, .int r13_0), (3, .int v4_1), (2, .int x3), (0, .ref v_q0), (1, .int a0)]) hx hb dX5_shorten_73 hl (by decide) rfl (fun ls hl => ?_)
            refine lv_aload_n hx hb dX5_shorten_75 rfl (lv_at hl 3 rfl) ?_
            refine va_get (D := G.1) (ci := 5) (v := .ref v_q2) (C := RX5) (T := TX5) (N := 35) hx hb hts fw_X5_shorten_X5 hown hK.1 hP 0 rfl rfl 2 (by decide) (hts (.fieldLink RX5 13 "HalftoneScreensModel" "v" "[I") lk_X5_shorten_f13) (fun _ h9 => h9) rfl dX5_shorten_76 ?_
            refine lv_iload_n hx hb dX5_shorten_79 rfl (lv_at hl 2 rfl) ?_
            refine lv_iconst (v := 2) hx hb dX5_shorten_80 (by decide) ?_
            refine lv_iadd hx hb dX5_shorten_81 ?_
            refine lv_dup2_11 hx hb dX5_shorten_82 rfl rfl ?_
            obtain ⟨i14, h⟩ := gd_e h
            refine va_iald hx hb hK.1 hP 2 0 rfl rfl i14 dX5_shorten_83 ?_
            refine lv_iload hx hb dX5_shorten_84 (lv_at hl 0 rfl) ?_
            refine lv_aload_n hx hb dX5_shorten_86 rfl (lv_at hl 3 rfl) ?_
            refine va_get (D := G.1) (ci := 5) (v := .ref v_q2) (C := RX5) (T := TX5) (N := 35) hx hb hts fw_X5_shorten_X5 hown hK.1 hP 0 rfl rfl 2 (by decide) (hts (.fieldLink RX5 13 "HalftoneScreensModel" "v" "[I") lk_X5_shorten_f13) (fun _ h9 => h9) rfl dX5_shorten_87 ?_
            refine lv_iload_n hx hb dX5_shorten_90 rfl (lv_at hl 2 rfl) ?_
            obtain ⟨i15, h⟩ := gd_e h
            refine va_iald hx hb hK.1 hP 2 0 rfl rfl i15 dX5_shorten_91 ?_
            refine lv_imul hx hb dX5_shorten_92 ?_
            refine lv_isub hx hb dX5_shorten_93 ?_
            refine lv_topi (fun x16 e16 => ?_)
            replace h := nmB_e e16 h
            obtain ⟨i17, h⟩ := gd_e h
            refine va_iast hx hb hK.1 hP hD hS 2 0 rfl rfl i17 dX5_shorten_94 (fun H locs hP hD hS => ?_)
            have hP : va_P G.1 vwCl (wdX5 G v_q0 v_q1 v_q2 v_q3 v_q4 v_q5 v_q6 v_q7 v_q8 v_q9 v_q10 v_q11 v_q12 v_q13 v_q14 v_q15 v_q16 r1_0 v_gain v_size v_w v_s v_h v_laidArea v_parts v_isMinus v_readSpot v_isStar v_wantsNumber v_waiting v_shiftX v_shiftY v_times v_dotsLaid v_joinedLaid v_hash v_isThereA (upd j8_0 (x3 + 2).toNatClampNeg x16) v_spotOfA v_inMiddleA v_tintsA v_bufferA v_valuesA v_ranksA v_oldRanksA v_partA v_allRanksA v_basesA v_isMetA v_metXA v_metYA v_lineA) H := hP
            have hD : va_D A (wdX5 G v_q0 v_q1 v_q2 v_q3 v_q4 v_q5 v_q6 v_q7 v_q8 v_q9 v_q10 v_q11 v_q12 v_q13 v_q14 v_q15 v_q16 r1_0 v_gain v_size v_w v_s v_h v_laidArea v_parts v_isMinus v_readSpot v_isStar v_wantsNumber v_waiting v_shiftX v_shiftY v_times v_dotsLaid v_joinedLaid v_hash v_isThereA (upd j8_0 (x3 + 2).toNatClampNeg x16) v_spotOfA v_inMiddleA v_tintsA v_bufferA v_valuesA v_ranksA v_oldRanksA v_partA v_allRanksA v_basesA v_isMetA v_metXA v_metYA v_lineA) := hD
            refine lv_aload_n hx hb dX5_shorten_95 rfl (lv_at hl 3 rfl) ?_
            refine va_get (D := G.1) (ci := 5) (v := .ref v_q2) (C := RX5) (T := TX5) (N := 35) hx hb hts fw_X5_shorten_X5 hown hK.1 hP 0 rfl rfl 2 (by decide) (hts (.fieldLink RX5 13 "HalftoneScreensModel" "v" "[I") lk_X5_shorten_f13) (fun _ h9 => h9) rfl dX5_shorten_96 ?_
            refine lv_iload_n hx hb dX5_shorten_99 rfl (lv_at hl 2 rfl) ?_
            refine lv_iconst (v := 3) hx hb dX5_shorten_100 (by decide) ?_
            refine lv_iadd hx hb dX5_shorten_101 ?_
            refine lv_dup2_11 hx hb dX5_shorten_102 rfl rfl ?_
            obtain ⟨i18, h⟩ := gd_e h
            refine va_iald hx hb hK.1 hP 2 0 rfl rfl i18 dX5_shorten_103 ?_
            refine lv_iload hx hb dX5_shorten_104 (lv_at hl 0 rfl) ?_
            refine lv_aload_n hx hb dX5_shorten_106 rfl (lv_at hl 3 rfl) ?_
            refine va_get (D := G.1) (ci := 5) (v := .ref v_q2) (C := RX5) (T := TX5) (N := 35) hx hb hts fw_X5_shorten_X5 hown hK.1 hP 0 rfl rfl 2 (by decide) (hts (.fieldLink RX5 13 "HalftoneScreensModel" "v" "[I") lk_X5_shorten_f13) (fun _ h9 => h9) rfl dX5_shorten_107 ?_
            refine lv_iload_n hx hb dX5_shorten_110 rfl (lv_at hl 2 rfl) ?_
            refine lv_iconst (v := 1) hx hb dX5_shorten_111 (by decide) ?_
            refine lv_iadd hx hb dX5_shorten_112 ?_
            obtain ⟨i19, h⟩ := gd_e h
            refine va_iald hx hb hK.1 hP 2 0 rfl rfl i19 dX5_shorten_113 ?_
            refine lv_imul hx hb dX5_shorten_114 ?_
            refine lv_isub hx hb dX5_shorten_115 ?_
            refine lv_topi (fun x20 e20 => ?_)
            replace h := nmB_e e20 h
            obtain ⟨i21, h⟩ := gd_e h
            refine va_iast hx hb hK.1 hP hD hS 2 0 rfl rfl i21 dX5_shorten_116 (fun H locs hP hD hS => ?_)
            have hP : va_P G.1 vwCl (wdX5 G v_q0 v_q1 v_q2 v_q3 v_q4 v_q5 v_q6 v_q7 v_q8 v_q9 v_q10 v_q11 v_q12 v_q13 v_q14 v_q15 v_q16 r1_0 v_gain v_size v_w v_s v_h v_laidArea v_parts v_isMinus v_readSpot v_isStar v_wantsNumber v_waiting v_shiftX v_shiftY v_times v_dotsLaid v_joinedLaid v_hash v_isThereA (upd (upd j8_0 (x3 + 2).toNatClampNeg x16) (x3 + 3).toNatClampNeg x20) v_spotOfA v_inMiddleA v_tintsA v_bufferA v_valuesA v_ranksA v_oldRanksA v_partA v_allRanksA v_basesA v_isMetA v_metXA v_metYA v_lineA) H := hP
            have hD : va_D A (wdX5 G v_q0 v_q1 v_q2 v_q3 v_q4 v_q5 v_q6 v_q7 v_q8 v_q9 v_q10 v_q11 v_q12 v_q13 v_q14 v_q15 v_q16 r1_0 v_gain v_size v_w v_s v_h v_laidArea v_parts v_isMinus v_readSpot v_isStar v_wantsNumber v_waiting v_shiftX v_shiftY v_times v_dotsLaid v_joinedLaid v_hash v_isThereA (upd (upd j8_0 (x3 + 2).toNatClampNeg x16) (x3 + 3).toNatClampNeg x20) v_spotOfA v_inMiddleA v_tintsA v_bufferA v_valuesA v_ranksA v_oldRanksA v_partA v_allRanksA v_basesA v_isMetA v_metXA v_metYA v_lineA) := hD
            refine lv_iload_n hx hb dX5_shorten_117 rfl (lv_at hl 1 rfl) ?_
            refine lv_iload hx hb dX5_shorten_118 (lv_at hl 0 rfl) ?_
            refine lv_if_ne (tgt := 127) hx hb dX5_shorten_120 (by decide) (fun c22 => ?_) (fun c22 => ?_)
            · replace h := ite_f c22 h
              refine lv_iconst (v := 1) hx hb dX5_shorten_127 (by decide) ?_
              refine lv_iadd hx hb dX5_shorten_128 ?_
              refine lv_topi (fun x23 e23 => ?_)
              replace h := nmB_e e23 h
              refine lv_istore_n (lv' := [(3, .int x23), (4, .int r13_0), (2, .int x3), (0, .ref v_q0), (1, .int a0)]) hx hb dX5_shorten_129 rfl hl (by decide) rfl (fun ls hl => ?_)
              refine lv_goto (tgt := 27) hx hb dX5_shorten_130 (by decide) ?_
              exact ih r13_0 x23 (upd (upd j8_0 (x3 + 2).toNatClampNeg x16) (x3 + 3).toNatClampNeg x20) u4_0 u4_1 u4_2 H locs ls h (lv_sub hl [1, 0, 2, 3, 4] rfl) hP hD hS kE
            · replace h := ite_t c22 h
              refine lv_iconst (v := 0) hx hb dX5_shorten_123 (by decide) ?_
              refine lv_goto (tgt := 128) hx hb dX5_shorten_124 (by decide) ?_
              refine lv_iadd hx hb dX5_shorten_128 ?_
              refine lv_topi (fun x24 e24 => ?_)
              replace h := nmB_e e24 h
              refine lv_istore_n (lv' := [(3, .int x24), (4, .int r13_0), (2, .int x3), (0, .ref v_q0), (1, .int a0)]) hx hb dX5_shorten_129 rfl hl (by decide) rfl (fun ls hl => ?_)
              refine lv_goto (tgt := 27) hx hb dX5_shorten_130 (by decide) ?_
              exact ih r13_0 x24 (upd (upd j8_0 (x3 + 2).toNatClampNeg x16) (x3 + 3).toNatClampNeg x20) u4_0 u4_1 u4_2 H locs ls h (lv_sub hl [1, 0, 2, 3, 4] rfl) hP hD hS kE
          refine lv_icmp_ge (tgt := 56) hx hb dX5_shorten_48 (by decide) (fun c9 => ?_) (fun c9 => ?_)
          · replace h := ite_t c9 h
            exact J8 v4_2 H locs ls h hl hP hD hS
          · replace h := ite_f c9 h
            refine lv_aload_n hx hb dX5_shorten_51 rfl (lv_at hl 3 rfl) ?_
            refine lv_iload_n hx hb dX5_shorten_52 rfl (lv_at hl 2 rfl) ?_
            obtain ⟨r10_0, g10, h⟩ := bnd1_e h
            refine rwV_same (rest := []) (As := [.int x3]) S (ctX5_exchange l G v_q0 v_q1 v_q2 v_q3 v_q4 v_q5 v_q6 v_q7 v_q8 v_q9 v_q10 v_q11 v_q12 v_q13 v_q14 v_q15 v_q16 r1_0 v_gain v_size v_w v_s v_h v_laidArea v_parts v_isMinus v_readSpot v_isStar v_wantsNumber v_waiting v_shiftX v_shiftY v_times v_dotsLaid v_joinedLaid v_hash v_isThereA v4_2 v_spotOfA v_inMiddleA v_tintsA v_bufferA v_valuesA v_ranksA v_oldRanksA v_partA v_allRanksA v_basesA v_isMetA v_metXA v_metYA v_lineA x3 r10_0 g10) (cwV 1 hts gX5_shorten_X5_exchange rfl rfl rfl hvX5_exchange ⟨Nat.le_of_ble_eq_true rfl, Nat.le_of_ble_eq_true rfl⟩) hK hP hD hS xb_triv (fun _ _ _ => trivial) 0 5 rfl rfl rfl rfl hl.1 rfl (Nat.le_of_ble_eq_true rfl) dX5_shorten_53 ⟨Nat.le_refl _, Nat.le_refl _⟩ (fun _ H locs hP hD hS => ?_)
            have hP : va_P G.1 vwCl (wdX5 G v_q0 v_q1 v_q2 v_q3 v_q4 v_q5 v_q6 v_q7 v_q8 v_q9 v_q10 v_q11 v_q12 v_q13 v_q14 v_q15 v_q16 r1_0 v_gain v_size v_w v_s v_h v_laidArea v_parts v_isMinus v_readSpot v_isStar v_wantsNumber v_waiting v_shiftX v_shiftY v_times v_dotsLaid v_joinedLaid v_hash v_isThereA r10_0 v_spotOfA v_inMiddleA v_tintsA v_bufferA v_valuesA v_ranksA v_oldRanksA v_partA v_allRanksA v_basesA v_isMetA v_metXA v_metYA v_lineA) H := hP
            have hD : va_D A (wdX5 G v_q0 v_q1 v_q2 v_q3 v_q4 v_q5 v_q6 v_q7 v_q8 v_q9 v_q10 v_q11 v_q12 v_q13 v_q14 v_q15 v_q16 r1_0 v_gain v_size v_w v_s v_h v_laidArea v_parts v_isMinus v_readSpot v_isStar v_wantsNumber v_waiting v_shiftX v_shiftY v_times v_dotsLaid v_joinedLaid v_hash v_isThereA r10_0 v_spotOfA v_inMiddleA v_tintsA v_bufferA v_valuesA v_ranksA v_oldRanksA v_partA v_allRanksA v_basesA v_isMetA v_metXA v_metYA v_lineA) := hD
            exact J8 r10_0 H locs ls h hl hP hD hS
    refine L4 FU 1 0 v_vA u4_0 u4_1 u4_2 H locs ls g4 hl hP hD hS (fun H locs ls hl hP hD hS => ?_)
    refine lv_iload_n hx hb dX5_shorten_133 rfl (lv_at hl 1 rfl) ?_
    obtain ⟨rfl, rfl, rfl⟩ := sm3 h
    exact hret _ _ _ _ _ rfl trivial rfl hP hD hS dX5_shorten_134
  · replace h := ite_f c2 h
    refine lv_iconst (v := 0) hx hb dX5_shorten_16 (by decide) ?_
    obtain ⟨rfl, rfl, rfl⟩ := sm3 h
    exact hret _ _ _ _ _ rfl trivial rfl hP hD hS dX5_shorten_17
theorem fw_X5_setTint_X5 : ∀ w ∈ wsX50, w ∈ wsX5_setTint := fun w h => List.mem_cons_of_mem _ (List.mem_append_right _ h)
theorem lk_X5_setTint_f59 : Cond.fieldLink RX5 59 "HalftoneScreensModel" "thrown" "I" ∈ wsX5_setTint := List.mem_of_getElem? (i := 1) rfl
theorem lk_X5_setTint_f23 : Cond.fieldLink RX5 23 "HalftoneScreensModel" "tints" "[I" ∈ wsX5_setTint := List.mem_of_getElem? (i := 2) rfl
abbrev rmX5_setTint : Room := { frames := 3, cells := 0, slots := 0, locals := 64 }
set_option maxHeartbeats 4000000 in
set_option maxRecDepth 100000 in
theorem ctX5_setTint (l : Launch) (G : GG) (v_q0 : Nat) (v_q1 : Nat) (v_q2 : Nat) (v_q3 : Nat) (v_q4 : Nat) (v_q5 : Nat) (v_q6 : Nat) (v_q7 : Nat) (v_q8 : Nat) (v_q9 : Nat) (v_q10 : Nat) (v_q11 : Nat) (v_q12 : Nat) (v_q13 : Nat) (v_q14 : Nat) (v_q15 : Nat) (v_q16 : Nat) (v_thrown : Int32) (v_gain : Int32) (v_size : Int32) (v_w : Int32) (v_s : Int32) (v_h : Int32) (v_laidArea : Int32) (v_parts : Int32) (v_isMinus : Int32) (v_readSpot : Int32) (v_isStar : Int32) (v_wantsNumber : Int32) (v_waiting : Int32) (v_shiftX : Int32) (v_shiftY : Int32) (v_times : Int32) (v_dotsLaid : Int32) (v_joinedLaid : Int32) (v_hash : Int64) (v_isThereA : (Nat → Int32)) (v_vA : (Nat → Int32)) (v_spotOfA : (Nat → Int32)) (v_inMiddleA : (Nat → Int32)) (v_tintsA : (Nat → Int32)) (v_bufferA : (Nat → Int32)) (v_valuesA : (Nat → Int32)) (v_ranksA : (Nat → Int32)) (v_oldRanksA : (Nat → Int32)) (v_partA : (Nat → Int32)) (v_allRanksA : (Nat → Int32)) (v_basesA : (Nat → Int32)) (v_isMetA : (Nat → Int32)) (v_metXA : (Nat → Int32)) (v_metYA : (Nat → Int32)) (v_lineA : (Nat → Int32)) (a0 : Int32) (a1 : Int32) (o0 : Int32) (o1 : Int32) (o2 : (Nat → Int32)) (h : mX5_setTint v_isThereA v_vA v_tintsA a0 a1 = some (o0, o1, o2))  : Met l yX5_setTint wsX5_setTint rmX5_setTint (va_Pc [.ref v_q0, .int a0, .int a1] (PreD G (wdX5 G v_q0 v_q1 v_q2 v_q3 v_q4 v_q5 v_q6 v_q7 v_q8 v_q9 v_q10 v_q11 v_q12 v_q13 v_q14 v_q15 v_q16 v_thrown v_gain v_size v_w v_s v_h v_laidArea v_parts v_isMinus v_readSpot v_isStar v_wantsNumber v_waiting v_shiftX v_shiftY v_times v_dotsLaid v_joinedLaid v_hash v_isThereA v_vA v_spotOfA v_inMiddleA v_tintsA v_bufferA v_valuesA v_ranksA v_oldRanksA v_partA v_allRanksA v_basesA v_isMetA v_metXA v_metYA v_lineA) (fun _ => True))) (QwA G (va_A0 (wdX5 G v_q0 v_q1 v_q2 v_q3 v_q4 v_q5 v_q6 v_q7 v_q8 v_q9 v_q10 v_q11 v_q12 v_q13 v_q14 v_q15 v_q16 v_thrown v_gain v_size v_w v_s v_h v_laidArea v_parts v_isMinus v_readSpot v_isStar v_wantsNumber v_waiting v_shiftX v_shiftY v_times v_dotsLaid v_joinedLaid v_hash v_isThereA v_vA v_spotOfA v_inMiddleA v_tintsA v_bufferA v_valuesA v_ranksA v_oldRanksA v_partA v_allRanksA v_basesA v_isMetA v_metXA v_metYA v_lineA)) (wdX5 G v_q0 v_q1 v_q2 v_q3 v_q4 v_q5 v_q6 v_q7 v_q8 v_q9 v_q10 v_q11 v_q12 v_q13 v_q14 v_q15 v_q16 o1 v_gain v_size v_w v_s v_h v_laidArea v_parts v_isMinus v_readSpot v_isStar v_wantsNumber v_waiting v_shiftX v_shiftY v_times v_dotsLaid v_joinedLaid v_hash v_isThereA v_vA v_spotOfA v_inMiddleA o2 v_bufferA v_valuesA v_ranksA v_oldRanksA v_partA v_allRanksA v_basesA v_isMetA v_metXA v_metYA v_lineA) (some (.int o0)) True) 0 0 (va_A0 (wdX5 G v_q0 v_q1 v_q2 v_q3 v_q4 v_q5 v_q6 v_q7 v_q8 v_q9 v_q10 v_q11 v_q12 v_q13 v_q14 v_q15 v_q16 v_thrown v_gain v_size v_w v_s v_h v_laidArea v_parts v_isMinus v_readSpot v_isStar v_wantsNumber v_waiting v_shiftX v_shiftY v_times v_dotsLaid v_joinedLaid v_hash v_isThereA v_vA v_spotOfA v_inMiddleA v_tintsA v_bufferA v_valuesA v_ranksA v_oldRanksA v_partA v_allRanksA v_basesA v_isMetA v_metXA v_metYA v_lineA)) := by
  refine of_wi (cc := cX5_setTint) (maxL := 4) (ty := .int) (plainFor_of_name (by decide)) rfl (Nat.le_of_ble_eq_true rfl) ?_
  intro p e s m args below meth c ls Q A S hl hP hD hS hK hX hA hret
  obtain ⟨H, hH⟩ : ∃ H, H = s.heap := ⟨_, rfl⟩
  obtain ⟨locs, hlocs⟩ : ∃ L : List Loc, L = [] := ⟨_, rfl⟩
  rw [← hlocs]
  rw [← hlocs] at hS
  have hP : va_P G.1 vwCl (wdX5 G v_q0 v_q1 v_q2 v_q3 v_q4 v_q5 v_q6 v_q7 v_q8 v_q9 v_q10 v_q11 v_q12 v_q13 v_q14 v_q15 v_q16 v_thrown v_gain v_size v_w v_s v_h v_laidArea v_parts v_isMinus v_readSpot v_isStar v_wantsNumber v_waiting v_shiftX v_shiftY v_times v_dotsLaid v_joinedLaid v_hash v_isThereA v_vA v_spotOfA v_inMiddleA v_tintsA v_bufferA v_valuesA v_ranksA v_oldRanksA v_partA v_allRanksA v_basesA v_isMetA v_metXA v_metYA v_lineA) H := by rw [hH]; exact hP
  have hS : va_S A s.heap H locs := by rw [hH]; exact hS
  suffices hgo : W p l e rmX5_setTint s m args below meth c H locs 0 0 Q (F0 m 0 ls []) by rw [hH] at hgo; exact hgo
  have S : CallFix p m c cX5_setTint 4 s args wsX5_setTint RX5 := S
  obtain ⟨hx, hb, hml, hown, hts⟩ := id S
  have hl : lv_has ls 4 [(0, .ref v_q0), (1, .int a0), (2, .int a1)] := hl
  unfold mX5_setTint at h
  refine lv_aload_n hx hb dX5_setTint_0 rfl (lv_at hl 0 rfl) ?_
  refine lv_aload_n hx hb dX5_setTint_1 rfl (lv_at hl 0 rfl) ?_
  refine lv_iload_n hx hb dX5_setTint_2 rfl (lv_at hl 1 rfl) ?_
  obtain ⟨r1_0, g1, h⟩ := bnd1_e h
  refine roVi1 (rest := [.ref v_q0]) (As := [.int a0]) S (ctX5_missing l G v_q0 v_q1 v_q2 v_q3 v_q4 v_q5 v_q6 v_q7 v_q8 v_q9 v_q10 v_q11 v_q12 v_q13 v_q14 v_q15 v_q16 v_thrown v_gain v_size v_w v_s v_h v_laidArea v_parts v_isMinus v_readSpot v_isStar v_wantsNumber v_waiting v_shiftX v_shiftY v_times v_dotsLaid v_joinedLaid v_hash v_isThereA v_vA v_spotOfA v_inMiddleA v_tintsA v_bufferA v_valuesA v_ranksA v_oldRanksA v_partA v_allRanksA v_basesA v_isMetA v_metXA v_metYA v_lineA a0 r1_0 g1) (cwV 1 hts gX5_setTint_X5_missing rfl rfl rfl hvX5_missing ⟨Nat.le_of_ble_eq_true rfl, Nat.le_of_ble_eq_true rfl⟩) hK hP [0, 1, 2, 3, 4, 5, 6, 7, 8, 9, 10, 11, 12, 13, 14, 15, 16] rfl 0 5 rfl rfl rfl rfl hl.1 rfl (Nat.le_of_ble_eq_true rfl) dX5_setTint_3 ⟨Nat.le_refl _, Nat.le_refl _⟩ (fun _ => ?_)
  refine va_put (D := G.1) (ci := 5) (v := .int r1_0) (ty := .int) (C := RX5) (T := TX5) (N := 35) hx hb hts fw_X5_setTint_X5 tyX5 tyX5_ok nmX5 hown hK.1 hP hD hS 0 rfl rfl 0 (by decide) (hts (.fieldLink RX5 59 "HalftoneScreensModel" "thrown" "I") lk_X5_setTint_f59) (fun _ h9 => h9) rfl (tyX5_ok 0 (by decide)) rfl rfl (Nat.le_of_ble_eq_true rfl) dX5_setTint_6 (fun H locs hP hD hS => ?_)
  have hP : va_P G.1 vwCl (wdX5 G v_q0 v_q1 v_q2 v_q3 v_q4 v_q5 v_q6 v_q7 v_q8 v_q9 v_q10 v_q11 v_q12 v_q13 v_q14 v_q15 v_q16 r1_0 v_gain v_size v_w v_s v_h v_laidArea v_parts v_isMinus v_readSpot v_isStar v_wantsNumber v_waiting v_shiftX v_shiftY v_times v_dotsLaid v_joinedLaid v_hash v_isThereA v_vA v_spotOfA v_inMiddleA v_tintsA v_bufferA v_valuesA v_ranksA v_oldRanksA v_partA v_allRanksA v_basesA v_isMetA v_metXA v_metYA v_lineA) H := hP
  have hD : va_D A (wdX5 G v_q0 v_q1 v_q2 v_q3 v_q4 v_q5 v_q6 v_q7 v_q8 v_q9 v_q10 v_q11 v_q12 v_q13 v_q14 v_q15 v_q16 r1_0 v_gain v_size v_w v_s v_h v_laidArea v_parts v_isMinus v_readSpot v_isStar v_wantsNumber v_waiting v_shiftX v_shiftY v_times v_dotsLaid v_joinedLaid v_hash v_isThereA v_vA v_spotOfA v_inMiddleA v_tintsA v_bufferA v_valuesA v_ranksA v_oldRanksA v_partA v_allRanksA v_basesA v_isMetA v_metXA v_metYA v_lineA) := hD
  refine lv_aload_n hx hb dX5_setTint_9 rfl (lv_at hl 0 rfl) ?_
  refine lv_aload_n hx hb dX5_setTint_10 rfl (lv_at hl 0 rfl) ?_
  refine va_get (D := G.1) (ci := 5) (v := .int r1_0) (C := RX5) (T := TX5) (N := 35) hx hb hts fw_X5_setTint_X5 hown hK.1 hP 0 rfl rfl 0 (by decide) (hts (.fieldLink RX5 59 "HalftoneScreensModel" "thrown" "I") lk_X5_setTint_f59) (fun _ h9 => h9) rfl dX5_setTint_11 ?_
  obtain ⟨K2, hK2, h⟩ := jB1_e h
  have J2 : ∀ (j2_0 : Int32) (H : Heap) (locs : List Loc) (ls : Array Slot), K2 j2_0 = some (o0, o1, o2) → lv_has ls 4 [(0, .ref v_q0), (1, .int a0), (2, .int a1)] → va_P G.1 vwCl (wdX5 G v_q0 v_q1 v_q2 v_q3 v_q4 v_q5 v_q6 v_q7 v_q8 v_q9 v_q10 v_q11 v_q12 v_q13 v_q14 v_q15 v_q16 r1_0 v_gain v_size v_w v_s v_h v_laidArea v_parts v_isMinus v_readSpot v_isStar v_wantsNumber v_waiting v_shiftX v_shiftY v_times v_dotsLaid v_joinedLaid v_hash v_isThereA v_vA v_spotOfA v_inMiddleA v_tintsA v_bufferA v_valuesA v_ranksA v_oldRanksA v_partA v_allRanksA v_basesA v_isMetA v_metXA v_metYA v_lineA) H → va_D A (wdX5 G v_q0 v_q1 v_q2 v_q3 v_q4 v_q5 v_q6 v_q7 v_q8 v_q9 v_q10 v_q11 v_q12 v_q13 v_q14 v_q15 v_q16 r1_0 v_gain v_size v_w v_s v_h v_laidArea v_parts v_isMinus v_readSpot v_isStar v_wantsNumber v_waiting v_shiftX v_shiftY v_times v_dotsLaid v_joinedLaid v_hash v_isThereA v_vA v_spotOfA v_inMiddleA v_tintsA v_bufferA v_valuesA v_ranksA v_oldRanksA v_partA v_allRanksA v_basesA v_isMetA v_metXA v_metYA v_lineA) → va_S A s.heap H locs → W p l e rmX5_setTint s m args below meth c H locs 0 0 Q (F0 m 38 ls [.int j2_0, .ref v_q0]) := by
    intro j2_0 H locs ls h hl hP hD hS
    replace h := (hK2 j2_0).symm.trans h
    refine va_put (D := G.1) (ci := 5) (v := .int j2_0) (ty := .int) (C := RX5) (T := TX5) (N := 35) hx hb hts fw_X5_setTint_X5 tyX5 tyX5_ok nmX5 hown hK.1 hP hD hS 0 rfl rfl 0 (by decide) (hts (.fieldLink RX5 59 "HalftoneScreensModel" "thrown" "I") lk_X5_setTint_f59) (fun _ h9 => h9) rfl (tyX5_ok 0 (by decide)) rfl rfl (Nat.le_of_ble_eq_true rfl) dX5_setTint_38 (fun H locs hP hD hS => ?_)
    have hP : va_P G.1 vwCl (wdX5 G v_q0 v_q1 v_q2 v_q3 v_q4 v_q5 v_q6 v_q7 v_q8 v_q9 v_q10 v_q11 v_q12 v_q13 v_q14 v_q15 v_q16 j2_0 v_gain v_size v_w v_s v_h v_laidArea v_parts v_isMinus v_readSpot v_isStar v_wantsNumber v_waiting v_shiftX v_shiftY v_times v_dotsLaid v_joinedLaid v_hash v_isThereA v_vA v_spotOfA v_inMiddleA v_tintsA v_bufferA v_valuesA v_ranksA v_oldRanksA v_partA v_allRanksA v_basesA v_isMetA v_metXA v_metYA v_lineA) H := hP
    have hD : va_D A (wdX5 G v_q0 v_q1 v_q2 v_q3 v_q4 v_q5 v_q6 v_q7 v_q8 v_q9 v_q10 v_q11 v_q12 v_q13 v_q14 v_q15 v_q16 j2_0 v_gain v_size v_w v_s v_h v_laidArea v_parts v_isMinus v_readSpot v_isStar v_wantsNumber v_waiting v_shiftX v_shiftY v_times v_dotsLaid v_joinedLaid v_hash v_isThereA v_vA v_spotOfA v_inMiddleA v_tintsA v_bufferA v_valuesA v_ranksA v_oldRanksA v_partA v_allRanksA v_basesA v_isMetA v_metXA v_metYA v_lineA) := hD
    refine lv_aload_n hx hb dX5_setTint_41 rfl (lv_at hl 0 rfl) ?_
    refine va_get (D := G.1) (ci := 5) (v := .int j2_0) (C := RX5) (T := TX5) (N := 35) hx hb hts fw_X5_setTint_X5 hown hK.1 hP 0 rfl rfl 0 (by decide) (hts (.fieldLink RX5 59 "HalftoneScreensModel" "thrown" "I") lk_X5_setTint_f59) (fun _ h9 => h9) rfl dX5_setTint_42 ?_
    refine lv_if_le (tgt := 50) hx hb dX5_setTint_45 (by decide) (fun c7 => ?_) (fun c7 => ?_)
    · replace h := ite_t c7 h
      refine lv_aload_n hx hb dX5_setTint_50 rfl (lv_at hl 0 rfl) ?_
      refine va_get (D := G.1) (ci := 5) (v := .ref v_q5) (C := RX5) (T := TX5) (N := 35) hx hb hts fw_X5_setTint_X5 hown hK.1 hP 0 rfl rfl 5 (by decide) (hts (.fieldLink RX5 23 "HalftoneScreensModel" "tints" "[I") lk_X5_setTint_f23) (fun _ h9 => h9) rfl dX5_setTint_51 ?_
      refine lv_iload_n hx hb dX5_setTint_54 rfl (lv_at hl 1 rfl) ?_
      obtain ⟨i8, h⟩ := gd_e h
      refine va_iald hx hb hK.1 hP 5 0 rfl rfl i8 dX5_setTint_55 ?_
      refine lv_topi (fun x9 e9 => ?_)
      replace h := nmB_e e9 h
      refine lv_istore_n (lv' := [(3, .int x9), (0, .ref v_q0), (1, .int a0), (2, .int a1)]) hx hb dX5_setTint_56 rfl hl (by decide) rfl (fun ls hl => ?_)
      refine lv_aload_n hx hb dX5_setTint_57 rfl (lv_at hl 1 rfl) ?_
      refine va_get (D := G.1) (ci := 5) (v := .ref v_q5) (C := RX5) (T := TX5) (N := 35) hx hb hts fw_X5_setTint_X5 hown hK.1 hP 0 rfl rfl 5 (by decide) (hts (.fieldLink RX5 23 "HalftoneScreensModel" "tints" "[I") lk_X5_setTint_f23) (fun _ h9 => h9) rfl dX5_setTint_58 ?_
      refine lv_iload_n hx hb dX5_setTint_61 rfl (lv_at hl 2 rfl) ?_
      refine lv_iload_n hx hb dX5_setTint_62 rfl (lv_at hl 3 rfl) ?_
      obtain ⟨i10, h⟩ := gd_e h
      refine va_iast hx hb hK.1 hP hD hS 5 0 rfl rfl i10 dX5_setTint_63 (fun H locs hP hD hS => ?_)
      have hP : va_P G.1 vwCl (wdX5 G v_q0 v_q1 v_q2 v_q3 v_q4 v_q5 v_q6 v_q7 v_q8 v_q9 v_q10 v_q11 v_q12 v_q13 v_q14 v_q15 v_q16 j2_0 v_gain v_size v_w v_s v_h v_laidArea v_parts v_isMinus v_readSpot v_isStar v_wantsNumber v_waiting v_shiftX v_shiftY v_times v_dotsLaid v_joinedLaid v_hash v_isThereA v_vA v_spotOfA v_inMiddleA (upd v_tintsA a0.toNatClampNeg a1) v_bufferA v_valuesA v_ranksA v_oldRanksA v_partA v_allRanksA v_basesA v_isMetA v_metXA v_metYA v_lineA) H := hP
      have hD : va_D A (wdX5 G v_q0 v_q1 v_q2 v_q3 v_q4 v_q5 v_q6 v_q7 v_q8 v_q9 v_q10 v_q11 v_q12 v_q13 v_q14 v_q15 v_q16 j2_0 v_gain v_size v_w v_s v_h v_laidArea v_parts v_isMinus v_readSpot v_isStar v_wantsNumber v_waiting v_shiftX v_shiftY v_times v_dotsLaid v_joinedLaid v_hash v_isThereA v_vA v_spotOfA v_inMiddleA (upd v_tintsA a0.toNatClampNeg a1) v_bufferA v_valuesA v_ranksA v_oldRanksA v_partA v_allRanksA v_basesA v_isMetA v_metXA v_metYA v_lineA) := hD
      refine lv_iload_n hx hb dX5_setTint_64 rfl (lv_at hl 0 rfl) ?_
      obtain ⟨rfl, rfl, rfl⟩ := sm3 h
      exact hret _ _ _ _ _ rfl trivial rfl hP hD hS dX5_setTint_65
    · replace h := ite_f c7 h
      refine lv_iconst (v := 0) hx hb dX5_setTint_48 (by decide) ?_
      obtain ⟨rfl, rfl, rfl⟩ := sm3 h
      exact hret _ _ _ _ _ rfl trivial rfl hP hD hS dX5_setTint_49
  refine lv_if_ne (tgt := 34) hx hb dX5_setTint_14 (by decide) (fun c3 => ?_) (fun c3 => ?_)
  · replace h := ite_f c3 h
    refine lv_aload_n hx hb dX5_setTint_34 rfl (lv_at hl 0 rfl) ?_
    refine va_get (D := G.1) (ci := 5) (v := .int r1_0) (C := RX5) (T := TX5) (N := 35) hx hb hts fw_X5_setTint_X5 hown hK.1 hP 0 rfl rfl 0 (by decide) (hts (.fieldLink RX5 59 "HalftoneScreensModel" "thrown" "I") lk_X5_setTint_f59) (fun _ h9 => h9) rfl dX5_setTint_35 ?_
    exact J2 r1_0 H locs ls h hl hP hD hS
  · replace h := ite_t c3 h
    refine lv_iload_n hx hb dX5_setTint_17 rfl (lv_at hl 2 rfl) ?_
    refine lv_iconst (v := 0) hx hb dX5_setTint_18 (by decide) ?_
    refine lv_aload_n hx hb dX5_setTint_19 rfl (lv_at hl 0 rfl) ?_
    refine lv_iload_n hx hb dX5_setTint_20 rfl (lv_at hl 1 rfl) ?_
    obtain ⟨r4_0, g4, h⟩ := bnd1_e h
    refine roVi1 (rest := [.int 0, .int a1, .ref v_q0]) (As := [.int a0]) S (ctX5_areaIn l G v_q0 v_q1 v_q2 v_q3 v_q4 v_q5 v_q6 v_q7 v_q8 v_q9 v_q10 v_q11 v_q12 v_q13 v_q14 v_q15 v_q16 r1_0 v_gain v_size v_w v_s v_h v_laidArea v_parts v_isMinus v_readSpot v_isStar v_wantsNumber v_waiting v_shiftX v_shiftY v_times v_dotsLaid v_joinedLaid v_hash v_isThereA v_vA v_spotOfA v_inMiddleA v_tintsA v_bufferA v_valuesA v_ranksA v_oldRanksA v_partA v_allRanksA v_basesA v_isMetA v_metXA v_metYA v_lineA a0 r4_0 g4) (cwV 1 hts gX5_setTint_X5_areaIn rfl rfl rfl hvX5_areaIn ⟨Nat.le_of_ble_eq_true rfl, Nat.le_of_ble_eq_true rfl⟩) hK hP [0, 1, 2, 3, 4, 5, 6, 7, 8, 9, 10, 11, 12, 13, 14, 15, 16] rfl 0 5 rfl rfl rfl rfl hl.1 rfl (Nat.le_of_ble_eq_true rfl) dX5_setTint_21 ⟨Nat.le_refl _, Nat.le_refl _⟩ (fun _ => ?_)
    obtain ⟨r5_0, g5, h⟩ := bnd1_e h
    refine roSi1 (rest := [.ref v_q0]) (As := [.int a1, .int 0, .int r4_0]) S (ctX5_within l G a1 0 r4_0 r5_0 g5) (va_cwS 3 hts gX5_setTint_X5_within rfl rfl rfl hsX5_within ⟨Nat.le_of_ble_eq_true rfl, Nat.le_of_ble_eq_true rfl⟩) hK hP [] rfl rfl hl.1 rfl (Nat.le_of_ble_eq_true rfl) dX5_setTint_24 ⟨Nat.le_refl _, Nat.le_refl _⟩ (fun hz5 => ?_)
    refine lv_if_ne (tgt := 34) hx hb dX5_setTint_27 (by decide) (fun c6 => ?_) (fun c6 => ?_)
    · replace h := ite_f c6 h
      refine lv_aload_n hx hb dX5_setTint_34 rfl (lv_at hl 0 rfl) ?_
      refine va_get (D := G.1) (ci := 5) (v := .int r1_0) (C := RX5) (T := TX5) (N := 35) hx hb hts fw_X5_setTint_X5 hown hK.1 hP 0 rfl rfl 0 (by decide) (hts (.fieldLink RX5 59 "HalftoneScreensModel" "thrown" "I") lk_X5_setTint_f59) (fun _ h9 => h9) rfl dX5_setTint_35 ?_
      exact J2 r1_0 H locs ls h hl hP hD hS
    · replace h := ite_t c6 h
      refine lv_iconst (v := 3) hx hb dX5_setTint_30 (by decide) ?_
      refine lv_goto (tgt := 38) hx hb dX5_setTint_31 (by decide) ?_
      exact J2 3 H locs ls h hl hP hD hS
theorem fw_X5_setGain_X5 : ∀ w ∈ wsX50, w ∈ wsX5_setGain := fun w h => List.mem_cons_of_mem _ (List.mem_append_right _ h)
theorem lk_X5_setGain_f59 : Cond.fieldLink RX5 59 "HalftoneScreensModel" "thrown" "I" ∈ wsX5_setGain := List.mem_of_getElem? (i := 1) rfl
theorem lk_X5_setGain_f191 : Cond.fieldLink RX5 191 "HalftoneScreensModel" "gain" "I" ∈ wsX5_setGain := List.mem_of_getElem? (i := 2) rfl
abbrev rmX5_setGain : Room := { frames := 1, cells := 0, slots := 0, locals := 22 }
set_option maxHeartbeats 4000000 in
set_option maxRecDepth 100000 in
theorem ctX5_setGain (l : Launch) (G : GG) (v_q0 : Nat) (v_q1 : Nat) (v_q2 : Nat) (v_q3 : Nat) (v_q4 : Nat) (v_q5 : Nat) (v_q6 : Nat) (v_q7 : Nat) (v_q8 : Nat) (v_q9 : Nat) (v_q10 : Nat) (v_q11 : Nat) (v_q12 : Nat) (v_q13 : Nat) (v_q14 : Nat) (v_q15 : Nat) (v_q16 : Nat) (v_thrown : Int32) (v_gain : Int32) (v_size : Int32) (v_w : Int32) (v_s : Int32) (v_h : Int32) (v_laidArea : Int32) (v_parts : Int32) (v_isMinus : Int32) (v_readSpot : Int32) (v_isStar : Int32) (v_wantsNumber : Int32) (v_waiting : Int32) (v_shiftX : Int32) (v_shiftY : Int32) (v_times : Int32) (v_dotsLaid : Int32) (v_joinedLaid : Int32) (v_hash : Int64) (v_isThereA : (Nat → Int32)) (v_vA : (Nat → Int32)) (v_spotOfA : (Nat → Int32)) (v_inMiddleA : (Nat → Int32)) (v_tintsA : (Nat → Int32)) (v_bufferA : (Nat → Int32)) (v_valuesA : (Nat → Int32)) (v_ranksA : (Nat → Int32)) (v_oldRanksA : (Nat → Int32)) (v_partA : (Nat → Int32)) (v_allRanksA : (Nat → Int32)) (v_basesA : (Nat → Int32)) (v_isMetA : (Nat → Int32)) (v_metXA : (Nat → Int32)) (v_metYA : (Nat → Int32)) (v_lineA : (Nat → Int32)) (a0 : Int32) (o0 : Int32) (o1 : Int32) (o2 : Int32) (h : mX5_setGain v_gain a0 = some (o0, o1, o2))  : Met l yX5_setGain wsX5_setGain rmX5_setGain (va_Pc [.ref v_q0, .int a0] (PreD G (wdX5 G v_q0 v_q1 v_q2 v_q3 v_q4 v_q5 v_q6 v_q7 v_q8 v_q9 v_q10 v_q11 v_q12 v_q13 v_q14 v_q15 v_q16 v_thrown v_gain v_size v_w v_s v_h v_laidArea v_parts v_isMinus v_readSpot v_isStar v_wantsNumber v_waiting v_shiftX v_shiftY v_times v_dotsLaid v_joinedLaid v_hash v_isThereA v_vA v_spotOfA v_inMiddleA v_tintsA v_bufferA v_valuesA v_ranksA v_oldRanksA v_partA v_allRanksA v_basesA v_isMetA v_metXA v_metYA v_lineA) (fun _ => True))) (QwA G (va_A0 (wdX5 G v_q0 v_q1 v_q2 v_q3 v_q4 v_q5 v_q6 v_q7 v_q8 v_q9 v_q10 v_q11 v_q12 v_q13 v_q14 v_q15 v_q16 v_thrown v_gain v_size v_w v_s v_h v_laidArea v_parts v_isMinus v_readSpot v_isStar v_wantsNumber v_waiting v_shiftX v_shiftY v_times v_dotsLaid v_joinedLaid v_hash v_isThereA v_vA v_spotOfA v_inMiddleA v_tintsA v_bufferA v_valuesA v_ranksA v_oldRanksA v_partA v_allRanksA v_basesA v_isMetA v_metXA v_metYA v_lineA)) (wdX5 G v_q0 v_q1 v_q2 v_q3 v_q4 v_q5 v_q6 v_q7 v_q8 v_q9 v_q10 v_q11 v_q12 v_q13 v_q14 v_q15 v_q16 o1 o2 v_size v_w v_s v_h v_laidArea v_parts v_isMinus v_readSpot v_isStar v_wantsNumber v_waiting v_shiftX v_shiftY v_times v_dotsLaid v_joinedLaid v_hash v_isThereA v_vA v_spotOfA v_inMiddleA v_tintsA v_bufferA v_valuesA v_ranksA v_oldRanksA v_partA v_allRanksA v_basesA v_isMetA v_metXA v_metYA v_lineA) (some (.int o0)) True) 0 0 (va_A0 (wdX5 G v_q0 v_q1 v_q2 v_q3 v_q4 v_q5 v_q6 v_q7 v_q8 v_q9 v_q10 v_q11 v_q12 v_q13 v_q14 v_q15 v_q16 v_thrown v_gain v_size v_w v_s v_h v_laidArea v_parts v_isMinus v_readSpot v_isStar v_wantsNumber v_waiting v_shiftX v_shiftY v_times v_dotsLaid v_joinedLaid v_hash v_isThereA v_vA v_spotOfA v_inMiddleA v_tintsA v_bufferA v_valuesA v_ranksA v_oldRanksA v_partA v_allRanksA v_basesA v_isMetA v_metXA v_metYA v_lineA)) := by
  refine of_wi (cc := cX5_setGain) (maxL := 3) (ty := .int) (plainFor_of_name (by decide)) rfl (Nat.le_of_ble_eq_true rfl) ?_
  intro p e s m args below meth c ls Q A S hl hP hD hS hK hX hA hret
  obtain ⟨H, hH⟩ : ∃ H, H = s.heap := ⟨_, rfl⟩
  obtain ⟨locs, hlocs⟩ : ∃ L : List Loc, L = [] := ⟨_, rfl⟩
  rw [← hlocs]
  rw [← hlocs] at hS
  have hP : va_P G.1 vwCl (wdX5 G v_q0 v_q1 v_q2 v_q3 v_q4 v_q5 v_q6 v_q7 v_q8 v_q9 v_q10 v_q11 v_q12 v_q13 v_q14 v_q15 v_q16 v_thrown v_gain v_size v_w v_s v_h v_laidArea v_parts v_isMinus v_readSpot v_isStar v_wantsNumber v_waiting v_shiftX v_shiftY v_times v_dotsLaid v_joinedLaid v_hash v_isThereA v_vA v_spotOfA v_inMiddleA v_tintsA v_bufferA v_valuesA v_ranksA v_oldRanksA v_partA v_allRanksA v_basesA v_isMetA v_metXA v_metYA v_lineA) H := by rw [hH]; exact hP
  have hS : va_S A s.heap H locs := by rw [hH]; exact hS
  suffices hgo : W p l e rmX5_setGain s m args below meth c H locs 0 0 Q (F0 m 0 ls []) by rw [hH] at hgo; exact hgo
  have S : CallFix p m c cX5_setGain 3 s args wsX5_setGain RX5 := S
  obtain ⟨hx, hb, hml, hown, hts⟩ := id S
  have hl : lv_has ls 3 [(0, .ref v_q0), (1, .int a0)] := hl
  unfold mX5_setGain at h
  refine lv_aload_n hx hb dX5_setGain_0 rfl (lv_at hl 0 rfl) ?_
  refine lv_iload_n hx hb dX5_setGain_1 rfl (lv_at hl 1 rfl) ?_
  refine lv_iconst (v := 0) hx hb dX5_setGain_2 (by decide) ?_
  refine lv_bipush (v := 100) hx hb dX5_setGain_3 (by decide) ?_
  obtain ⟨r1_0, g1, h⟩ := bnd1_e h
  refine roSi1 (rest := [.ref v_q0]) (As := [.int a0, .int 0, .int 100]) S (ctX5_within l G a0 0 100 r1_0 g1) (va_cwS 3 hts gX5_setGain_X5_within rfl rfl rfl hsX5_within ⟨Nat.le_of_ble_eq_true rfl, Nat.le_of_ble_eq_true rfl⟩) hK hP [] rfl rfl hl.1 rfl (Nat.le_of_ble_eq_true rfl) dX5_setGain_5 ⟨Nat.le_refl _, Nat.le_refl _⟩ (fun hz1 => ?_)
  obtain ⟨K2, hK2, h⟩ := jB1_e h
  have J2 : ∀ (j2_0 : Int32) (jz2_0 : isZ j2_0) (H : Heap) (locs : List Loc) (ls : Array Slot), K2 j2_0 = some (o0, o1, o2) → lv_has ls 3 [(0, .ref v_q0), (1, .int a0)] → va_P G.1 vwCl (wdX5 G v_q0 v_q1 v_q2 v_q3 v_q4 v_q5 v_q6 v_q7 v_q8 v_q9 v_q10 v_q11 v_q12 v_q13 v_q14 v_q15 v_q16 v_thrown v_gain v_size v_w v_s v_h v_laidArea v_parts v_isMinus v_readSpot v_isStar v_wantsNumber v_waiting v_shiftX v_shiftY v_times v_dotsLaid v_joinedLaid v_hash v_isThereA v_vA v_spotOfA v_inMiddleA v_tintsA v_bufferA v_valuesA v_ranksA v_oldRanksA v_partA v_allRanksA v_basesA v_isMetA v_metXA v_metYA v_lineA) H → va_D A (wdX5 G v_q0 v_q1 v_q2 v_q3 v_q4 v_q5 v_q6 v_q7 v_q8 v_q9 v_q10 v_q11 v_q12 v_q13 v_q14 v_q15 v_q16 v_thrown v_gain v_size v_w v_s v_h v_laidArea v_parts v_isMinus v_readSpot v_isStar v_wantsNumber v_waiting v_shiftX v_shiftY v_times v_dotsLaid v_joinedLaid v_hash v_isThereA v_vA v_spotOfA v_inMiddleA v_tintsA v_bufferA v_valuesA v_ranksA v_oldRanksA v_partA v_allRanksA v_basesA v_isMetA v_metXA v_metYA v_lineA) → va_S A s.heap H locs → W p l e rmX5_setGain s m args below meth c H locs 0 0 Q (F0 m 16 ls [.int j2_0, .ref v_q0]) := by
    intro j2_0 jz2_0 H locs ls h hl hP hD hS
    replace h := (hK2 j2_0).symm.trans h
    refine va_put (D := G.1) (ci := 5) (v := .int j2_0) (ty := .int) (C := RX5) (T := TX5) (N := 35) hx hb hts fw_X5_setGain_X5 tyX5 tyX5_ok nmX5 hown hK.1 hP hD hS 0 rfl rfl 0 (by decide) (hts (.fieldLink RX5 59 "HalftoneScreensModel" "thrown" "I") lk_X5_setGain_f59) (fun _ h9 => h9) rfl (tyX5_ok 0 (by decide)) rfl rfl (Nat.le_of_ble_eq_true rfl) dX5_setGain_16 (fun H locs hP hD hS => ?_)
    have hP : va_P G.1 vwCl (wdX5 G v_q0 v_q1 v_q2 v_q3 v_q4 v_q5 v_q6 v_q7 v_q8 v_q9 v_q10 v_q11 v_q12 v_q13 v_q14 v_q15 v_q16 j2_0 v_gain v_size v_w v_s v_h v_laidArea v_parts v_isMinus v_readSpot v_isStar v_wantsNumber v_waiting v_shiftX v_shiftY v_times v_dotsLaid v_joinedLaid v_hash v_isThereA v_vA v_spotOfA v_inMiddleA v_tintsA v_bufferA v_valuesA v_ranksA v_oldRanksA v_partA v_allRanksA v_basesA v_isMetA v_metXA v_metYA v_lineA) H := hP
    have hD : va_D A (wdX5 G v_q0 v_q1 v_q2 v_q3 v_q4 v_q5 v_q6 v_q7 v_q8 v_q9 v_q10 v_q11 v_q12 v_q13 v_q14 v_q15 v_q16 j2_0 v_gain v_size v_w v_s v_h v_laidArea v_parts v_isMinus v_readSpot v_isStar v_wantsNumber v_waiting v_shiftX v_shiftY v_times v_dotsLaid v_joinedLaid v_hash v_isThereA v_vA v_spotOfA v_inMiddleA v_tintsA v_bufferA v_valuesA v_ranksA v_oldRanksA v_partA v_allRanksA v_basesA v_isMetA v_metXA v_metYA v_lineA) := hD
    refine lv_aload_n hx hb dX5_setGain_19 rfl (lv_at hl 0 rfl) ?_
    refine va_get (D := G.1) (ci := 5) (v := .int j2_0) (C := RX5) (T := TX5) (N := 35) hx hb hts fw_X5_setGain_X5 hown hK.1 hP 0 rfl rfl 0 (by decide) (hts (.fieldLink RX5 59 "HalftoneScreensModel" "thrown" "I") lk_X5_setGain_f59) (fun _ h9 => h9) rfl dX5_setGain_20 ?_
    refine lv_if_le (tgt := 28) hx hb dX5_setGain_23 (by decide) (fun c4 => ?_) (fun c4 => ?_)
    · replace h := ite_t c4 h
      refine lv_aload_n hx hb dX5_setGain_28 rfl (lv_at hl 0 rfl) ?_
      refine va_get (D := G.1) (ci := 5) (v := .int v_gain) (C := RX5) (T := TX5) (N := 35) hx hb hts fw_X5_setGain_X5 hown hK.1 hP 0 rfl rfl 6 (by decide) (hts (.fieldLink RX5 191 "HalftoneScreensModel" "gain" "I") lk_X5_setGain_f191) (fun _ h9 => h9) rfl dX5_setGain_29 ?_
      refine lv_istore_n (lv' := [(2, .int v_gain), (0, .ref v_q0), (1, .int a0)]) hx hb dX5_setGain_32 rfl hl (by decide) rfl (fun ls hl => ?_)
      refine lv_aload_n hx hb dX5_setGain_33 rfl (lv_at hl 1 rfl) ?_
      refine lv_iload_n hx hb dX5_setGain_34 rfl (lv_at hl 2 rfl) ?_
      refine va_put (D := G.1) (ci := 5) (v := .int a0) (ty := .int) (C := RX5) (T := TX5) (N := 35) hx hb hts fw_X5_setGain_X5 tyX5 tyX5_ok nmX5 hown hK.1 hP hD hS 0 rfl rfl 6 (by decide) (hts (.fieldLink RX5 191 "HalftoneScreensModel" "gain" "I") lk_X5_setGain_f191) (fun _ h9 => h9) rfl (tyX5_ok 6 (by decide)) rfl rfl (Nat.le_of_ble_eq_true rfl) dX5_setGain_35 (fun H locs hP hD hS => ?_)
      have hP : va_P G.1 vwCl (wdX5 G v_q0 v_q1 v_q2 v_q3 v_q4 v_q5 v_q6 v_q7 v_q8 v_q9 v_q10 v_q11 v_q12 v_q13 v_q14 v_q15 v_q16 j2_0 a0 v_size v_w v_s v_h v_laidArea v_parts v_isMinus v_readSpot v_isStar v_wantsNumber v_waiting v_shiftX v_shiftY v_times v_dotsLaid v_joinedLaid v_hash v_isThereA v_vA v_spotOfA v_inMiddleA v_tintsA v_bufferA v_valuesA v_ranksA v_oldRanksA v_partA v_allRanksA v_basesA v_isMetA v_metXA v_metYA v_lineA) H := hP
      have hD : va_D A (wdX5 G v_q0 v_q1 v_q2 v_q3 v_q4 v_q5 v_q6 v_q7 v_q8 v_q9 v_q10 v_q11 v_q12 v_q13 v_q14 v_q15 v_q16 j2_0 a0 v_size v_w v_s v_h v_laidArea v_parts v_isMinus v_readSpot v_isStar v_wantsNumber v_waiting v_shiftX v_shiftY v_times v_dotsLaid v_joinedLaid v_hash v_isThereA v_vA v_spotOfA v_inMiddleA v_tintsA v_bufferA v_valuesA v_ranksA v_oldRanksA v_partA v_allRanksA v_basesA v_isMetA v_metXA v_metYA v_lineA) := hD
      refine lv_iload_n hx hb dX5_setGain_38 rfl (lv_at hl 0 rfl) ?_
      obtain ⟨rfl, rfl, rfl⟩ := sm3 h
      exact hret _ _ _ _ _ rfl trivial rfl hP hD hS dX5_setGain_39
    · replace h := ite_f c4 h
      refine lv_iconst (v := 0) hx hb dX5_setGain_26 (by decide) ?_
      obtain ⟨rfl, rfl, rfl⟩ := sm3 h
      exact hret _ _ _ _ _ rfl trivial rfl hP hD hS dX5_setGain_27
  refine lv_if_eq (tgt := 15) hx hb dX5_setGain_8 (by decide) (fun c3 => ?_) (fun c3 => ?_)
  · replace h := ite_t c3 h
    refine lv_iconst (v := 1) hx hb dX5_setGain_15 (by decide) ?_
    exact J2 1 isZ1 H locs ls h hl hP hD hS
  · replace h := ite_f c3 h
    refine lv_iconst (v := 0) hx hb dX5_setGain_11 (by decide) ?_
    refine lv_goto (tgt := 16) hx hb dX5_setGain_12 (by decide) ?_
    exact J2 0 isZ0 H locs ls h hl hP hD hS
