-- contracts of the methods (laid by program from the listing)
theorem fw_X5_compensated_X5 : ∀ w ∈ wsX50, w ∈ wsX5_compensated := fun w h => List.mem_cons_of_mem _ (List.mem_append_right _ h)
theorem lk_X5_compensated_f59 : Cond.fieldLink RX5 59 "HalftoneScreensModel" "thrown" "I" ∈ wsX5_compensated := List.mem_of_getElem? (i := 1) rfl
theorem lk_X5_compensated_f113 : Cond.fieldLink RX5 113 "HalftoneScreensModel" "laidArea" "I" ∈ wsX5_compensated := List.mem_of_getElem? (i := 2) rfl
abbrev rmX5_compensated : Room := { frames := 5, cells := 0, slots := 0, locals := 130 }
set_option maxHeartbeats 4000000 in
set_option maxRecDepth 100000 in
theorem ctX5_compensated (l : Launch) (G : GG) (v_q0 : Nat) (v_q1 : Nat) (v_q2 : Nat) (v_q3 : Nat) (v_q4 : Nat) (v_q5 : Nat) (v_q6 : Nat) (v_q7 : Nat) (v_q8 : Nat) (v_q9 : Nat) (v_q10 : Nat) (v_q11 : Nat) (v_q12 : Nat) (v_q13 : Nat) (v_q14 : Nat) (v_q15 : Nat) (v_q16 : Nat) (v_thrown : Int32) (v_gain : Int32) (v_size : Int32) (v_w : Int32) (v_s : Int32) (v_h : Int32) (v_laidArea : Int32) (v_parts : Int32) (v_isMinus : Int32) (v_readSpot : Int32) (v_isStar : Int32) (v_wantsNumber : Int32) (v_waiting : Int32) (v_shiftX : Int32) (v_shiftY : Int32) (v_times : Int32) (v_dotsLaid : Int32) (v_joinedLaid : Int32) (v_hash : Int64) (v_isThereA : (Nat → Int32)) (v_vA : (Nat → Int32)) (v_spotOfA : (Nat → Int32)) (v_inMiddleA : (Nat → Int32)) (v_tintsA : (Nat → Int32)) (v_bufferA : (Nat → Int32)) (v_valuesA : (Nat → Int32)) (v_ranksA : (Nat → Int32)) (v_oldRanksA : (Nat → Int32)) (v_partA : (Nat → Int32)) (v_allRanksA : (Nat → Int32)) (v_basesA : (Nat → Int32)) (v_isMetA : (Nat → Int32)) (v_metXA : (Nat → Int32)) (v_metYA : (Nat → Int32)) (v_lineA : (Nat → Int32)) (a0 : Int32) (a1 : Int32) (o0 : Int32) (o1 : Int32) (o2 : Int32) (o3 : Int32) (o4 : Int32) (o5 : Int32) (o6 : (Nat → Int32)) (o7 : (Nat → Int32)) (h : mX5_compensated v_gain v_w v_s v_h v_laidArea v_isThereA v_vA v_spotOfA v_inMiddleA v_valuesA v_ranksA a0 a1 = some (o0, o1, o2, o3, o4, o5, o6, o7))  : Met l yX5_compensated wsX5_compensated rmX5_compensated (va_Pc [.ref v_q0, .int a0, .int a1] (PreD G (wdX5 G v_q0 v_q1 v_q2 v_q3 v_q4 v_q5 v_q6 v_q7 v_q8 v_q9 v_q10 v_q11 v_q12 v_q13 v_q14 v_q15 v_q16 v_thrown v_gain v_size v_w v_s v_h v_laidArea v_parts v_isMinus v_readSpot v_isStar v_wantsNumber v_waiting v_shiftX v_shiftY v_times v_dotsLaid v_joinedLaid v_hash v_isThereA v_vA v_spotOfA v_inMiddleA v_tintsA v_bufferA v_valuesA v_ranksA v_oldRanksA v_partA v_allRanksA v_basesA v_isMetA v_metXA v_metYA v_lineA) (fun _ => True))) (QwA G (va_A0 (wdX5 G v_q0 v_q1 v_q2 v_q3 v_q4 v_q5 v_q6 v_q7 v_q8 v_q9 v_q10 v_q11 v_q12 v_q13 v_q14 v_q15 v_q16 v_thrown v_gain v_size v_w v_s v_h v_laidArea v_parts v_isMinus v_readSpot v_isStar v_wantsNumber v_waiting v_shiftX v_shiftY v_times v_dotsLaid v_joinedLaid v_hash v_isThereA v_vA v_spotOfA v_inMiddleA v_tintsA v_bufferA v_valuesA v_ranksA v_oldRanksA v_partA v_allRanksA v_basesA v_isMetA v_metXA v_metYA v_lineA)) (wdX5 G v_q0 v_q1 v_q2 v_q3 v_q4 v_q5 v_q6 v_q7 v_q8 v_q9 v_q10 v_q11 v_q12 v_q13 v_q14 v_q15 v_q16 o1 v_gain v_size o2 o3 o4 o5 v_parts v_isMinus v_readSpot v_isStar v_wantsNumber v_waiting v_shiftX v_shiftY v_times v_dotsLaid v_joinedLaid v_hash v_isThereA v_vA v_spotOfA v_inMiddleA v_tintsA v_bufferA o6 o7 v_oldRanksA v_partA v_allRanksA v_basesA v_isMetA v_metXA v_metYA v_lineA) (some (.int o0)) True) 0 0 (va_A0 (wdX5 G v_q0 v_q1 v_q2 v_q3 v_q4 v_q5 v_q6 v_q7 v_q8 v_q9 v_q10 v_q11 v_q12 v_q13 v_q14 v_q15 v_q16 v_thrown v_gain v_size v_w v_s v_h v_laidArea v_parts v_isMinus v_readSpot v_isStar v_wantsNumber v_waiting v_shiftX v_shiftY v_times v_dotsLaid v_joinedLaid v_hash v_isThereA v_vA v_spotOfA v_inMiddleA v_tintsA v_bufferA v_valuesA v_ranksA v_oldRanksA v_partA v_allRanksA v_basesA v_isMetA v_metXA v_metYA v_lineA)) := by
  refine of_wi (cc := cX5_compensated) (maxL := 7) (ty := .int) (plainFor_of_name (by decide)) rfl (Nat.le_of_ble_eq_true rfl) ?_
  intro p e s m args below meth c ls Q A S hl hP hD hS hK hX hA hret
  obtain ⟨H, hH⟩ : ∃ H, H = s.heap := ⟨_, rfl⟩
  obtain ⟨locs, hlocs⟩ : ∃ L : List Loc, L = [] := ⟨_, rfl⟩
  rw [← hlocs]
  rw [← hlocs] at hS
  have hP : va_P G.1 vwCl (wdX5 G v_q0 v_q1 v_q2 v_q3 v_q4 v_q5 v_q6 v_q7 v_q8 v_q9 v_q10 v_q11 v_q12 v_q13 v_q14 v_q15 v_q16 v_thrown v_gain v_size v_w v_s v_h v_laidArea v_parts v_isMinus v_readSpot v_isStar v_wantsNumber v_waiting v_shiftX v_shiftY v_times v_dotsLaid v_joinedLaid v_hash v_isThereA v_vA v_spotOfA v_inMiddleA v_tintsA v_bufferA v_valuesA v_ranksA v_oldRanksA v_partA v_allRanksA v_basesA v_isMetA v_metXA v_metYA v_lineA) H := by rw [hH]; exact hP
  have hS : va_S A s.heap H locs := by rw [hH]; exact hS
  suffices hgo : W p l e rmX5_compensated s m args below meth c H locs 0 0 Q (F0 m 0 ls []) by rw [hH] at hgo; exact hgo
  have S : CallFix p m c cX5_compensated 7 s args wsX5_compensated RX5 := S
  obtain ⟨hx, hb, hml, hown, hts⟩ := id S
  have hl : lv_has ls 7 [(0, .ref v_q0), (1, .int a0), (2, .int a1)] := hl
  unfold mX5_compensated at h
  refine lv_aload_n hx hb dX5_compensated_0 rfl (lv_at hl 0 rfl) ?_
  refine lv_aload_n hx hb dX5_compensated_1 rfl (lv_at hl 0 rfl) ?_
  refine lv_iload_n hx hb dX5_compensated_2 rfl (lv_at hl 1 rfl) ?_
  refine lv_iload_n hx hb dX5_compensated_3 rfl (lv_at hl 2 rfl) ?_
  refine lv_iconst (v := 0) hx hb dX5_compensated_4 (by decide) ?_
  refine lv_bipush (v := 100) hx hb dX5_compensated_5 (by decide) ?_
  obtain ⟨r1_0, g1, h⟩ := bnd1_e h
  refine roSi1 (rest := [.int a0, .ref v_q0, .ref v_q0]) (As := [.int a1, .int 0, .int 100]) S (ctX5_within l G a1 0 100 r1_0 g1) (va_cwS 3 hts gX5_compensated_X5_within rfl rfl rfl hsX5_within ⟨Nat.le_of_ble_eq_true rfl, Nat.le_of_ble_eq_true rfl⟩) hK hP [] rfl rfl hl.1 rfl (Nat.le_of_ble_eq_true rfl) dX5_compensated_7 ⟨Nat.le_refl _, Nat.le_refl _⟩ (fun hz1 => ?_)
  obtain ⟨r2_0, g2, h⟩ := bnd1_e h
  refine roVi1 (rest := [.ref v_q0]) (As := [.int a0, .int r1_0]) S (ctX5_wrong l G v_q0 v_q1 v_q2 v_q3 v_q4 v_q5 v_q6 v_q7 v_q8 v_q9 v_q10 v_q11 v_q12 v_q13 v_q14 v_q15 v_q16 v_thrown v_gain v_size v_w v_s v_h v_laidArea v_parts v_isMinus v_readSpot v_isStar v_wantsNumber v_waiting v_shiftX v_shiftY v_times v_dotsLaid v_joinedLaid v_hash v_isThereA v_vA v_spotOfA v_inMiddleA v_tintsA v_bufferA v_valuesA v_ranksA v_oldRanksA v_partA v_allRanksA v_basesA v_isMetA v_metXA v_metYA v_lineA a0 r1_0 r2_0 g2) (cwV 2 hts gX5_compensated_X5_wrong rfl rfl rfl hvX5_wrong ⟨Nat.le_of_ble_eq_true rfl, Nat.le_of_ble_eq_true rfl⟩) hK hP [0, 1, 2, 3, 4, 5, 6, 7, 8, 9, 10, 11, 12, 13, 14, 15, 16] rfl 0 5 rfl rfl rfl rfl hl.1 rfl (Nat.le_of_ble_eq_true rfl) dX5_compensated_10 ⟨Nat.le_refl _, Nat.le_refl _⟩ (fun _ => ?_)
  refine va_put (D := G.1) (ci := 5) (v := .int r2_0) (ty := .int) (C := RX5) (T := TX5) (N := 35) hx hb hts fw_X5_compensated_X5 tyX5 tyX5_ok nmX5 hown hK.1 hP hD hS 0 rfl rfl 0 (by decide) (hts (.fieldLink RX5 59 "HalftoneScreensModel" "thrown" "I") lk_X5_compensated_f59) (fun _ h9 => h9) rfl (tyX5_ok 0 (by decide)) rfl rfl (Nat.le_of_ble_eq_true rfl) dX5_compensated_13 (fun H locs hP hD hS => ?_)
  have hP : va_P G.1 vwCl (wdX5 G v_q0 v_q1 v_q2 v_q3 v_q4 v_q5 v_q6 v_q7 v_q8 v_q9 v_q10 v_q11 v_q12 v_q13 v_q14 v_q15 v_q16 r2_0 v_gain v_size v_w v_s v_h v_laidArea v_parts v_isMinus v_readSpot v_isStar v_wantsNumber v_waiting v_shiftX v_shiftY v_times v_dotsLaid v_joinedLaid v_hash v_isThereA v_vA v_spotOfA v_inMiddleA v_tintsA v_bufferA v_valuesA v_ranksA v_oldRanksA v_partA v_allRanksA v_basesA v_isMetA v_metXA v_metYA v_lineA) H := hP
  have hD : va_D A (wdX5 G v_q0 v_q1 v_q2 v_q3 v_q4 v_q5 v_q6 v_q7 v_q8 v_q9 v_q10 v_q11 v_q12 v_q13 v_q14 v_q15 v_q16 r2_0 v_gain v_size v_w v_s v_h v_laidArea v_parts v_isMinus v_readSpot v_isStar v_wantsNumber v_waiting v_shiftX v_shiftY v_times v_dotsLaid v_joinedLaid v_hash v_isThereA v_vA v_spotOfA v_inMiddleA v_tintsA v_bufferA v_valuesA v_ranksA v_oldRanksA v_partA v_allRanksA v_basesA v_isMetA v_metXA v_metYA v_lineA) := hD
  refine lv_aload_n hx hb dX5_compensated_16 rfl (lv_at hl 0 rfl) ?_
  refine va_get (D := G.1) (ci := 5) (v := .int r2_0) (C := RX5) (T := TX5) (N := 35) hx hb hts fw_X5_compensated_X5 hown hK.1 hP 0 rfl rfl 0 (by decide) (hts (.fieldLink RX5 59 "HalftoneScreensModel" "thrown" "I") lk_X5_compensated_f59) (fun _ h9 => h9) rfl dX5_compensated_17 ?_
  refine lv_if_le (tgt := 25) hx hb dX5_compensated_20 (by decide) (fun c3 => ?_) (fun c3 => ?_)
  · replace h := ite_t c3 h
    refine lv_aload_n hx hb dX5_compensated_25 rfl (lv_at hl 0 rfl) ?_
    refine lv_iload_n hx hb dX5_compensated_26 rfl (lv_at hl 1 rfl) ?_
    obtain ⟨r4_0, r4_1, r4_2, r4_3, r4_4, r4_5, g4, h⟩ := bnd6_e h
    refine rwV_same (rest := []) (As := [.int a0]) S (ctX5_layGrowth l G v_q0 v_q1 v_q2 v_q3 v_q4 v_q5 v_q6 v_q7 v_q8 v_q9 v_q10 v_q11 v_q12 v_q13 v_q14 v_q15 v_q16 r2_0 v_gain v_size v_w v_s v_h v_laidArea v_parts v_isMinus v_readSpot v_isStar v_wantsNumber v_waiting v_shiftX v_shiftY v_times v_dotsLaid v_joinedLaid v_hash v_isThereA v_vA v_spotOfA v_inMiddleA v_tintsA v_bufferA v_valuesA v_ranksA v_oldRanksA v_partA v_allRanksA v_basesA v_isMetA v_metXA v_metYA v_lineA a0 r4_0 r4_1 r4_2 r4_3 r4_4 r4_5 g4) (cwV 1 hts gX5_compensated_X5_layGrowth rfl rfl rfl hvX5_layGrowth ⟨Nat.le_of_ble_eq_true rfl, Nat.le_of_ble_eq_true rfl⟩) hK hP hD hS xb_triv (fun _ _ _ => trivial) 0 5 rfl rfl rfl rfl hl.1 rfl (Nat.le_of_ble_eq_true rfl) dX5_compensated_27 ⟨Nat.le_refl _, Nat.le_refl _⟩ (fun _ H locs hP hD hS => ?_)
    have hP : va_P G.1 vwCl (wdX5 G v_q0 v_q1 v_q2 v_q3 v_q4 v_q5 v_q6 v_q7 v_q8 v_q9 v_q10 v_q11 v_q12 v_q13 v_q14 v_q15 v_q16 r2_0 v_gain v_size r4_0 r4_1 r4_2 r4_3 v_parts v_isMinus v_readSpot v_isStar v_wantsNumber v_waiting v_shiftX v_shiftY v_times v_dotsLaid v_joinedLaid v_hash v_isThereA v_vA v_spotOfA v_inMiddleA v_tintsA v_bufferA r4_4 r4_5 v_oldRanksA v_partA v_allRanksA v_basesA v_isMetA v_metXA v_metYA v_lineA) H := hP
    have hD : va_D A (wdX5 G v_q0 v_q1 v_q2 v_q3 v_q4 v_q5 v_q6 v_q7 v_q8 v_q9 v_q10 v_q11 v_q12 v_q13 v_q14 v_q15 v_q16 r2_0 v_gain v_size r4_0 r4_1 r4_2 r4_3 v_parts v_isMinus v_readSpot v_isStar v_wantsNumber v_waiting v_shiftX v_shiftY v_times v_dotsLaid v_joinedLaid v_hash v_isThereA v_vA v_spotOfA v_inMiddleA v_tintsA v_bufferA r4_4 r4_5 v_oldRanksA v_partA v_allRanksA v_basesA v_isMetA v_metXA v_metYA v_lineA) := hD
    refine lv_iconst (v := 0) hx hb dX5_compensated_30 (by decide) ?_
    refine lv_istore_n (lv' := [(3, .int 0), (0, .ref v_q0), (1, .int a0), (2, .int a1)]) hx hb dX5_compensated_31 rfl hl (by decide) rfl (fun ls hl => ?_)
    refine lv_iconst (v := (-1)) hx hb dX5_compensated_32 (by decide) ?_
    refine lv_istore (lv' := [(4, .int (-1)), (3, .int 0), (0, .ref v_q0), (1, .int a0), (2, .int a1)]) hx hb dX5_compensated_33 hl (by decide) rfl (fun ls hl => ?_)
    refine lv_iconst (v := 0) hx hb dX5_compensated_35 (by decide) ?_
    refine lv_istore (lv' := [(5, .int 0), (4, .int (-1)), (3, .int 0), (0, .ref v_q0), (1, .int a0), (2, .int a1)]) hx hb dX5_compensated_36 hl (by decide) rfl (fun ls hl => ?_)
    obtain ⟨u5_0, u5_1, u5_2, g5, h⟩ := bnd3_e h
    have L5 : ∀ (fu : Nat) (v5_0 : Int32) (v5_1 : Int32) (v5_2 : Int32) (u5_0 : Int32) (u5_1 : Int32) (u5_2 : Int32) (H : Heap) (locs : List Loc) (ls : Array Slot), mX5_compensated_L38 v_gain a1 r4_0 r4_1 r4_2 r4_3 r4_5 fu v5_0 v5_1 v5_2 = some (u5_0, u5_1, u5_2) → lv_has ls 7 [(5, .int v5_0), (4, .int v5_1), (3, .int v5_2), (0, .ref v_q0), (1, .int a0), (2, .int a1)] → va_P G.1 vwCl (wdX5 G v_q0 v_q1 v_q2 v_q3 v_q4 v_q5 v_q6 v_q7 v_q8 v_q9 v_q10 v_q11 v_q12 v_q13 v_q14 v_q15 v_q16 r2_0 v_gain v_size r4_0 r4_1 r4_2 r4_3 v_parts v_isMinus v_readSpot v_isStar v_wantsNumber v_waiting v_shiftX v_shiftY v_times v_dotsLaid v_joinedLaid v_hash v_isThereA v_vA v_spotOfA v_inMiddleA v_tintsA v_bufferA r4_4 r4_5 v_oldRanksA v_partA v_allRanksA v_basesA v_isMetA v_metXA v_metYA v_lineA) H → va_D A (wdX5 G v_q0 v_q1 v_q2 v_q3 v_q4 v_q5 v_q6 v_q7 v_q8 v_q9 v_q10 v_q11 v_q12 v_q13 v_q14 v_q15 v_q16 r2_0 v_gain v_size r4_0 r4_1 r4_2 r4_3 v_parts v_isMinus v_readSpot v_isStar v_wantsNumber v_waiting v_shiftX v_shiftY v_times v_dotsLaid v_joinedLaid v_hash v_isThereA v_vA v_spotOfA v_inMiddleA v_tintsA v_bufferA r4_4 r4_5 v_oldRanksA v_partA v_allRanksA v_basesA v_isMetA v_metXA v_metYA v_lineA) → va_S A s.heap H locs → (∀ (H : Heap) (locs : List Loc) (ls : Array Slot), lv_has ls 7 [(5, .int u5_0), (4, .int u5_1), (3, .int u5_2), (0, .ref v_q0), (1, .int a0), (2, .int a1)] → va_P G.1 vwCl (wdX5 G v_q0 v_q1 v_q2 v_q3 v_q4 v_q5 v_q6 v_q7 v_q8 v_q9 v_q10 v_q11 v_q12 v_q13 v_q14 v_q15 v_q16 r2_0 v_gain v_size r4_0 r4_1 r4_2 r4_3 v_parts v_isMinus v_readSpot v_isStar v_wantsNumber v_waiting v_shiftX v_shiftY v_times v_dotsLaid v_joinedLaid v_hash v_isThereA v_vA v_spotOfA v_inMiddleA v_tintsA v_bufferA r4_4 r4_5 v_oldRanksA v_partA v_allRanksA v_basesA v_isMetA v_metXA v_metYA v_lineA) H → va_D A (wdX5 G v_q0 v_q1 v_q2 v_q3 v_q4 v_q5 v_q6 v_q7 v_q8 v_q9 v_q10 v_q11 v_q12 v_q13 v_q14 v_q15 v_q16 r2_0 v_gain v_size r4_0 r4_1 r4_2 r4_3 v_parts v_isMinus v_readSpot v_isStar v_wantsNumber v_waiting v_shiftX v_shiftY v_times v_dotsLaid v_joinedLaid v_hash v_isThereA v_vA v_spotOfA v_inMiddleA v_tintsA v_bufferA r4_4 r4_5 v_oldRanksA v_partA v_allRanksA v_basesA v_isMetA v_metXA v_metYA v_lineA) → va_S A s.heap H locs → W p l e rmX5_compensated s m args below meth c H locs 0 0 Q (F0 m 113 ls [])) → W p l e rmX5_compensated s m args below meth c H locs 0 0 Q (F0 m 38 ls []) := by
      intro fu
      induction fu with
      | zero => intro v5_0 v5_1 v5_2 u5_0 u5_1 u5_2 H locs ls h; exact nomatch h
      | succ fu ih =>
        intro v5_0 v5_1 v5_2 u5_0 u5_1 u5_2 H locs ls h hl hP hD hS kE
        rw [mX5_compensated_L38] at h
        refine lv_iload hx hb dX5_compensated_38 (lv_at hl 0 rfl) ?_
        refine lv_aload_n hx hb dX5_compensated_40 rfl (lv_at hl 3 rfl) ?_
        refine va_get (D := G.1) (ci := 5) (v := .int r4_3) (C := RX5) (T := TX5) (N := 35) hx hb hts fw_X5_compensated_X5 hown hK.1 hP 0 rfl rfl 14 (by decide) (hts (.fieldLink RX5 113 "HalftoneScreensModel" "laidArea" "I") lk_X5_compensated_f113) (fun _ h9 => h9) rfl dX5_compensated_41 ?_
        refine lv_icmp_gt (tgt := 113) hx hb dX5_compensated_44 (by decide) (fun c6 => ?_) (fun c6 => ?_)
        · replace h := ite_t c6 h
          obtain ⟨rfl, rfl, rfl⟩ := sm3 h
          exact kE H locs ls hl hP hD hS
        · replace h := ite_f c6 h
          refine lv_aload_n hx hb dX5_compensated_47 rfl (lv_at hl 3 rfl) ?_
          refine lv_iload hx hb dX5_compensated_48 (lv_at hl 0 rfl) ?_
          obtain ⟨r7_0, g7, h⟩ := bnd1_e h
          refine roVi1 (rest := []) (As := [.int v5_0]) S (ctX5_strengthOf l G v_q0 v_q1 v_q2 v_q3 v_q4 v_q5 v_q6 v_q7 v_q8 v_q9 v_q10 v_q11 v_q12 v_q13 v_q14 v_q15 v_q16 r2_0 v_gain v_size r4_0 r4_1 r4_2 r4_3 v_parts v_isMinus v_readSpot v_isStar v_wantsNumber v_waiting v_shiftX v_shiftY v_times v_dotsLaid v_joinedLaid v_hash v_isThereA v_vA v_spotOfA v_inMiddleA v_tintsA v_bufferA r4_4 r4_5 v_oldRanksA v_partA v_allRanksA v_basesA v_isMetA v_metXA v_metYA v_lineA v5_0 r7_0 g7) (cwV 1 hts gX5_compensated_X5_strengthOf rfl rfl rfl hvX5_strengthOf ⟨Nat.le_of_ble_eq_true rfl, Nat.le_of_ble_eq_true rfl⟩) hK hP [0, 1, 2, 3, 4, 5, 6, 7, 8, 9, 10, 11, 12, 13, 14, 15, 16] rfl 0 5 rfl rfl rfl rfl hl.1 rfl (Nat.le_of_ble_eq_true rfl) dX5_compensated_50 ⟨Nat.le_refl _, Nat.le_refl _⟩ (fun _ => ?_)
          refine lv_iload_n hx hb dX5_compensated_53 rfl (lv_at hl 5 rfl) ?_
          refine lv_aload_n hx hb dX5_compensated_54 rfl (lv_at hl 3 rfl) ?_
          refine va_get (D := G.1) (ci := 5) (v := .int r4_3) (C := RX5) (T := TX5) (N := 35) hx hb hts fw_X5_compensated_X5 hown hK.1 hP 0 rfl rfl 14 (by decide) (hts (.fieldLink RX5 113 "HalftoneScreensModel" "laidArea" "I") lk_X5_compensated_f113) (fun _ h9 => h9) rfl dX5_compensated_55 ?_
          refine lv_imul hx hb dX5_compensated_58 ?_
          refine lv_isub hx hb dX5_compensated_59 ?_
          obtain ⟨r8_0, g8, h⟩ := bnd1_e h
          refine roSi1 (rest := []) (As := [.int (r7_0 - (a1 * r4_3))]) S (ctX5_abs l G (r7_0 - (a1 * r4_3)) r8_0 g8) (va_cwS 1 hts gX5_compensated_X5_abs rfl rfl rfl hsX5_abs ⟨Nat.le_of_ble_eq_true rfl, Nat.le_of_ble_eq_true rfl⟩) hK hP [] rfl rfl hl.1 rfl (Nat.le_of_ble_eq_true rfl) dX5_compensated_60 ⟨Nat.le_refl _, Nat.le_refl _⟩ (fun _ => ?_)
          refine lv_istore (lv' := [(6, .int r8_0), (5, .int v5_0), (4, .int v5_1), (3, .int v5_2), (0, .ref v_q0), (1, .int a0), (2, .int a1)]) hx hb dX5_compensated_63 hl (by decide) rfl (fun ls hl => ?_)
          refine lv_iload hx hb dX5_compensated_65 (lv_at hl 2 rfl) ?_
          refine lv_iconst (v := (-1)) hx hb dX5_compensated_67 (by decide) ?_
          obtain ⟨K9, hK9, h⟩ := jB1_e h
          have J9 : ∀ (j9_0 : Int32) (H : Heap) (locs : List Loc) (ls : Array Slot), K9 j9_0 = some (u5_0, u5_1, u5_2) → lv_has ls 7 [(6, .int r8_0), (5, .int v5_0), (4, .int v5_1), (3, .int v5_2), (0, .ref v_q0), (1, .int a0), (2, .int a1)] → va_P G.1 vwCl (wdX5 G v_q0 v_q1 v_q2 v_q3 v_q4 v_q5 v_q6 v_q7 v_q8 v_q9 v_q10 v_q11 v_q12 v_q13 v_q14 v_q15 v_q16 r2_0 v_gain v_size r4_0 r4_1 r4_2 r4_3 v_parts v_isMinus v_readSpot v_isStar v_wantsNumber v_waiting v_shiftX v_shiftY v_times v_dotsLaid v_joinedLaid v_hash v_isThereA v_vA v_spotOfA v_inMiddleA v_tintsA v_bufferA r4_4 r4_5 v_oldRanksA v_partA v_allRanksA v_basesA v_isMetA v_metXA v_metYA v_lineA) H → va_D A (wdX5 G v_q0 v_q1 v_q2 v_q3 v_q4 v_q5 v_q6 v_q7 v_q8 v_q9 v_q10 v_q11 v_q12 v_q13 v_q14 v_q15 v_q16 r2_0 v_gain v_size r4_0 r4_1 r4_2 r4_3 v_parts v_isMinus v_readSpot v_isStar v_wantsNumber v_waiting v_shiftX v_shiftY v_times v_dotsLaid v_joinedLaid v_hash v_isThereA v_vA v_spotOfA v_inMiddleA v_tintsA v_bufferA r4_4 r4_5 v_oldRanksA v_partA v_allRanksA v_basesA v_isMetA v_metXA v_metYA v_lineA) → va_S A s.heap H locs → W p l e rmX5_compensated s m args below meth c H locs 0 0 Q (F0 m 84 ls [.int j9_0]) := by
            intro j9_0 H locs ls h hl hP hD hS
            replace h := (hK9 j9_0).symm.trans h
            refine lv_istore_n (lv' := [(3, .int j9_0), (6, .int r8_0), (5, .int v5_0), (4, .int v5_1), (0, .ref v_q0), (1, .int a0), (2, .int a1)]) hx hb dX5_compensated_84 rfl hl (by decide) rfl (fun ls hl => ?_)
            refine lv_iload hx hb dX5_compensated_85 (lv_at hl 3 rfl) ?_
            refine lv_iconst (v := (-1)) hx hb dX5_compensated_87 (by decide) ?_
            refine lv_icmp_eq (tgt := 98) hx hb dX5_compensated_88 (by decide) (fun c12 => ?_) (fun c12 => ?_)
            · replace h := ite_t c12 h
              refine lv_iload hx hb dX5_compensated_98 (lv_at hl 1 rfl) ?_
              refine lv_goto (tgt := 105) hx hb dX5_compensated_100 (by decide) ?_
              refine lv_istore (lv' := [(4, .int r8_0), (3, .int j9_0), (6, .int r8_0), (5, .int v5_0), (0, .ref v_q0), (1, .int a0), (2, .int a1)]) hx hb dX5_compensated_105 hl (by decide) rfl (fun ls hl => ?_)
              obtain ⟨x13, e13⟩ : ∃ y : Int32, y = v5_0 + 1 := ⟨_, rfl⟩
              replace h := nmB_e e13 h
              refine lv_iinc (v := x13) (lv' := [(5, .int x13), (4, .int r8_0), (3, .int j9_0), (6, .int r8_0), (0, .ref v_q0), (1, .int a0), (2, .int a1)]) hx hb dX5_compensated_107 hl (k := 3) rfl (by rw [e13]; rfl) (by decide) rfl (fun ls hl => ?_)
              refine lv_goto (tgt := 38) hx hb dX5_compensated_110 (by decide) ?_
              exact ih x13 r8_0 j9_0 u5_0 u5_1 u5_2 H locs ls h (lv_sub hl [0, 1, 2, 4, 5, 6] rfl) hP hD hS kE
            · replace h := ite_f c12 h
              refine lv_iload hx hb dX5_compensated_91 (lv_at hl 1 rfl) ?_
              refine lv_iload hx hb dX5_compensated_93 (lv_at hl 3 rfl) ?_
              refine lv_icmp_ge (tgt := 103) hx hb dX5_compensated_95 (by decide) (fun c14 => ?_) (fun c14 => ?_)
              · replace h := ite_t c14 h
                refine lv_iload hx hb dX5_compensated_103 (lv_at hl 3 rfl) ?_
                refine lv_istore (lv' := [(4, .int v5_1), (3, .int j9_0), (6, .int r8_0), (5, .int v5_0), (0, .ref v_q0), (1, .int a0), (2, .int a1)]) hx hb dX5_compensated_105 hl (by decide) rfl (fun ls hl => ?_)
                obtain ⟨x15, e15⟩ : ∃ y : Int32, y = v5_0 + 1 := ⟨_, rfl⟩
                replace h := nmB_e e15 h
                refine lv_iinc (v := x15) (lv' := [(5, .int x15), (4, .int v5_1), (3, .int j9_0), (6, .int r8_0), (0, .ref v_q0), (1, .int a0), (2, .int a1)]) hx hb dX5_compensated_107 hl (k := 3) rfl (by rw [e15]; rfl) (by decide) rfl (fun ls hl => ?_)
                refine lv_goto (tgt := 38) hx hb dX5_compensated_110 (by decide) ?_
                exact ih x15 v5_1 j9_0 u5_0 u5_1 u5_2 H locs ls h (lv_sub hl [0, 1, 2, 4, 5, 6] rfl) hP hD hS kE
              · replace h := ite_f c14 h
                refine lv_iload hx hb dX5_compensated_98 (lv_at hl 1 rfl) ?_
                refine lv_goto (tgt := 105) hx hb dX5_compensated_100 (by decide) ?_
                refine lv_istore (lv' := [(4, .int r8_0), (3, .int j9_0), (6, .int r8_0), (5, .int v5_0), (0, .ref v_q0), (1, .int a0), (2, .int a1)]) hx hb dX5_compensated_105 hl (by decide) rfl (fun ls hl => ?_)
                obtain ⟨x16, e16⟩ : ∃ y : Int32, y = v5_0 + 1 := ⟨_, rfl⟩
                replace h := nmB_e e16 h
                refine lv_iinc (v := x16) (lv' := [(5, .int x16), (4, .int r8_0), (3, .int j9_0), (6, .int r8_0), (0, .ref v_q0), (1, .int a0), (2, .int a1)]) hx hb dX5_compensated_107 hl (k := 3) rfl (by rw [e16]; rfl) (by decide) rfl (fun ls hl => ?_)
                refine lv_goto (tgt := 38) hx hb dX5_compensated_110 (by decide) ?_
                exact ih x16 r8_0 j9_0 u5_0 u5_1 u5_2 H locs ls h (lv_sub hl [0, 1, 2, 4, 5, 6] rfl) hP hD hS kE
          refine lv_icmp_eq (tgt := 78) hx hb dX5_compensated_68 (by decide) (fun c10 => ?_) (fun c10 => ?_)
          · replace h := ite_t c10 h
            refine lv_iload hx hb dX5_compensated_78 (lv_at hl 1 rfl) ?_
            refine lv_goto (tgt := 84) hx hb dX5_compensated_80 (by decide) ?_
            exact J9 v5_0 H locs ls h hl hP hD hS
          · replace h := ite_f c10 h
            refine lv_iload hx hb dX5_compensated_71 (lv_at hl 0 rfl) ?_
            refine lv_iload hx hb dX5_compensated_73 (lv_at hl 2 rfl) ?_
            refine lv_icmp_ge (tgt := 83) hx hb dX5_compensated_75 (by decide) (fun c11 => ?_) (fun c11 => ?_)
            · replace h := ite_t c11 h
              refine lv_iload_n hx hb dX5_compensated_83 rfl (lv_at hl 3 rfl) ?_
              exact J9 v5_2 H locs ls h hl hP hD hS
            · replace h := ite_f c11 h
              refine lv_iload hx hb dX5_compensated_78 (lv_at hl 1 rfl) ?_
              refine lv_goto (tgt := 84) hx hb dX5_compensated_80 (by decide) ?_
              exact J9 v5_0 H locs ls h hl hP hD hS
    refine L5 FU 0 (-1) 0 u5_0 u5_1 u5_2 H locs ls g5 hl hP hD hS (fun H locs ls hl hP hD hS => ?_)
    refine lv_iload_n hx hb dX5_compensated_113 rfl (lv_at hl 2 rfl) ?_
    obtain ⟨rfl, rfl, rfl, rfl, rfl, rfl, rfl, rfl⟩ := sm8 h
    exact hret _ _ _ _ _ rfl trivial rfl hP hD hS dX5_compensated_114
  · replace h := ite_f c3 h
    refine lv_iconst (v := 0) hx hb dX5_compensated_23 (by decide) ?_
    obtain ⟨rfl, rfl, rfl, rfl, rfl, rfl, rfl, rfl⟩ := sm8 h
    exact hret _ _ _ _ _ rfl trivial rfl hP hD hS dX5_compensated_24
theorem fw_X5_meetLattice_X5 : ∀ w ∈ wsX50, w ∈ wsX5_meetLattice := fun w h => List.mem_cons_of_mem _ (List.mem_append_right _ h)
theorem lk_X5_meetLattice_f89 : Cond.fieldLink RX5 89 "HalftoneScreensModel" "w" "I" ∈ wsX5_meetLattice := List.mem_of_getElem? (i := 1) rfl
theorem lk_X5_meetLattice_f82 : Cond.fieldLink RX5 82 "HalftoneScreensModel" "h" "I" ∈ wsX5_meetLattice := List.mem_of_getElem? (i := 2) rfl
theorem lk_X5_meetLattice_f92 : Cond.fieldLink RX5 92 "HalftoneScreensModel" "s" "I" ∈ wsX5_meetLattice := List.mem_of_getElem? (i := 3) rfl
abbrev rmX5_meetLattice : Room := { frames := 2, cells := 0, slots := 0, locals := 44 }
set_option maxHeartbeats 4000000 in
set_option maxRecDepth 100000 in
theorem ctX5_meetLattice (l : Launch) (G : GG) (v_q0 : Nat) (v_q1 : Nat) (v_q2 : Nat) (v_q3 : Nat) (v_q4 : Nat) (v_q5 : Nat) (v_q6 : Nat) (v_q7 : Nat) (v_q8 : Nat) (v_q9 : Nat) (v_q10 : Nat) (v_q11 : Nat) (v_q12 : Nat) (v_q13 : Nat) (v_q14 : Nat) (v_q15 : Nat) (v_q16 : Nat) (v_thrown : Int32) (v_gain : Int32) (v_size : Int32) (v_w : Int32) (v_s : Int32) (v_h : Int32) (v_laidArea : Int32) (v_parts : Int32) (v_isMinus : Int32) (v_readSpot : Int32) (v_isStar : Int32) (v_wantsNumber : Int32) (v_waiting : Int32) (v_shiftX : Int32) (v_shiftY : Int32) (v_times : Int32) (v_dotsLaid : Int32) (v_joinedLaid : Int32) (v_hash : Int64) (v_isThereA : (Nat → Int32)) (v_vA : (Nat → Int32)) (v_spotOfA : (Nat → Int32)) (v_inMiddleA : (Nat → Int32)) (v_tintsA : (Nat → Int32)) (v_bufferA : (Nat → Int32)) (v_valuesA : (Nat → Int32)) (v_ranksA : (Nat → Int32)) (v_oldRanksA : (Nat → Int32)) (v_partA : (Nat → Int32)) (v_allRanksA : (Nat → Int32)) (v_basesA : (Nat → Int32)) (v_isMetA : (Nat → Int32)) (v_metXA : (Nat → Int32)) (v_metYA : (Nat → Int32)) (v_lineA : (Nat → Int32)) (a0 : Int32) (a1 : Int32) (a2 : Int32) (o0 : Int32) (o1 : Int32) (o2 : Int32) (h : mX5_meetLattice v_w v_s v_h a0 a1 a2 = some (o0, o1, o2))  : Met l yX5_meetLattice wsX5_meetLattice rmX5_meetLattice (va_Pc [.ref v_q0, .int a0, .int a1, .int a2] (PreD G (wdX5 G v_q0 v_q1 v_q2 v_q3 v_q4 v_q5 v_q6 v_q7 v_q8 v_q9 v_q10 v_q11 v_q12 v_q13 v_q14 v_q15 v_q16 v_thrown v_gain v_size v_w v_s v_h v_laidArea v_parts v_isMinus v_readSpot v_isStar v_wantsNumber v_waiting v_shiftX v_shiftY v_times v_dotsLaid v_joinedLaid v_hash v_isThereA v_vA v_spotOfA v_inMiddleA v_tintsA v_bufferA v_valuesA v_ranksA v_oldRanksA v_partA v_allRanksA v_basesA v_isMetA v_metXA v_metYA v_lineA) (fun _ => True))) (QwA G (va_A0 (wdX5 G v_q0 v_q1 v_q2 v_q3 v_q4 v_q5 v_q6 v_q7 v_q8 v_q9 v_q10 v_q11 v_q12 v_q13 v_q14 v_q15 v_q16 v_thrown v_gain v_size v_w v_s v_h v_laidArea v_parts v_isMinus v_readSpot v_isStar v_wantsNumber v_waiting v_shiftX v_shiftY v_times v_dotsLaid v_joinedLaid v_hash v_isThereA v_vA v_spotOfA v_inMiddleA v_tintsA v_bufferA v_valuesA v_ranksA v_oldRanksA v_partA v_allRanksA v_basesA v_isMetA v_metXA v_metYA v_lineA)) (wdX5 G v_q0 v_q1 v_q2 v_q3 v_q4 v_q5 v_q6 v_q7 v_q8 v_q9 v_q10 v_q11 v_q12 v_q13 v_q14 v_q15 v_q16 v_thrown v_gain v_size o0 o1 o2 v_laidArea v_parts v_isMinus v_readSpot v_isStar v_wantsNumber v_waiting v_shiftX v_shiftY v_times v_dotsLaid v_joinedLaid v_hash v_isThereA v_vA v_spotOfA v_inMiddleA v_tintsA v_bufferA v_valuesA v_ranksA v_oldRanksA v_partA v_allRanksA v_basesA v_isMetA v_metXA v_metYA v_lineA) none True) 0 0 (va_A0 (wdX5 G v_q0 v_q1 v_q2 v_q3 v_q4 v_q5 v_q6 v_q7 v_q8 v_q9 v_q10 v_q11 v_q12 v_q13 v_q14 v_q15 v_q16 v_thrown v_gain v_size v_w v_s v_h v_laidArea v_parts v_isMinus v_readSpot v_isStar v_wantsNumber v_waiting v_shiftX v_shiftY v_times v_dotsLaid v_joinedLaid v_hash v_isThereA v_vA v_spotOfA v_inMiddleA v_tintsA v_bufferA v_valuesA v_ranksA v_oldRanksA v_partA v_allRanksA v_basesA v_isMetA v_metXA v_metYA v_lineA)) := by
  refine of_wv (cc := cX5_meetLattice) (maxL := 11) (plainFor_of_name (by decide)) rfl (Nat.le_of_ble_eq_true rfl) ?_
  intro p e s m args below meth c ls Q A S hl hP hD hS hK hX hA hret
  obtain ⟨H, hH⟩ : ∃ H, H = s.heap := ⟨_, rfl⟩
  obtain ⟨locs, hlocs⟩ : ∃ L : List Loc, L = [] := ⟨_, rfl⟩
  rw [← hlocs]
  rw [← hlocs] at hS
  have hP : va_P G.1 vwCl (wdX5 G v_q0 v_q1 v_q2 v_q3 v_q4 v_q5 v_q6 v_q7 v_q8 v_q9 v_q10 v_q11 v_q12 v_q13 v_q14 v_q15 v_q16 v_thrown v_gain v_size v_w v_s v_h v_laidArea v_parts v_isMinus v_readSpot v_isStar v_wantsNumber v_waiting v_shiftX v_shiftY v_times v_dotsLaid v_joinedLaid v_hash v_isThereA v_vA v_spotOfA v_inMiddleA v_tintsA v_bufferA v_valuesA v_ranksA v_oldRanksA v_partA v_allRanksA v_basesA v_isMetA v_metXA v_metYA v_lineA) H := by rw [hH]; exact hP
  have hS : va_S A s.heap H locs := by rw [hH]; exact hS
  suffices hgo : W p l e rmX5_meetLattice s m args below meth c H locs 0 0 Q (F0 m 0 ls []) by rw [hH] at hgo; exact hgo
  have S : CallFix p m c cX5_meetLattice 11 s args wsX5_meetLattice RX5 := S
  obtain ⟨hx, hb, hml, hown, hts⟩ := id S
  have hl : lv_has ls 11 [(0, .ref v_q0), (1, .int a0), (2, .int a1), (3, .int a2)] := hl
  unfold mX5_meetLattice at h
  refine lv_aload_n hx hb dX5_meetLattice_0 rfl (lv_at hl 0 rfl) ?_
  refine va_get (D := G.1) (ci := 5) (v := .int v_w) (C := RX5) (T := TX5) (N := 35) hx hb hts fw_X5_meetLattice_X5 hown hK.1 hP 0 rfl rfl 9 (by decide) (hts (.fieldLink RX5 89 "HalftoneScreensModel" "w" "I") lk_X5_meetLattice_f89) (fun _ h9 => h9) rfl dX5_meetLattice_1 ?_
  refine lv_iload_n hx hb dX5_meetLattice_4 rfl (lv_at hl 1 rfl) ?_
  obtain ⟨r1_0, g1, h⟩ := bnd1_e h
  refine roSi1 (rest := []) (As := [.int v_w, .int a0]) S (ctX5_gcd l G v_w a0 r1_0 g1) (va_cwS 2 hts gX5_meetLattice_X5_gcd rfl rfl rfl hsX5_gcd ⟨Nat.le_of_ble_eq_true rfl, Nat.le_of_ble_eq_true rfl⟩) hK hP [] rfl rfl hl.1 rfl (Nat.le_of_ble_eq_true rfl) dX5_meetLattice_5 ⟨Nat.le_refl _, Nat.le_refl _⟩ (fun _ => ?_)
  refine lv_istore (lv' := [(4, .int r1_0), (0, .ref v_q0), (1, .int a0), (2, .int a1), (3, .int a2)]) hx hb dX5_meetLattice_8 hl (by decide) rfl (fun ls hl => ?_)
  refine lv_aload_n hx hb dX5_meetLattice_10 rfl (lv_at hl 1 rfl) ?_
  refine va_get (D := G.1) (ci := 5) (v := .int v_h) (C := RX5) (T := TX5) (N := 35) hx hb hts fw_X5_meetLattice_X5 hown hK.1 hP 0 rfl rfl 11 (by decide) (hts (.fieldLink RX5 82 "HalftoneScreensModel" "h" "I") lk_X5_meetLattice_f82) (fun _ h9 => h9) rfl dX5_meetLattice_11 ?_
  refine lv_aload_n hx hb dX5_meetLattice_14 rfl (lv_at hl 1 rfl) ?_
  refine va_get (D := G.1) (ci := 5) (v := .int v_h) (C := RX5) (T := TX5) (N := 35) hx hb hts fw_X5_meetLattice_X5 hown hK.1 hP 0 rfl rfl 11 (by decide) (hts (.fieldLink RX5 82 "HalftoneScreensModel" "h" "I") lk_X5_meetLattice_f82) (fun _ h9 => h9) rfl dX5_meetLattice_15 ?_
  refine lv_iload_n hx hb dX5_meetLattice_18 rfl (lv_at hl 4 rfl) ?_
  obtain ⟨r2_0, g2, h⟩ := bnd1_e h
  refine roSi1 (rest := [.int v_h]) (As := [.int v_h, .int a2]) S (ctX5_gcd l G v_h a2 r2_0 g2) (va_cwS 2 hts gX5_meetLattice_X5_gcd rfl rfl rfl hsX5_gcd ⟨Nat.le_of_ble_eq_true rfl, Nat.le_of_ble_eq_true rfl⟩) hK hP [] rfl rfl hl.1 rfl (Nat.le_of_ble_eq_true rfl) dX5_meetLattice_19 ⟨Nat.le_refl _, Nat.le_refl _⟩ (fun _ => ?_)
  obtain ⟨z3, h⟩ := gz_e h
  refine lv_idiv hx hb dX5_meetLattice_22 z3 ?_
  refine lv_iload_n hx hb dX5_meetLattice_23 rfl (lv_at hl 4 rfl) ?_
  refine lv_imul hx hb dX5_meetLattice_24 ?_
  refine lv_topi (fun x4 e4 => ?_)
  replace h := nmB_e e4 h
  refine lv_istore (lv' := [(5, .int x4), (4, .int r1_0), (0, .ref v_q0), (1, .int a0), (2, .int a1), (3, .int a2)]) hx hb dX5_meetLattice_25 hl (by decide) rfl (fun ls hl => ?_)
  refine lv_iload hx hb dX5_meetLattice_27 (lv_at hl 0 rfl) ?_
  refine lv_aload_n hx hb dX5_meetLattice_29 rfl (lv_at hl 2 rfl) ?_
  refine va_get (D := G.1) (ci := 5) (v := .int v_h) (C := RX5) (T := TX5) (N := 35) hx hb hts fw_X5_meetLattice_X5 hown hK.1 hP 0 rfl rfl 11 (by decide) (hts (.fieldLink RX5 82 "HalftoneScreensModel" "h" "I") lk_X5_meetLattice_f82) (fun _ h9 => h9) rfl dX5_meetLattice_30 ?_
  obtain ⟨z5, h⟩ := gz_e h
  refine lv_idiv hx hb dX5_meetLattice_33 z5 ?_
  refine lv_aload_n hx hb dX5_meetLattice_34 rfl (lv_at hl 2 rfl) ?_
  refine va_get (D := G.1) (ci := 5) (v := .int v_s) (C := RX5) (T := TX5) (N := 35) hx hb hts fw_X5_meetLattice_X5 hown hK.1 hP 0 rfl rfl 10 (by decide) (hts (.fieldLink RX5 92 "HalftoneScreensModel" "s" "I") lk_X5_meetLattice_f92) (fun _ h9 => h9) rfl dX5_meetLattice_35 ?_
  refine lv_imul hx hb dX5_meetLattice_38 ?_
  refine lv_iload hx hb dX5_meetLattice_39 (lv_at hl 0 rfl) ?_
  refine lv_iload_n hx hb dX5_meetLattice_41 rfl (lv_at hl 5 rfl) ?_
  obtain ⟨z6, h⟩ := gz_e h
  refine lv_idiv hx hb dX5_meetLattice_42 z6 ?_
  refine lv_iload_n hx hb dX5_meetLattice_43 rfl (lv_at hl 4 rfl) ?_
  refine lv_imul hx hb dX5_meetLattice_44 ?_
  refine lv_isub hx hb dX5_meetLattice_45 ?_
  refine lv_iload hx hb dX5_meetLattice_46 (lv_at hl 1 rfl) ?_
  obtain ⟨r7_0, g7, h⟩ := bnd1_e h
  refine roSi1 (rest := []) (As := [.int (((x4 / v_h) * v_s) - ((x4 / a2) * a1)), .int r1_0]) S (ctX5_mod l G (((x4 / v_h) * v_s) - ((x4 / a2) * a1)) r1_0 r7_0 g7) (va_cwS 2 hts gX5_meetLattice_X5_mod rfl rfl rfl hsX5_mod ⟨Nat.le_of_ble_eq_true rfl, Nat.le_of_ble_eq_true rfl⟩) hK hP [] rfl rfl hl.1 rfl (Nat.le_of_ble_eq_true rfl) dX5_meetLattice_48 ⟨Nat.le_refl _, Nat.le_refl _⟩ (fun _ => ?_)
  refine lv_istore (lv' := [(6, .int r7_0), (5, .int x4), (4, .int r1_0), (0, .ref v_q0), (1, .int a0), (2, .int a1), (3, .int a2)]) hx hb dX5_meetLattice_51 hl (by decide) rfl (fun ls hl => ?_)
  refine lv_iload hx hb dX5_meetLattice_53 (lv_at hl 1 rfl) ?_
  refine lv_iload hx hb dX5_meetLattice_55 (lv_at hl 2 rfl) ?_
  refine lv_iload hx hb dX5_meetLattice_57 (lv_at hl 2 rfl) ?_
  refine lv_iload hx hb dX5_meetLattice_59 (lv_at hl 0 rfl) ?_
  obtain ⟨r8_0, g8, h⟩ := bnd1_e h
  refine roSi1 (rest := [.int r1_0, .int x4]) (As := [.int r1_0, .int r7_0]) S (ctX5_gcd l G r1_0 r7_0 r8_0 g8) (va_cwS 2 hts gX5_meetLattice_X5_gcd rfl rfl rfl hsX5_gcd ⟨Nat.le_of_ble_eq_true rfl, Nat.le_of_ble_eq_true rfl⟩) hK hP [] rfl rfl hl.1 rfl (Nat.le_of_ble_eq_true rfl) dX5_meetLattice_61 ⟨Nat.le_refl _, Nat.le_refl _⟩ (fun _ => ?_)
  obtain ⟨z9, h⟩ := gz_e h
  refine lv_idiv hx hb dX5_meetLattice_64 z9 ?_
  refine lv_imul hx hb dX5_meetLattice_65 ?_
  refine lv_topi (fun x10 e10 => ?_)
  replace h := nmB_e e10 h
  refine lv_istore (lv' := [(7, .int x10), (6, .int r7_0), (5, .int x4), (4, .int r1_0), (0, .ref v_q0), (1, .int a0), (2, .int a1), (3, .int a2)]) hx hb dX5_meetLattice_66 hl (by decide) rfl (fun ls hl => ?_)
  refine lv_aload_n hx hb dX5_meetLattice_68 rfl (lv_at hl 4 rfl) ?_
  refine va_get (D := G.1) (ci := 5) (v := .int v_w) (C := RX5) (T := TX5) (N := 35) hx hb hts fw_X5_meetLattice_X5 hown hK.1 hP 0 rfl rfl 9 (by decide) (hts (.fieldLink RX5 89 "HalftoneScreensModel" "w" "I") lk_X5_meetLattice_f89) (fun _ h9 => h9) rfl dX5_meetLattice_69 ?_
  refine lv_iload hx hb dX5_meetLattice_72 (lv_at hl 3 rfl) ?_
  obtain ⟨z11, h⟩ := gz_e h
  refine lv_idiv hx hb dX5_meetLattice_74 z11 ?_
  refine lv_iload_n hx hb dX5_meetLattice_75 rfl (lv_at hl 5 rfl) ?_
  refine lv_imul hx hb dX5_meetLattice_76 ?_
  refine lv_topi (fun x12 e12 => ?_)
  replace h := nmB_e e12 h
  refine lv_istore (lv' := [(8, .int x12), (7, .int x10), (6, .int r7_0), (5, .int x4), (4, .int r1_0), (0, .ref v_q0), (1, .int a0), (2, .int a1), (3, .int a2)]) hx hb dX5_meetLattice_77 hl (by decide) rfl (fun ls hl => ?_)
  refine lv_iload hx hb dX5_meetLattice_79 (lv_at hl 1 rfl) ?_
  refine lv_aload_n hx hb dX5_meetLattice_81 rfl (lv_at hl 5 rfl) ?_
  refine va_get (D := G.1) (ci := 5) (v := .int v_h) (C := RX5) (T := TX5) (N := 35) hx hb hts fw_X5_meetLattice_X5 hown hK.1 hP 0 rfl rfl 11 (by decide) (hts (.fieldLink RX5 82 "HalftoneScreensModel" "h" "I") lk_X5_meetLattice_f82) (fun _ h9 => h9) rfl dX5_meetLattice_82 ?_
  obtain ⟨z13, h⟩ := gz_e h
  refine lv_idiv hx hb dX5_meetLattice_85 z13 ?_
  refine lv_aload_n hx hb dX5_meetLattice_86 rfl (lv_at hl 5 rfl) ?_
  refine va_get (D := G.1) (ci := 5) (v := .int v_s) (C := RX5) (T := TX5) (N := 35) hx hb hts fw_X5_meetLattice_X5 hown hK.1 hP 0 rfl rfl 10 (by decide) (hts (.fieldLink RX5 92 "HalftoneScreensModel" "s" "I") lk_X5_meetLattice_f92) (fun _ h9 => h9) rfl dX5_meetLattice_87 ?_
  refine lv_imul hx hb dX5_meetLattice_90 ?_
  refine lv_aload_n hx hb dX5_meetLattice_91 rfl (lv_at hl 5 rfl) ?_
  refine va_get (D := G.1) (ci := 5) (v := .int v_w) (C := RX5) (T := TX5) (N := 35) hx hb hts fw_X5_meetLattice_X5 hown hK.1 hP 0 rfl rfl 9 (by decide) (hts (.fieldLink RX5 89 "HalftoneScreensModel" "w" "I") lk_X5_meetLattice_f89) (fun _ h9 => h9) rfl dX5_meetLattice_92 ?_
  obtain ⟨r14_0, g14, h⟩ := bnd1_e h
  refine roSi1 (rest := []) (As := [.int ((x10 / v_h) * v_s), .int v_w]) S (ctX5_mod l G ((x10 / v_h) * v_s) v_w r14_0 g14) (va_cwS 2 hts gX5_meetLattice_X5_mod rfl rfl rfl hsX5_mod ⟨Nat.le_of_ble_eq_true rfl, Nat.le_of_ble_eq_true rfl⟩) hK hP [] rfl rfl hl.1 rfl (Nat.le_of_ble_eq_true rfl) dX5_meetLattice_95 ⟨Nat.le_refl _, Nat.le_refl _⟩ (fun _ => ?_)
  refine lv_istore (lv' := [(9, .int r14_0), (8, .int x12), (7, .int x10), (6, .int r7_0), (5, .int x4), (4, .int r1_0), (0, .ref v_q0), (1, .int a0), (2, .int a1), (3, .int a2)]) hx hb dX5_meetLattice_98 hl (by decide) rfl (fun ls hl => ?_)
  refine lv_iload hx hb dX5_meetLattice_100 (lv_at hl 2 rfl) ?_
  refine lv_iload_n hx hb dX5_meetLattice_102 rfl (lv_at hl 9 rfl) ?_
  obtain ⟨z15, h⟩ := gz_e h
  refine lv_idiv hx hb dX5_meetLattice_103 z15 ?_
  refine lv_iload_n hx hb dX5_meetLattice_104 rfl (lv_at hl 8 rfl) ?_
  refine lv_imul hx hb dX5_meetLattice_105 ?_
  refine lv_iload_n hx hb dX5_meetLattice_106 rfl (lv_at hl 7 rfl) ?_
  obtain ⟨r16_0, g16, h⟩ := bnd1_e h
  refine roSi1 (rest := []) (As := [.int ((x10 / a2) * a1), .int a0]) S (ctX5_mod l G ((x10 / a2) * a1) a0 r16_0 g16) (va_cwS 2 hts gX5_meetLattice_X5_mod rfl rfl rfl hsX5_mod ⟨Nat.le_of_ble_eq_true rfl, Nat.le_of_ble_eq_true rfl⟩) hK hP [] rfl rfl hl.1 rfl (Nat.le_of_ble_eq_true rfl) dX5_meetLattice_107 ⟨Nat.le_refl _, Nat.le_refl _⟩ (fun _ => ?_)
  refine lv_istore (lv' := [(10, .int r16_0), (9, .int r14_0), (8, .int x12), (7, .int x10), (6, .int r7_0), (5, .int x4), (4, .int r1_0), (0, .ref v_q0), (1, .int a0), (2, .int a1), (3, .int a2)]) hx hb dX5_meetLattice_110 hl (by decide) rfl (fun ls hl => ?_)
  obtain ⟨u17_0, g17, h⟩ := bnd1_e h
  have L17 : ∀ (fu : Nat) (v17_0 : Int32) (u17_0 : Int32) (H : Heap) (locs : List Loc) (ls : Array Slot), mX5_meetLattice_L112 v_w a0 r16_0 fu v17_0 = some (u17_0) → lv_has ls 11 [(10, .int r16_0), (9, .int v17_0), (8, .int x12), (7, .int x10), (6, .int r7_0), (5, .int x4), (4, .int r1_0), (0, .ref v_q0), (1, .int a0), (2, .int a1), (3, .int a2)] → va_P G.1 vwCl (wdX5 G v_q0 v_q1 v_q2 v_q3 v_q4 v_q5 v_q6 v_q7 v_q8 v_q9 v_q10 v_q11 v_q12 v_q13 v_q14 v_q15 v_q16 v_thrown v_gain v_size v_w v_s v_h v_laidArea v_parts v_isMinus v_readSpot v_isStar v_wantsNumber v_waiting v_shiftX v_shiftY v_times v_dotsLaid v_joinedLaid v_hash v_isThereA v_vA v_spotOfA v_inMiddleA v_tintsA v_bufferA v_valuesA v_ranksA v_oldRanksA v_partA v_allRanksA v_basesA v_isMetA v_metXA v_metYA v_lineA) H → va_D A (wdX5 G v_q0 v_q1 v_q2 v_q3 v_q4 v_q5 v_q6 v_q7 v_q8 v_q9 v_q10 v_q11 v_q12 v_q13 v_q14 v_q15 v_q16 v_thrown v_gain v_size v_w v_s v_h v_laidArea v_parts v_isMinus v_readSpot v_isStar v_wantsNumber v_waiting v_shiftX v_shiftY v_times v_dotsLaid v_joinedLaid v_hash v_isThereA v_vA v_spotOfA v_inMiddleA v_tintsA v_bufferA v_valuesA v_ranksA v_oldRanksA v_partA v_allRanksA v_basesA v_isMetA v_metXA v_metYA v_lineA) → va_S A s.heap H locs → (∀ (H : Heap) (locs : List Loc) (ls : Array Slot), lv_has ls 11 [(10, .int r16_0), (9, .int u17_0), (8, .int x12), (7, .int x10), (6, .int r7_0), (5, .int x4), (4, .int r1_0), (0, .ref v_q0), (1, .int a0), (2, .int a1), (3, .int a2)] → va_P G.1 vwCl (wdX5 G v_q0 v_q1 v_q2 v_q3 v_q4 v_q5 v_q6 v_q7 v_q8 v_q9 v_q10 v_q11 v_q12 v_q13 v_q14 v_q15 v_q16 v_thrown v_gain v_size v_w v_s v_h v_laidArea v_parts v_isMinus v_readSpot v_isStar v_wantsNumber v_waiting v_shiftX v_shiftY v_times v_dotsLaid v_joinedLaid v_hash v_isThereA v_vA v_spotOfA v_inMiddleA v_tintsA v_bufferA v_valuesA v_ranksA v_oldRanksA v_partA v_allRanksA v_basesA v_isMetA v_metXA v_metYA v_lineA) H → va_D A (wdX5 G v_q0 v_q1 v_q2 v_q3 v_q4 v_q5 v_q6 v_q7 v_q8 v_q9 v_q10 v_q11 v_q12 v_q13 v_q14 v_q15 v_q16 v_thrown v_gain v_size v_w v_s v_h v_laidArea v_parts v_isMinus v_readSpot v_isStar v_wantsNumber v_waiting v_shiftX v_shiftY v_times v_dotsLaid v_joinedLaid v_hash v_isThereA v_vA v_spotOfA v_inMiddleA v_tintsA v_bufferA v_valuesA v_ranksA v_oldRanksA v_partA v_allRanksA v_basesA v_isMetA v_metXA v_metYA v_lineA) → va_S A s.heap H locs → W p l e rmX5_meetLattice s m args below meth c H locs 0 0 Q (F0 m 133 ls [])) → W p l e rmX5_meetLattice s m args below meth c H locs 0 0 Q (F0 m 112 ls []) := by
    intro fu
    induction fu with
    | zero => intro v17_0 u17_0 H locs ls h; exact nomatch h
    | succ fu ih =>
      intro v17_0 u17_0 H locs ls h hl hP hD hS kE
      rw [mX5_meetLattice_L112] at h
      refine lv_iload hx hb dX5_meetLattice_112 (lv_at hl 1 rfl) ?_
      refine lv_iload_n hx hb dX5_meetLattice_114 rfl (lv_at hl 8 rfl) ?_
      obtain ⟨z18, h⟩ := gz_e h
      refine lv_irem hx hb dX5_meetLattice_115 z18 ?_
      refine lv_iload hx hb dX5_meetLattice_116 (lv_at hl 0 rfl) ?_
      refine lv_icmp_eq (tgt := 133) hx hb dX5_meetLattice_118 (by decide) (fun c19 => ?_) (fun c19 => ?_)
      · replace h := ite_t c19 h
        obtain rfl := sm1 h
        exact kE H locs ls hl hP hD hS
      · replace h := ite_f c19 h
        refine lv_iload hx hb dX5_meetLattice_121 (lv_at hl 1 rfl) ?_
        refine lv_aload_n hx hb dX5_meetLattice_123 rfl (lv_at hl 7 rfl) ?_
        refine va_get (D := G.1) (ci := 5) (v := .int v_w) (C := RX5) (T := TX5) (N := 35) hx hb hts fw_X5_meetLattice_X5 hown hK.1 hP 0 rfl rfl 9 (by decide) (hts (.fieldLink RX5 89 "HalftoneScreensModel" "w" "I") lk_X5_meetLattice_f89) (fun _ h9 => h9) rfl dX5_meetLattice_124 ?_
        refine lv_iadd hx hb dX5_meetLattice_127 ?_
        refine lv_topi (fun x20 e20 => ?_)
        replace h := nmB_e e20 h
        refine lv_istore (lv' := [(9, .int x20), (10, .int r16_0), (8, .int x12), (7, .int x10), (6, .int r7_0), (5, .int x4), (4, .int r1_0), (0, .ref v_q0), (1, .int a0), (2, .int a1), (3, .int a2)]) hx hb dX5_meetLattice_128 hl (by decide) rfl (fun ls hl => ?_)
        refine lv_goto (tgt := 112) hx hb dX5_meetLattice_130 (by decide) ?_
        exact ih x20 u17_0 H locs ls h (lv_sub hl [1, 0, 2, 3, 4, 5, 6, 7, 8, 9, 10] rfl) hP hD hS kE
  refine L17 FU r14_0 u17_0 H locs ls g17 hl hP hD hS (fun H locs ls hl hP hD hS => ?_)
  refine lv_aload_n hx hb dX5_meetLattice_133 rfl (lv_at hl 7 rfl) ?_
  refine lv_iload hx hb dX5_meetLattice_134 (lv_at hl 2 rfl) ?_
  refine va_put (D := G.1) (ci := 5) (v := .int x12) (ty := .int) (C := RX5) (T := TX5) (N := 35) hx hb hts fw_X5_meetLattice_X5 tyX5 tyX5_ok nmX5 hown hK.1 hP hD hS 0 rfl rfl 9 (by decide) (hts (.fieldLink RX5 89 "HalftoneScreensModel" "w" "I") lk_X5_meetLattice_f89) (fun _ h9 => h9) rfl (tyX5_ok 9 (by decide)) rfl rfl (Nat.le_of_ble_eq_true rfl) dX5_meetLattice_136 (fun H locs hP hD hS => ?_)
  have hP : va_P G.1 vwCl (wdX5 G v_q0 v_q1 v_q2 v_q3 v_q4 v_q5 v_q6 v_q7 v_q8 v_q9 v_q10 v_q11 v_q12 v_q13 v_q14 v_q15 v_q16 v_thrown v_gain v_size x12 v_s v_h v_laidArea v_parts v_isMinus v_readSpot v_isStar v_wantsNumber v_waiting v_shiftX v_shiftY v_times v_dotsLaid v_joinedLaid v_hash v_isThereA v_vA v_spotOfA v_inMiddleA v_tintsA v_bufferA v_valuesA v_ranksA v_oldRanksA v_partA v_allRanksA v_basesA v_isMetA v_metXA v_metYA v_lineA) H := hP
  have hD : va_D A (wdX5 G v_q0 v_q1 v_q2 v_q3 v_q4 v_q5 v_q6 v_q7 v_q8 v_q9 v_q10 v_q11 v_q12 v_q13 v_q14 v_q15 v_q16 v_thrown v_gain v_size x12 v_s v_h v_laidArea v_parts v_isMinus v_readSpot v_isStar v_wantsNumber v_waiting v_shiftX v_shiftY v_times v_dotsLaid v_joinedLaid v_hash v_isThereA v_vA v_spotOfA v_inMiddleA v_tintsA v_bufferA v_valuesA v_ranksA v_oldRanksA v_partA v_allRanksA v_basesA v_isMetA v_metXA v_metYA v_lineA) := hD
  refine lv_aload_n hx hb dX5_meetLattice_139 rfl (lv_at hl 7 rfl) ?_
  refine lv_iload hx hb dX5_meetLattice_140 (lv_at hl 3 rfl) ?_
  refine va_put (D := G.1) (ci := 5) (v := .int x10) (ty := .int) (C := RX5) (T := TX5) (N := 35) hx hb hts fw_X5_meetLattice_X5 tyX5 tyX5_ok nmX5 hown hK.1 hP hD hS 0 rfl rfl 11 (by decide) (hts (.fieldLink RX5 82 "HalftoneScreensModel" "h" "I") lk_X5_meetLattice_f82) (fun _ h9 => h9) rfl (tyX5_ok 11 (by decide)) rfl rfl (Nat.le_of_ble_eq_true rfl) dX5_meetLattice_142 (fun H locs hP hD hS => ?_)
  have hP : va_P G.1 vwCl (wdX5 G v_q0 v_q1 v_q2 v_q3 v_q4 v_q5 v_q6 v_q7 v_q8 v_q9 v_q10 v_q11 v_q12 v_q13 v_q14 v_q15 v_q16 v_thrown v_gain v_size x12 v_s x10 v_laidArea v_parts v_isMinus v_readSpot v_isStar v_wantsNumber v_waiting v_shiftX v_shiftY v_times v_dotsLaid v_joinedLaid v_hash v_isThereA v_vA v_spotOfA v_inMiddleA v_tintsA v_bufferA v_valuesA v_ranksA v_oldRanksA v_partA v_allRanksA v_basesA v_isMetA v_metXA v_metYA v_lineA) H := hP
  have hD : va_D A (wdX5 G v_q0 v_q1 v_q2 v_q3 v_q4 v_q5 v_q6 v_q7 v_q8 v_q9 v_q10 v_q11 v_q12 v_q13 v_q14 v_q15 v_q16 v_thrown v_gain v_size x12 v_s x10 v_laidArea v_parts v_isMinus v_readSpot v_isStar v_wantsNumber v_waiting v_shiftX v_shiftY v_times v_dotsLaid v_joinedLaid v_hash v_isThereA v_vA v_spotOfA v_inMiddleA v_tintsA v_bufferA v_valuesA v_ranksA v_oldRanksA v_partA v_allRanksA v_basesA v_isMetA v_metXA v_metYA v_lineA) := hD
  refine lv_aload_n hx hb dX5_meetLattice_145 rfl (lv_at hl 7 rfl) ?_
  refine lv_iload hx hb dX5_meetLattice_146 (lv_at hl 1 rfl) ?_
  refine va_put (D := G.1) (ci := 5) (v := .int u17_0) (ty := .int) (C := RX5) (T := TX5) (N := 35) hx hb hts fw_X5_meetLattice_X5 tyX5 tyX5_ok nmX5 hown hK.1 hP hD hS 0 rfl rfl 10 (by decide) (hts (.fieldLink RX5 92 "HalftoneScreensModel" "s" "I") lk_X5_meetLattice_f92) (fun _ h9 => h9) rfl (tyX5_ok 10 (by decide)) rfl rfl (Nat.le_of_ble_eq_true rfl) dX5_meetLattice_148 (fun H locs hP hD hS => ?_)
  have hP : va_P G.1 vwCl (wdX5 G v_q0 v_q1 v_q2 v_q3 v_q4 v_q5 v_q6 v_q7 v_q8 v_q9 v_q10 v_q11 v_q12 v_q13 v_q14 v_q15 v_q16 v_thrown v_gain v_size x12 u17_0 x10 v_laidArea v_parts v_isMinus v_readSpot v_isStar v_wantsNumber v_waiting v_shiftX v_shiftY v_times v_dotsLaid v_joinedLaid v_hash v_isThereA v_vA v_spotOfA v_inMiddleA v_tintsA v_bufferA v_valuesA v_ranksA v_oldRanksA v_partA v_allRanksA v_basesA v_isMetA v_metXA v_metYA v_lineA) H := hP
  have hD : va_D A (wdX5 G v_q0 v_q1 v_q2 v_q3 v_q4 v_q5 v_q6 v_q7 v_q8 v_q9 v_q10 v_q11 v_q12 v_q13 v_q14 v_q15 v_q16 v_thrown v_gain v_size x12 u17_0 x10 v_laidArea v_parts v_isMinus v_readSpot v_isStar v_wantsNumber v_waiting v_shiftX v_shiftY v_times v_dotsLaid v_joinedLaid v_hash v_isThereA v_vA v_spotOfA v_inMiddleA v_tintsA v_bufferA v_valuesA v_ranksA v_oldRanksA v_partA v_allRanksA v_basesA v_isMetA v_metXA v_metYA v_lineA) := hD
  obtain ⟨rfl, rfl, rfl⟩ := sm3 h
  exact hret _ _ _ _ trivial hP hD hS dX5_meetLattice_151
theorem fw_X5_layPeriod_X5 : ∀ w ∈ wsX50, w ∈ wsX5_layPeriod := fun w h => List.mem_cons_of_mem _ (List.mem_append_right _ h)
theorem lk_X5_layPeriod_f89 : Cond.fieldLink RX5 89 "HalftoneScreensModel" "w" "I" ∈ wsX5_layPeriod := List.mem_of_getElem? (i := 1) rfl
theorem lk_X5_layPeriod_f92 : Cond.fieldLink RX5 92 "HalftoneScreensModel" "s" "I" ∈ wsX5_layPeriod := List.mem_of_getElem? (i := 2) rfl
theorem lk_X5_layPeriod_f82 : Cond.fieldLink RX5 82 "HalftoneScreensModel" "h" "I" ∈ wsX5_layPeriod := List.mem_of_getElem? (i := 3) rfl
theorem hsX5_meetLattice : yX5_meetLattice.cls ≠ "java/lang/invoke/MethodHandle" ∧ yX5_meetLattice.cls ≠ "java/lang/invoke/VarHandle" ∧ (parseMethodDescriptor yX5_meetLattice.desc).map (fun d => d.parameters.length) = some 3 := by decide +kernel
theorem hvX5_meetLattice : yX5_meetLattice.cls = RX5 ∧ yX5_meetLattice.cls ≠ "java/lang/invoke/MethodHandle" ∧ yX5_meetLattice.cls ≠ "java/lang/invoke/VarHandle" ∧ (parseMethodDescriptor yX5_meetLattice.desc).map (fun d => d.parameters.length) = some 3 := ⟨rfl, hsX5_meetLattice⟩
abbrev rmX5_layPeriod : Room := { frames := 4, cells := 0, slots := 0, locals := 91 }
set_option maxHeartbeats 4000000 in
set_option maxRecDepth 100000 in
theorem ctX5_layPeriod (l : Launch) (G : GG) (v_q0 : Nat) (v_q1 : Nat) (v_q2 : Nat) (v_q3 : Nat) (v_q4 : Nat) (v_q5 : Nat) (v_q6 : Nat) (v_q7 : Nat) (v_q8 : Nat) (v_q9 : Nat) (v_q10 : Nat) (v_q11 : Nat) (v_q12 : Nat) (v_q13 : Nat) (v_q14 : Nat) (v_q15 : Nat) (v_q16 : Nat) (v_thrown : Int32) (v_gain : Int32) (v_size : Int32) (v_w : Int32) (v_s : Int32) (v_h : Int32) (v_laidArea : Int32) (v_parts : Int32) (v_isMinus : Int32) (v_readSpot : Int32) (v_isStar : Int32) (v_wantsNumber : Int32) (v_waiting : Int32) (v_shiftX : Int32) (v_shiftY : Int32) (v_times : Int32) (v_dotsLaid : Int32) (v_joinedLaid : Int32) (v_hash : Int64) (v_isThereA : (Nat → Int32)) (v_vA : (Nat → Int32)) (v_spotOfA : (Nat → Int32)) (v_inMiddleA : (Nat → Int32)) (v_tintsA : (Nat → Int32)) (v_bufferA : (Nat → Int32)) (v_valuesA : (Nat → Int32)) (v_ranksA : (Nat → Int32)) (v_oldRanksA : (Nat → Int32)) (v_partA : (Nat → Int32)) (v_allRanksA : (Nat → Int32)) (v_basesA : (Nat → Int32)) (v_isMetA : (Nat → Int32)) (v_metXA : (Nat → Int32)) (v_metYA : (Nat → Int32)) (v_lineA : (Nat → Int32)) (a0 : Int32) (o0 : Int32) (o1 : Int32) (o2 : Int32) (h : mX5_layPeriod v_vA a0 = some (o0, o1, o2))  : Met l yX5_layPeriod wsX5_layPeriod rmX5_layPeriod (va_Pc [.ref v_q0, .int a0] (PreD G (wdX5 G v_q0 v_q1 v_q2 v_q3 v_q4 v_q5 v_q6 v_q7 v_q8 v_q9 v_q10 v_q11 v_q12 v_q13 v_q14 v_q15 v_q16 v_thrown v_gain v_size v_w v_s v_h v_laidArea v_parts v_isMinus v_readSpot v_isStar v_wantsNumber v_waiting v_shiftX v_shiftY v_times v_dotsLaid v_joinedLaid v_hash v_isThereA v_vA v_spotOfA v_inMiddleA v_tintsA v_bufferA v_valuesA v_ranksA v_oldRanksA v_partA v_allRanksA v_basesA v_isMetA v_metXA v_metYA v_lineA) (fun _ => True))) (QwA G (va_A0 (wdX5 G v_q0 v_q1 v_q2 v_q3 v_q4 v_q5 v_q6 v_q7 v_q8 v_q9 v_q10 v_q11 v_q12 v_q13 v_q14 v_q15 v_q16 v_thrown v_gain v_size v_w v_s v_h v_laidArea v_parts v_isMinus v_readSpot v_isStar v_wantsNumber v_waiting v_shiftX v_shiftY v_times v_dotsLaid v_joinedLaid v_hash v_isThereA v_vA v_spotOfA v_inMiddleA v_tintsA v_bufferA v_valuesA v_ranksA v_oldRanksA v_partA v_allRanksA v_basesA v_isMetA v_metXA v_metYA v_lineA)) (wdX5 G v_q0 v_q1 v_q2 v_q3 v_q4 v_q5 v_q6 v_q7 v_q8 v_q9 v_q10 v_q11 v_q12 v_q13 v_q14 v_q15 v_q16 v_thrown v_gain v_size o0 o1 o2 v_laidArea v_parts v_isMinus v_readSpot v_isStar v_wantsNumber v_waiting v_shiftX v_shiftY v_times v_dotsLaid v_joinedLaid v_hash v_isThereA v_vA v_spotOfA v_inMiddleA v_tintsA v_bufferA v_valuesA v_ranksA v_oldRanksA v_partA v_allRanksA v_basesA v_isMetA v_metXA v_metYA v_lineA) none True) 0 0 (va_A0 (wdX5 G v_q0 v_q1 v_q2 v_q3 v_q4 v_q5 v_q6 v_q7 v_q8 v_q9 v_q10 v_q11 v_q12 v_q13 v_q14 v_q15 v_q16 v_thrown v_gain v_size v_w v_s v_h v_laidArea v_parts v_isMinus v_readSpot v_isStar v_wantsNumber v_waiting v_shiftX v_shiftY v_times v_dotsLaid v_joinedLaid v_hash v_isThereA v_vA v_spotOfA v_inMiddleA v_tintsA v_bufferA v_valuesA v_ranksA v_oldRanksA v_partA v_allRanksA v_basesA v_isMetA v_metXA v_metYA v_lineA)) := by
  refine of_wv (cc := cX5_layPeriod) (maxL := 6) (plainFor_of_name (by decide)) rfl (Nat.le_of_ble_eq_true rfl) ?_
  intro p e s m args below meth c ls Q A S hl hP hD hS hK hX hA hret
  obtain ⟨H, hH⟩ : ∃ H, H = s.heap := ⟨_, rfl⟩
  obtain ⟨locs, hlocs⟩ : ∃ L : List Loc, L = [] := ⟨_, rfl⟩
  rw [← hlocs]
  rw [← hlocs] at hS
  have hP : va_P G.1 vwCl (wdX5 G v_q0 v_q1 v_q2 v_q3 v_q4 v_q5 v_q6 v_q7 v_q8 v_q9 v_q10 v_q11 v_q12 v_q13 v_q14 v_q15 v_q16 v_thrown v_gain v_size v_w v_s v_h v_laidArea v_parts v_isMinus v_readSpot v_isStar v_wantsNumber v_waiting v_shiftX v_shiftY v_times v_dotsLaid v_joinedLaid v_hash v_isThereA v_vA v_spotOfA v_inMiddleA v_tintsA v_bufferA v_valuesA v_ranksA v_oldRanksA v_partA v_allRanksA v_basesA v_isMetA v_metXA v_metYA v_lineA) H := by rw [hH]; exact hP
  have hS : va_S A s.heap H locs := by rw [hH]; exact hS
  suffices hgo : W p l e rmX5_layPeriod s m args below meth c H locs 0 0 Q (F0 m 0 ls []) by rw [hH] at hgo; exact hgo
  have S : CallFix p m c cX5_layPeriod 6 s args wsX5_layPeriod RX5 := S
  obtain ⟨hx, hb, hml, hown, hts⟩ := id S
  have hl : lv_has ls 6 [(0, .ref v_q0), (1, .int a0)] := hl
  unfold mX5_layPeriod at h
  refine lv_aload_n hx hb dX5_layPeriod_0 rfl (lv_at hl 0 rfl) ?_
  refine lv_iconst (v := 1) hx hb dX5_layPeriod_1 (by decide) ?_
  refine va_put (D := G.1) (ci := 5) (v := .int 1) (ty := .int) (C := RX5) (T := TX5) (N := 35) hx hb hts fw_X5_layPeriod_X5 tyX5 tyX5_ok nmX5 hown hK.1 hP hD hS 0 rfl rfl 9 (by decide) (hts (.fieldLink RX5 89 "HalftoneScreensModel" "w" "I") lk_X5_layPeriod_f89) (fun _ h9 => h9) rfl (tyX5_ok 9 (by decide)) rfl rfl (Nat.le_of_ble_eq_true rfl) dX5_layPeriod_2 (fun H locs hP hD hS => ?_)
  have hP : va_P G.1 vwCl (wdX5 G v_q0 v_q1 v_q2 v_q3 v_q4 v_q5 v_q6 v_q7 v_q8 v_q9 v_q10 v_q11 v_q12 v_q13 v_q14 v_q15 v_q16 v_thrown v_gain v_size 1 v_s v_h v_laidArea v_parts v_isMinus v_readSpot v_isStar v_wantsNumber v_waiting v_shiftX v_shiftY v_times v_dotsLaid v_joinedLaid v_hash v_isThereA v_vA v_spotOfA v_inMiddleA v_tintsA v_bufferA v_valuesA v_ranksA v_oldRanksA v_partA v_allRanksA v_basesA v_isMetA v_metXA v_metYA v_lineA) H := hP
  have hD : va_D A (wdX5 G v_q0 v_q1 v_q2 v_q3 v_q4 v_q5 v_q6 v_q7 v_q8 v_q9 v_q10 v_q11 v_q12 v_q13 v_q14 v_q15 v_q16 v_thrown v_gain v_size 1 v_s v_h v_laidArea v_parts v_isMinus v_readSpot v_isStar v_wantsNumber v_waiting v_shiftX v_shiftY v_times v_dotsLaid v_joinedLaid v_hash v_isThereA v_vA v_spotOfA v_inMiddleA v_tintsA v_bufferA v_valuesA v_ranksA v_oldRanksA v_partA v_allRanksA v_basesA v_isMetA v_metXA v_metYA v_lineA) := hD
  refine lv_aload_n hx hb dX5_layPeriod_5 rfl (lv_at hl 0 rfl) ?_
  refine lv_iconst (v := 0) hx hb dX5_layPeriod_6 (by decide) ?_
  refine va_put (D := G.1) (ci := 5) (v := .int 0) (ty := .int) (C := RX5) (T := TX5) (N := 35) hx hb hts fw_X5_layPeriod_X5 tyX5 tyX5_ok nmX5 hown hK.1 hP hD hS 0 rfl rfl 10 (by decide) (hts (.fieldLink RX5 92 "HalftoneScreensModel" "s" "I") lk_X5_layPeriod_f92) (fun _ h9 => h9) rfl (tyX5_ok 10 (by decide)) rfl rfl (Nat.le_of_ble_eq_true rfl) dX5_layPeriod_7 (fun H locs hP hD hS => ?_)
  have hP : va_P G.1 vwCl (wdX5 G v_q0 v_q1 v_q2 v_q3 v_q4 v_q5 v_q6 v_q7 v_q8 v_q9 v_q10 v_q11 v_q12 v_q13 v_q14 v_q15 v_q16 v_thrown v_gain v_size 1 0 v_h v_laidArea v_parts v_isMinus v_readSpot v_isStar v_wantsNumber v_waiting v_shiftX v_shiftY v_times v_dotsLaid v_joinedLaid v_hash v_isThereA v_vA v_spotOfA v_inMiddleA v_tintsA v_bufferA v_valuesA v_ranksA v_oldRanksA v_partA v_allRanksA v_basesA v_isMetA v_metXA v_metYA v_lineA) H := hP
  have hD : va_D A (wdX5 G v_q0 v_q1 v_q2 v_q3 v_q4 v_q5 v_q6 v_q7 v_q8 v_q9 v_q10 v_q11 v_q12 v_q13 v_q14 v_q15 v_q16 v_thrown v_gain v_size 1 0 v_h v_laidArea v_parts v_isMinus v_readSpot v_isStar v_wantsNumber v_waiting v_shiftX v_shiftY v_times v_dotsLaid v_joinedLaid v_hash v_isThereA v_vA v_spotOfA v_inMiddleA v_tintsA v_bufferA v_valuesA v_ranksA v_oldRanksA v_partA v_allRanksA v_basesA v_isMetA v_metXA v_metYA v_lineA) := hD
  refine lv_aload_n hx hb dX5_layPeriod_10 rfl (lv_at hl 0 rfl) ?_
  refine lv_iconst (v := 1) hx hb dX5_layPeriod_11 (by decide) ?_
  refine va_put (D := G.1) (ci := 5) (v := .int 1) (ty := .int) (C := RX5) (T := TX5) (N := 35) hx hb hts fw_X5_layPeriod_X5 tyX5 tyX5_ok nmX5 hown hK.1 hP hD hS 0 rfl rfl 11 (by decide) (hts (.fieldLink RX5 82 "HalftoneScreensModel" "h" "I") lk_X5_layPeriod_f82) (fun _ h9 => h9) rfl (tyX5_ok 11 (by decide)) rfl rfl (Nat.le_of_ble_eq_true rfl) dX5_layPeriod_12 (fun H locs hP hD hS => ?_)
  have hP : va_P G.1 vwCl (wdX5 G v_q0 v_q1 v_q2 v_q3 v_q4 v_q5 v_q6 v_q7 v_q8 v_q9 v_q10 v_q11 v_q12 v_q13 v_q14 v_q15 v_q16 v_thrown v_gain v_size 1 0 1 v_laidArea v_parts v_isMinus v_readSpot v_isStar v_wantsNumber v_waiting v_shiftX v_shiftY v_times v_dotsLaid v_joinedLaid v_hash v_isThereA v_vA v_spotOfA v_inMiddleA v_tintsA v_bufferA v_valuesA v_ranksA v_oldRanksA v_partA v_allRanksA v_basesA v_isMetA v_metXA v_metYA v_lineA) H := hP
  have hD : va_D A (wdX5 G v_q0 v_q1 v_q2 v_q3 v_q4 v_q5 v_q6 v_q7 v_q8 v_q9 v_q10 v_q11 v_q12 v_q13 v_q14 v_q15 v_q16 v_thrown v_gain v_size 1 0 1 v_laidArea v_parts v_isMinus v_readSpot v_isStar v_wantsNumber v_waiting v_shiftX v_shiftY v_times v_dotsLaid v_joinedLaid v_hash v_isThereA v_vA v_spotOfA v_inMiddleA v_tintsA v_bufferA v_valuesA v_ranksA v_oldRanksA v_partA v_allRanksA v_basesA v_isMetA v_metXA v_metYA v_lineA) := hD
  refine lv_iconst (v := 0) hx hb dX5_layPeriod_15 (by decide) ?_
  refine lv_istore_n (lv' := [(2, .int 0), (0, .ref v_q0), (1, .int a0)]) hx hb dX5_layPeriod_16 rfl hl (by decide) rfl (fun ls hl => ?_)
  obtain ⟨u1_0, u1_1, u1_2, u1_3, g1, h⟩ := bnd4_e h
  have L1 : ∀ (fu : Nat) (v1_0 : Int32) (v1_1 : Int32) (v1_2 : Int32) (v1_3 : Int32) (u1_0 : Int32) (u1_1 : Int32) (u1_2 : Int32) (u1_3 : Int32) (H : Heap) (locs : List Loc) (ls : Array Slot), mX5_layPeriod_L17 v_vA a0 fu v1_0 v1_1 v1_2 v1_3 = some (u1_0, u1_1, u1_2, u1_3) → lv_has ls 6 [(2, .int v1_0), (0, .ref v_q0), (1, .int a0)] → va_P G.1 vwCl (wdX5 G v_q0 v_q1 v_q2 v_q3 v_q4 v_q5 v_q6 v_q7 v_q8 v_q9 v_q10 v_q11 v_q12 v_q13 v_q14 v_q15 v_q16 v_thrown v_gain v_size v1_1 v1_2 v1_3 v_laidArea v_parts v_isMinus v_readSpot v_isStar v_wantsNumber v_waiting v_shiftX v_shiftY v_times v_dotsLaid v_joinedLaid v_hash v_isThereA v_vA v_spotOfA v_inMiddleA v_tintsA v_bufferA v_valuesA v_ranksA v_oldRanksA v_partA v_allRanksA v_basesA v_isMetA v_metXA v_metYA v_lineA) H → va_D A (wdX5 G v_q0 v_q1 v_q2 v_q3 v_q4 v_q5 v_q6 v_q7 v_q8 v_q9 v_q10 v_q11 v_q12 v_q13 v_q14 v_q15 v_q16 v_thrown v_gain v_size v1_1 v1_2 v1_3 v_laidArea v_parts v_isMinus v_readSpot v_isStar v_wantsNumber v_waiting v_shiftX v_shiftY v_times v_dotsLaid v_joinedLaid v_hash v_isThereA v_vA v_spotOfA v_inMiddleA v_tintsA v_bufferA v_valuesA v_ranksA v_oldRanksA v_partA v_allRanksA v_basesA v_isMetA v_metXA v_metYA v_lineA) → va_S A s.heap H locs → (∀ (H : Heap) (locs : List Loc) (ls : Array Slot), lv_has ls 6 [(2, .int u1_0), (0, .ref v_q0), (1, .int a0)] → va_P G.1 vwCl (wdX5 G v_q0 v_q1 v_q2 v_q3 v_q4 v_q5 v_q6 v_q7 v_q8 v_q9 v_q10 v_q11 v_q12 v_q13 v_q14 v_q15 v_q16 v_thrown v_gain v_size u1_1 u1_2 u1_3 v_laidArea v_parts v_isMinus v_readSpot v_isStar v_wantsNumber v_waiting v_shiftX v_shiftY v_times v_dotsLaid v_joinedLaid v_hash v_isThereA v_vA v_spotOfA v_inMiddleA v_tintsA v_bufferA v_valuesA v_ranksA v_oldRanksA v_partA v_allRanksA v_basesA v_isMetA v_metXA v_metYA v_lineA) H → va_D A (wdX5 G v_q0 v_q1 v_q2 v_q3 v_q4 v_q5 v_q6 v_q7 v_q8 v_q9 v_q10 v_q11 v_q12 v_q13 v_q14 v_q15 v_q16 v_thrown v_gain v_size u1_1 u1_2 u1_3 v_laidArea v_parts v_isMinus v_readSpot v_isStar v_wantsNumber v_waiting v_shiftX v_shiftY v_times v_dotsLaid v_joinedLaid v_hash v_isThereA v_vA v_spotOfA v_inMiddleA v_tintsA v_bufferA v_valuesA v_ranksA v_oldRanksA v_partA v_allRanksA v_basesA v_isMetA v_metXA v_metYA v_lineA) → va_S A s.heap H locs → W p l e rmX5_layPeriod s m args below meth c H locs 0 0 Q (F0 m 68 ls [])) → W p l e rmX5_layPeriod s m args below meth c H locs 0 0 Q (F0 m 17 ls []) := by
    intro fu
    induction fu with
    | zero => intro v1_0 v1_1 v1_2 v1_3 u1_0 u1_1 u1_2 u1_3 H locs ls h; exact nomatch h
    | succ fu ih =>
      intro v1_0 v1_1 v1_2 v1_3 u1_0 u1_1 u1_2 u1_3 H locs ls h hl hP hD hS kE
      rw [mX5_layPeriod_L17] at h
      refine lv_iload_n hx hb dX5_layPeriod_17 rfl (lv_at hl 0 rfl) ?_
      refine lv_iconst (v := 3) hx hb dX5_layPeriod_18 (by decide) ?_
      refine lv_icmp_ge (tgt := 68) hx hb dX5_layPeriod_19 (by decide) (fun c2 => ?_) (fun c2 => ?_)
      · replace h := ite_t c2 h
        obtain ⟨rfl, rfl, rfl, rfl⟩ := sm4 h
        exact kE H locs ls hl hP hD hS
      · replace h := ite_f c2 h
        refine lv_iload_n hx hb dX5_layPeriod_22 rfl (lv_at hl 2 rfl) ?_
        refine lv_iload_n hx hb dX5_layPeriod_23 rfl (lv_at hl 0 rfl) ?_
        refine lv_ishr hx hb dX5_layPeriod_24 ?_
        refine lv_iconst (v := 1) hx hb dX5_layPeriod_25 (by decide) ?_
        refine lv_iand hx hb dX5_layPeriod_26 ?_
        refine lv_iconst (v := 1) hx hb dX5_layPeriod_27 (by decide) ?_
        refine lv_icmp_ne (tgt := 62) hx hb dX5_layPeriod_28 (by decide) (fun c3 => ?_) (fun c3 => ?_)
        · replace h := ite_f c3 h
          obtain ⟨x4, e4⟩ : ∃ y : Int32, y = v1_0 + 1 := ⟨_, rfl⟩
          replace h := nmB_e e4 h
          refine lv_iinc (v := x4) (lv' := [(2, .int x4), (0, .ref v_q0), (1, .int a0)]) hx hb dX5_layPeriod_62 hl (k := 0) rfl (by rw [e4]; rfl) (by decide) rfl (fun ls hl => ?_)
          refine lv_goto (tgt := 17) hx hb dX5_layPeriod_65 (by decide) ?_
          exact ih x4 v1_1 v1_2 v1_3 u1_0 u1_1 u1_2 u1_3 H locs ls h hl hP hD hS kE
        · replace h := ite_t c3 h
          refine lv_aload_n hx hb dX5_layPeriod_31 rfl (lv_at hl 1 rfl) ?_
          refine va_get (D := G.1) (ci := 5) (v := .int v1_1) (C := RX5) (T := TX5) (N := 35) hx hb hts fw_X5_layPeriod_X5 hown hK.1 hP 0 rfl rfl 9 (by decide) (hts (.fieldLink RX5 89 "HalftoneScreensModel" "w" "I") lk_X5_layPeriod_f89) (fun _ h9 => h9) rfl dX5_layPeriod_32 ?_
          refine lv_istore_n (lv' := [(3, .int v1_1), (2, .int v1_0), (0, .ref v_q0), (1, .int a0)]) hx hb dX5_layPeriod_35 rfl hl (by decide) rfl (fun ls hl => ?_)
          refine lv_aload_n hx hb dX5_layPeriod_36 rfl (lv_at hl 2 rfl) ?_
          refine va_get (D := G.1) (ci := 5) (v := .int v1_2) (C := RX5) (T := TX5) (N := 35) hx hb hts fw_X5_layPeriod_X5 hown hK.1 hP 0 rfl rfl 10 (by decide) (hts (.fieldLink RX5 92 "HalftoneScreensModel" "s" "I") lk_X5_layPeriod_f92) (fun _ h9 => h9) rfl dX5_layPeriod_37 ?_
          refine lv_istore (lv' := [(4, .int v1_2), (3, .int v1_1), (2, .int v1_0), (0, .ref v_q0), (1, .int a0)]) hx hb dX5_layPeriod_40 hl (by decide) rfl (fun ls hl => ?_)
          refine lv_aload_n hx hb dX5_layPeriod_42 rfl (lv_at hl 3 rfl) ?_
          refine va_get (D := G.1) (ci := 5) (v := .int v1_3) (C := RX5) (T := TX5) (N := 35) hx hb hts fw_X5_layPeriod_X5 hown hK.1 hP 0 rfl rfl 11 (by decide) (hts (.fieldLink RX5 82 "HalftoneScreensModel" "h" "I") lk_X5_layPeriod_f82) (fun _ h9 => h9) rfl dX5_layPeriod_43 ?_
          refine lv_istore (lv' := [(5, .int v1_3), (4, .int v1_2), (3, .int v1_1), (2, .int v1_0), (0, .ref v_q0), (1, .int a0)]) hx hb dX5_layPeriod_46 hl (by decide) rfl (fun ls hl => ?_)
          refine lv_aload_n hx hb dX5_layPeriod_48 rfl (lv_at hl 4 rfl) ?_
          refine lv_iload_n hx hb dX5_layPeriod_49 rfl (lv_at hl 3 rfl) ?_
          obtain ⟨r5_0, r5_1, r5_2, g5, h⟩ := bnd3_e h
          refine rwV_same (rest := []) (As := [.int v1_0]) S (ctX5_layScreen l G v_q0 v_q1 v_q2 v_q3 v_q4 v_q5 v_q6 v_q7 v_q8 v_q9 v_q10 v_q11 v_q12 v_q13 v_q14 v_q15 v_q16 v_thrown v_gain v_size v1_1 v1_2 v1_3 v_laidArea v_parts v_isMinus v_readSpot v_isStar v_wantsNumber v_waiting v_shiftX v_shiftY v_times v_dotsLaid v_joinedLaid v_hash v_isThereA v_vA v_spotOfA v_inMiddleA v_tintsA v_bufferA v_valuesA v_ranksA v_oldRanksA v_partA v_allRanksA v_basesA v_isMetA v_metXA v_metYA v_lineA v1_0 r5_0 r5_1 r5_2 g5) (cwV 1 hts gX5_layPeriod_X5_layScreen rfl rfl rfl hvX5_layScreen ⟨Nat.le_of_ble_eq_true rfl, Nat.le_of_ble_eq_true rfl⟩) hK hP hD hS xb_triv (fun _ _ _ => trivial) 0 5 rfl rfl rfl rfl hl.1 rfl (Nat.le_of_ble_eq_true rfl) dX5_layPeriod_50 ⟨Nat.le_refl _, Nat.le_refl _⟩ (fun _ H locs hP hD hS => ?_)
          have hP : va_P G.1 vwCl (wdX5 G v_q0 v_q1 v_q2 v_q3 v_q4 v_q5 v_q6 v_q7 v_q8 v_q9 v_q10 v_q11 v_q12 v_q13 v_q14 v_q15 v_q16 v_thrown v_gain v_size r5_0 r5_1 r5_2 v_laidArea v_parts v_isMinus v_readSpot v_isStar v_wantsNumber v_waiting v_shiftX v_shiftY v_times v_dotsLaid v_joinedLaid v_hash v_isThereA v_vA v_spotOfA v_inMiddleA v_tintsA v_bufferA v_valuesA v_ranksA v_oldRanksA v_partA v_allRanksA v_basesA v_isMetA v_metXA v_metYA v_lineA) H := hP
          have hD : va_D A (wdX5 G v_q0 v_q1 v_q2 v_q3 v_q4 v_q5 v_q6 v_q7 v_q8 v_q9 v_q10 v_q11 v_q12 v_q13 v_q14 v_q15 v_q16 v_thrown v_gain v_size r5_0 r5_1 r5_2 v_laidArea v_parts v_isMinus v_readSpot v_isStar v_wantsNumber v_waiting v_shiftX v_shiftY v_times v_dotsLaid v_joinedLaid v_hash v_isThereA v_vA v_spotOfA v_inMiddleA v_tintsA v_bufferA v_valuesA v_ranksA v_oldRanksA v_partA v_allRanksA v_basesA v_isMetA v_metXA v_metYA v_lineA) := hD
          refine lv_aload_n hx hb dX5_layPeriod_53 rfl (lv_at hl 4 rfl) ?_
          refine lv_iload_n hx hb dX5_layPeriod_54 rfl (lv_at hl 2 rfl) ?_
          refine lv_iload hx hb dX5_layPeriod_55 (lv_at hl 1 rfl) ?_
          refine lv_iload hx hb dX5_layPeriod_57 (lv_at hl 0 rfl) ?_
          obtain ⟨r6_0, r6_1, r6_2, g6, h⟩ := bnd3_e h
          refine rwV_same (rest := []) (As := [.int v1_1, .int v1_2, .int v1_3]) S (ctX5_meetLattice l G v_q0 v_q1 v_q2 v_q3 v_q4 v_q5 v_q6 v_q7 v_q8 v_q9 v_q10 v_q11 v_q12 v_q13 v_q14 v_q15 v_q16 v_thrown v_gain v_size r5_0 r5_1 r5_2 v_laidArea v_parts v_isMinus v_readSpot v_isStar v_wantsNumber v_waiting v_shiftX v_shiftY v_times v_dotsLaid v_joinedLaid v_hash v_isThereA v_vA v_spotOfA v_inMiddleA v_tintsA v_bufferA v_valuesA v_ranksA v_oldRanksA v_partA v_allRanksA v_basesA v_isMetA v_metXA v_metYA v_lineA v1_1 v1_2 v1_3 r6_0 r6_1 r6_2 g6) (cwV 3 hts gX5_layPeriod_X5_meetLattice rfl rfl rfl hvX5_meetLattice ⟨Nat.le_of_ble_eq_true rfl, Nat.le_of_ble_eq_true rfl⟩) hK hP hD hS xb_triv (fun _ _ _ => trivial) 0 5 rfl rfl rfl rfl hl.1 rfl (Nat.le_of_ble_eq_true rfl) dX5_layPeriod_59 ⟨Nat.le_refl _, Nat.le_refl _⟩ (fun _ H locs hP hD hS => ?_)
          have hP : va_P G.1 vwCl (wdX5 G v_q0 v_q1 v_q2 v_q3 v_q4 v_q5 v_q6 v_q7 v_q8 v_q9 v_q10 v_q11 v_q12 v_q13 v_q14 v_q15 v_q16 v_thrown v_gain v_size r6_0 r6_1 r6_2 v_laidArea v_parts v_isMinus v_readSpot v_isStar v_wantsNumber v_waiting v_shiftX v_shiftY v_times v_dotsLaid v_joinedLaid v_hash v_isThereA v_vA v_spotOfA v_inMiddleA v_tintsA v_bufferA v_valuesA v_ranksA v_oldRanksA v_partA v_allRanksA v_basesA v_isMetA v_metXA v_metYA v_lineA) H := hP
          have hD : va_D A (wdX5 G v_q0 v_q1 v_q2 v_q3 v_q4 v_q5 v_q6 v_q7 v_q8 v_q9 v_q10 v_q11 v_q12 v_q13 v_q14 v_q15 v_q16 v_thrown v_gain v_size r6_0 r6_1 r6_2 v_laidArea v_parts v_isMinus v_readSpot v_isStar v_wantsNumber v_waiting v_shiftX v_shiftY v_times v_dotsLaid v_joinedLaid v_hash v_isThereA v_vA v_spotOfA v_inMiddleA v_tintsA v_bufferA v_valuesA v_ranksA v_oldRanksA v_partA v_allRanksA v_basesA v_isMetA v_metXA v_metYA v_lineA) := hD
          obtain ⟨x7, e7⟩ : ∃ y : Int32, y = v1_0 + 1 := ⟨_, rfl⟩
          replace h := nmB_e e7 h
          refine lv_iinc (v := x7) (lv' := [(2, .int x7), (5, .int v1_3), (4, .int v1_2), (3, .int v1_1), (0, .ref v_q0), (1, .int a0)]) hx hb dX5_layPeriod_62 hl (k := 3) rfl (by rw [e7]; rfl) (by decide) rfl (fun ls hl => ?_)
          refine lv_goto (tgt := 17) hx hb dX5_layPeriod_65 (by decide) ?_
          exact ih x7 r6_0 r6_1 r6_2 u1_0 u1_1 u1_2 u1_3 H locs ls h (lv_sub hl [0, 4, 5] rfl) hP hD hS kE
  refine L1 FU 0 1 0 1 u1_0 u1_1 u1_2 u1_3 H locs ls g1 hl hP hD hS (fun H locs ls hl hP hD hS => ?_)
  obtain ⟨rfl, rfl, rfl⟩ := sm3 h
  exact hret _ _ _ _ trivial hP hD hS dX5_layPeriod_68
theorem fw_X5_period_X5 : ∀ w ∈ wsX50, w ∈ wsX5_period := fun w h => List.mem_cons_of_mem _ (List.mem_append_right _ h)
theorem lk_X5_period_f59 : Cond.fieldLink RX5 59 "HalftoneScreensModel" "thrown" "I" ∈ wsX5_period := List.mem_of_getElem? (i := 1) rfl
theorem hsX5_layPeriod : yX5_layPeriod.cls ≠ "java/lang/invoke/MethodHandle" ∧ yX5_layPeriod.cls ≠ "java/lang/invoke/VarHandle" ∧ (parseMethodDescriptor yX5_layPeriod.desc).map (fun d => d.parameters.length) = some 1 := by decide +kernel
theorem hvX5_layPeriod : yX5_layPeriod.cls = RX5 ∧ yX5_layPeriod.cls ≠ "java/lang/invoke/MethodHandle" ∧ yX5_layPeriod.cls ≠ "java/lang/invoke/VarHandle" ∧ (parseMethodDescriptor yX5_layPeriod.desc).map (fun d => d.parameters.length) = some 1 := ⟨rfl, hsX5_layPeriod⟩
theorem hsX5_numberOf : yX5_numberOf.cls ≠ "java/lang/invoke/MethodHandle" ∧ yX5_numberOf.cls ≠ "java/lang/invoke/VarHandle" ∧ (parseMethodDescriptor yX5_numberOf.desc).map (fun d => d.parameters.length) = some 1 := by decide +kernel
theorem hvX5_numberOf : yX5_numberOf.cls = RX5 ∧ yX5_numberOf.cls ≠ "java/lang/invoke/MethodHandle" ∧ yX5_numberOf.cls ≠ "java/lang/invoke/VarHandle" ∧ (parseMethodDescriptor yX5_numberOf.desc).map (fun d => d.parameters.length) = some 1 := ⟨rfl, hsX5_numberOf⟩
theorem hsX5_there : yX5_there.cls ≠ "java/lang/invoke/MethodHandle" ∧ yX5_there.cls ≠ "java/lang/invoke/VarHandle" ∧ (parseMethodDescriptor yX5_there.desc).map (fun d => d.parameters.length) = some 0 := by decide +kernel
theorem hvX5_there : yX5_there.cls = RX5 ∧ yX5_there.cls ≠ "java/lang/invoke/MethodHandle" ∧ yX5_there.cls ≠ "java/lang/invoke/VarHandle" ∧ (parseMethodDescriptor yX5_there.desc).map (fun d => d.parameters.length) = some 0 := ⟨rfl, hsX5_there⟩
abbrev rmX5_period : Room := { frames := 5, cells := 0, slots := 0, locals := 116 }
set_option maxHeartbeats 4000000 in
set_option maxRecDepth 100000 in
theorem ctX5_period (l : Launch) (G : GG) (v_q0 : Nat) (v_q1 : Nat) (v_q2 : Nat) (v_q3 : Nat) (v_q4 : Nat) (v_q5 : Nat) (v_q6 : Nat) (v_q7 : Nat) (v_q8 : Nat) (v_q9 : Nat) (v_q10 : Nat) (v_q11 : Nat) (v_q12 : Nat) (v_q13 : Nat) (v_q14 : Nat) (v_q15 : Nat) (v_q16 : Nat) (v_thrown : Int32) (v_gain : Int32) (v_size : Int32) (v_w : Int32) (v_s : Int32) (v_h : Int32) (v_laidArea : Int32) (v_parts : Int32) (v_isMinus : Int32) (v_readSpot : Int32) (v_isStar : Int32) (v_wantsNumber : Int32) (v_waiting : Int32) (v_shiftX : Int32) (v_shiftY : Int32) (v_times : Int32) (v_dotsLaid : Int32) (v_joinedLaid : Int32) (v_hash : Int64) (v_isThereA : (Nat → Int32)) (v_vA : (Nat → Int32)) (v_spotOfA : (Nat → Int32)) (v_inMiddleA : (Nat → Int32)) (v_tintsA : (Nat → Int32)) (v_bufferA : (Nat → Int32)) (v_valuesA : (Nat → Int32)) (v_ranksA : (Nat → Int32)) (v_oldRanksA : (Nat → Int32)) (v_partA : (Nat → Int32)) (v_allRanksA : (Nat → Int32)) (v_basesA : (Nat → Int32)) (v_isMetA : (Nat → Int32)) (v_metXA : (Nat → Int32)) (v_metYA : (Nat → Int32)) (v_lineA : (Nat → Int32)) (a0 : Int32) (a1 : Int32) (o0 : Int32) (o1 : Int32) (o2 : Int32) (o3 : Int32) (o4 : Int32) (h : mX5_period v_w v_s v_h v_isThereA v_vA a0 a1 = some (o0, o1, o2, o3, o4))  : Met l yX5_period wsX5_period rmX5_period (va_Pc [.ref v_q0, .int a0, .int a1] (PreD G (wdX5 G v_q0 v_q1 v_q2 v_q3 v_q4 v_q5 v_q6 v_q7 v_q8 v_q9 v_q10 v_q11 v_q12 v_q13 v_q14 v_q15 v_q16 v_thrown v_gain v_size v_w v_s v_h v_laidArea v_parts v_isMinus v_readSpot v_isStar v_wantsNumber v_waiting v_shiftX v_shiftY v_times v_dotsLaid v_joinedLaid v_hash v_isThereA v_vA v_spotOfA v_inMiddleA v_tintsA v_bufferA v_valuesA v_ranksA v_oldRanksA v_partA v_allRanksA v_basesA v_isMetA v_metXA v_metYA v_lineA) (fun _ => True))) (QwA G (va_A0 (wdX5 G v_q0 v_q1 v_q2 v_q3 v_q4 v_q5 v_q6 v_q7 v_q8 v_q9 v_q10 v_q11 v_q12 v_q13 v_q14 v_q15 v_q16 v_thrown v_gain v_size v_w v_s v_h v_laidArea v_parts v_isMinus v_readSpot v_isStar v_wantsNumber v_waiting v_shiftX v_shiftY v_times v_dotsLaid v_joinedLaid v_hash v_isThereA v_vA v_spotOfA v_inMiddleA v_tintsA v_bufferA v_valuesA v_ranksA v_oldRanksA v_partA v_allRanksA v_basesA v_isMetA v_metXA v_metYA v_lineA)) (wdX5 G v_q0 v_q1 v_q2 v_q3 v_q4 v_q5 v_q6 v_q7 v_q8 v_q9 v_q10 v_q11 v_q12 v_q13 v_q14 v_q15 v_q16 o1 v_gain v_size o2 o3 o4 v_laidArea v_parts v_isMinus v_readSpot v_isStar v_wantsNumber v_waiting v_shiftX v_shiftY v_times v_dotsLaid v_joinedLaid v_hash v_isThereA v_vA v_spotOfA v_inMiddleA v_tintsA v_bufferA v_valuesA v_ranksA v_oldRanksA v_partA v_allRanksA v_basesA v_isMetA v_metXA v_metYA v_lineA) (some (.int o0)) True) 0 0 (va_A0 (wdX5 G v_q0 v_q1 v_q2 v_q3 v_q4 v_q5 v_q6 v_q7 v_q8 v_q9 v_q10 v_q11 v_q12 v_q13 v_q14 v_q15 v_q16 v_thrown v_gain v_size v_w v_s v_h v_laidArea v_parts v_isMinus v_readSpot v_isStar v_wantsNumber v_waiting v_shiftX v_shiftY v_times v_dotsLaid v_joinedLaid v_hash v_isThereA v_vA v_spotOfA v_inMiddleA v_tintsA v_bufferA v_valuesA v_ranksA v_oldRanksA v_partA v_allRanksA v_basesA v_isMetA v_metXA v_metYA v_lineA)) := by
  refine of_wi (cc := cX5_period) (maxL := 3) (ty := .int) (plainFor_of_name (by decide)) rfl (Nat.le_of_ble_eq_true rfl) ?_
  intro p e s m args below meth c ls Q A S hl hP hD hS hK hX hA hret
  obtain ⟨H, hH⟩ : ∃ H, H = s.heap := ⟨_, rfl⟩
  obtain ⟨locs, hlocs⟩ : ∃ L : List Loc, L = [] := ⟨_, rfl⟩
  rw [← hlocs]
  rw [← hlocs] at hS
  have hP : va_P G.1 vwCl (wdX5 G v_q0 v_q1 v_q2 v_q3 v_q4 v_q5 v_q6 v_q7 v_q8 v_q9 v_q10 v_q11 v_q12 v_q13 v_q14 v_q15 v_q16 v_thrown v_gain v_size v_w v_s v_h v_laidArea v_parts v_isMinus v_readSpot v_isStar v_wantsNumber v_waiting v_shiftX v_shiftY v_times v_dotsLaid v_joinedLaid v_hash v_isThereA v_vA v_spotOfA v_inMiddleA v_tintsA v_bufferA v_valuesA v_ranksA v_oldRanksA v_partA v_allRanksA v_basesA v_isMetA v_metXA v_metYA v_lineA) H := by rw [hH]; exact hP
  have hS : va_S A s.heap H locs := by rw [hH]; exact hS
  suffices hgo : W p l e rmX5_period s m args below meth c H locs 0 0 Q (F0 m 0 ls []) by rw [hH] at hgo; exact hgo
  have S : CallFix p m c cX5_period 3 s args wsX5_period RX5 := S
  obtain ⟨hx, hb, hml, hown, hts⟩ := id S
  have hl : lv_has ls 3 [(0, .ref v_q0), (1, .int a0), (2, .int a1)] := hl
  unfold mX5_period at h
  refine lv_aload_n hx hb dX5_period_0 rfl (lv_at hl 0 rfl) ?_
  refine lv_iload_n hx hb dX5_period_1 rfl (lv_at hl 1 rfl) ?_
  refine lv_iconst (v := 1) hx hb dX5_period_2 (by decide) ?_
  refine lv_bipush (v := 7) hx hb dX5_period_3 (by decide) ?_
  obtain ⟨r1_0, g1, h⟩ := bnd1_e h
  refine roSi1 (rest := [.ref v_q0]) (As := [.int a0, .int 1, .int 7]) S (ctX5_within l G a0 1 7 r1_0 g1) (va_cwS 3 hts gX5_period_X5_within rfl rfl rfl hsX5_within ⟨Nat.le_of_ble_eq_true rfl, Nat.le_of_ble_eq_true rfl⟩) hK hP [] rfl rfl hl.1 rfl (Nat.le_of_ble_eq_true rfl) dX5_period_5 ⟨Nat.le_refl _, Nat.le_refl _⟩ (fun hz1 => ?_)
  obtain ⟨K2, hK2, h⟩ := jB1_e h
  have J2 : ∀ (j2_0 : Int32) (H : Heap) (locs : List Loc) (ls : Array Slot), K2 j2_0 = some (o0, o1, o2, o3, o4) → lv_has ls 3 [(0, .ref v_q0), (1, .int a0), (2, .int a1)] → va_P G.1 vwCl (wdX5 G v_q0 v_q1 v_q2 v_q3 v_q4 v_q5 v_q6 v_q7 v_q8 v_q9 v_q10 v_q11 v_q12 v_q13 v_q14 v_q15 v_q16 v_thrown v_gain v_size v_w v_s v_h v_laidArea v_parts v_isMinus v_readSpot v_isStar v_wantsNumber v_waiting v_shiftX v_shiftY v_times v_dotsLaid v_joinedLaid v_hash v_isThereA v_vA v_spotOfA v_inMiddleA v_tintsA v_bufferA v_valuesA v_ranksA v_oldRanksA v_partA v_allRanksA v_basesA v_isMetA v_metXA v_metYA v_lineA) H → va_D A (wdX5 G v_q0 v_q1 v_q2 v_q3 v_q4 v_q5 v_q6 v_q7 v_q8 v_q9 v_q10 v_q11 v_q12 v_q13 v_q14 v_q15 v_q16 v_thrown v_gain v_size v_w v_s v_h v_laidArea v_parts v_isMinus v_readSpot v_isStar v_wantsNumber v_waiting v_shiftX v_shiftY v_times v_dotsLaid v_joinedLaid v_hash v_isThereA v_vA v_spotOfA v_inMiddleA v_tintsA v_bufferA v_valuesA v_ranksA v_oldRanksA v_partA v_allRanksA v_basesA v_isMetA v_metXA v_metYA v_lineA) → va_S A s.heap H locs → W p l e rmX5_period s m args below meth c H locs 0 0 Q (F0 m 40 ls [.int j2_0, .ref v_q0]) := by
    intro j2_0 H locs ls h hl hP hD hS
    replace h := (hK2 j2_0).symm.trans h
    refine va_put (D := G.1) (ci := 5) (v := .int j2_0) (ty := .int) (C := RX5) (T := TX5) (N := 35) hx hb hts fw_X5_period_X5 tyX5 tyX5_ok nmX5 hown hK.1 hP hD hS 0 rfl rfl 0 (by decide) (hts (.fieldLink RX5 59 "HalftoneScreensModel" "thrown" "I") lk_X5_period_f59) (fun _ h9 => h9) rfl (tyX5_ok 0 (by decide)) rfl rfl (Nat.le_of_ble_eq_true rfl) dX5_period_40 (fun H locs hP hD hS => ?_)
    have hP : va_P G.1 vwCl (wdX5 G v_q0 v_q1 v_q2 v_q3 v_q4 v_q5 v_q6 v_q7 v_q8 v_q9 v_q10 v_q11 v_q12 v_q13 v_q14 v_q15 v_q16 j2_0 v_gain v_size v_w v_s v_h v_laidArea v_parts v_isMinus v_readSpot v_isStar v_wantsNumber v_waiting v_shiftX v_shiftY v_times v_dotsLaid v_joinedLaid v_hash v_isThereA v_vA v_spotOfA v_inMiddleA v_tintsA v_bufferA v_valuesA v_ranksA v_oldRanksA v_partA v_allRanksA v_basesA v_isMetA v_metXA v_metYA v_lineA) H := hP
    have hD : va_D A (wdX5 G v_q0 v_q1 v_q2 v_q3 v_q4 v_q5 v_q6 v_q7 v_q8 v_q9 v_q10 v_q11 v_q12 v_q13 v_q14 v_q15 v_q16 j2_0 v_gain v_size v_w v_s v_h v_laidArea v_parts v_isMinus v_readSpot v_isStar v_wantsNumber v_waiting v_shiftX v_shiftY v_times v_dotsLaid v_joinedLaid v_hash v_isThereA v_vA v_spotOfA v_inMiddleA v_tintsA v_bufferA v_valuesA v_ranksA v_oldRanksA v_partA v_allRanksA v_basesA v_isMetA v_metXA v_metYA v_lineA) := hD
    refine lv_aload_n hx hb dX5_period_43 rfl (lv_at hl 0 rfl) ?_
    refine va_get (D := G.1) (ci := 5) (v := .int j2_0) (C := RX5) (T := TX5) (N := 35) hx hb hts fw_X5_period_X5 hown hK.1 hP 0 rfl rfl 0 (by decide) (hts (.fieldLink RX5 59 "HalftoneScreensModel" "thrown" "I") lk_X5_period_f59) (fun _ h9 => h9) rfl dX5_period_44 ?_
    refine lv_if_le (tgt := 52) hx hb dX5_period_47 (by decide) (fun c8 => ?_) (fun c8 => ?_)
    · replace h := ite_t c8 h
      refine lv_aload_n hx hb dX5_period_52 rfl (lv_at hl 0 rfl) ?_
      refine lv_iload_n hx hb dX5_period_53 rfl (lv_at hl 1 rfl) ?_
      obtain ⟨r9_0, r9_1, r9_2, g9, h⟩ := bnd3_e h
      refine rwV_same (rest := []) (As := [.int a0]) S (ctX5_layPeriod l G v_q0 v_q1 v_q2 v_q3 v_q4 v_q5 v_q6 v_q7 v_q8 v_q9 v_q10 v_q11 v_q12 v_q13 v_q14 v_q15 v_q16 j2_0 v_gain v_size v_w v_s v_h v_laidArea v_parts v_isMinus v_readSpot v_isStar v_wantsNumber v_waiting v_shiftX v_shiftY v_times v_dotsLaid v_joinedLaid v_hash v_isThereA v_vA v_spotOfA v_inMiddleA v_tintsA v_bufferA v_valuesA v_ranksA v_oldRanksA v_partA v_allRanksA v_basesA v_isMetA v_metXA v_metYA v_lineA a0 r9_0 r9_1 r9_2 g9) (cwV 1 hts gX5_period_X5_layPeriod rfl rfl rfl hvX5_layPeriod ⟨Nat.le_of_ble_eq_true rfl, Nat.le_of_ble_eq_true rfl⟩) hK hP hD hS xb_triv (fun _ _ _ => trivial) 0 5 rfl rfl rfl rfl hl.1 rfl (Nat.le_of_ble_eq_true rfl) dX5_period_54 ⟨Nat.le_refl _, Nat.le_refl _⟩ (fun _ H locs hP hD hS => ?_)
      have hP : va_P G.1 vwCl (wdX5 G v_q0 v_q1 v_q2 v_q3 v_q4 v_q5 v_q6 v_q7 v_q8 v_q9 v_q10 v_q11 v_q12 v_q13 v_q14 v_q15 v_q16 j2_0 v_gain v_size r9_0 r9_1 r9_2 v_laidArea v_parts v_isMinus v_readSpot v_isStar v_wantsNumber v_waiting v_shiftX v_shiftY v_times v_dotsLaid v_joinedLaid v_hash v_isThereA v_vA v_spotOfA v_inMiddleA v_tintsA v_bufferA v_valuesA v_ranksA v_oldRanksA v_partA v_allRanksA v_basesA v_isMetA v_metXA v_metYA v_lineA) H := hP
      have hD : va_D A (wdX5 G v_q0 v_q1 v_q2 v_q3 v_q4 v_q5 v_q6 v_q7 v_q8 v_q9 v_q10 v_q11 v_q12 v_q13 v_q14 v_q15 v_q16 j2_0 v_gain v_size r9_0 r9_1 r9_2 v_laidArea v_parts v_isMinus v_readSpot v_isStar v_wantsNumber v_waiting v_shiftX v_shiftY v_times v_dotsLaid v_joinedLaid v_hash v_isThereA v_vA v_spotOfA v_inMiddleA v_tintsA v_bufferA v_valuesA v_ranksA v_oldRanksA v_partA v_allRanksA v_basesA v_isMetA v_metXA v_metYA v_lineA) := hD
      refine lv_aload_n hx hb dX5_period_57 rfl (lv_at hl 0 rfl) ?_
      refine lv_iload_n hx hb dX5_period_58 rfl (lv_at hl 2 rfl) ?_
      obtain ⟨r10_0, g10, h⟩ := bnd1_e h
      refine roVi1 (rest := []) (As := [.int a1]) S (ctX5_numberOf l G v_q0 v_q1 v_q2 v_q3 v_q4 v_q5 v_q6 v_q7 v_q8 v_q9 v_q10 v_q11 v_q12 v_q13 v_q14 v_q15 v_q16 j2_0 v_gain v_size r9_0 r9_1 r9_2 v_laidArea v_parts v_isMinus v_readSpot v_isStar v_wantsNumber v_waiting v_shiftX v_shiftY v_times v_dotsLaid v_joinedLaid v_hash v_isThereA v_vA v_spotOfA v_inMiddleA v_tintsA v_bufferA v_valuesA v_ranksA v_oldRanksA v_partA v_allRanksA v_basesA v_isMetA v_metXA v_metYA v_lineA a1 r10_0 g10) (cwV 1 hts gX5_period_X5_numberOf rfl rfl rfl hvX5_numberOf ⟨Nat.le_of_ble_eq_true rfl, Nat.le_of_ble_eq_true rfl⟩) hK hP [0, 1, 2, 3, 4, 5, 6, 7, 8, 9, 10, 11, 12, 13, 14, 15, 16] rfl 0 5 rfl rfl rfl rfl hl.1 rfl (Nat.le_of_ble_eq_true rfl) dX5_period_59 ⟨Nat.le_refl _, Nat.le_refl _⟩ (fun _ => ?_)
      obtain ⟨rfl, rfl, rfl, rfl, rfl⟩ := sm5 h
      exact hret _ _ _ _ _ rfl trivial rfl hP hD hS dX5_period_62
    · replace h := ite_f c8 h
      refine lv_iconst (v := 0) hx hb dX5_period_50 (by decide) ?_
      obtain ⟨rfl, rfl, rfl, rfl, rfl⟩ := sm5 h
      exact hret _ _ _ _ _ rfl trivial rfl hP hD hS dX5_period_51
  refine lv_if_eq (tgt := 20) hx hb dX5_period_8 (by decide) (fun c3 => ?_) (fun c3 => ?_)
  · replace h := ite_t c3 h
    refine lv_iconst (v := 1) hx hb dX5_period_20 (by decide) ?_
    refine lv_goto (tgt := 40) hx hb dX5_period_21 (by decide) ?_
    exact J2 1 H locs ls h hl hP hD hS
  · replace h := ite_f c3 h
    refine lv_iload_n hx hb dX5_period_11 rfl (lv_at hl 2 rfl) ?_
    refine lv_iconst (v := 0) hx hb dX5_period_12 (by decide) ?_
    refine lv_iconst (v := 3) hx hb dX5_period_13 (by decide) ?_
    obtain ⟨r4_0, g4, h⟩ := bnd1_e h
    refine roSi1 (rest := [.ref v_q0]) (As := [.int a1, .int 0, .int 3]) S (ctX5_within l G a1 0 3 r4_0 g4) (va_cwS 3 hts gX5_period_X5_within rfl rfl rfl hsX5_within ⟨Nat.le_of_ble_eq_true rfl, Nat.le_of_ble_eq_true rfl⟩) hK hP [] rfl rfl hl.1 rfl (Nat.le_of_ble_eq_true rfl) dX5_period_14 ⟨Nat.le_refl _, Nat.le_refl _⟩ (fun hz4 => ?_)
    refine lv_if_ne (tgt := 24) hx hb dX5_period_17 (by decide) (fun c5 => ?_) (fun c5 => ?_)
    · replace h := ite_f c5 h
      refine lv_iload_n hx hb dX5_period_24 rfl (lv_at hl 1 rfl) ?_
      refine lv_aload_n hx hb dX5_period_25 rfl (lv_at hl 0 rfl) ?_
      obtain ⟨r6_0, g6, h⟩ := bnd1_e h
      refine roVi1 (rest := [.int a0, .ref v_q0]) (As := []) S (ctX5_there l G v_q0 v_q1 v_q2 v_q3 v_q4 v_q5 v_q6 v_q7 v_q8 v_q9 v_q10 v_q11 v_q12 v_q13 v_q14 v_q15 v_q16 v_thrown v_gain v_size v_w v_s v_h v_laidArea v_parts v_isMinus v_readSpot v_isStar v_wantsNumber v_waiting v_shiftX v_shiftY v_times v_dotsLaid v_joinedLaid v_hash v_isThereA v_vA v_spotOfA v_inMiddleA v_tintsA v_bufferA v_valuesA v_ranksA v_oldRanksA v_partA v_allRanksA v_basesA v_isMetA v_metXA v_metYA v_lineA r6_0 g6) (cwV 0 hts gX5_period_X5_there rfl rfl rfl hvX5_there ⟨Nat.le_of_ble_eq_true rfl, Nat.le_of_ble_eq_true rfl⟩) hK hP [0, 1, 2, 3, 4, 5, 6, 7, 8, 9, 10, 11, 12, 13, 14, 15, 16] rfl 0 5 rfl rfl rfl rfl hl.1 rfl (Nat.le_of_ble_eq_true rfl) dX5_period_26 ⟨Nat.le_refl _, Nat.le_refl _⟩ (fun _ => ?_)
      refine lv_iconst (v := (-1)) hx hb dX5_period_29 (by decide) ?_
      refine lv_ixor hx hb dX5_period_30 ?_
      refine lv_iand hx hb dX5_period_31 ?_
      refine lv_if_ne (tgt := 39) hx hb dX5_period_32 (by decide) (fun c7 => ?_) (fun c7 => ?_)
      · replace h := ite_f c7 h
        refine lv_iconst (v := 2) hx hb dX5_period_39 (by decide) ?_
        exact J2 2 H locs ls h hl hP hD hS
      · replace h := ite_t c7 h
        refine lv_iconst (v := 0) hx hb dX5_period_35 (by decide) ?_
        refine lv_goto (tgt := 40) hx hb dX5_period_36 (by decide) ?_
        exact J2 0 H locs ls h hl hP hD hS
    · replace h := ite_t c5 h
      refine lv_iconst (v := 1) hx hb dX5_period_20 (by decide) ?_
      refine lv_goto (tgt := 40) hx hb dX5_period_21 (by decide) ?_
      exact J2 1 H locs ls h hl hP hD hS
theorem fw_X5_layBeat_X5 : ∀ w ∈ wsX50, w ∈ wsX5_layBeat := fun w h => List.mem_cons_of_mem _ (List.mem_append_right _ h)
theorem lk_X5_layBeat_f89 : Cond.fieldLink RX5 89 "HalftoneScreensModel" "w" "I" ∈ wsX5_layBeat := List.mem_of_getElem? (i := 1) rfl
theorem lk_X5_layBeat_f92 : Cond.fieldLink RX5 92 "HalftoneScreensModel" "s" "I" ∈ wsX5_layBeat := List.mem_of_getElem? (i := 2) rfl
theorem lk_X5_layBeat_f82 : Cond.fieldLink RX5 82 "HalftoneScreensModel" "h" "I" ∈ wsX5_layBeat := List.mem_of_getElem? (i := 3) rfl
abbrev rmX5_layBeat : Room := { frames := 4, cells := 0, slots := 0, locals := 91 }
set_option maxHeartbeats 4000000 in
set_option maxRecDepth 100000 in
theorem ctX5_layBeat (l : Launch) (G : GG) (v_q0 : Nat) (v_q1 : Nat) (v_q2 : Nat) (v_q3 : Nat) (v_q4 : Nat) (v_q5 : Nat) (v_q6 : Nat) (v_q7 : Nat) (v_q8 : Nat) (v_q9 : Nat) (v_q10 : Nat) (v_q11 : Nat) (v_q12 : Nat) (v_q13 : Nat) (v_q14 : Nat) (v_q15 : Nat) (v_q16 : Nat) (v_thrown : Int32) (v_gain : Int32) (v_size : Int32) (v_w : Int32) (v_s : Int32) (v_h : Int32) (v_laidArea : Int32) (v_parts : Int32) (v_isMinus : Int32) (v_readSpot : Int32) (v_isStar : Int32) (v_wantsNumber : Int32) (v_waiting : Int32) (v_shiftX : Int32) (v_shiftY : Int32) (v_times : Int32) (v_dotsLaid : Int32) (v_joinedLaid : Int32) (v_hash : Int64) (v_isThereA : (Nat → Int32)) (v_vA : (Nat → Int32)) (v_spotOfA : (Nat → Int32)) (v_inMiddleA : (Nat → Int32)) (v_tintsA : (Nat → Int32)) (v_bufferA : (Nat → Int32)) (v_valuesA : (Nat → Int32)) (v_ranksA : (Nat → Int32)) (v_oldRanksA : (Nat → Int32)) (v_partA : (Nat → Int32)) (v_allRanksA : (Nat → Int32)) (v_basesA : (Nat → Int32)) (v_isMetA : (Nat → Int32)) (v_metXA : (Nat → Int32)) (v_metYA : (Nat → Int32)) (v_lineA : (Nat → Int32)) (a0 : Int32) (a1 : Int32) (o0 : Int32) (o1 : Int32) (o2 : Int32) (h : mX5_layBeat v_vA a0 a1 = some (o0, o1, o2))  : Met l yX5_layBeat wsX5_layBeat rmX5_layBeat (va_Pc [.ref v_q0, .int a0, .int a1] (PreD G (wdX5 G v_q0 v_q1 v_q2 v_q3 v_q4 v_q5 v_q6 v_q7 v_q8 v_q9 v_q10 v_q11 v_q12 v_q13 v_q14 v_q15 v_q16 v_thrown v_gain v_size v_w v_s v_h v_laidArea v_parts v_isMinus v_readSpot v_isStar v_wantsNumber v_waiting v_shiftX v_shiftY v_times v_dotsLaid v_joinedLaid v_hash v_isThereA v_vA v_spotOfA v_inMiddleA v_tintsA v_bufferA v_valuesA v_ranksA v_oldRanksA v_partA v_allRanksA v_basesA v_isMetA v_metXA v_metYA v_lineA) (fun _ => True))) (QwA G (va_A0 (wdX5 G v_q0 v_q1 v_q2 v_q3 v_q4 v_q5 v_q6 v_q7 v_q8 v_q9 v_q10 v_q11 v_q12 v_q13 v_q14 v_q15 v_q16 v_thrown v_gain v_size v_w v_s v_h v_laidArea v_parts v_isMinus v_readSpot v_isStar v_wantsNumber v_waiting v_shiftX v_shiftY v_times v_dotsLaid v_joinedLaid v_hash v_isThereA v_vA v_spotOfA v_inMiddleA v_tintsA v_bufferA v_valuesA v_ranksA v_oldRanksA v_partA v_allRanksA v_basesA v_isMetA v_metXA v_metYA v_lineA)) (wdX5 G v_q0 v_q1 v_q2 v_q3 v_q4 v_q5 v_q6 v_q7 v_q8 v_q9 v_q10 v_q11 v_q12 v_q13 v_q14 v_q15 v_q16 v_thrown v_gain v_size o0 o1 o2 v_laidArea v_parts v_isMinus v_readSpot v_isStar v_wantsNumber v_waiting v_shiftX v_shiftY v_times v_dotsLaid v_joinedLaid v_hash v_isThereA v_vA v_spotOfA v_inMiddleA v_tintsA v_bufferA v_valuesA v_ranksA v_oldRanksA v_partA v_allRanksA v_basesA v_isMetA v_metXA v_metYA v_lineA) none True) 0 0 (va_A0 (wdX5 G v_q0 v_q1 v_q2 v_q3 v_q4 v_q5 v_q6 v_q7 v_q8 v_q9 v_q10 v_q11 v_q12 v_q13 v_q14 v_q15 v_q16 v_thrown v_gain v_size v_w v_s v_h v_laidArea v_parts v_isMinus v_readSpot v_isStar v_wantsNumber v_waiting v_shiftX v_shiftY v_times v_dotsLaid v_joinedLaid v_hash v_isThereA v_vA v_spotOfA v_inMiddleA v_tintsA v_bufferA v_valuesA v_ranksA v_oldRanksA v_partA v_allRanksA v_basesA v_isMetA v_metXA v_metYA v_lineA)) := by
  refine of_wv (cc := cX5_layBeat) (maxL := 10) (plainFor_of_name (by decide)) rfl (Nat.le_of_ble_eq_true rfl) ?_
  intro p e s m args below meth c ls Q A S hl hP hD hS hK hX hA hret
  obtain ⟨H, hH⟩ : ∃ H, H = s.heap := ⟨_, rfl⟩
  obtain ⟨locs, hlocs⟩ : ∃ L : List Loc, L = [] := ⟨_, rfl⟩
  rw [← hlocs]
  rw [← hlocs] at hS
  have hP : va_P G.1 vwCl (wdX5 G v_q0 v_q1 v_q2 v_q3 v_q4 v_q5 v_q6 v_q7 v_q8 v_q9 v_q10 v_q11 v_q12 v_q13 v_q14 v_q15 v_q16 v_thrown v_gain v_size v_w v_s v_h v_laidArea v_parts v_isMinus v_readSpot v_isStar v_wantsNumber v_waiting v_shiftX v_shiftY v_times v_dotsLaid v_joinedLaid v_hash v_isThereA v_vA v_spotOfA v_inMiddleA v_tintsA v_bufferA v_valuesA v_ranksA v_oldRanksA v_partA v_allRanksA v_basesA v_isMetA v_metXA v_metYA v_lineA) H := by rw [hH]; exact hP
  have hS : va_S A s.heap H locs := by rw [hH]; exact hS
  suffices hgo : W p l e rmX5_layBeat s m args below meth c H locs 0 0 Q (F0 m 0 ls []) by rw [hH] at hgo; exact hgo
  have S : CallFix p m c cX5_layBeat 10 s args wsX5_layBeat RX5 := S
  obtain ⟨hx, hb, hml, hown, hts⟩ := id S
  have hl : lv_has ls 10 [(0, .ref v_q0), (1, .int a0), (2, .int a1)] := hl
  unfold mX5_layBeat at h
  refine lv_aload_n hx hb dX5_layBeat_0 rfl (lv_at hl 0 rfl) ?_
  refine lv_iload_n hx hb dX5_layBeat_1 rfl (lv_at hl 1 rfl) ?_
  obtain ⟨r1_0, r1_1, r1_2, g1, h⟩ := bnd3_e h
  refine rwV_same (rest := []) (As := [.int a0]) S (ctX5_layScreen l G v_q0 v_q1 v_q2 v_q3 v_q4 v_q5 v_q6 v_q7 v_q8 v_q9 v_q10 v_q11 v_q12 v_q13 v_q14 v_q15 v_q16 v_thrown v_gain v_size v_w v_s v_h v_laidArea v_parts v_isMinus v_readSpot v_isStar v_wantsNumber v_waiting v_shiftX v_shiftY v_times v_dotsLaid v_joinedLaid v_hash v_isThereA v_vA v_spotOfA v_inMiddleA v_tintsA v_bufferA v_valuesA v_ranksA v_oldRanksA v_partA v_allRanksA v_basesA v_isMetA v_metXA v_metYA v_lineA a0 r1_0 r1_1 r1_2 g1) (cwV 1 hts gX5_layBeat_X5_layScreen rfl rfl rfl hvX5_layScreen ⟨Nat.le_of_ble_eq_true rfl, Nat.le_of_ble_eq_true rfl⟩) hK hP hD hS xb_triv (fun _ _ _ => trivial) 0 5 rfl rfl rfl rfl hl.1 rfl (Nat.le_of_ble_eq_true rfl) dX5_layBeat_2 ⟨Nat.le_refl _, Nat.le_refl _⟩ (fun _ H locs hP hD hS => ?_)
  have hP : va_P G.1 vwCl (wdX5 G v_q0 v_q1 v_q2 v_q3 v_q4 v_q5 v_q6 v_q7 v_q8 v_q9 v_q10 v_q11 v_q12 v_q13 v_q14 v_q15 v_q16 v_thrown v_gain v_size r1_0 r1_1 r1_2 v_laidArea v_parts v_isMinus v_readSpot v_isStar v_wantsNumber v_waiting v_shiftX v_shiftY v_times v_dotsLaid v_joinedLaid v_hash v_isThereA v_vA v_spotOfA v_inMiddleA v_tintsA v_bufferA v_valuesA v_ranksA v_oldRanksA v_partA v_allRanksA v_basesA v_isMetA v_metXA v_metYA v_lineA) H := hP
  have hD : va_D A (wdX5 G v_q0 v_q1 v_q2 v_q3 v_q4 v_q5 v_q6 v_q7 v_q8 v_q9 v_q10 v_q11 v_q12 v_q13 v_q14 v_q15 v_q16 v_thrown v_gain v_size r1_0 r1_1 r1_2 v_laidArea v_parts v_isMinus v_readSpot v_isStar v_wantsNumber v_waiting v_shiftX v_shiftY v_times v_dotsLaid v_joinedLaid v_hash v_isThereA v_vA v_spotOfA v_inMiddleA v_tintsA v_bufferA v_valuesA v_ranksA v_oldRanksA v_partA v_allRanksA v_basesA v_isMetA v_metXA v_metYA v_lineA) := hD
  refine lv_aload_n hx hb dX5_layBeat_5 rfl (lv_at hl 0 rfl) ?_
  refine va_get (D := G.1) (ci := 5) (v := .int r1_0) (C := RX5) (T := TX5) (N := 35) hx hb hts fw_X5_layBeat_X5 hown hK.1 hP 0 rfl rfl 9 (by decide) (hts (.fieldLink RX5 89 "HalftoneScreensModel" "w" "I") lk_X5_layBeat_f89) (fun _ h9 => h9) rfl dX5_layBeat_6 ?_
  refine lv_istore_n (lv' := [(3, .int r1_0), (0, .ref v_q0), (1, .int a0), (2, .int a1)]) hx hb dX5_layBeat_9 rfl hl (by decide) rfl (fun ls hl => ?_)
  refine lv_aload_n hx hb dX5_layBeat_10 rfl (lv_at hl 1 rfl) ?_
  refine va_get (D := G.1) (ci := 5) (v := .int r1_1) (C := RX5) (T := TX5) (N := 35) hx hb hts fw_X5_layBeat_X5 hown hK.1 hP 0 rfl rfl 10 (by decide) (hts (.fieldLink RX5 92 "HalftoneScreensModel" "s" "I") lk_X5_layBeat_f92) (fun _ h9 => h9) rfl dX5_layBeat_11 ?_
  refine lv_istore (lv' := [(4, .int r1_1), (3, .int r1_0), (0, .ref v_q0), (1, .int a0), (2, .int a1)]) hx hb dX5_layBeat_14 hl (by decide) rfl (fun ls hl => ?_)
  refine lv_aload_n hx hb dX5_layBeat_16 rfl (lv_at hl 2 rfl) ?_
  refine va_get (D := G.1) (ci := 5) (v := .int r1_2) (C := RX5) (T := TX5) (N := 35) hx hb hts fw_X5_layBeat_X5 hown hK.1 hP 0 rfl rfl 11 (by decide) (hts (.fieldLink RX5 82 "HalftoneScreensModel" "h" "I") lk_X5_layBeat_f82) (fun _ h9 => h9) rfl dX5_layBeat_17 ?_
  refine lv_istore (lv' := [(5, .int r1_2), (4, .int r1_1), (3, .int r1_0), (0, .ref v_q0), (1, .int a0), (2, .int a1)]) hx hb dX5_layBeat_20 hl (by decide) rfl (fun ls hl => ?_)
  refine lv_aload_n hx hb dX5_layBeat_22 rfl (lv_at hl 3 rfl) ?_
  refine lv_iload_n hx hb dX5_layBeat_23 rfl (lv_at hl 5 rfl) ?_
  obtain ⟨r2_0, r2_1, r2_2, g2, h⟩ := bnd3_e h
  refine rwV_same (rest := []) (As := [.int a1]) S (ctX5_layScreen l G v_q0 v_q1 v_q2 v_q3 v_q4 v_q5 v_q6 v_q7 v_q8 v_q9 v_q10 v_q11 v_q12 v_q13 v_q14 v_q15 v_q16 v_thrown v_gain v_size r1_0 r1_1 r1_2 v_laidArea v_parts v_isMinus v_readSpot v_isStar v_wantsNumber v_waiting v_shiftX v_shiftY v_times v_dotsLaid v_joinedLaid v_hash v_isThereA v_vA v_spotOfA v_inMiddleA v_tintsA v_bufferA v_valuesA v_ranksA v_oldRanksA v_partA v_allRanksA v_basesA v_isMetA v_metXA v_metYA v_lineA a1 r2_0 r2_1 r2_2 g2) (cwV 1 hts gX5_layBeat_X5_layScreen rfl rfl rfl hvX5_layScreen ⟨Nat.le_of_ble_eq_true rfl, Nat.le_of_ble_eq_true rfl⟩) hK hP hD hS xb_triv (fun _ _ _ => trivial) 0 5 rfl rfl rfl rfl hl.1 rfl (Nat.le_of_ble_eq_true rfl) dX5_layBeat_24 ⟨Nat.le_refl _, Nat.le_refl _⟩ (fun _ H locs hP hD hS => ?_)
  have hP : va_P G.1 vwCl (wdX5 G v_q0 v_q1 v_q2 v_q3 v_q4 v_q5 v_q6 v_q7 v_q8 v_q9 v_q10 v_q11 v_q12 v_q13 v_q14 v_q15 v_q16 v_thrown v_gain v_size r2_0 r2_1 r2_2 v_laidArea v_parts v_isMinus v_readSpot v_isStar v_wantsNumber v_waiting v_shiftX v_shiftY v_times v_dotsLaid v_joinedLaid v_hash v_isThereA v_vA v_spotOfA v_inMiddleA v_tintsA v_bufferA v_valuesA v_ranksA v_oldRanksA v_partA v_allRanksA v_basesA v_isMetA v_metXA v_metYA v_lineA) H := hP
  have hD : va_D A (wdX5 G v_q0 v_q1 v_q2 v_q3 v_q4 v_q5 v_q6 v_q7 v_q8 v_q9 v_q10 v_q11 v_q12 v_q13 v_q14 v_q15 v_q16 v_thrown v_gain v_size r2_0 r2_1 r2_2 v_laidArea v_parts v_isMinus v_readSpot v_isStar v_wantsNumber v_waiting v_shiftX v_shiftY v_times v_dotsLaid v_joinedLaid v_hash v_isThereA v_vA v_spotOfA v_inMiddleA v_tintsA v_bufferA v_valuesA v_ranksA v_oldRanksA v_partA v_allRanksA v_basesA v_isMetA v_metXA v_metYA v_lineA) := hD
  refine lv_iload hx hb dX5_layBeat_27 (lv_at hl 0 rfl) ?_
  refine lv_aload_n hx hb dX5_layBeat_29 rfl (lv_at hl 3 rfl) ?_
  refine va_get (D := G.1) (ci := 5) (v := .int r2_2) (C := RX5) (T := TX5) (N := 35) hx hb hts fw_X5_layBeat_X5 hown hK.1 hP 0 rfl rfl 11 (by decide) (hts (.fieldLink RX5 82 "HalftoneScreensModel" "h" "I") lk_X5_layBeat_f82) (fun _ h9 => h9) rfl dX5_layBeat_30 ?_
  obtain ⟨r3_0, g3, h⟩ := bnd1_e h
  refine roSi1 (rest := []) (As := [.int r1_2, .int r2_2]) S (ctX5_gcd l G r1_2 r2_2 r3_0 g3) (va_cwS 2 hts gX5_layBeat_X5_gcd rfl rfl rfl hsX5_gcd ⟨Nat.le_of_ble_eq_true rfl, Nat.le_of_ble_eq_true rfl⟩) hK hP [] rfl rfl hl.1 rfl (Nat.le_of_ble_eq_true rfl) dX5_layBeat_33 ⟨Nat.le_refl _, Nat.le_refl _⟩ (fun _ => ?_)
  refine lv_istore (lv' := [(6, .int r3_0), (5, .int r1_2), (4, .int r1_1), (3, .int r1_0), (0, .ref v_q0), (1, .int a0), (2, .int a1)]) hx hb dX5_layBeat_36 hl (by decide) rfl (fun ls hl => ?_)
  refine lv_iconst (v := 0) hx hb dX5_layBeat_38 (by decide) ?_
  refine lv_istore (lv' := [(7, .int 0), (6, .int r3_0), (5, .int r1_2), (4, .int r1_1), (3, .int r1_0), (0, .ref v_q0), (1, .int a0), (2, .int a1)]) hx hb dX5_layBeat_39 hl (by decide) rfl (fun ls hl => ?_)
  obtain ⟨u4_0, g4, h⟩ := bnd1_e h
  have L4 : ∀ (fu : Nat) (v4_0 : Int32) (u4_0 : Int32) (H : Heap) (locs : List Loc) (ls : Array Slot), mX5_layBeat_L41 r1_2 r2_2 r3_0 fu v4_0 = some (u4_0) → lv_has ls 10 [(7, .int v4_0), (6, .int r3_0), (5, .int r1_2), (4, .int r1_1), (3, .int r1_0), (0, .ref v_q0), (1, .int a0), (2, .int a1)] → va_P G.1 vwCl (wdX5 G v_q0 v_q1 v_q2 v_q3 v_q4 v_q5 v_q6 v_q7 v_q8 v_q9 v_q10 v_q11 v_q12 v_q13 v_q14 v_q15 v_q16 v_thrown v_gain v_size r2_0 r2_1 r2_2 v_laidArea v_parts v_isMinus v_readSpot v_isStar v_wantsNumber v_waiting v_shiftX v_shiftY v_times v_dotsLaid v_joinedLaid v_hash v_isThereA v_vA v_spotOfA v_inMiddleA v_tintsA v_bufferA v_valuesA v_ranksA v_oldRanksA v_partA v_allRanksA v_basesA v_isMetA v_metXA v_metYA v_lineA) H → va_D A (wdX5 G v_q0 v_q1 v_q2 v_q3 v_q4 v_q5 v_q6 v_q7 v_q8 v_q9 v_q10 v_q11 v_q12 v_q13 v_q14 v_q15 v_q16 v_thrown v_gain v_size r2_0 r2_1 r2_2 v_laidArea v_parts v_isMinus v_readSpot v_isStar v_wantsNumber v_waiting v_shiftX v_shiftY v_times v_dotsLaid v_joinedLaid v_hash v_isThereA v_vA v_spotOfA v_inMiddleA v_tintsA v_bufferA v_valuesA v_ranksA v_oldRanksA v_partA v_allRanksA v_basesA v_isMetA v_metXA v_metYA v_lineA) → va_S A s.heap H locs → (∀ (H : Heap) (locs : List Loc) (ls : Array Slot), lv_has ls 10 [(7, .int u4_0), (6, .int r3_0), (5, .int r1_2), (4, .int r1_1), (3, .int r1_0), (0, .ref v_q0), (1, .int a0), (2, .int a1)] → va_P G.1 vwCl (wdX5 G v_q0 v_q1 v_q2 v_q3 v_q4 v_q5 v_q6 v_q7 v_q8 v_q9 v_q10 v_q11 v_q12 v_q13 v_q14 v_q15 v_q16 v_thrown v_gain v_size r2_0 r2_1 r2_2 v_laidArea v_parts v_isMinus v_readSpot v_isStar v_wantsNumber v_waiting v_shiftX v_shiftY v_times v_dotsLaid v_joinedLaid v_hash v_isThereA v_vA v_spotOfA v_inMiddleA v_tintsA v_bufferA v_valuesA v_ranksA v_oldRanksA v_partA v_allRanksA v_basesA v_isMetA v_metXA v_metYA v_lineA) H → va_D A (wdX5 G v_q0 v_q1 v_q2 v_q3 v_q4 v_q5 v_q6 v_q7 v_q8 v_q9 v_q10 v_q11 v_q12 v_q13 v_q14 v_q15 v_q16 v_thrown v_gain v_size r2_0 r2_1 r2_2 v_laidArea v_parts v_isMinus v_readSpot v_isStar v_wantsNumber v_waiting v_shiftX v_shiftY v_times v_dotsLaid v_joinedLaid v_hash v_isThereA v_vA v_spotOfA v_inMiddleA v_tintsA v_bufferA v_valuesA v_ranksA v_oldRanksA v_partA v_allRanksA v_basesA v_isMetA v_metXA v_metYA v_lineA) → va_S A s.heap H locs → W p l e rmX5_layBeat s m args below meth c H locs 0 0 Q (F0 m 63 ls [])) → W p l e rmX5_layBeat s m args below meth c H locs 0 0 Q (F0 m 41 ls []) := by
    intro fu
    induction fu with
    | zero => intro v4_0 u4_0 H locs ls h; exact nomatch h
    | succ fu ih =>
      intro v4_0 u4_0 H locs ls h hl hP hD hS kE
      rw [mX5_layBeat_L41] at h
      refine lv_iload hx hb dX5_layBeat_41 (lv_at hl 1 rfl) ?_
      refine lv_iload hx hb dX5_layBeat_43 (lv_at hl 0 rfl) ?_
      refine lv_iload hx hb dX5_layBeat_45 (lv_at hl 2 rfl) ?_
      refine lv_imul hx hb dX5_layBeat_47 ?_
      refine lv_isub hx hb dX5_layBeat_48 ?_
      refine lv_aload_n hx hb dX5_layBeat_49 rfl (lv_at hl 5 rfl) ?_
      refine va_get (D := G.1) (ci := 5) (v := .int r2_2) (C := RX5) (T := TX5) (N := 35) hx hb hts fw_X5_layBeat_X5 hown hK.1 hP 0 rfl rfl 11 (by decide) (hts (.fieldLink RX5 82 "HalftoneScreensModel" "h" "I") lk_X5_layBeat_f82) (fun _ h9 => h9) rfl dX5_layBeat_50 ?_
      obtain ⟨z5, h⟩ := gz_e h
      refine lv_irem hx hb dX5_layBeat_53 z5 ?_
      refine lv_if_eq (tgt := 63) hx hb dX5_layBeat_54 (by decide) (fun c6 => ?_) (fun c6 => ?_)
      · replace h := ite_t c6 h
        obtain rfl := sm1 h
        exact kE H locs ls hl hP hD hS
      · replace h := ite_f c6 h
        obtain ⟨x7, e7⟩ : ∃ y : Int32, y = v4_0 + 1 := ⟨_, rfl⟩
        replace h := nmB_e e7 h
        refine lv_iinc (v := x7) (lv' := [(7, .int x7), (6, .int r3_0), (5, .int r1_2), (4, .int r1_1), (3, .int r1_0), (0, .ref v_q0), (1, .int a0), (2, .int a1)]) hx hb dX5_layBeat_57 hl (k := 0) rfl (by rw [e7]; rfl) (by decide) rfl (fun ls hl => ?_)
        refine lv_goto (tgt := 41) hx hb dX5_layBeat_60 (by decide) ?_
        exact ih x7 u4_0 H locs ls h hl hP hD hS kE
  refine L4 FU 0 u4_0 H locs ls g4 hl hP hD hS (fun H locs ls hl hP hD hS => ?_)
  refine lv_iload hx hb dX5_layBeat_63 (lv_at hl 0 rfl) ?_
  refine lv_iload hx hb dX5_layBeat_65 (lv_at hl 3 rfl) ?_
  refine lv_imul hx hb dX5_layBeat_67 ?_
  refine lv_iload hx hb dX5_layBeat_68 (lv_at hl 1 rfl) ?_
  refine lv_iload hx hb dX5_layBeat_70 (lv_at hl 0 rfl) ?_
  refine lv_iload hx hb dX5_layBeat_72 (lv_at hl 2 rfl) ?_
  refine lv_imul hx hb dX5_layBeat_74 ?_
  refine lv_isub hx hb dX5_layBeat_75 ?_
  refine lv_aload_n hx hb dX5_layBeat_76 rfl (lv_at hl 5 rfl) ?_
  refine va_get (D := G.1) (ci := 5) (v := .int r2_2) (C := RX5) (T := TX5) (N := 35) hx hb hts fw_X5_layBeat_X5 hown hK.1 hP 0 rfl rfl 11 (by decide) (hts (.fieldLink RX5 82 "HalftoneScreensModel" "h" "I") lk_X5_layBeat_f82) (fun _ h9 => h9) rfl dX5_layBeat_77 ?_
  obtain ⟨z8, h⟩ := gz_e h
  refine lv_idiv hx hb dX5_layBeat_80 z8 ?_
  refine lv_aload_n hx hb dX5_layBeat_81 rfl (lv_at hl 5 rfl) ?_
  refine va_get (D := G.1) (ci := 5) (v := .int r2_1) (C := RX5) (T := TX5) (N := 35) hx hb hts fw_X5_layBeat_X5 hown hK.1 hP 0 rfl rfl 10 (by decide) (hts (.fieldLink RX5 92 "HalftoneScreensModel" "s" "I") lk_X5_layBeat_f92) (fun _ h9 => h9) rfl dX5_layBeat_82 ?_
  refine lv_imul hx hb dX5_layBeat_85 ?_
  refine lv_iadd hx hb dX5_layBeat_86 ?_
  refine lv_topi (fun x9 e9 => ?_)
  replace h := nmB_e e9 h
  refine lv_istore (lv' := [(8, .int x9), (7, .int u4_0), (6, .int r3_0), (5, .int r1_2), (4, .int r1_1), (3, .int r1_0), (0, .ref v_q0), (1, .int a0), (2, .int a1)]) hx hb dX5_layBeat_87 hl (by decide) rfl (fun ls hl => ?_)
  refine lv_iload_n hx hb dX5_layBeat_89 rfl (lv_at hl 5 rfl) ?_
  refine lv_aload_n hx hb dX5_layBeat_90 rfl (lv_at hl 6 rfl) ?_
  refine va_get (D := G.1) (ci := 5) (v := .int r2_0) (C := RX5) (T := TX5) (N := 35) hx hb hts fw_X5_layBeat_X5 hown hK.1 hP 0 rfl rfl 9 (by decide) (hts (.fieldLink RX5 89 "HalftoneScreensModel" "w" "I") lk_X5_layBeat_f89) (fun _ h9 => h9) rfl dX5_layBeat_91 ?_
  obtain ⟨r10_0, g10, h⟩ := bnd1_e h
  refine roSi1 (rest := []) (As := [.int r1_0, .int r2_0]) S (ctX5_gcd l G r1_0 r2_0 r10_0 g10) (va_cwS 2 hts gX5_layBeat_X5_gcd rfl rfl rfl hsX5_gcd ⟨Nat.le_of_ble_eq_true rfl, Nat.le_of_ble_eq_true rfl⟩) hK hP [] rfl rfl hl.1 rfl (Nat.le_of_ble_eq_true rfl) dX5_layBeat_94 ⟨Nat.le_refl _, Nat.le_refl _⟩ (fun _ => ?_)
  refine lv_iload hx hb dX5_layBeat_97 (lv_at hl 3 rfl) ?_
  refine lv_iload hx hb dX5_layBeat_99 (lv_at hl 2 rfl) ?_
  obtain ⟨z11, h⟩ := gz_e h
  refine lv_idiv hx hb dX5_layBeat_101 z11 ?_
  refine lv_iload hx hb dX5_layBeat_102 (lv_at hl 0 rfl) ?_
  refine lv_imul hx hb dX5_layBeat_104 ?_
  refine lv_iload hx hb dX5_layBeat_105 (lv_at hl 4 rfl) ?_
  refine lv_isub hx hb dX5_layBeat_107 ?_
  refine lv_aload_n hx hb dX5_layBeat_108 rfl (lv_at hl 6 rfl) ?_
  refine va_get (D := G.1) (ci := 5) (v := .int r2_2) (C := RX5) (T := TX5) (N := 35) hx hb hts fw_X5_layBeat_X5 hown hK.1 hP 0 rfl rfl 11 (by decide) (hts (.fieldLink RX5 82 "HalftoneScreensModel" "h" "I") lk_X5_layBeat_f82) (fun _ h9 => h9) rfl dX5_layBeat_109 ?_
  refine lv_iload hx hb dX5_layBeat_112 (lv_at hl 2 rfl) ?_
  obtain ⟨z12, h⟩ := gz_e h
  refine lv_idiv hx hb dX5_layBeat_114 z12 ?_
  refine lv_iload hx hb dX5_layBeat_115 (lv_at hl 0 rfl) ?_
  refine lv_imul hx hb dX5_layBeat_117 ?_
  refine lv_aload_n hx hb dX5_layBeat_118 rfl (lv_at hl 6 rfl) ?_
  refine va_get (D := G.1) (ci := 5) (v := .int r2_1) (C := RX5) (T := TX5) (N := 35) hx hb hts fw_X5_layBeat_X5 hown hK.1 hP 0 rfl rfl 10 (by decide) (hts (.fieldLink RX5 92 "HalftoneScreensModel" "s" "I") lk_X5_layBeat_f92) (fun _ h9 => h9) rfl dX5_layBeat_119 ?_
  refine lv_isub hx hb dX5_layBeat_122 ?_
  obtain ⟨r13_0, g13, h⟩ := bnd1_e h
  refine roSi1 (rest := [.int r10_0]) (As := [.int (((r1_2 / r3_0) * x9) - r1_1), .int (((r2_2 / r3_0) * x9) - r2_1)]) S (ctX5_gcd l G (((r1_2 / r3_0) * x9) - r1_1) (((r2_2 / r3_0) * x9) - r2_1) r13_0 g13) (va_cwS 2 hts gX5_layBeat_X5_gcd rfl rfl rfl hsX5_gcd ⟨Nat.le_of_ble_eq_true rfl, Nat.le_of_ble_eq_true rfl⟩) hK hP [] rfl rfl hl.1 rfl (Nat.le_of_ble_eq_true rfl) dX5_layBeat_123 ⟨Nat.le_refl _, Nat.le_refl _⟩ (fun _ => ?_)
  obtain ⟨r14_0, g14, h⟩ := bnd1_e h
  refine roSi1 (rest := []) (As := [.int r10_0, .int r13_0]) S (ctX5_gcd l G r10_0 r13_0 r14_0 g14) (va_cwS 2 hts gX5_layBeat_X5_gcd rfl rfl rfl hsX5_gcd ⟨Nat.le_of_ble_eq_true rfl, Nat.le_of_ble_eq_true rfl⟩) hK hP [] rfl rfl hl.1 rfl (Nat.le_of_ble_eq_true rfl) dX5_layBeat_126 ⟨Nat.le_refl _, Nat.le_refl _⟩ (fun _ => ?_)
  refine lv_istore (lv' := [(9, .int r14_0), (8, .int x9), (7, .int u4_0), (6, .int r3_0), (5, .int r1_2), (4, .int r1_1), (3, .int r1_0), (0, .ref v_q0), (1, .int a0), (2, .int a1)]) hx hb dX5_layBeat_129 hl (by decide) rfl (fun ls hl => ?_)
  refine lv_aload_n hx hb dX5_layBeat_131 rfl (lv_at hl 7 rfl) ?_
  refine lv_iload hx hb dX5_layBeat_132 (lv_at hl 0 rfl) ?_
  refine va_put (D := G.1) (ci := 5) (v := .int r14_0) (ty := .int) (C := RX5) (T := TX5) (N := 35) hx hb hts fw_X5_layBeat_X5 tyX5 tyX5_ok nmX5 hown hK.1 hP hD hS 0 rfl rfl 9 (by decide) (hts (.fieldLink RX5 89 "HalftoneScreensModel" "w" "I") lk_X5_layBeat_f89) (fun _ h9 => h9) rfl (tyX5_ok 9 (by decide)) rfl rfl (Nat.le_of_ble_eq_true rfl) dX5_layBeat_134 (fun H locs hP hD hS => ?_)
  have hP : va_P G.1 vwCl (wdX5 G v_q0 v_q1 v_q2 v_q3 v_q4 v_q5 v_q6 v_q7 v_q8 v_q9 v_q10 v_q11 v_q12 v_q13 v_q14 v_q15 v_q16 v_thrown v_gain v_size r14_0 r2_1 r2_2 v_laidArea v_parts v_isMinus v_readSpot v_isStar v_wantsNumber v_waiting v_shiftX v_shiftY v_times v_dotsLaid v_joinedLaid v_hash v_isThereA v_vA v_spotOfA v_inMiddleA v_tintsA v_bufferA v_valuesA v_ranksA v_oldRanksA v_partA v_allRanksA v_basesA v_isMetA v_metXA v_metYA v_lineA) H := hP
  have hD : va_D A (wdX5 G v_q0 v_q1 v_q2 v_q3 v_q4 v_q5 v_q6 v_q7 v_q8 v_q9 v_q10 v_q11 v_q12 v_q13 v_q14 v_q15 v_q16 v_thrown v_gain v_size r14_0 r2_1 r2_2 v_laidArea v_parts v_isMinus v_readSpot v_isStar v_wantsNumber v_waiting v_shiftX v_shiftY v_times v_dotsLaid v_joinedLaid v_hash v_isThereA v_vA v_spotOfA v_inMiddleA v_tintsA v_bufferA v_valuesA v_ranksA v_oldRanksA v_partA v_allRanksA v_basesA v_isMetA v_metXA v_metYA v_lineA) := hD
  refine lv_aload_n hx hb dX5_layBeat_137 rfl (lv_at hl 7 rfl) ?_
  refine lv_iload hx hb dX5_layBeat_138 (lv_at hl 3 rfl) ?_
  refine va_put (D := G.1) (ci := 5) (v := .int r3_0) (ty := .int) (C := RX5) (T := TX5) (N := 35) hx hb hts fw_X5_layBeat_X5 tyX5 tyX5_ok nmX5 hown hK.1 hP hD hS 0 rfl rfl 11 (by decide) (hts (.fieldLink RX5 82 "HalftoneScreensModel" "h" "I") lk_X5_layBeat_f82) (fun _ h9 => h9) rfl (tyX5_ok 11 (by decide)) rfl rfl (Nat.le_of_ble_eq_true rfl) dX5_layBeat_140 (fun H locs hP hD hS => ?_)
  have hP : va_P G.1 vwCl (wdX5 G v_q0 v_q1 v_q2 v_q3 v_q4 v_q5 v_q6 v_q7 v_q8 v_q9 v_q10 v_q11 v_q12 v_q13 v_q14 v_q15 v_q16 v_thrown v_gain v_size r14_0 r2_1 r3_0 v_laidArea v_parts v_isMinus v_readSpot v_isStar v_wantsNumber v_waiting v_shiftX v_shiftY v_times v_dotsLaid v_joinedLaid v_hash v_isThereA v_vA v_spotOfA v_inMiddleA v_tintsA v_bufferA v_valuesA v_ranksA v_oldRanksA v_partA v_allRanksA v_basesA v_isMetA v_metXA v_metYA v_lineA) H := hP
  have hD : va_D A (wdX5 G v_q0 v_q1 v_q2 v_q3 v_q4 v_q5 v_q6 v_q7 v_q8 v_q9 v_q10 v_q11 v_q12 v_q13 v_q14 v_q15 v_q16 v_thrown v_gain v_size r14_0 r2_1 r3_0 v_laidArea v_parts v_isMinus v_readSpot v_isStar v_wantsNumber v_waiting v_shiftX v_shiftY v_times v_dotsLaid v_joinedLaid v_hash v_isThereA v_vA v_spotOfA v_inMiddleA v_tintsA v_bufferA v_valuesA v_ranksA v_oldRanksA v_partA v_allRanksA v_basesA v_isMetA v_metXA v_metYA v_lineA) := hD
  refine lv_aload_n hx hb dX5_layBeat_143 rfl (lv_at hl 7 rfl) ?_
  refine lv_iload hx hb dX5_layBeat_144 (lv_at hl 1 rfl) ?_
  refine lv_iload hx hb dX5_layBeat_146 (lv_at hl 0 rfl) ?_
  obtain ⟨r15_0, g15, h⟩ := bnd1_e h
  refine roSi1 (rest := [.ref v_q0]) (As := [.int x9, .int r14_0]) S (ctX5_mod l G x9 r14_0 r15_0 g15) (va_cwS 2 hts gX5_layBeat_X5_mod rfl rfl rfl hsX5_mod ⟨Nat.le_of_ble_eq_true rfl, Nat.le_of_ble_eq_true rfl⟩) hK hP [] rfl rfl hl.1 rfl (Nat.le_of_ble_eq_true rfl) dX5_layBeat_148 ⟨Nat.le_refl _, Nat.le_refl _⟩ (fun _ => ?_)
  refine va_put (D := G.1) (ci := 5) (v := .int r15_0) (ty := .int) (C := RX5) (T := TX5) (N := 35) hx hb hts fw_X5_layBeat_X5 tyX5 tyX5_ok nmX5 hown hK.1 hP hD hS 0 rfl rfl 10 (by decide) (hts (.fieldLink RX5 92 "HalftoneScreensModel" "s" "I") lk_X5_layBeat_f92) (fun _ h9 => h9) rfl (tyX5_ok 10 (by decide)) rfl rfl (Nat.le_of_ble_eq_true rfl) dX5_layBeat_151 (fun H locs hP hD hS => ?_)
  have hP : va_P G.1 vwCl (wdX5 G v_q0 v_q1 v_q2 v_q3 v_q4 v_q5 v_q6 v_q7 v_q8 v_q9 v_q10 v_q11 v_q12 v_q13 v_q14 v_q15 v_q16 v_thrown v_gain v_size r14_0 r15_0 r3_0 v_laidArea v_parts v_isMinus v_readSpot v_isStar v_wantsNumber v_waiting v_shiftX v_shiftY v_times v_dotsLaid v_joinedLaid v_hash v_isThereA v_vA v_spotOfA v_inMiddleA v_tintsA v_bufferA v_valuesA v_ranksA v_oldRanksA v_partA v_allRanksA v_basesA v_isMetA v_metXA v_metYA v_lineA) H := hP
  have hD : va_D A (wdX5 G v_q0 v_q1 v_q2 v_q3 v_q4 v_q5 v_q6 v_q7 v_q8 v_q9 v_q10 v_q11 v_q12 v_q13 v_q14 v_q15 v_q16 v_thrown v_gain v_size r14_0 r15_0 r3_0 v_laidArea v_parts v_isMinus v_readSpot v_isStar v_wantsNumber v_waiting v_shiftX v_shiftY v_times v_dotsLaid v_joinedLaid v_hash v_isThereA v_vA v_spotOfA v_inMiddleA v_tintsA v_bufferA v_valuesA v_ranksA v_oldRanksA v_partA v_allRanksA v_basesA v_isMetA v_metXA v_metYA v_lineA) := hD
  obtain ⟨rfl, rfl, rfl⟩ := sm3 h
  exact hret _ _ _ _ trivial hP hD hS dX5_layBeat_154
theorem fw_X5_beat_X5 : ∀ w ∈ wsX50, w ∈ wsX5_beat := fun w h => List.mem_cons_of_mem _ (List.mem_append_right _ h)
theorem lk_X5_beat_f7 : Cond.fieldLink RX5 7 "HalftoneScreensModel" "isThere" "[Z" ∈ wsX5_beat := List.mem_of_getElem? (i := 1) rfl
theorem lk_X5_beat_f59 : Cond.fieldLink RX5 59 "HalftoneScreensModel" "thrown" "I" ∈ wsX5_beat := List.mem_of_getElem? (i := 2) rfl
theorem hsX5_layBeat : yX5_layBeat.cls ≠ "java/lang/invoke/MethodHandle" ∧ yX5_layBeat.cls ≠ "java/lang/invoke/VarHandle" ∧ (parseMethodDescriptor yX5_layBeat.desc).map (fun d => d.parameters.length) = some 2 := by decide +kernel
theorem hvX5_layBeat : yX5_layBeat.cls = RX5 ∧ yX5_layBeat.cls ≠ "java/lang/invoke/MethodHandle" ∧ yX5_layBeat.cls ≠ "java/lang/invoke/VarHandle" ∧ (parseMethodDescriptor yX5_layBeat.desc).map (fun d => d.parameters.length) = some 2 := ⟨rfl, hsX5_layBeat⟩
abbrev rmX5_beat : Room := { frames := 5, cells := 0, slots := 0, locals := 120 }
set_option maxHeartbeats 4000000 in
set_option maxRecDepth 100000 in
theorem ctX5_beat (l : Launch) (G : GG) (v_q0 : Nat) (v_q1 : Nat) (v_q2 : Nat) (v_q3 : Nat) (v_q4 : Nat) (v_q5 : Nat) (v_q6 : Nat) (v_q7 : Nat) (v_q8 : Nat) (v_q9 : Nat) (v_q10 : Nat) (v_q11 : Nat) (v_q12 : Nat) (v_q13 : Nat) (v_q14 : Nat) (v_q15 : Nat) (v_q16 : Nat) (v_thrown : Int32) (v_gain : Int32) (v_size : Int32) (v_w : Int32) (v_s : Int32) (v_h : Int32) (v_laidArea : Int32) (v_parts : Int32) (v_isMinus : Int32) (v_readSpot : Int32) (v_isStar : Int32) (v_wantsNumber : Int32) (v_waiting : Int32) (v_shiftX : Int32) (v_shiftY : Int32) (v_times : Int32) (v_dotsLaid : Int32) (v_joinedLaid : Int32) (v_hash : Int64) (v_isThereA : (Nat → Int32)) (v_vA : (Nat → Int32)) (v_spotOfA : (Nat → Int32)) (v_inMiddleA : (Nat → Int32)) (v_tintsA : (Nat → Int32)) (v_bufferA : (Nat → Int32)) (v_valuesA : (Nat → Int32)) (v_ranksA : (Nat → Int32)) (v_oldRanksA : (Nat → Int32)) (v_partA : (Nat → Int32)) (v_allRanksA : (Nat → Int32)) (v_basesA : (Nat → Int32)) (v_isMetA : (Nat → Int32)) (v_metXA : (Nat → Int32)) (v_metYA : (Nat → Int32)) (v_lineA : (Nat → Int32)) (a0 : Int32) (a1 : Int32) (a2 : Int32) (o0 : Int32) (o1 : Int32) (o2 : Int32) (o3 : Int32) (o4 : Int32) (h : mX5_beat v_w v_s v_h v_isThereA v_vA a0 a1 a2 = some (o0, o1, o2, o3, o4))  : Met l yX5_beat wsX5_beat rmX5_beat (va_Pc [.ref v_q0, .int a0, .int a1, .int a2] (PreD G (wdX5 G v_q0 v_q1 v_q2 v_q3 v_q4 v_q5 v_q6 v_q7 v_q8 v_q9 v_q10 v_q11 v_q12 v_q13 v_q14 v_q15 v_q16 v_thrown v_gain v_size v_w v_s v_h v_laidArea v_parts v_isMinus v_readSpot v_isStar v_wantsNumber v_waiting v_shiftX v_shiftY v_times v_dotsLaid v_joinedLaid v_hash v_isThereA v_vA v_spotOfA v_inMiddleA v_tintsA v_bufferA v_valuesA v_ranksA v_oldRanksA v_partA v_allRanksA v_basesA v_isMetA v_metXA v_metYA v_lineA) (fun _ => True))) (QwA G (va_A0 (wdX5 G v_q0 v_q1 v_q2 v_q3 v_q4 v_q5 v_q6 v_q7 v_q8 v_q9 v_q10 v_q11 v_q12 v_q13 v_q14 v_q15 v_q16 v_thrown v_gain v_size v_w v_s v_h v_laidArea v_parts v_isMinus v_readSpot v_isStar v_wantsNumber v_waiting v_shiftX v_shiftY v_times v_dotsLaid v_joinedLaid v_hash v_isThereA v_vA v_spotOfA v_inMiddleA v_tintsA v_bufferA v_valuesA v_ranksA v_oldRanksA v_partA v_allRanksA v_basesA v_isMetA v_metXA v_metYA v_lineA)) (wdX5 G v_q0 v_q1 v_q2 v_q3 v_q4 v_q5 v_q6 v_q7 v_q8 v_q9 v_q10 v_q11 v_q12 v_q13 v_q14 v_q15 v_q16 o1 v_gain v_size o2 o3 o4 v_laidArea v_parts v_isMinus v_readSpot v_isStar v_wantsNumber v_waiting v_shiftX v_shiftY v_times v_dotsLaid v_joinedLaid v_hash v_isThereA v_vA v_spotOfA v_inMiddleA v_tintsA v_bufferA v_valuesA v_ranksA v_oldRanksA v_partA v_allRanksA v_basesA v_isMetA v_metXA v_metYA v_lineA) (some (.int o0)) True) 0 0 (va_A0 (wdX5 G v_q0 v_q1 v_q2 v_q3 v_q4 v_q5 v_q6 v_q7 v_q8 v_q9 v_q10 v_q11 v_q12 v_q13 v_q14 v_q15 v_q16 v_thrown v_gain v_size v_w v_s v_h v_laidArea v_parts v_isMinus v_readSpot v_isStar v_wantsNumber v_waiting v_shiftX v_shiftY v_times v_dotsLaid v_joinedLaid v_hash v_isThereA v_vA v_spotOfA v_inMiddleA v_tintsA v_bufferA v_valuesA v_ranksA v_oldRanksA v_partA v_allRanksA v_basesA v_isMetA v_metXA v_metYA v_lineA)) := by
  refine of_wi (cc := cX5_beat) (maxL := 5) (ty := .int) (plainFor_of_name (by decide)) rfl (Nat.le_of_ble_eq_true rfl) ?_
  intro p e s m args below meth c ls Q A S hl hP hD hS hK hX hA hret
  obtain ⟨H, hH⟩ : ∃ H, H = s.heap := ⟨_, rfl⟩
  obtain ⟨locs, hlocs⟩ : ∃ L : List Loc, L = [] := ⟨_, rfl⟩
  rw [← hlocs]
  rw [← hlocs] at hS
  have hP : va_P G.1 vwCl (wdX5 G v_q0 v_q1 v_q2 v_q3 v_q4 v_q5 v_q6 v_q7 v_q8 v_q9 v_q10 v_q11 v_q12 v_q13 v_q14 v_q15 v_q16 v_thrown v_gain v_size v_w v_s v_h v_laidArea v_parts v_isMinus v_readSpot v_isStar v_wantsNumber v_waiting v_shiftX v_shiftY v_times v_dotsLaid v_joinedLaid v_hash v_isThereA v_vA v_spotOfA v_inMiddleA v_tintsA v_bufferA v_valuesA v_ranksA v_oldRanksA v_partA v_allRanksA v_basesA v_isMetA v_metXA v_metYA v_lineA) H := by rw [hH]; exact hP
  have hS : va_S A s.heap H locs := by rw [hH]; exact hS
  suffices hgo : W p l e rmX5_beat s m args below meth c H locs 0 0 Q (F0 m 0 ls []) by rw [hH] at hgo; exact hgo
  have S : CallFix p m c cX5_beat 5 s args wsX5_beat RX5 := S
  obtain ⟨hx, hb, hml, hown, hts⟩ := id S
  have hl : lv_has ls 5 [(0, .ref v_q0), (1, .int a0), (2, .int a1), (3, .int a2)] := hl
  unfold mX5_beat at h
  refine lv_iload_n hx hb dX5_beat_0 rfl (lv_at hl 1 rfl) ?_
  obtain ⟨r1_0, g1, h⟩ := bnd1_e h
  refine roSi1 (rest := []) (As := [.int a0]) S (ctX5_isSlot l G a0 r1_0 g1) (va_cwS 1 hts gX5_beat_X5_isSlot rfl rfl rfl hsX5_isSlot ⟨Nat.le_of_ble_eq_true rfl, Nat.le_of_ble_eq_true rfl⟩) hK hP [] rfl rfl hl.1 rfl (Nat.le_of_ble_eq_true rfl) dX5_beat_1 ⟨Nat.le_refl _, Nat.le_refl _⟩ (fun hz1 => ?_)
  obtain ⟨K2, hK2, h⟩ := jB1_e h
  have J2 : ∀ (j2_0 : Int32) (jz2_0 : isZ j2_0) (H : Heap) (locs : List Loc) (ls : Array Slot), K2 j2_0 = some (o0, o1, o2, o3, o4) → lv_has ls 5 [(0, .ref v_q0), (1, .int a0), (2, .int a1), (3, .int a2)] → va_P G.1 vwCl (wdX5 G v_q0 v_q1 v_q2 v_q3 v_q4 v_q5 v_q6 v_q7 v_q8 v_q9 v_q10 v_q11 v_q12 v_q13 v_q14 v_q15 v_q16 v_thrown v_gain v_size v_w v_s v_h v_laidArea v_parts v_isMinus v_readSpot v_isStar v_wantsNumber v_waiting v_shiftX v_shiftY v_times v_dotsLaid v_joinedLaid v_hash v_isThereA v_vA v_spotOfA v_inMiddleA v_tintsA v_bufferA v_valuesA v_ranksA v_oldRanksA v_partA v_allRanksA v_basesA v_isMetA v_metXA v_metYA v_lineA) H → va_D A (wdX5 G v_q0 v_q1 v_q2 v_q3 v_q4 v_q5 v_q6 v_q7 v_q8 v_q9 v_q10 v_q11 v_q12 v_q13 v_q14 v_q15 v_q16 v_thrown v_gain v_size v_w v_s v_h v_laidArea v_parts v_isMinus v_readSpot v_isStar v_wantsNumber v_waiting v_shiftX v_shiftY v_times v_dotsLaid v_joinedLaid v_hash v_isThereA v_vA v_spotOfA v_inMiddleA v_tintsA v_bufferA v_valuesA v_ranksA v_oldRanksA v_partA v_allRanksA v_basesA v_isMetA v_metXA v_metYA v_lineA) → va_S A s.heap H locs → W p l e rmX5_beat s m args below meth c H locs 0 0 Q (F0 m 19 ls [.int j2_0]) := by
    intro j2_0 jz2_0 H locs ls h hl hP hD hS
    replace h := (hK2 j2_0).symm.trans h
    refine lv_istore (lv' := [(4, .int j2_0), (0, .ref v_q0), (1, .int a0), (2, .int a1), (3, .int a2)]) hx hb dX5_beat_19 hl (by decide) rfl (fun ls hl => ?_)
    refine lv_aload_n hx hb dX5_beat_21 rfl (lv_at hl 1 rfl) ?_
    refine lv_iload hx hb dX5_beat_22 (lv_at hl 0 rfl) ?_
    obtain ⟨K6, hK6, h⟩ := jB1_e h
    have J6 : ∀ (j6_0 : Int32) (H : Heap) (locs : List Loc) (ls : Array Slot), K6 j6_0 = some (o0, o1, o2, o3, o4) → lv_has ls 5 [(4, .int j2_0), (0, .ref v_q0), (1, .int a0), (2, .int a1), (3, .int a2)] → va_P G.1 vwCl (wdX5 G v_q0 v_q1 v_q2 v_q3 v_q4 v_q5 v_q6 v_q7 v_q8 v_q9 v_q10 v_q11 v_q12 v_q13 v_q14 v_q15 v_q16 v_thrown v_gain v_size v_w v_s v_h v_laidArea v_parts v_isMinus v_readSpot v_isStar v_wantsNumber v_waiting v_shiftX v_shiftY v_times v_dotsLaid v_joinedLaid v_hash v_isThereA v_vA v_spotOfA v_inMiddleA v_tintsA v_bufferA v_valuesA v_ranksA v_oldRanksA v_partA v_allRanksA v_basesA v_isMetA v_metXA v_metYA v_lineA) H → va_D A (wdX5 G v_q0 v_q1 v_q2 v_q3 v_q4 v_q5 v_q6 v_q7 v_q8 v_q9 v_q10 v_q11 v_q12 v_q13 v_q14 v_q15 v_q16 v_thrown v_gain v_size v_w v_s v_h v_laidArea v_parts v_isMinus v_readSpot v_isStar v_wantsNumber v_waiting v_shiftX v_shiftY v_times v_dotsLaid v_joinedLaid v_hash v_isThereA v_vA v_spotOfA v_inMiddleA v_tintsA v_bufferA v_valuesA v_ranksA v_oldRanksA v_partA v_allRanksA v_basesA v_isMetA v_metXA v_metYA v_lineA) → va_S A s.heap H locs → W p l e rmX5_beat s m args below meth c H locs 0 0 Q (F0 m 67 ls [.int j6_0, .ref v_q0]) := by
      intro j6_0 H locs ls h hl hP hD hS
      replace h := (hK6 j6_0).symm.trans h
      refine va_put (D := G.1) (ci := 5) (v := .int j6_0) (ty := .int) (C := RX5) (T := TX5) (N := 35) hx hb hts fw_X5_beat_X5 tyX5 tyX5_ok nmX5 hown hK.1 hP hD hS 0 rfl rfl 0 (by decide) (hts (.fieldLink RX5 59 "HalftoneScreensModel" "thrown" "I") lk_X5_beat_f59) (fun _ h9 => h9) rfl (tyX5_ok 0 (by decide)) rfl rfl (Nat.le_of_ble_eq_true rfl) dX5_beat_67 (fun H locs hP hD hS => ?_)
      have hP : va_P G.1 vwCl (wdX5 G v_q0 v_q1 v_q2 v_q3 v_q4 v_q5 v_q6 v_q7 v_q8 v_q9 v_q10 v_q11 v_q12 v_q13 v_q14 v_q15 v_q16 j6_0 v_gain v_size v_w v_s v_h v_laidArea v_parts v_isMinus v_readSpot v_isStar v_wantsNumber v_waiting v_shiftX v_shiftY v_times v_dotsLaid v_joinedLaid v_hash v_isThereA v_vA v_spotOfA v_inMiddleA v_tintsA v_bufferA v_valuesA v_ranksA v_oldRanksA v_partA v_allRanksA v_basesA v_isMetA v_metXA v_metYA v_lineA) H := hP
      have hD : va_D A (wdX5 G v_q0 v_q1 v_q2 v_q3 v_q4 v_q5 v_q6 v_q7 v_q8 v_q9 v_q10 v_q11 v_q12 v_q13 v_q14 v_q15 v_q16 j6_0 v_gain v_size v_w v_s v_h v_laidArea v_parts v_isMinus v_readSpot v_isStar v_wantsNumber v_waiting v_shiftX v_shiftY v_times v_dotsLaid v_joinedLaid v_hash v_isThereA v_vA v_spotOfA v_inMiddleA v_tintsA v_bufferA v_valuesA v_ranksA v_oldRanksA v_partA v_allRanksA v_basesA v_isMetA v_metXA v_metYA v_lineA) := hD
      refine lv_aload_n hx hb dX5_beat_70 rfl (lv_at hl 1 rfl) ?_
      refine va_get (D := G.1) (ci := 5) (v := .int j6_0) (C := RX5) (T := TX5) (N := 35) hx hb hts fw_X5_beat_X5 hown hK.1 hP 0 rfl rfl 0 (by decide) (hts (.fieldLink RX5 59 "HalftoneScreensModel" "thrown" "I") lk_X5_beat_f59) (fun _ h9 => h9) rfl dX5_beat_71 ?_
      refine lv_if_le (tgt := 79) hx hb dX5_beat_74 (by decide) (fun c14 => ?_) (fun c14 => ?_)
      · replace h := ite_t c14 h
        refine lv_aload_n hx hb dX5_beat_79 rfl (lv_at hl 1 rfl) ?_
        refine lv_iload_n hx hb dX5_beat_80 rfl (lv_at hl 2 rfl) ?_
        refine lv_iload_n hx hb dX5_beat_81 rfl (lv_at hl 3 rfl) ?_
        obtain ⟨r15_0, r15_1, r15_2, g15, h⟩ := bnd3_e h
        refine rwV_same (rest := []) (As := [.int a0, .int a1]) S (ctX5_layBeat l G v_q0 v_q1 v_q2 v_q3 v_q4 v_q5 v_q6 v_q7 v_q8 v_q9 v_q10 v_q11 v_q12 v_q13 v_q14 v_q15 v_q16 j6_0 v_gain v_size v_w v_s v_h v_laidArea v_parts v_isMinus v_readSpot v_isStar v_wantsNumber v_waiting v_shiftX v_shiftY v_times v_dotsLaid v_joinedLaid v_hash v_isThereA v_vA v_spotOfA v_inMiddleA v_tintsA v_bufferA v_valuesA v_ranksA v_oldRanksA v_partA v_allRanksA v_basesA v_isMetA v_metXA v_metYA v_lineA a0 a1 r15_0 r15_1 r15_2 g15) (cwV 2 hts gX5_beat_X5_layBeat rfl rfl rfl hvX5_layBeat ⟨Nat.le_of_ble_eq_true rfl, Nat.le_of_ble_eq_true rfl⟩) hK hP hD hS xb_triv (fun _ _ _ => trivial) 0 5 rfl rfl rfl rfl hl.1 rfl (Nat.le_of_ble_eq_true rfl) dX5_beat_82 ⟨Nat.le_refl _, Nat.le_refl _⟩ (fun _ H locs hP hD hS => ?_)
        have hP : va_P G.1 vwCl (wdX5 G v_q0 v_q1 v_q2 v_q3 v_q4 v_q5 v_q6 v_q7 v_q8 v_q9 v_q10 v_q11 v_q12 v_q13 v_q14 v_q15 v_q16 j6_0 v_gain v_size r15_0 r15_1 r15_2 v_laidArea v_parts v_isMinus v_readSpot v_isStar v_wantsNumber v_waiting v_shiftX v_shiftY v_times v_dotsLaid v_joinedLaid v_hash v_isThereA v_vA v_spotOfA v_inMiddleA v_tintsA v_bufferA v_valuesA v_ranksA v_oldRanksA v_partA v_allRanksA v_basesA v_isMetA v_metXA v_metYA v_lineA) H := hP
        have hD : va_D A (wdX5 G v_q0 v_q1 v_q2 v_q3 v_q4 v_q5 v_q6 v_q7 v_q8 v_q9 v_q10 v_q11 v_q12 v_q13 v_q14 v_q15 v_q16 j6_0 v_gain v_size r15_0 r15_1 r15_2 v_laidArea v_parts v_isMinus v_readSpot v_isStar v_wantsNumber v_waiting v_shiftX v_shiftY v_times v_dotsLaid v_joinedLaid v_hash v_isThereA v_vA v_spotOfA v_inMiddleA v_tintsA v_bufferA v_valuesA v_ranksA v_oldRanksA v_partA v_allRanksA v_basesA v_isMetA v_metXA v_metYA v_lineA) := hD
        refine lv_aload_n hx hb dX5_beat_85 rfl (lv_at hl 1 rfl) ?_
        refine lv_iload_n hx hb dX5_beat_86 rfl (lv_at hl 4 rfl) ?_
        obtain ⟨r16_0, g16, h⟩ := bnd1_e h
        refine roVi1 (rest := []) (As := [.int a2]) S (ctX5_numberOf l G v_q0 v_q1 v_q2 v_q3 v_q4 v_q5 v_q6 v_q7 v_q8 v_q9 v_q10 v_q11 v_q12 v_q13 v_q14 v_q15 v_q16 j6_0 v_gain v_size r15_0 r15_1 r15_2 v_laidArea v_parts v_isMinus v_readSpot v_isStar v_wantsNumber v_waiting v_shiftX v_shiftY v_times v_dotsLaid v_joinedLaid v_hash v_isThereA v_vA v_spotOfA v_inMiddleA v_tintsA v_bufferA v_valuesA v_ranksA v_oldRanksA v_partA v_allRanksA v_basesA v_isMetA v_metXA v_metYA v_lineA a2 r16_0 g16) (cwV 1 hts gX5_beat_X5_numberOf rfl rfl rfl hvX5_numberOf ⟨Nat.le_of_ble_eq_true rfl, Nat.le_of_ble_eq_true rfl⟩) hK hP [0, 1, 2, 3, 4, 5, 6, 7, 8, 9, 10, 11, 12, 13, 14, 15, 16] rfl 0 5 rfl rfl rfl rfl hl.1 rfl (Nat.le_of_ble_eq_true rfl) dX5_beat_87 ⟨Nat.le_refl _, Nat.le_refl _⟩ (fun _ => ?_)
        obtain ⟨rfl, rfl, rfl, rfl, rfl⟩ := sm5 h
        exact hret _ _ _ _ _ rfl trivial rfl hP hD hS dX5_beat_90
      · replace h := ite_f c14 h
        refine lv_iconst (v := 0) hx hb dX5_beat_77 (by decide) ?_
        obtain ⟨rfl, rfl, rfl, rfl, rfl⟩ := sm5 h
        exact hret _ _ _ _ _ rfl trivial rfl hP hD hS dX5_beat_78
    refine lv_if_ne (tgt := 31) hx hb dX5_beat_24 (by decide) (fun c7 => ?_) (fun c7 => ?_)
    · replace h := ite_f c7 h
      refine lv_iload_n hx hb dX5_beat_31 rfl (lv_at hl 4 rfl) ?_
      refine lv_iconst (v := 0) hx hb dX5_beat_32 (by decide) ?_
      refine lv_iconst (v := 3) hx hb dX5_beat_33 (by decide) ?_
      obtain ⟨r8_0, g8, h⟩ := bnd1_e h
      refine roSi1 (rest := [.ref v_q0]) (As := [.int a2, .int 0, .int 3]) S (ctX5_within l G a2 0 3 r8_0 g8) (va_cwS 3 hts gX5_beat_X5_within rfl rfl rfl hsX5_within ⟨Nat.le_of_ble_eq_true rfl, Nat.le_of_ble_eq_true rfl⟩) hK hP [] rfl rfl hl.1 rfl (Nat.le_of_ble_eq_true rfl) dX5_beat_34 ⟨Nat.le_refl _, Nat.le_refl _⟩ (fun hz8 => ?_)
      refine lv_if_ne (tgt := 44) hx hb dX5_beat_37 (by decide) (fun c9 => ?_) (fun c9 => ?_)
      · replace h := ite_f c9 h
        refine lv_aload_n hx hb dX5_beat_44 rfl (lv_at hl 1 rfl) ?_
        refine va_get (D := G.1) (ci := 5) (v := .ref v_q1) (C := RX5) (T := TX5) (N := 35) hx hb hts fw_X5_beat_X5 hown hK.1 hP 0 rfl rfl 1 (by decide) (hts (.fieldLink RX5 7 "HalftoneScreensModel" "isThere" "[Z") lk_X5_beat_f7) (fun _ h9 => h9) rfl dX5_beat_45 ?_
        refine lv_iload_n hx hb dX5_beat_48 rfl (lv_at hl 2 rfl) ?_
        obtain ⟨i10, h⟩ := gd_e h
        refine va_zald hx hb hK.1 hP 1 1 rfl rfl i10 dX5_beat_49 ?_
        refine lv_if_eq (tgt := 66) hx hb dX5_beat_50 (by decide) (fun c11 => ?_) (fun c11 => ?_)
        · replace h := ite_t c11 h
          refine lv_iconst (v := 3) hx hb dX5_beat_66 (by decide) ?_
          exact J6 3 H locs ls h hl hP hD hS
        · replace h := ite_f c11 h
          refine lv_aload_n hx hb dX5_beat_53 rfl (lv_at hl 1 rfl) ?_
          refine va_get (D := G.1) (ci := 5) (v := .ref v_q1) (C := RX5) (T := TX5) (N := 35) hx hb hts fw_X5_beat_X5 hown hK.1 hP 0 rfl rfl 1 (by decide) (hts (.fieldLink RX5 7 "HalftoneScreensModel" "isThere" "[Z") lk_X5_beat_f7) (fun _ h9 => h9) rfl dX5_beat_54 ?_
          refine lv_iload_n hx hb dX5_beat_57 rfl (lv_at hl 3 rfl) ?_
          obtain ⟨i12, h⟩ := gd_e h
          refine va_zald hx hb hK.1 hP 1 1 rfl rfl i12 dX5_beat_58 ?_
          refine lv_if_eq (tgt := 66) hx hb dX5_beat_59 (by decide) (fun c13 => ?_) (fun c13 => ?_)
          · replace h := ite_t c13 h
            refine lv_iconst (v := 3) hx hb dX5_beat_66 (by decide) ?_
            exact J6 3 H locs ls h hl hP hD hS
          · replace h := ite_f c13 h
            refine lv_iconst (v := 0) hx hb dX5_beat_62 (by decide) ?_
            refine lv_goto (tgt := 67) hx hb dX5_beat_63 (by decide) ?_
            exact J6 0 H locs ls h hl hP hD hS
      · replace h := ite_t c9 h
        refine lv_iconst (v := 2) hx hb dX5_beat_40 (by decide) ?_
        refine lv_goto (tgt := 67) hx hb dX5_beat_41 (by decide) ?_
        exact J6 2 H locs ls h hl hP hD hS
    · replace h := ite_t c7 h
      refine lv_iconst (v := 1) hx hb dX5_beat_27 (by decide) ?_
      refine lv_goto (tgt := 67) hx hb dX5_beat_28 (by decide) ?_
      exact J6 1 H locs ls h hl hP hD hS
  refine lv_if_eq (tgt := 18) hx hb dX5_beat_4 (by decide) (fun c3 => ?_) (fun c3 => ?_)
  · replace h := ite_t c3 h
    refine lv_iconst (v := 0) hx hb dX5_beat_18 (by decide) ?_
    exact J2 0 isZ0 H locs ls h hl hP hD hS
  · replace h := ite_f c3 h
    refine lv_iload_n hx hb dX5_beat_7 rfl (lv_at hl 2 rfl) ?_
    obtain ⟨r4_0, g4, h⟩ := bnd1_e h
    refine roSi1 (rest := []) (As := [.int a1]) S (ctX5_isSlot l G a1 r4_0 g4) (va_cwS 1 hts gX5_beat_X5_isSlot rfl rfl rfl hsX5_isSlot ⟨Nat.le_of_ble_eq_true rfl, Nat.le_of_ble_eq_true rfl⟩) hK hP [] rfl rfl hl.1 rfl (Nat.le_of_ble_eq_true rfl) dX5_beat_8 ⟨Nat.le_refl _, Nat.le_refl _⟩ (fun hz4 => ?_)
    refine lv_if_eq (tgt := 18) hx hb dX5_beat_11 (by decide) (fun c5 => ?_) (fun c5 => ?_)
    · replace h := ite_t c5 h
      refine lv_iconst (v := 0) hx hb dX5_beat_18 (by decide) ?_
      exact J2 0 isZ0 H locs ls h hl hP hD hS
    · replace h := ite_f c5 h
      refine lv_iconst (v := 1) hx hb dX5_beat_14 (by decide) ?_
      refine lv_goto (tgt := 19) hx hb dX5_beat_15 (by decide) ?_
      exact J2 1 isZ1 H locs ls h hl hP hD hS
abbrev rmX5_mixed : Room := { frames := 6, cells := 0, slots := 0, locals := 152 }
set_option maxHeartbeats 4000000 in
set_option maxRecDepth 100000 in
theorem ctX5_mixed (l : Launch) (G : GG) (v_q0 : Nat) (v_q1 : Nat) (v_q2 : Nat) (v_q3 : Nat) (v_q4 : Nat) (v_q5 : Nat) (v_q6 : Nat) (v_q7 : Nat) (v_q8 : Nat) (v_q9 : Nat) (v_q10 : Nat) (v_q11 : Nat) (v_q12 : Nat) (v_q13 : Nat) (v_q14 : Nat) (v_q15 : Nat) (v_q16 : Nat) (v_thrown : Int32) (v_gain : Int32) (v_size : Int32) (v_w : Int32) (v_s : Int32) (v_h : Int32) (v_laidArea : Int32) (v_parts : Int32) (v_isMinus : Int32) (v_readSpot : Int32) (v_isStar : Int32) (v_wantsNumber : Int32) (v_waiting : Int32) (v_shiftX : Int32) (v_shiftY : Int32) (v_times : Int32) (v_dotsLaid : Int32) (v_joinedLaid : Int32) (v_hash : Int64) (v_isThereA : (Nat → Int32)) (v_vA : (Nat → Int32)) (v_spotOfA : (Nat → Int32)) (v_inMiddleA : (Nat → Int32)) (v_tintsA : (Nat → Int32)) (v_bufferA : (Nat → Int32)) (v_valuesA : (Nat → Int32)) (v_ranksA : (Nat → Int32)) (v_oldRanksA : (Nat → Int32)) (v_partA : (Nat → Int32)) (v_allRanksA : (Nat → Int32)) (v_basesA : (Nat → Int32)) (v_isMetA : (Nat → Int32)) (v_metXA : (Nat → Int32)) (v_metYA : (Nat → Int32)) (v_lineA : (Nat → Int32)) (a0 : Int32) (a1 : Int32) (a2 : Int32) (o0 : Int32) (o1 : Int32) (o2 : Int32) (o3 : Int32) (o4 : Int32) (o5 : (Nat → Int32)) (o6 : (Nat → Int32)) (o7 : (Nat → Int32)) (o8 : (Nat → Int32)) (h : mX5_mixed v_w v_s v_h v_laidArea v_isThereA v_vA v_spotOfA v_inMiddleA v_tintsA v_valuesA v_ranksA v_allRanksA v_basesA a0 a1 a2 = some (o0, o1, o2, o3, o4, o5, o6, o7, o8))  : Met l yX5_mixed wsX5_mixed rmX5_mixed (va_Pc [.ref v_q0, .int a0, .int a1, .int a2] (PreD G (wdX5 G v_q0 v_q1 v_q2 v_q3 v_q4 v_q5 v_q6 v_q7 v_q8 v_q9 v_q10 v_q11 v_q12 v_q13 v_q14 v_q15 v_q16 v_thrown v_gain v_size v_w v_s v_h v_laidArea v_parts v_isMinus v_readSpot v_isStar v_wantsNumber v_waiting v_shiftX v_shiftY v_times v_dotsLaid v_joinedLaid v_hash v_isThereA v_vA v_spotOfA v_inMiddleA v_tintsA v_bufferA v_valuesA v_ranksA v_oldRanksA v_partA v_allRanksA v_basesA v_isMetA v_metXA v_metYA v_lineA) (fun _ => True))) (QwA G (va_A0 (wdX5 G v_q0 v_q1 v_q2 v_q3 v_q4 v_q5 v_q6 v_q7 v_q8 v_q9 v_q10 v_q11 v_q12 v_q13 v_q14 v_q15 v_q16 v_thrown v_gain v_size v_w v_s v_h v_laidArea v_parts v_isMinus v_readSpot v_isStar v_wantsNumber v_waiting v_shiftX v_shiftY v_times v_dotsLaid v_joinedLaid v_hash v_isThereA v_vA v_spotOfA v_inMiddleA v_tintsA v_bufferA v_valuesA v_ranksA v_oldRanksA v_partA v_allRanksA v_basesA v_isMetA v_metXA v_metYA v_lineA)) (wdX5 G v_q0 v_q1 v_q2 v_q3 v_q4 v_q5 v_q6 v_q7 v_q8 v_q9 v_q10 v_q11 v_q12 v_q13 v_q14 v_q15 v_q16 v_thrown v_gain v_size o1 o2 o3 o4 v_parts v_isMinus v_readSpot v_isStar v_wantsNumber v_waiting v_shiftX v_shiftY v_times v_dotsLaid v_joinedLaid v_hash v_isThereA v_vA v_spotOfA v_inMiddleA v_tintsA v_bufferA o5 o6 v_oldRanksA v_partA o7 o8 v_isMetA v_metXA v_metYA v_lineA) (some (.int o0)) True) 0 0 (va_A0 (wdX5 G v_q0 v_q1 v_q2 v_q3 v_q4 v_q5 v_q6 v_q7 v_q8 v_q9 v_q10 v_q11 v_q12 v_q13 v_q14 v_q15 v_q16 v_thrown v_gain v_size v_w v_s v_h v_laidArea v_parts v_isMinus v_readSpot v_isStar v_wantsNumber v_waiting v_shiftX v_shiftY v_times v_dotsLaid v_joinedLaid v_hash v_isThereA v_vA v_spotOfA v_inMiddleA v_tintsA v_bufferA v_valuesA v_ranksA v_oldRanksA v_partA v_allRanksA v_basesA v_isMetA v_metXA v_metYA v_lineA)) := by
  refine of_wi (cc := cX5_mixed) (maxL := 6) (ty := .int) (plainFor_of_name (by decide)) rfl (Nat.le_of_ble_eq_true rfl) ?_
  intro p e s m args below meth c ls Q A S hl hP hD hS hK hX hA hret
  obtain ⟨H, hH⟩ : ∃ H, H = s.heap := ⟨_, rfl⟩
  obtain ⟨locs, hlocs⟩ : ∃ L : List Loc, L = [] := ⟨_, rfl⟩
  rw [← hlocs]
  rw [← hlocs] at hS
  have hP : va_P G.1 vwCl (wdX5 G v_q0 v_q1 v_q2 v_q3 v_q4 v_q5 v_q6 v_q7 v_q8 v_q9 v_q10 v_q11 v_q12 v_q13 v_q14 v_q15 v_q16 v_thrown v_gain v_size v_w v_s v_h v_laidArea v_parts v_isMinus v_readSpot v_isStar v_wantsNumber v_waiting v_shiftX v_shiftY v_times v_dotsLaid v_joinedLaid v_hash v_isThereA v_vA v_spotOfA v_inMiddleA v_tintsA v_bufferA v_valuesA v_ranksA v_oldRanksA v_partA v_allRanksA v_basesA v_isMetA v_metXA v_metYA v_lineA) H := by rw [hH]; exact hP
  have hS : va_S A s.heap H locs := by rw [hH]; exact hS
  suffices hgo : W p l e rmX5_mixed s m args below meth c H locs 0 0 Q (F0 m 0 ls []) by rw [hH] at hgo; exact hgo
  have S : CallFix p m c cX5_mixed 6 s args wsX5_mixed RX5 := S
  obtain ⟨hx, hb, hml, hown, hts⟩ := id S
  have hl : lv_has ls 6 [(0, .ref v_q0), (1, .int a0), (2, .int a1), (3, .int a2)] := hl
  unfold mX5_mixed at h
  refine lv_aload_n hx hb dX5_mixed_0 rfl (lv_at hl 0 rfl) ?_
  obtain ⟨r1_0, r1_1, r1_2, r1_3, r1_4, r1_5, r1_6, r1_7, g1, h⟩ := bnd8_e h
  refine rwV_same (rest := []) (As := []) S (ctX5_layAll l G v_q0 v_q1 v_q2 v_q3 v_q4 v_q5 v_q6 v_q7 v_q8 v_q9 v_q10 v_q11 v_q12 v_q13 v_q14 v_q15 v_q16 v_thrown v_gain v_size v_w v_s v_h v_laidArea v_parts v_isMinus v_readSpot v_isStar v_wantsNumber v_waiting v_shiftX v_shiftY v_times v_dotsLaid v_joinedLaid v_hash v_isThereA v_vA v_spotOfA v_inMiddleA v_tintsA v_bufferA v_valuesA v_ranksA v_oldRanksA v_partA v_allRanksA v_basesA v_isMetA v_metXA v_metYA v_lineA r1_0 r1_1 r1_2 r1_3 r1_4 r1_5 r1_6 r1_7 g1) (cwV 0 hts gX5_mixed_X5_layAll rfl rfl rfl hvX5_layAll ⟨Nat.le_of_ble_eq_true rfl, Nat.le_of_ble_eq_true rfl⟩) hK hP hD hS xb_triv (fun _ _ _ => trivial) 0 5 rfl rfl rfl rfl hl.1 rfl (Nat.le_of_ble_eq_true rfl) dX5_mixed_1 ⟨Nat.le_refl _, Nat.le_refl _⟩ (fun _ H locs hP hD hS => ?_)
  have hP : va_P G.1 vwCl (wdX5 G v_q0 v_q1 v_q2 v_q3 v_q4 v_q5 v_q6 v_q7 v_q8 v_q9 v_q10 v_q11 v_q12 v_q13 v_q14 v_q15 v_q16 v_thrown v_gain v_size r1_0 r1_1 r1_2 r1_3 v_parts v_isMinus v_readSpot v_isStar v_wantsNumber v_waiting v_shiftX v_shiftY v_times v_dotsLaid v_joinedLaid v_hash v_isThereA v_vA v_spotOfA v_inMiddleA v_tintsA v_bufferA r1_4 r1_5 v_oldRanksA v_partA r1_6 r1_7 v_isMetA v_metXA v_metYA v_lineA) H := hP
  have hD : va_D A (wdX5 G v_q0 v_q1 v_q2 v_q3 v_q4 v_q5 v_q6 v_q7 v_q8 v_q9 v_q10 v_q11 v_q12 v_q13 v_q14 v_q15 v_q16 v_thrown v_gain v_size r1_0 r1_1 r1_2 r1_3 v_parts v_isMinus v_readSpot v_isStar v_wantsNumber v_waiting v_shiftX v_shiftY v_times v_dotsLaid v_joinedLaid v_hash v_isThereA v_vA v_spotOfA v_inMiddleA v_tintsA v_bufferA r1_4 r1_5 v_oldRanksA v_partA r1_6 r1_7 v_isMetA v_metXA v_metYA v_lineA) := hD
  refine lv_iconst (v := 0) hx hb dX5_mixed_4 (by decide) ?_
  refine lv_istore (lv' := [(4, .int 0), (0, .ref v_q0), (1, .int a0), (2, .int a1), (3, .int a2)]) hx hb dX5_mixed_5 hl (by decide) rfl (fun ls hl => ?_)
  refine lv_iconst (v := 0) hx hb dX5_mixed_7 (by decide) ?_
  refine lv_istore (lv' := [(5, .int 0), (4, .int 0), (0, .ref v_q0), (1, .int a0), (2, .int a1), (3, .int a2)]) hx hb dX5_mixed_8 hl (by decide) rfl (fun ls hl => ?_)
  obtain ⟨u2_0, u2_1, u2_2, u2_3, u2_4, g2, h⟩ := bnd5_e h
  have L2 : ∀ (fu : Nat) (v2_0 : Int32) (v2_1 : Int32) (v2_2 : Int32) (v2_3 : Int32) (v2_4 : Int32) (u2_0 : Int32) (u2_1 : Int32) (u2_2 : Int32) (u2_3 : Int32) (u2_4 : Int32) (H : Heap) (locs : List Loc) (ls : Array Slot), mX5_mixed_L10 v_isThereA v_tintsA a0 a1 a2 r1_6 r1_7 fu v2_0 v2_1 v2_2 v2_3 v2_4 = some (u2_0, u2_1, u2_2, u2_3, u2_4) → lv_has ls 6 [(5, .int v2_0), (4, .int v2_1), (0, .ref v_q0), (1, .int a0), (2, .int a1), (3, .int a2)] → va_P G.1 vwCl (wdX5 G v_q0 v_q1 v_q2 v_q3 v_q4 v_q5 v_q6 v_q7 v_q8 v_q9 v_q10 v_q11 v_q12 v_q13 v_q14 v_q15 v_q16 v_thrown v_gain v_size v2_2 v2_3 v2_4 r1_3 v_parts v_isMinus v_readSpot v_isStar v_wantsNumber v_waiting v_shiftX v_shiftY v_times v_dotsLaid v_joinedLaid v_hash v_isThereA v_vA v_spotOfA v_inMiddleA v_tintsA v_bufferA r1_4 r1_5 v_oldRanksA v_partA r1_6 r1_7 v_isMetA v_metXA v_metYA v_lineA) H → va_D A (wdX5 G v_q0 v_q1 v_q2 v_q3 v_q4 v_q5 v_q6 v_q7 v_q8 v_q9 v_q10 v_q11 v_q12 v_q13 v_q14 v_q15 v_q16 v_thrown v_gain v_size v2_2 v2_3 v2_4 r1_3 v_parts v_isMinus v_readSpot v_isStar v_wantsNumber v_waiting v_shiftX v_shiftY v_times v_dotsLaid v_joinedLaid v_hash v_isThereA v_vA v_spotOfA v_inMiddleA v_tintsA v_bufferA r1_4 r1_5 v_oldRanksA v_partA r1_6 r1_7 v_isMetA v_metXA v_metYA v_lineA) → va_S A s.heap H locs → (∀ (H : Heap) (locs : List Loc) (ls : Array Slot), lv_has ls 6 [(5, .int u2_0), (4, .int u2_1), (0, .ref v_q0), (1, .int a0), (2, .int a1), (3, .int a2)] → va_P G.1 vwCl (wdX5 G v_q0 v_q1 v_q2 v_q3 v_q4 v_q5 v_q6 v_q7 v_q8 v_q9 v_q10 v_q11 v_q12 v_q13 v_q14 v_q15 v_q16 v_thrown v_gain v_size u2_2 u2_3 u2_4 r1_3 v_parts v_isMinus v_readSpot v_isStar v_wantsNumber v_waiting v_shiftX v_shiftY v_times v_dotsLaid v_joinedLaid v_hash v_isThereA v_vA v_spotOfA v_inMiddleA v_tintsA v_bufferA r1_4 r1_5 v_oldRanksA v_partA r1_6 r1_7 v_isMetA v_metXA v_metYA v_lineA) H → va_D A (wdX5 G v_q0 v_q1 v_q2 v_q3 v_q4 v_q5 v_q6 v_q7 v_q8 v_q9 v_q10 v_q11 v_q12 v_q13 v_q14 v_q15 v_q16 v_thrown v_gain v_size u2_2 u2_3 u2_4 r1_3 v_parts v_isMinus v_readSpot v_isStar v_wantsNumber v_waiting v_shiftX v_shiftY v_times v_dotsLaid v_joinedLaid v_hash v_isThereA v_vA v_spotOfA v_inMiddleA v_tintsA v_bufferA r1_4 r1_5 v_oldRanksA v_partA r1_6 r1_7 v_isMetA v_metXA v_metYA v_lineA) → va_S A s.heap H locs → W p l e rmX5_mixed s m args below meth c H locs 0 0 Q (F0 m 50 ls [])) → W p l e rmX5_mixed s m args below meth c H locs 0 0 Q (F0 m 10 ls []) := by
    intro fu
    induction fu with
    | zero => intro v2_0 v2_1 v2_2 v2_3 v2_4 u2_0 u2_1 u2_2 u2_3 u2_4 H locs ls h; exact nomatch h
    | succ fu ih =>
      intro v2_0 v2_1 v2_2 v2_3 v2_4 u2_0 u2_1 u2_2 u2_3 u2_4 H locs ls h hl hP hD hS kE
      rw [mX5_mixed_L10] at h
      refine lv_iload hx hb dX5_mixed_10 (lv_at hl 0 rfl) ?_
      refine lv_iload_n hx hb dX5_mixed_12 rfl (lv_at hl 4 rfl) ?_
      refine lv_iload_n hx hb dX5_mixed_13 rfl (lv_at hl 5 rfl) ?_
      refine lv_imul hx hb dX5_mixed_14 ?_
      refine lv_icmp_ge (tgt := 50) hx hb dX5_mixed_15 (by decide) (fun c3 => ?_) (fun c3 => ?_)
      · replace h := ite_t c3 h
        obtain ⟨rfl, rfl, rfl, rfl, rfl⟩ := sm5 h
        exact kE H locs ls hl hP hD hS
      · replace h := ite_f c3 h
        refine lv_iload hx hb dX5_mixed_18 (lv_at hl 1 rfl) ?_
        refine lv_aload_n hx hb dX5_mixed_20 rfl (lv_at hl 2 rfl) ?_
        refine lv_iload hx hb dX5_mixed_21 (lv_at hl 0 rfl) ?_
        refine lv_iload_n hx hb dX5_mixed_23 rfl (lv_at hl 4 rfl) ?_
        obtain ⟨z4, h⟩ := gz_e h
        refine lv_irem hx hb dX5_mixed_24 z4 ?_
        refine lv_iload hx hb dX5_mixed_25 (lv_at hl 0 rfl) ?_
        refine lv_iload_n hx hb dX5_mixed_27 rfl (lv_at hl 4 rfl) ?_
        obtain ⟨z5, h⟩ := gz_e h
        refine lv_idiv hx hb dX5_mixed_28 z5 ?_
        obtain ⟨r6_0, r6_1, r6_2, r6_3, g6, h⟩ := bnd4_e h
        refine rwV_same (rest := [.int v2_1]) (As := [.int (v2_0 - v2_0 / a1 * a1), .int (v2_0 / a1)]) S (ctX5_inksAt l G v_q0 v_q1 v_q2 v_q3 v_q4 v_q5 v_q6 v_q7 v_q8 v_q9 v_q10 v_q11 v_q12 v_q13 v_q14 v_q15 v_q16 v_thrown v_gain v_size v2_2 v2_3 v2_4 r1_3 v_parts v_isMinus v_readSpot v_isStar v_wantsNumber v_waiting v_shiftX v_shiftY v_times v_dotsLaid v_joinedLaid v_hash v_isThereA v_vA v_spotOfA v_inMiddleA v_tintsA v_bufferA r1_4 r1_5 v_oldRanksA v_partA r1_6 r1_7 v_isMetA v_metXA v_metYA v_lineA (v2_0 - v2_0 / a1 * a1) (v2_0 / a1) r6_0 r6_1 r6_2 r6_3 g6) (cwV 2 hts gX5_mixed_X5_inksAt rfl rfl rfl hvX5_inksAt ⟨Nat.le_of_ble_eq_true rfl, Nat.le_of_ble_eq_true rfl⟩) hK hP hD hS xb_triv (fun _ _ _ => trivial) 0 5 rfl rfl rfl rfl hl.1 rfl (Nat.le_of_ble_eq_true rfl) dX5_mixed_29 ⟨Nat.le_refl _, Nat.le_refl _⟩ (fun _ H locs hP hD hS => ?_)
        have hP : va_P G.1 vwCl (wdX5 G v_q0 v_q1 v_q2 v_q3 v_q4 v_q5 v_q6 v_q7 v_q8 v_q9 v_q10 v_q11 v_q12 v_q13 v_q14 v_q15 v_q16 v_thrown v_gain v_size r6_1 r6_2 r6_3 r1_3 v_parts v_isMinus v_readSpot v_isStar v_wantsNumber v_waiting v_shiftX v_shiftY v_times v_dotsLaid v_joinedLaid v_hash v_isThereA v_vA v_spotOfA v_inMiddleA v_tintsA v_bufferA r1_4 r1_5 v_oldRanksA v_partA r1_6 r1_7 v_isMetA v_metXA v_metYA v_lineA) H := hP
        have hD : va_D A (wdX5 G v_q0 v_q1 v_q2 v_q3 v_q4 v_q5 v_q6 v_q7 v_q8 v_q9 v_q10 v_q11 v_q12 v_q13 v_q14 v_q15 v_q16 v_thrown v_gain v_size r6_1 r6_2 r6_3 r1_3 v_parts v_isMinus v_readSpot v_isStar v_wantsNumber v_waiting v_shiftX v_shiftY v_times v_dotsLaid v_joinedLaid v_hash v_isThereA v_vA v_spotOfA v_inMiddleA v_tintsA v_bufferA r1_4 r1_5 v_oldRanksA v_partA r1_6 r1_7 v_isMetA v_metXA v_metYA v_lineA) := hD
        refine lv_iload_n hx hb dX5_mixed_32 rfl (lv_at hl 3 rfl) ?_
        refine lv_icmp_ne (tgt := 40) hx hb dX5_mixed_33 (by decide) (fun c7 => ?_) (fun c7 => ?_)
        · replace h := ite_f c7 h
          refine lv_iconst (v := 0) hx hb dX5_mixed_40 (by decide) ?_
          refine lv_iadd hx hb dX5_mixed_41 ?_
          refine lv_topi (fun x8 e8 => ?_)
          replace h := nmB_e e8 h
          refine lv_istore (lv' := [(4, .int x8), (5, .int v2_0), (0, .ref v_q0), (1, .int a0), (2, .int a1), (3, .int a2)]) hx hb dX5_mixed_42 hl (by decide) rfl (fun ls hl => ?_)
          obtain ⟨x9, e9⟩ : ∃ y : Int32, y = v2_0 + 1 := ⟨_, rfl⟩
          replace h := nmB_e e9 h
          refine lv_iinc (v := x9) (lv' := [(5, .int x9), (4, .int x8), (0, .ref v_q0), (1, .int a0), (2, .int a1), (3, .int a2)]) hx hb dX5_mixed_44 hl (k := 1) rfl (by rw [e9]; rfl) (by decide) rfl (fun ls hl => ?_)
          refine lv_goto (tgt := 10) hx hb dX5_mixed_47 (by decide) ?_
          exact ih x9 x8 r6_1 r6_2 r6_3 u2_0 u2_1 u2_2 u2_3 u2_4 H locs ls h hl hP hD hS kE
        · replace h := ite_t c7 h
          refine lv_iconst (v := 1) hx hb dX5_mixed_36 (by decide) ?_
          refine lv_goto (tgt := 41) hx hb dX5_mixed_37 (by decide) ?_
          refine lv_iadd hx hb dX5_mixed_41 ?_
          refine lv_topi (fun x10 e10 => ?_)
          replace h := nmB_e e10 h
          refine lv_istore (lv' := [(4, .int x10), (5, .int v2_0), (0, .ref v_q0), (1, .int a0), (2, .int a1), (3, .int a2)]) hx hb dX5_mixed_42 hl (by decide) rfl (fun ls hl => ?_)
          obtain ⟨x11, e11⟩ : ∃ y : Int32, y = v2_0 + 1 := ⟨_, rfl⟩
          replace h := nmB_e e11 h
          refine lv_iinc (v := x11) (lv' := [(5, .int x11), (4, .int x10), (0, .ref v_q0), (1, .int a0), (2, .int a1), (3, .int a2)]) hx hb dX5_mixed_44 hl (k := 1) rfl (by rw [e11]; rfl) (by decide) rfl (fun ls hl => ?_)
          refine lv_goto (tgt := 10) hx hb dX5_mixed_47 (by decide) ?_
          exact ih x11 x10 r6_1 r6_2 r6_3 u2_0 u2_1 u2_2 u2_3 u2_4 H locs ls h hl hP hD hS kE
  refine L2 FU 0 0 r1_0 r1_1 r1_2 u2_0 u2_1 u2_2 u2_3 u2_4 H locs ls g2 hl hP hD hS (fun H locs ls hl hP hD hS => ?_)
  refine lv_iload hx hb dX5_mixed_50 (lv_at hl 1 rfl) ?_
  obtain ⟨rfl, rfl, rfl, rfl, rfl, rfl, rfl, rfl, rfl⟩ := sm9 h
  exact hret _ _ _ _ _ rfl trivial rfl hP hD hS dX5_mixed_52
theorem fw_X5_mixture_X5 : ∀ w ∈ wsX50, w ∈ wsX5_mixture := fun w h => List.mem_cons_of_mem _ (List.mem_append_right _ h)
theorem lk_X5_mixture_f59 : Cond.fieldLink RX5 59 "HalftoneScreensModel" "thrown" "I" ∈ wsX5_mixture := List.mem_of_getElem? (i := 1) rfl
theorem lk_X5_mixture_f89 : Cond.fieldLink RX5 89 "HalftoneScreensModel" "w" "I" ∈ wsX5_mixture := List.mem_of_getElem? (i := 2) rfl
theorem lk_X5_mixture_f82 : Cond.fieldLink RX5 82 "HalftoneScreensModel" "h" "I" ∈ wsX5_mixture := List.mem_of_getElem? (i := 3) rfl
theorem hsX5_mixed : yX5_mixed.cls ≠ "java/lang/invoke/MethodHandle" ∧ yX5_mixed.cls ≠ "java/lang/invoke/VarHandle" ∧ (parseMethodDescriptor yX5_mixed.desc).map (fun d => d.parameters.length) = some 3 := by decide +kernel
theorem hvX5_mixed : yX5_mixed.cls = RX5 ∧ yX5_mixed.cls ≠ "java/lang/invoke/MethodHandle" ∧ yX5_mixed.cls ≠ "java/lang/invoke/VarHandle" ∧ (parseMethodDescriptor yX5_mixed.desc).map (fun d => d.parameters.length) = some 3 := ⟨rfl, hsX5_mixed⟩
abbrev rmX5_mixture : Room := { frames := 7, cells := 0, slots := 0, locals := 177 }
set_option maxHeartbeats 4000000 in
set_option maxRecDepth 100000 in
theorem ctX5_mixture (l : Launch) (G : GG) (v_q0 : Nat) (v_q1 : Nat) (v_q2 : Nat) (v_q3 : Nat) (v_q4 : Nat) (v_q5 : Nat) (v_q6 : Nat) (v_q7 : Nat) (v_q8 : Nat) (v_q9 : Nat) (v_q10 : Nat) (v_q11 : Nat) (v_q12 : Nat) (v_q13 : Nat) (v_q14 : Nat) (v_q15 : Nat) (v_q16 : Nat) (v_thrown : Int32) (v_gain : Int32) (v_size : Int32) (v_w : Int32) (v_s : Int32) (v_h : Int32) (v_laidArea : Int32) (v_parts : Int32) (v_isMinus : Int32) (v_readSpot : Int32) (v_isStar : Int32) (v_wantsNumber : Int32) (v_waiting : Int32) (v_shiftX : Int32) (v_shiftY : Int32) (v_times : Int32) (v_dotsLaid : Int32) (v_joinedLaid : Int32) (v_hash : Int64) (v_isThereA : (Nat → Int32)) (v_vA : (Nat → Int32)) (v_spotOfA : (Nat → Int32)) (v_inMiddleA : (Nat → Int32)) (v_tintsA : (Nat → Int32)) (v_bufferA : (Nat → Int32)) (v_valuesA : (Nat → Int32)) (v_ranksA : (Nat → Int32)) (v_oldRanksA : (Nat → Int32)) (v_partA : (Nat → Int32)) (v_allRanksA : (Nat → Int32)) (v_basesA : (Nat → Int32)) (v_isMetA : (Nat → Int32)) (v_metXA : (Nat → Int32)) (v_metYA : (Nat → Int32)) (v_lineA : (Nat → Int32)) (a0 : Int32) (o0 : Int32) (o1 : Int32) (o2 : Int32) (o3 : Int32) (o4 : Int32) (o5 : Int32) (o6 : (Nat → Int32)) (o7 : (Nat → Int32)) (o8 : (Nat → Int32)) (o9 : (Nat → Int32)) (h : mX5_mixture v_w v_s v_h v_laidArea v_isThereA v_vA v_spotOfA v_inMiddleA v_tintsA v_valuesA v_ranksA v_allRanksA v_basesA a0 = some (o0, o1, o2, o3, o4, o5, o6, o7, o8, o9))  : Met l yX5_mixture wsX5_mixture rmX5_mixture (va_Pc [.ref v_q0, .int a0] (PreD G (wdX5 G v_q0 v_q1 v_q2 v_q3 v_q4 v_q5 v_q6 v_q7 v_q8 v_q9 v_q10 v_q11 v_q12 v_q13 v_q14 v_q15 v_q16 v_thrown v_gain v_size v_w v_s v_h v_laidArea v_parts v_isMinus v_readSpot v_isStar v_wantsNumber v_waiting v_shiftX v_shiftY v_times v_dotsLaid v_joinedLaid v_hash v_isThereA v_vA v_spotOfA v_inMiddleA v_tintsA v_bufferA v_valuesA v_ranksA v_oldRanksA v_partA v_allRanksA v_basesA v_isMetA v_metXA v_metYA v_lineA) (fun _ => True))) (QwA G (va_A0 (wdX5 G v_q0 v_q1 v_q2 v_q3 v_q4 v_q5 v_q6 v_q7 v_q8 v_q9 v_q10 v_q11 v_q12 v_q13 v_q14 v_q15 v_q16 v_thrown v_gain v_size v_w v_s v_h v_laidArea v_parts v_isMinus v_readSpot v_isStar v_wantsNumber v_waiting v_shiftX v_shiftY v_times v_dotsLaid v_joinedLaid v_hash v_isThereA v_vA v_spotOfA v_inMiddleA v_tintsA v_bufferA v_valuesA v_ranksA v_oldRanksA v_partA v_allRanksA v_basesA v_isMetA v_metXA v_metYA v_lineA)) (wdX5 G v_q0 v_q1 v_q2 v_q3 v_q4 v_q5 v_q6 v_q7 v_q8 v_q9 v_q10 v_q11 v_q12 v_q13 v_q14 v_q15 v_q16 o1 v_gain v_size o2 o3 o4 o5 v_parts v_isMinus v_readSpot v_isStar v_wantsNumber v_waiting v_shiftX v_shiftY v_times v_dotsLaid v_joinedLaid v_hash v_isThereA v_vA v_spotOfA v_inMiddleA v_tintsA v_bufferA o6 o7 v_oldRanksA v_partA o8 o9 v_isMetA v_metXA v_metYA v_lineA) (some (.int o0)) True) 0 0 (va_A0 (wdX5 G v_q0 v_q1 v_q2 v_q3 v_q4 v_q5 v_q6 v_q7 v_q8 v_q9 v_q10 v_q11 v_q12 v_q13 v_q14 v_q15 v_q16 v_thrown v_gain v_size v_w v_s v_h v_laidArea v_parts v_isMinus v_readSpot v_isStar v_wantsNumber v_waiting v_shiftX v_shiftY v_times v_dotsLaid v_joinedLaid v_hash v_isThereA v_vA v_spotOfA v_inMiddleA v_tintsA v_bufferA v_valuesA v_ranksA v_oldRanksA v_partA v_allRanksA v_basesA v_isMetA v_metXA v_metYA v_lineA)) := by
  refine of_wi (cc := cX5_mixture) (maxL := 2) (ty := .int) (plainFor_of_name (by decide)) rfl (Nat.le_of_ble_eq_true rfl) ?_
  intro p e s m args below meth c ls Q A S hl hP hD hS hK hX hA hret
  obtain ⟨H, hH⟩ : ∃ H, H = s.heap := ⟨_, rfl⟩
  obtain ⟨locs, hlocs⟩ : ∃ L : List Loc, L = [] := ⟨_, rfl⟩
  rw [← hlocs]
  rw [← hlocs] at hS
  have hP : va_P G.1 vwCl (wdX5 G v_q0 v_q1 v_q2 v_q3 v_q4 v_q5 v_q6 v_q7 v_q8 v_q9 v_q10 v_q11 v_q12 v_q13 v_q14 v_q15 v_q16 v_thrown v_gain v_size v_w v_s v_h v_laidArea v_parts v_isMinus v_readSpot v_isStar v_wantsNumber v_waiting v_shiftX v_shiftY v_times v_dotsLaid v_joinedLaid v_hash v_isThereA v_vA v_spotOfA v_inMiddleA v_tintsA v_bufferA v_valuesA v_ranksA v_oldRanksA v_partA v_allRanksA v_basesA v_isMetA v_metXA v_metYA v_lineA) H := by rw [hH]; exact hP
  have hS : va_S A s.heap H locs := by rw [hH]; exact hS
  suffices hgo : W p l e rmX5_mixture s m args below meth c H locs 0 0 Q (F0 m 0 ls []) by rw [hH] at hgo; exact hgo
  have S : CallFix p m c cX5_mixture 2 s args wsX5_mixture RX5 := S
  obtain ⟨hx, hb, hml, hown, hts⟩ := id S
  have hl : lv_has ls 2 [(0, .ref v_q0), (1, .int a0)] := hl
  unfold mX5_mixture at h
  refine lv_aload_n hx hb dX5_mixture_0 rfl (lv_at hl 0 rfl) ?_
  refine lv_iload_n hx hb dX5_mixture_1 rfl (lv_at hl 1 rfl) ?_
  refine lv_iconst (v := 0) hx hb dX5_mixture_2 (by decide) ?_
  refine lv_bipush (v := 7) hx hb dX5_mixture_3 (by decide) ?_
  obtain ⟨r1_0, g1, h⟩ := bnd1_e h
  refine roSi1 (rest := [.ref v_q0]) (As := [.int a0, .int 0, .int 7]) S (ctX5_within l G a0 0 7 r1_0 g1) (va_cwS 3 hts gX5_mixture_X5_within rfl rfl rfl hsX5_within ⟨Nat.le_of_ble_eq_true rfl, Nat.le_of_ble_eq_true rfl⟩) hK hP [] rfl rfl hl.1 rfl (Nat.le_of_ble_eq_true rfl) dX5_mixture_5 ⟨Nat.le_refl _, Nat.le_refl _⟩ (fun hz1 => ?_)
  obtain ⟨K2, hK2, h⟩ := jB1_e h
  have J2 : ∀ (j2_0 : Int32) (H : Heap) (locs : List Loc) (ls : Array Slot), K2 j2_0 = some (o0, o1, o2, o3, o4, o5, o6, o7, o8, o9) → lv_has ls 2 [(0, .ref v_q0), (1, .int a0)] → va_P G.1 vwCl (wdX5 G v_q0 v_q1 v_q2 v_q3 v_q4 v_q5 v_q6 v_q7 v_q8 v_q9 v_q10 v_q11 v_q12 v_q13 v_q14 v_q15 v_q16 v_thrown v_gain v_size v_w v_s v_h v_laidArea v_parts v_isMinus v_readSpot v_isStar v_wantsNumber v_waiting v_shiftX v_shiftY v_times v_dotsLaid v_joinedLaid v_hash v_isThereA v_vA v_spotOfA v_inMiddleA v_tintsA v_bufferA v_valuesA v_ranksA v_oldRanksA v_partA v_allRanksA v_basesA v_isMetA v_metXA v_metYA v_lineA) H → va_D A (wdX5 G v_q0 v_q1 v_q2 v_q3 v_q4 v_q5 v_q6 v_q7 v_q8 v_q9 v_q10 v_q11 v_q12 v_q13 v_q14 v_q15 v_q16 v_thrown v_gain v_size v_w v_s v_h v_laidArea v_parts v_isMinus v_readSpot v_isStar v_wantsNumber v_waiting v_shiftX v_shiftY v_times v_dotsLaid v_joinedLaid v_hash v_isThereA v_vA v_spotOfA v_inMiddleA v_tintsA v_bufferA v_valuesA v_ranksA v_oldRanksA v_partA v_allRanksA v_basesA v_isMetA v_metXA v_metYA v_lineA) → va_S A s.heap H locs → W p l e rmX5_mixture s m args below meth c H locs 0 0 Q (F0 m 27 ls [.int j2_0, .ref v_q0]) := by
    intro j2_0 H locs ls h hl hP hD hS
    replace h := (hK2 j2_0).symm.trans h
    refine va_put (D := G.1) (ci := 5) (v := .int j2_0) (ty := .int) (C := RX5) (T := TX5) (N := 35) hx hb hts fw_X5_mixture_X5 tyX5 tyX5_ok nmX5 hown hK.1 hP hD hS 0 rfl rfl 0 (by decide) (hts (.fieldLink RX5 59 "HalftoneScreensModel" "thrown" "I") lk_X5_mixture_f59) (fun _ h9 => h9) rfl (tyX5_ok 0 (by decide)) rfl rfl (Nat.le_of_ble_eq_true rfl) dX5_mixture_27 (fun H locs hP hD hS => ?_)
    have hP : va_P G.1 vwCl (wdX5 G v_q0 v_q1 v_q2 v_q3 v_q4 v_q5 v_q6 v_q7 v_q8 v_q9 v_q10 v_q11 v_q12 v_q13 v_q14 v_q15 v_q16 j2_0 v_gain v_size v_w v_s v_h v_laidArea v_parts v_isMinus v_readSpot v_isStar v_wantsNumber v_waiting v_shiftX v_shiftY v_times v_dotsLaid v_joinedLaid v_hash v_isThereA v_vA v_spotOfA v_inMiddleA v_tintsA v_bufferA v_valuesA v_ranksA v_oldRanksA v_partA v_allRanksA v_basesA v_isMetA v_metXA v_metYA v_lineA) H := hP
    have hD : va_D A (wdX5 G v_q0 v_q1 v_q2 v_q3 v_q4 v_q5 v_q6 v_q7 v_q8 v_q9 v_q10 v_q11 v_q12 v_q13 v_q14 v_q15 v_q16 j2_0 v_gain v_size v_w v_s v_h v_laidArea v_parts v_isMinus v_readSpot v_isStar v_wantsNumber v_waiting v_shiftX v_shiftY v_times v_dotsLaid v_joinedLaid v_hash v_isThereA v_vA v_spotOfA v_inMiddleA v_tintsA v_bufferA v_valuesA v_ranksA v_oldRanksA v_partA v_allRanksA v_basesA v_isMetA v_metXA v_metYA v_lineA) := hD
    refine lv_aload_n hx hb dX5_mixture_30 rfl (lv_at hl 0 rfl) ?_
    refine va_get (D := G.1) (ci := 5) (v := .int j2_0) (C := RX5) (T := TX5) (N := 35) hx hb hts fw_X5_mixture_X5 hown hK.1 hP 0 rfl rfl 0 (by decide) (hts (.fieldLink RX5 59 "HalftoneScreensModel" "thrown" "I") lk_X5_mixture_f59) (fun _ h9 => h9) rfl dX5_mixture_31 ?_
    refine lv_if_le (tgt := 39) hx hb dX5_mixture_34 (by decide) (fun c6 => ?_) (fun c6 => ?_)
    · replace h := ite_t c6 h
      refine lv_aload_n hx hb dX5_mixture_39 rfl (lv_at hl 0 rfl) ?_
      refine lv_aload_n hx hb dX5_mixture_40 rfl (lv_at hl 0 rfl) ?_
      obtain ⟨r7_0, g7, h⟩ := bnd1_e h
      refine roVi1 (rest := [.ref v_q0]) (As := []) S (ctX5_there l G v_q0 v_q1 v_q2 v_q3 v_q4 v_q5 v_q6 v_q7 v_q8 v_q9 v_q10 v_q11 v_q12 v_q13 v_q14 v_q15 v_q16 j2_0 v_gain v_size v_w v_s v_h v_laidArea v_parts v_isMinus v_readSpot v_isStar v_wantsNumber v_waiting v_shiftX v_shiftY v_times v_dotsLaid v_joinedLaid v_hash v_isThereA v_vA v_spotOfA v_inMiddleA v_tintsA v_bufferA v_valuesA v_ranksA v_oldRanksA v_partA v_allRanksA v_basesA v_isMetA v_metXA v_metYA v_lineA r7_0 g7) (cwV 0 hts gX5_mixture_X5_there rfl rfl rfl hvX5_there ⟨Nat.le_of_ble_eq_true rfl, Nat.le_of_ble_eq_true rfl⟩) hK hP [0, 1, 2, 3, 4, 5, 6, 7, 8, 9, 10, 11, 12, 13, 14, 15, 16] rfl 0 5 rfl rfl rfl rfl hl.1 rfl (Nat.le_of_ble_eq_true rfl) dX5_mixture_41 ⟨Nat.le_refl _, Nat.le_refl _⟩ (fun _ => ?_)
      obtain ⟨r8_0, r8_1, r8_2, g8, h⟩ := bnd3_e h
      refine rwV_same (rest := []) (As := [.int r7_0]) S (ctX5_layPeriod l G v_q0 v_q1 v_q2 v_q3 v_q4 v_q5 v_q6 v_q7 v_q8 v_q9 v_q10 v_q11 v_q12 v_q13 v_q14 v_q15 v_q16 j2_0 v_gain v_size v_w v_s v_h v_laidArea v_parts v_isMinus v_readSpot v_isStar v_wantsNumber v_waiting v_shiftX v_shiftY v_times v_dotsLaid v_joinedLaid v_hash v_isThereA v_vA v_spotOfA v_inMiddleA v_tintsA v_bufferA v_valuesA v_ranksA v_oldRanksA v_partA v_allRanksA v_basesA v_isMetA v_metXA v_metYA v_lineA r7_0 r8_0 r8_1 r8_2 g8) (cwV 1 hts gX5_mixture_X5_layPeriod rfl rfl rfl hvX5_layPeriod ⟨Nat.le_of_ble_eq_true rfl, Nat.le_of_ble_eq_true rfl⟩) hK hP hD hS xb_triv (fun _ _ _ => trivial) 0 5 rfl rfl rfl rfl hl.1 rfl (Nat.le_of_ble_eq_true rfl) dX5_mixture_44 ⟨Nat.le_refl _, Nat.le_refl _⟩ (fun _ H locs hP hD hS => ?_)
      have hP : va_P G.1 vwCl (wdX5 G v_q0 v_q1 v_q2 v_q3 v_q4 v_q5 v_q6 v_q7 v_q8 v_q9 v_q10 v_q11 v_q12 v_q13 v_q14 v_q15 v_q16 j2_0 v_gain v_size r8_0 r8_1 r8_2 v_laidArea v_parts v_isMinus v_readSpot v_isStar v_wantsNumber v_waiting v_shiftX v_shiftY v_times v_dotsLaid v_joinedLaid v_hash v_isThereA v_vA v_spotOfA v_inMiddleA v_tintsA v_bufferA v_valuesA v_ranksA v_oldRanksA v_partA v_allRanksA v_basesA v_isMetA v_metXA v_metYA v_lineA) H := hP
      have hD : va_D A (wdX5 G v_q0 v_q1 v_q2 v_q3 v_q4 v_q5 v_q6 v_q7 v_q8 v_q9 v_q10 v_q11 v_q12 v_q13 v_q14 v_q15 v_q16 j2_0 v_gain v_size r8_0 r8_1 r8_2 v_laidArea v_parts v_isMinus v_readSpot v_isStar v_wantsNumber v_waiting v_shiftX v_shiftY v_times v_dotsLaid v_joinedLaid v_hash v_isThereA v_vA v_spotOfA v_inMiddleA v_tintsA v_bufferA v_valuesA v_ranksA v_oldRanksA v_partA v_allRanksA v_basesA v_isMetA v_metXA v_metYA v_lineA) := hD
      refine lv_aload_n hx hb dX5_mixture_47 rfl (lv_at hl 0 rfl) ?_
      refine lv_aload_n hx hb dX5_mixture_48 rfl (lv_at hl 0 rfl) ?_
      refine va_get (D := G.1) (ci := 5) (v := .int r8_0) (C := RX5) (T := TX5) (N := 35) hx hb hts fw_X5_mixture_X5 hown hK.1 hP 0 rfl rfl 9 (by decide) (hts (.fieldLink RX5 89 "HalftoneScreensModel" "w" "I") lk_X5_mixture_f89) (fun _ h9 => h9) rfl dX5_mixture_49 ?_
      refine lv_aload_n hx hb dX5_mixture_52 rfl (lv_at hl 0 rfl) ?_
      refine va_get (D := G.1) (ci := 5) (v := .int r8_2) (C := RX5) (T := TX5) (N := 35) hx hb hts fw_X5_mixture_X5 hown hK.1 hP 0 rfl rfl 11 (by decide) (hts (.fieldLink RX5 82 "HalftoneScreensModel" "h" "I") lk_X5_mixture_f82) (fun _ h9 => h9) rfl dX5_mixture_53 ?_
      refine lv_imul hx hb dX5_mixture_56 ?_
      refine lv_sipush (v := 4096) hx hb dX5_mixture_57 (by decide) ?_
      obtain ⟨K9, hK9, h⟩ := jB1_e h
      have J9 : ∀ (j9_0 : Int32) (H : Heap) (locs : List Loc) (ls : Array Slot), K9 j9_0 = some (o0, o1, o2, o3, o4, o5, o6, o7, o8, o9) → lv_has ls 2 [(0, .ref v_q0), (1, .int a0)] → va_P G.1 vwCl (wdX5 G v_q0 v_q1 v_q2 v_q3 v_q4 v_q5 v_q6 v_q7 v_q8 v_q9 v_q10 v_q11 v_q12 v_q13 v_q14 v_q15 v_q16 j2_0 v_gain v_size r8_0 r8_1 r8_2 v_laidArea v_parts v_isMinus v_readSpot v_isStar v_wantsNumber v_waiting v_shiftX v_shiftY v_times v_dotsLaid v_joinedLaid v_hash v_isThereA v_vA v_spotOfA v_inMiddleA v_tintsA v_bufferA v_valuesA v_ranksA v_oldRanksA v_partA v_allRanksA v_basesA v_isMetA v_metXA v_metYA v_lineA) H → va_D A (wdX5 G v_q0 v_q1 v_q2 v_q3 v_q4 v_q5 v_q6 v_q7 v_q8 v_q9 v_q10 v_q11 v_q12 v_q13 v_q14 v_q15 v_q16 j2_0 v_gain v_size r8_0 r8_1 r8_2 v_laidArea v_parts v_isMinus v_readSpot v_isStar v_wantsNumber v_waiting v_shiftX v_shiftY v_times v_dotsLaid v_joinedLaid v_hash v_isThereA v_vA v_spotOfA v_inMiddleA v_tintsA v_bufferA v_valuesA v_ranksA v_oldRanksA v_partA v_allRanksA v_basesA v_isMetA v_metXA v_metYA v_lineA) → va_S A s.heap H locs → W p l e rmX5_mixture s m args below meth c H locs 0 0 Q (F0 m 68 ls [.int j9_0, .ref v_q0]) := by
        intro j9_0 H locs ls h hl hP hD hS
        replace h := (hK9 j9_0).symm.trans h
        refine va_put (D := G.1) (ci := 5) (v := .int j9_0) (ty := .int) (C := RX5) (T := TX5) (N := 35) hx hb hts fw_X5_mixture_X5 tyX5 tyX5_ok nmX5 hown hK.1 hP hD hS 0 rfl rfl 0 (by decide) (hts (.fieldLink RX5 59 "HalftoneScreensModel" "thrown" "I") lk_X5_mixture_f59) (fun _ h9 => h9) rfl (tyX5_ok 0 (by decide)) rfl rfl (Nat.le_of_ble_eq_true rfl) dX5_mixture_68 (fun H locs hP hD hS => ?_)
        have hP : va_P G.1 vwCl (wdX5 G v_q0 v_q1 v_q2 v_q3 v_q4 v_q5 v_q6 v_q7 v_q8 v_q9 v_q10 v_q11 v_q12 v_q13 v_q14 v_q15 v_q16 j9_0 v_gain v_size r8_0 r8_1 r8_2 v_laidArea v_parts v_isMinus v_readSpot v_isStar v_wantsNumber v_waiting v_shiftX v_shiftY v_times v_dotsLaid v_joinedLaid v_hash v_isThereA v_vA v_spotOfA v_inMiddleA v_tintsA v_bufferA v_valuesA v_ranksA v_oldRanksA v_partA v_allRanksA v_basesA v_isMetA v_metXA v_metYA v_lineA) H := hP
        have hD : va_D A (wdX5 G v_q0 v_q1 v_q2 v_q3 v_q4 v_q5 v_q6 v_q7 v_q8 v_q9 v_q10 v_q11 v_q12 v_q13 v_q14 v_q15 v_q16 j9_0 v_gain v_size r8_0 r8_1 r8_2 v_laidArea v_parts v_isMinus v_readSpot v_isStar v_wantsNumber v_waiting v_shiftX v_shiftY v_times v_dotsLaid v_joinedLaid v_hash v_isThereA v_vA v_spotOfA v_inMiddleA v_tintsA v_bufferA v_valuesA v_ranksA v_oldRanksA v_partA v_allRanksA v_basesA v_isMetA v_metXA v_metYA v_lineA) := hD
        refine lv_aload_n hx hb dX5_mixture_71 rfl (lv_at hl 0 rfl) ?_
        refine va_get (D := G.1) (ci := 5) (v := .int j9_0) (C := RX5) (T := TX5) (N := 35) hx hb hts fw_X5_mixture_X5 hown hK.1 hP 0 rfl rfl 0 (by decide) (hts (.fieldLink RX5 59 "HalftoneScreensModel" "thrown" "I") lk_X5_mixture_f59) (fun _ h9 => h9) rfl dX5_mixture_72 ?_
        refine lv_if_le (tgt := 82) hx hb dX5_mixture_75 (by decide) (fun c11 => ?_) (fun c11 => ?_)
        · replace h := ite_t c11 h
          refine lv_aload_n hx hb dX5_mixture_82 rfl (lv_at hl 0 rfl) ?_
          refine lv_iload_n hx hb dX5_mixture_83 rfl (lv_at hl 1 rfl) ?_
          refine lv_aload_n hx hb dX5_mixture_84 rfl (lv_at hl 0 rfl) ?_
          refine va_get (D := G.1) (ci := 5) (v := .int r8_0) (C := RX5) (T := TX5) (N := 35) hx hb hts fw_X5_mixture_X5 hown hK.1 hP 0 rfl rfl 9 (by decide) (hts (.fieldLink RX5 89 "HalftoneScreensModel" "w" "I") lk_X5_mixture_f89) (fun _ h9 => h9) rfl dX5_mixture_85 ?_
          refine lv_aload_n hx hb dX5_mixture_88 rfl (lv_at hl 0 rfl) ?_
          refine va_get (D := G.1) (ci := 5) (v := .int r8_2) (C := RX5) (T := TX5) (N := 35) hx hb hts fw_X5_mixture_X5 hown hK.1 hP 0 rfl rfl 11 (by decide) (hts (.fieldLink RX5 82 "HalftoneScreensModel" "h" "I") lk_X5_mixture_f82) (fun _ h9 => h9) rfl dX5_mixture_89 ?_
          obtain ⟨r12_0, r12_1, r12_2, r12_3, r12_4, r12_5, r12_6, r12_7, r12_8, g12, h⟩ := bnd9_e h
          refine rwV_same (rest := []) (As := [.int a0, .int r8_0, .int r8_2]) S (ctX5_mixed l G v_q0 v_q1 v_q2 v_q3 v_q4 v_q5 v_q6 v_q7 v_q8 v_q9 v_q10 v_q11 v_q12 v_q13 v_q14 v_q15 v_q16 j9_0 v_gain v_size r8_0 r8_1 r8_2 v_laidArea v_parts v_isMinus v_readSpot v_isStar v_wantsNumber v_waiting v_shiftX v_shiftY v_times v_dotsLaid v_joinedLaid v_hash v_isThereA v_vA v_spotOfA v_inMiddleA v_tintsA v_bufferA v_valuesA v_ranksA v_oldRanksA v_partA v_allRanksA v_basesA v_isMetA v_metXA v_metYA v_lineA a0 r8_0 r8_2 r12_0 r12_1 r12_2 r12_3 r12_4 r12_5 r12_6 r12_7 r12_8 g12) (cwV 3 hts gX5_mixture_X5_mixed rfl rfl rfl hvX5_mixed ⟨Nat.le_of_ble_eq_true rfl, Nat.le_of_ble_eq_true rfl⟩) hK hP hD hS xb_triv (fun _ _ _ => trivial) 0 5 rfl rfl rfl rfl hl.1 rfl (Nat.le_of_ble_eq_true rfl) dX5_mixture_92 ⟨Nat.le_refl _, Nat.le_refl _⟩ (fun _ H locs hP hD hS => ?_)
          have hP : va_P G.1 vwCl (wdX5 G v_q0 v_q1 v_q2 v_q3 v_q4 v_q5 v_q6 v_q7 v_q8 v_q9 v_q10 v_q11 v_q12 v_q13 v_q14 v_q15 v_q16 j9_0 v_gain v_size r12_1 r12_2 r12_3 r12_4 v_parts v_isMinus v_readSpot v_isStar v_wantsNumber v_waiting v_shiftX v_shiftY v_times v_dotsLaid v_joinedLaid v_hash v_isThereA v_vA v_spotOfA v_inMiddleA v_tintsA v_bufferA r12_5 r12_6 v_oldRanksA v_partA r12_7 r12_8 v_isMetA v_metXA v_metYA v_lineA) H := hP
          have hD : va_D A (wdX5 G v_q0 v_q1 v_q2 v_q3 v_q4 v_q5 v_q6 v_q7 v_q8 v_q9 v_q10 v_q11 v_q12 v_q13 v_q14 v_q15 v_q16 j9_0 v_gain v_size r12_1 r12_2 r12_3 r12_4 v_parts v_isMinus v_readSpot v_isStar v_wantsNumber v_waiting v_shiftX v_shiftY v_times v_dotsLaid v_joinedLaid v_hash v_isThereA v_vA v_spotOfA v_inMiddleA v_tintsA v_bufferA r12_5 r12_6 v_oldRanksA v_partA r12_7 r12_8 v_isMetA v_metXA v_metYA v_lineA) := hD
          obtain ⟨rfl, rfl, rfl, rfl, rfl, rfl, rfl, rfl, rfl, rfl⟩ := sm10 h
          exact hret _ _ _ _ _ rfl trivial rfl hP hD hS dX5_mixture_95
        · replace h := ite_f c11 h
          refine lv_iconst (v := 0) hx hb dX5_mixture_78 (by decide) ?_
          refine lv_goto (tgt := 95) hx hb dX5_mixture_79 (by decide) ?_
          obtain ⟨rfl, rfl, rfl, rfl, rfl, rfl, rfl, rfl, rfl, rfl⟩ := sm10 h
          exact hret _ _ _ _ _ rfl trivial rfl hP hD hS dX5_mixture_95
      refine lv_icmp_le (tgt := 67) hx hb dX5_mixture_60 (by decide) (fun c10 => ?_) (fun c10 => ?_)
      · replace h := ite_t c10 h
        refine lv_iconst (v := 0) hx hb dX5_mixture_67 (by decide) ?_
        exact J9 0 H locs ls h hl hP hD hS
      · replace h := ite_f c10 h
        refine lv_iconst (v := 2) hx hb dX5_mixture_63 (by decide) ?_
        refine lv_goto (tgt := 68) hx hb dX5_mixture_64 (by decide) ?_
        exact J9 2 H locs ls h hl hP hD hS
    · replace h := ite_f c6 h
      refine lv_iconst (v := 0) hx hb dX5_mixture_37 (by decide) ?_
      obtain ⟨rfl, rfl, rfl, rfl, rfl, rfl, rfl, rfl, rfl, rfl⟩ := sm10 h
      exact hret _ _ _ _ _ rfl trivial rfl hP hD hS dX5_mixture_38
  refine lv_if_ne (tgt := 15) hx hb dX5_mixture_8 (by decide) (fun c3 => ?_) (fun c3 => ?_)
  · replace h := ite_f c3 h
    refine lv_aload_n hx hb dX5_mixture_15 rfl (lv_at hl 0 rfl) ?_
    obtain ⟨r4_0, g4, h⟩ := bnd1_e h
    refine roVi1 (rest := [.ref v_q0]) (As := []) S (ctX5_there l G v_q0 v_q1 v_q2 v_q3 v_q4 v_q5 v_q6 v_q7 v_q8 v_q9 v_q10 v_q11 v_q12 v_q13 v_q14 v_q15 v_q16 v_thrown v_gain v_size v_w v_s v_h v_laidArea v_parts v_isMinus v_readSpot v_isStar v_wantsNumber v_waiting v_shiftX v_shiftY v_times v_dotsLaid v_joinedLaid v_hash v_isThereA v_vA v_spotOfA v_inMiddleA v_tintsA v_bufferA v_valuesA v_ranksA v_oldRanksA v_partA v_allRanksA v_basesA v_isMetA v_metXA v_metYA v_lineA r4_0 g4) (cwV 0 hts gX5_mixture_X5_there rfl rfl rfl hvX5_there ⟨Nat.le_of_ble_eq_true rfl, Nat.le_of_ble_eq_true rfl⟩) hK hP [0, 1, 2, 3, 4, 5, 6, 7, 8, 9, 10, 11, 12, 13, 14, 15, 16] rfl 0 5 rfl rfl rfl rfl hl.1 rfl (Nat.le_of_ble_eq_true rfl) dX5_mixture_16 ⟨Nat.le_refl _, Nat.le_refl _⟩ (fun _ => ?_)
    refine lv_if_ne (tgt := 26) hx hb dX5_mixture_19 (by decide) (fun c5 => ?_) (fun c5 => ?_)
    · replace h := ite_f c5 h
      refine lv_iconst (v := 0) hx hb dX5_mixture_26 (by decide) ?_
      exact J2 0 H locs ls h hl hP hD hS
    · replace h := ite_t c5 h
      refine lv_iconst (v := 2) hx hb dX5_mixture_22 (by decide) ?_
      refine lv_goto (tgt := 27) hx hb dX5_mixture_23 (by decide) ?_
      exact J2 2 H locs ls h hl hP hD hS
  · replace h := ite_t c3 h
    refine lv_iconst (v := 1) hx hb dX5_mixture_11 (by decide) ?_
    refine lv_goto (tgt := 27) hx hb dX5_mixture_12 (by decide) ?_
    exact J2 1 H locs ls h hl hP hD hS
theorem fw_X5_nearest_X5 : ∀ w ∈ wsX50, w ∈ wsX5_nearest := fun w h => List.mem_cons_of_mem _ (List.mem_append_right _ h)
theorem lk_X5_nearest_f59 : Cond.fieldLink RX5 59 "HalftoneScreensModel" "thrown" "I" ∈ wsX5_nearest := List.mem_of_getElem? (i := 1) rfl
theorem hsX5_isNearer : yX5_isNearer.cls ≠ "java/lang/invoke/MethodHandle" ∧ yX5_isNearer.cls ≠ "java/lang/invoke/VarHandle" ∧ (parseMethodDescriptor yX5_isNearer.desc).map (fun d => d.parameters.length) = some 6 := by decide +kernel
theorem hvX5_isNearer : yX5_isNearer.cls = RX5 ∧ yX5_isNearer.cls ≠ "java/lang/invoke/MethodHandle" ∧ yX5_isNearer.cls ≠ "java/lang/invoke/VarHandle" ∧ (parseMethodDescriptor yX5_isNearer.desc).map (fun d => d.parameters.length) = some 6 := ⟨rfl, hsX5_isNearer⟩
abbrev rmX5_nearest : Room := { frames := 2, cells := 0, slots := 0, locals := 53 }
set_option maxHeartbeats 4000000 in
set_option maxRecDepth 100000 in
theorem ctX5_nearest (l : Launch) (G : GG) (v_q0 : Nat) (v_q1 : Nat) (v_q2 : Nat) (v_q3 : Nat) (v_q4 : Nat) (v_q5 : Nat) (v_q6 : Nat) (v_q7 : Nat) (v_q8 : Nat) (v_q9 : Nat) (v_q10 : Nat) (v_q11 : Nat) (v_q12 : Nat) (v_q13 : Nat) (v_q14 : Nat) (v_q15 : Nat) (v_q16 : Nat) (v_thrown : Int32) (v_gain : Int32) (v_size : Int32) (v_w : Int32) (v_s : Int32) (v_h : Int32) (v_laidArea : Int32) (v_parts : Int32) (v_isMinus : Int32) (v_readSpot : Int32) (v_isStar : Int32) (v_wantsNumber : Int32) (v_waiting : Int32) (v_shiftX : Int32) (v_shiftY : Int32) (v_times : Int32) (v_dotsLaid : Int32) (v_joinedLaid : Int32) (v_hash : Int64) (v_isThereA : (Nat → Int32)) (v_vA : (Nat → Int32)) (v_spotOfA : (Nat → Int32)) (v_inMiddleA : (Nat → Int32)) (v_tintsA : (Nat → Int32)) (v_bufferA : (Nat → Int32)) (v_valuesA : (Nat → Int32)) (v_ranksA : (Nat → Int32)) (v_oldRanksA : (Nat → Int32)) (v_partA : (Nat → Int32)) (v_allRanksA : (Nat → Int32)) (v_basesA : (Nat → Int32)) (v_isMetA : (Nat → Int32)) (v_metXA : (Nat → Int32)) (v_metYA : (Nat → Int32)) (v_lineA : (Nat → Int32)) (a0 : Int32) (a1 : Int32) (a2 : Int32) (a3 : Int32) (o0 : Int32) (o1 : Int32) (h : mX5_nearest a0 a1 a2 a3 = some (o0, o1))  : Met l yX5_nearest wsX5_nearest rmX5_nearest (va_Pc [.ref v_q0, .int a0, .int a1, .int a2, .int a3] (PreD G (wdX5 G v_q0 v_q1 v_q2 v_q3 v_q4 v_q5 v_q6 v_q7 v_q8 v_q9 v_q10 v_q11 v_q12 v_q13 v_q14 v_q15 v_q16 v_thrown v_gain v_size v_w v_s v_h v_laidArea v_parts v_isMinus v_readSpot v_isStar v_wantsNumber v_waiting v_shiftX v_shiftY v_times v_dotsLaid v_joinedLaid v_hash v_isThereA v_vA v_spotOfA v_inMiddleA v_tintsA v_bufferA v_valuesA v_ranksA v_oldRanksA v_partA v_allRanksA v_basesA v_isMetA v_metXA v_metYA v_lineA) (fun _ => True))) (QwA G (va_A0 (wdX5 G v_q0 v_q1 v_q2 v_q3 v_q4 v_q5 v_q6 v_q7 v_q8 v_q9 v_q10 v_q11 v_q12 v_q13 v_q14 v_q15 v_q16 v_thrown v_gain v_size v_w v_s v_h v_laidArea v_parts v_isMinus v_readSpot v_isStar v_wantsNumber v_waiting v_shiftX v_shiftY v_times v_dotsLaid v_joinedLaid v_hash v_isThereA v_vA v_spotOfA v_inMiddleA v_tintsA v_bufferA v_valuesA v_ranksA v_oldRanksA v_partA v_allRanksA v_basesA v_isMetA v_metXA v_metYA v_lineA)) (wdX5 G v_q0 v_q1 v_q2 v_q3 v_q4 v_q5 v_q6 v_q7 v_q8 v_q9 v_q10 v_q11 v_q12 v_q13 v_q14 v_q15 v_q16 o1 v_gain v_size v_w v_s v_h v_laidArea v_parts v_isMinus v_readSpot v_isStar v_wantsNumber v_waiting v_shiftX v_shiftY v_times v_dotsLaid v_joinedLaid v_hash v_isThereA v_vA v_spotOfA v_inMiddleA v_tintsA v_bufferA v_valuesA v_ranksA v_oldRanksA v_partA v_allRanksA v_basesA v_isMetA v_metXA v_metYA v_lineA) (some (.int o0)) True) 0 0 (va_A0 (wdX5 G v_q0 v_q1 v_q2 v_q3 v_q4 v_q5 v_q6 v_q7 v_q8 v_q9 v_q10 v_q11 v_q12 v_q13 v_q14 v_q15 v_q16 v_thrown v_gain v_size v_w v_s v_h v_laidArea v_parts v_isMinus v_readSpot v_isStar v_wantsNumber v_waiting v_shiftX v_shiftY v_times v_dotsLaid v_joinedLaid v_hash v_isThereA v_vA v_spotOfA v_inMiddleA v_tintsA v_bufferA v_valuesA v_ranksA v_oldRanksA v_partA v_allRanksA v_basesA v_isMetA v_metXA v_metYA v_lineA)) := by
  refine of_wi (cc := cX5_nearest) (maxL := 10) (ty := .int) (plainFor_of_name (by decide)) rfl (Nat.le_of_ble_eq_true rfl) ?_
  intro p e s m args below meth c ls Q A S hl hP hD hS hK hX hA hret
  obtain ⟨H, hH⟩ : ∃ H, H = s.heap := ⟨_, rfl⟩
  obtain ⟨locs, hlocs⟩ : ∃ L : List Loc, L = [] := ⟨_, rfl⟩
  rw [← hlocs]
  rw [← hlocs] at hS
  have hP : va_P G.1 vwCl (wdX5 G v_q0 v_q1 v_q2 v_q3 v_q4 v_q5 v_q6 v_q7 v_q8 v_q9 v_q10 v_q11 v_q12 v_q13 v_q14 v_q15 v_q16 v_thrown v_gain v_size v_w v_s v_h v_laidArea v_parts v_isMinus v_readSpot v_isStar v_wantsNumber v_waiting v_shiftX v_shiftY v_times v_dotsLaid v_joinedLaid v_hash v_isThereA v_vA v_spotOfA v_inMiddleA v_tintsA v_bufferA v_valuesA v_ranksA v_oldRanksA v_partA v_allRanksA v_basesA v_isMetA v_metXA v_metYA v_lineA) H := by rw [hH]; exact hP
  have hS : va_S A s.heap H locs := by rw [hH]; exact hS
  suffices hgo : W p l e rmX5_nearest s m args below meth c H locs 0 0 Q (F0 m 0 ls []) by rw [hH] at hgo; exact hgo
  have S : CallFix p m c cX5_nearest 10 s args wsX5_nearest RX5 := S
  obtain ⟨hx, hb, hml, hown, hts⟩ := id S
  have hl : lv_has ls 10 [(0, .ref v_q0), (1, .int a0), (2, .int a1), (3, .int a2), (4, .int a3)] := hl
  unfold mX5_nearest at h
  refine lv_aload_n hx hb dX5_nearest_0 rfl (lv_at hl 0 rfl) ?_
  refine lv_iload_n hx hb dX5_nearest_1 rfl (lv_at hl 1 rfl) ?_
  refine lv_iconst (v := 0) hx hb dX5_nearest_2 (by decide) ?_
  refine lv_sipush (v := 1000) hx hb dX5_nearest_3 (by decide) ?_
  obtain ⟨r1_0, g1, h⟩ := bnd1_e h
  refine roSi1 (rest := [.ref v_q0]) (As := [.int a0, .int 0, .int 1000]) S (ctX5_within l G a0 0 1000 r1_0 g1) (va_cwS 3 hts gX5_nearest_X5_within rfl rfl rfl hsX5_within ⟨Nat.le_of_ble_eq_true rfl, Nat.le_of_ble_eq_true rfl⟩) hK hP [] rfl rfl hl.1 rfl (Nat.le_of_ble_eq_true rfl) dX5_nearest_6 ⟨Nat.le_refl _, Nat.le_refl _⟩ (fun hz1 => ?_)
  obtain ⟨K2, hK2, h⟩ := jB1_e h
  have J2 : ∀ (j2_0 : Int32) (jz2_0 : isZ j2_0) (H : Heap) (locs : List Loc) (ls : Array Slot), K2 j2_0 = some (o0, o1) → lv_has ls 10 [(0, .ref v_q0), (1, .int a0), (2, .int a1), (3, .int a2), (4, .int a3)] → va_P G.1 vwCl (wdX5 G v_q0 v_q1 v_q2 v_q3 v_q4 v_q5 v_q6 v_q7 v_q8 v_q9 v_q10 v_q11 v_q12 v_q13 v_q14 v_q15 v_q16 v_thrown v_gain v_size v_w v_s v_h v_laidArea v_parts v_isMinus v_readSpot v_isStar v_wantsNumber v_waiting v_shiftX v_shiftY v_times v_dotsLaid v_joinedLaid v_hash v_isThereA v_vA v_spotOfA v_inMiddleA v_tintsA v_bufferA v_valuesA v_ranksA v_oldRanksA v_partA v_allRanksA v_basesA v_isMetA v_metXA v_metYA v_lineA) H → va_D A (wdX5 G v_q0 v_q1 v_q2 v_q3 v_q4 v_q5 v_q6 v_q7 v_q8 v_q9 v_q10 v_q11 v_q12 v_q13 v_q14 v_q15 v_q16 v_thrown v_gain v_size v_w v_s v_h v_laidArea v_parts v_isMinus v_readSpot v_isStar v_wantsNumber v_waiting v_shiftX v_shiftY v_times v_dotsLaid v_joinedLaid v_hash v_isThereA v_vA v_spotOfA v_inMiddleA v_tintsA v_bufferA v_valuesA v_ranksA v_oldRanksA v_partA v_allRanksA v_basesA v_isMetA v_metXA v_metYA v_lineA) → va_S A s.heap H locs → W p l e rmX5_nearest s m args below meth c H locs 0 0 Q (F0 m 49 ls [.int j2_0, .ref v_q0]) := by
    intro j2_0 jz2_0 H locs ls h hl hP hD hS
    replace h := (hK2 j2_0).symm.trans h
    refine va_put (D := G.1) (ci := 5) (v := .int j2_0) (ty := .int) (C := RX5) (T := TX5) (N := 35) hx hb hts fw_X5_nearest_X5 tyX5 tyX5_ok nmX5 hown hK.1 hP hD hS 0 rfl rfl 0 (by decide) (hts (.fieldLink RX5 59 "HalftoneScreensModel" "thrown" "I") lk_X5_nearest_f59) (fun _ h9 => h9) rfl (tyX5_ok 0 (by decide)) rfl rfl (Nat.le_of_ble_eq_true rfl) dX5_nearest_49 (fun H locs hP hD hS => ?_)
    have hP : va_P G.1 vwCl (wdX5 G v_q0 v_q1 v_q2 v_q3 v_q4 v_q5 v_q6 v_q7 v_q8 v_q9 v_q10 v_q11 v_q12 v_q13 v_q14 v_q15 v_q16 j2_0 v_gain v_size v_w v_s v_h v_laidArea v_parts v_isMinus v_readSpot v_isStar v_wantsNumber v_waiting v_shiftX v_shiftY v_times v_dotsLaid v_joinedLaid v_hash v_isThereA v_vA v_spotOfA v_inMiddleA v_tintsA v_bufferA v_valuesA v_ranksA v_oldRanksA v_partA v_allRanksA v_basesA v_isMetA v_metXA v_metYA v_lineA) H := hP
    have hD : va_D A (wdX5 G v_q0 v_q1 v_q2 v_q3 v_q4 v_q5 v_q6 v_q7 v_q8 v_q9 v_q10 v_q11 v_q12 v_q13 v_q14 v_q15 v_q16 j2_0 v_gain v_size v_w v_s v_h v_laidArea v_parts v_isMinus v_readSpot v_isStar v_wantsNumber v_waiting v_shiftX v_shiftY v_times v_dotsLaid v_joinedLaid v_hash v_isThereA v_vA v_spotOfA v_inMiddleA v_tintsA v_bufferA v_valuesA v_ranksA v_oldRanksA v_partA v_allRanksA v_basesA v_isMetA v_metXA v_metYA v_lineA) := hD
    refine lv_aload_n hx hb dX5_nearest_52 rfl (lv_at hl 0 rfl) ?_
    refine va_get (D := G.1) (ci := 5) (v := .int j2_0) (C := RX5) (T := TX5) (N := 35) hx hb hts fw_X5_nearest_X5 hown hK.1 hP 0 rfl rfl 0 (by decide) (hts (.fieldLink RX5 59 "HalftoneScreensModel" "thrown" "I") lk_X5_nearest_f59) (fun _ h9 => h9) rfl dX5_nearest_53 ?_
    refine lv_if_le (tgt := 61) hx hb dX5_nearest_56 (by decide) (fun c10 => ?_) (fun c10 => ?_)
    · replace h := ite_t c10 h
      refine lv_iconst (v := 1) hx hb dX5_nearest_61 (by decide) ?_
      refine lv_istore (lv' := [(5, .int 1), (0, .ref v_q0), (1, .int a0), (2, .int a1), (3, .int a2), (4, .int a3)]) hx hb dX5_nearest_62 hl (by decide) rfl (fun ls hl => ?_)
      refine lv_iconst (v := 0) hx hb dX5_nearest_64 (by decide) ?_
      refine lv_istore (lv' := [(6, .int 0), (5, .int 1), (0, .ref v_q0), (1, .int a0), (2, .int a1), (3, .int a2), (4, .int a3)]) hx hb dX5_nearest_65 hl (by decide) rfl (fun ls hl => ?_)
      refine lv_iconst (v := 1) hx hb dX5_nearest_67 (by decide) ?_
      refine lv_istore (lv' := [(7, .int 1), (6, .int 0), (5, .int 1), (0, .ref v_q0), (1, .int a0), (2, .int a1), (3, .int a2), (4, .int a3)]) hx hb dX5_nearest_68 hl (by decide) rfl (fun ls hl => ?_)
      obtain ⟨u11_0, u11_1, u11_2, g11, h⟩ := bnd3_e h
      have L11 : ∀ (fu : Nat) (v11_0 : Int32) (v11_1 : Int32) (v11_2 : Int32) (u11_0 : Int32) (u11_1 : Int32) (u11_2 : Int32) (H : Heap) (locs : List Loc) (ls : Array Slot), mX5_nearest_L70 a0 a1 a2 fu v11_0 v11_1 v11_2 = some (u11_0, u11_1, u11_2) → lv_has ls 10 [(7, .int v11_0), (6, .int v11_1), (5, .int v11_2), (0, .ref v_q0), (1, .int a0), (2, .int a1), (3, .int a2), (4, .int a3)] → va_P G.1 vwCl (wdX5 G v_q0 v_q1 v_q2 v_q3 v_q4 v_q5 v_q6 v_q7 v_q8 v_q9 v_q10 v_q11 v_q12 v_q13 v_q14 v_q15 v_q16 j2_0 v_gain v_size v_w v_s v_h v_laidArea v_parts v_isMinus v_readSpot v_isStar v_wantsNumber v_waiting v_shiftX v_shiftY v_times v_dotsLaid v_joinedLaid v_hash v_isThereA v_vA v_spotOfA v_inMiddleA v_tintsA v_bufferA v_valuesA v_ranksA v_oldRanksA v_partA v_allRanksA v_basesA v_isMetA v_metXA v_metYA v_lineA) H → va_D A (wdX5 G v_q0 v_q1 v_q2 v_q3 v_q4 v_q5 v_q6 v_q7 v_q8 v_q9 v_q10 v_q11 v_q12 v_q13 v_q14 v_q15 v_q16 j2_0 v_gain v_size v_w v_s v_h v_laidArea v_parts v_isMinus v_readSpot v_isStar v_wantsNumber v_waiting v_shiftX v_shiftY v_times v_dotsLaid v_joinedLaid v_hash v_isThereA v_vA v_spotOfA v_inMiddleA v_tintsA v_bufferA v_valuesA v_ranksA v_oldRanksA v_partA v_allRanksA v_basesA v_isMetA v_metXA v_metYA v_lineA) → va_S A s.heap H locs → (∀ (H : Heap) (locs : List Loc) (ls : Array Slot), lv_has ls 10 [(7, .int u11_0), (6, .int u11_1), (5, .int u11_2), (0, .ref v_q0), (1, .int a0), (2, .int a1), (3, .int a2), (4, .int a3)] → va_P G.1 vwCl (wdX5 G v_q0 v_q1 v_q2 v_q3 v_q4 v_q5 v_q6 v_q7 v_q8 v_q9 v_q10 v_q11 v_q12 v_q13 v_q14 v_q15 v_q16 j2_0 v_gain v_size v_w v_s v_h v_laidArea v_parts v_isMinus v_readSpot v_isStar v_wantsNumber v_waiting v_shiftX v_shiftY v_times v_dotsLaid v_joinedLaid v_hash v_isThereA v_vA v_spotOfA v_inMiddleA v_tintsA v_bufferA v_valuesA v_ranksA v_oldRanksA v_partA v_allRanksA v_basesA v_isMetA v_metXA v_metYA v_lineA) H → va_D A (wdX5 G v_q0 v_q1 v_q2 v_q3 v_q4 v_q5 v_q6 v_q7 v_q8 v_q9 v_q10 v_q11 v_q12 v_q13 v_q14 v_q15 v_q16 j2_0 v_gain v_size v_w v_s v_h v_laidArea v_parts v_isMinus v_readSpot v_isStar v_wantsNumber v_waiting v_shiftX v_shiftY v_times v_dotsLaid v_joinedLaid v_hash v_isThereA v_vA v_spotOfA v_inMiddleA v_tintsA v_bufferA v_valuesA v_ranksA v_oldRanksA v_partA v_allRanksA v_basesA v_isMetA v_metXA v_metYA v_lineA) → va_S A s.heap H locs → W p l e rmX5_nearest s m args below meth c H locs 0 0 Q (F0 m 165 ls [])) → W p l e rmX5_nearest s m args below meth c H locs 0 0 Q (F0 m 70 ls []) := by
        intro fu
        induction fu with
        | zero => intro v11_0 v11_1 v11_2 u11_0 u11_1 u11_2 H locs ls h; exact nomatch h
        | succ fu ih =>
          intro v11_0 v11_1 v11_2 u11_0 u11_1 u11_2 H locs ls h hl hP hD hS kE
          rw [mX5_nearest_L70] at h
          refine lv_iload hx hb dX5_nearest_70 (lv_at hl 0 rfl) ?_
          refine lv_bipush (v := 8) hx hb dX5_nearest_72 (by decide) ?_
          refine lv_icmp_gt (tgt := 165) hx hb dX5_nearest_74 (by decide) (fun c12 => ?_) (fun c12 => ?_)
          · replace h := ite_t c12 h
            obtain ⟨rfl, rfl, rfl⟩ := sm3 h
            exact kE H locs ls hl hP hD hS
          · replace h := ite_f c12 h
            refine lv_iconst (v := 0) hx hb dX5_nearest_77 (by decide) ?_
            refine lv_istore (lv' := [(8, .int 0), (7, .int v11_0), (6, .int v11_1), (5, .int v11_2), (0, .ref v_q0), (1, .int a0), (2, .int a1), (3, .int a2), (4, .int a3)]) hx hb dX5_nearest_78 hl (by decide) rfl (fun ls hl => ?_)
            obtain ⟨u13_0, u13_1, u13_2, g13, h⟩ := bnd3_e h
            have L13 : ∀ (fu : Nat) (v13_0 : Int32) (v13_1 : Int32) (v13_2 : Int32) (u13_0 : Int32) (u13_1 : Int32) (u13_2 : Int32) (H : Heap) (locs : List Loc) (ls : Array Slot), mX5_nearest_L80 a0 a1 a2 v11_0 fu v13_0 v13_1 v13_2 = some (u13_0, u13_1, u13_2) → lv_has ls 10 [(8, .int v13_0), (7, .int v11_0), (6, .int v13_1), (5, .int v13_2), (0, .ref v_q0), (1, .int a0), (2, .int a1), (3, .int a2), (4, .int a3)] → va_P G.1 vwCl (wdX5 G v_q0 v_q1 v_q2 v_q3 v_q4 v_q5 v_q6 v_q7 v_q8 v_q9 v_q10 v_q11 v_q12 v_q13 v_q14 v_q15 v_q16 j2_0 v_gain v_size v_w v_s v_h v_laidArea v_parts v_isMinus v_readSpot v_isStar v_wantsNumber v_waiting v_shiftX v_shiftY v_times v_dotsLaid v_joinedLaid v_hash v_isThereA v_vA v_spotOfA v_inMiddleA v_tintsA v_bufferA v_valuesA v_ranksA v_oldRanksA v_partA v_allRanksA v_basesA v_isMetA v_metXA v_metYA v_lineA) H → va_D A (wdX5 G v_q0 v_q1 v_q2 v_q3 v_q4 v_q5 v_q6 v_q7 v_q8 v_q9 v_q10 v_q11 v_q12 v_q13 v_q14 v_q15 v_q16 j2_0 v_gain v_size v_w v_s v_h v_laidArea v_parts v_isMinus v_readSpot v_isStar v_wantsNumber v_waiting v_shiftX v_shiftY v_times v_dotsLaid v_joinedLaid v_hash v_isThereA v_vA v_spotOfA v_inMiddleA v_tintsA v_bufferA v_valuesA v_ranksA v_oldRanksA v_partA v_allRanksA v_basesA v_isMetA v_metXA v_metYA v_lineA) → va_S A s.heap H locs → (∀ (H : Heap) (locs : List Loc) (ls : Array Slot), lv_has ls 10 [(8, .int u13_0), (7, .int v11_0), (6, .int u13_1), (5, .int u13_2), (0, .ref v_q0), (1, .int a0), (2, .int a1), (3, .int a2), (4, .int a3)] → va_P G.1 vwCl (wdX5 G v_q0 v_q1 v_q2 v_q3 v_q4 v_q5 v_q6 v_q7 v_q8 v_q9 v_q10 v_q11 v_q12 v_q13 v_q14 v_q15 v_q16 j2_0 v_gain v_size v_w v_s v_h v_laidArea v_parts v_isMinus v_readSpot v_isStar v_wantsNumber v_waiting v_shiftX v_shiftY v_times v_dotsLaid v_joinedLaid v_hash v_isThereA v_vA v_spotOfA v_inMiddleA v_tintsA v_bufferA v_valuesA v_ranksA v_oldRanksA v_partA v_allRanksA v_basesA v_isMetA v_metXA v_metYA v_lineA) H → va_D A (wdX5 G v_q0 v_q1 v_q2 v_q3 v_q4 v_q5 v_q6 v_q7 v_q8 v_q9 v_q10 v_q11 v_q12 v_q13 v_q14 v_q15 v_q16 j2_0 v_gain v_size v_w v_s v_h v_laidArea v_parts v_isMinus v_readSpot v_isStar v_wantsNumber v_waiting v_shiftX v_shiftY v_times v_dotsLaid v_joinedLaid v_hash v_isThereA v_vA v_spotOfA v_inMiddleA v_tintsA v_bufferA v_valuesA v_ranksA v_oldRanksA v_partA v_allRanksA v_basesA v_isMetA v_metXA v_metYA v_lineA) → va_S A s.heap H locs → W p l e rmX5_nearest s m args below meth c H locs 0 0 Q (F0 m 159 ls [])) → W p l e rmX5_nearest s m args below meth c H locs 0 0 Q (F0 m 80 ls []) := by
              intro fu
              induction fu with
              | zero => intro v13_0 v13_1 v13_2 u13_0 u13_1 u13_2 H locs ls h; exact nomatch h
              | succ fu ih =>
                intro v13_0 v13_1 v13_2 u13_0 u13_1 u13_2 H locs ls h hl hP hD hS kE
                rw [mX5_nearest_L80] at h
                refine lv_iload hx hb dX5_nearest_80 (lv_at hl 0 rfl) ?_
                refine lv_bipush (v := 8) hx hb dX5_nearest_82 (by decide) ?_
                refine lv_icmp_gt (tgt := 159) hx hb dX5_nearest_84 (by decide) (fun c14 => ?_) (fun c14 => ?_)
                · replace h := ite_t c14 h
                  obtain ⟨rfl, rfl, rfl⟩ := sm3 h
                  exact kE H locs ls hl hP hD hS
                · replace h := ite_f c14 h
                  refine lv_iload hx hb dX5_nearest_87 (lv_at hl 1 rfl) ?_
                  refine lv_iload hx hb dX5_nearest_89 (lv_at hl 1 rfl) ?_
                  refine lv_imul hx hb dX5_nearest_91 ?_
                  refine lv_iload hx hb dX5_nearest_92 (lv_at hl 0 rfl) ?_
                  refine lv_iload hx hb dX5_nearest_94 (lv_at hl 0 rfl) ?_
                  refine lv_imul hx hb dX5_nearest_96 ?_
                  refine lv_iadd hx hb dX5_nearest_97 ?_
                  refine lv_iload_n hx hb dX5_nearest_98 rfl (lv_at hl 7 rfl) ?_
                  obtain ⟨K15, hK15, h⟩ := jB1_e h
                  have J15 : ∀ (j15_0 : Int32) (jz15_0 : isZ j15_0) (H : Heap) (locs : List Loc) (ls : Array Slot), K15 j15_0 = some (u13_0, u13_1, u13_2) → lv_has ls 10 [(8, .int v13_0), (7, .int v11_0), (6, .int v13_1), (5, .int v13_2), (0, .ref v_q0), (1, .int a0), (2, .int a1), (3, .int a2), (4, .int a3)] → va_P G.1 vwCl (wdX5 G v_q0 v_q1 v_q2 v_q3 v_q4 v_q5 v_q6 v_q7 v_q8 v_q9 v_q10 v_q11 v_q12 v_q13 v_q14 v_q15 v_q16 j2_0 v_gain v_size v_w v_s v_h v_laidArea v_parts v_isMinus v_readSpot v_isStar v_wantsNumber v_waiting v_shiftX v_shiftY v_times v_dotsLaid v_joinedLaid v_hash v_isThereA v_vA v_spotOfA v_inMiddleA v_tintsA v_bufferA v_valuesA v_ranksA v_oldRanksA v_partA v_allRanksA v_basesA v_isMetA v_metXA v_metYA v_lineA) H → va_D A (wdX5 G v_q0 v_q1 v_q2 v_q3 v_q4 v_q5 v_q6 v_q7 v_q8 v_q9 v_q10 v_q11 v_q12 v_q13 v_q14 v_q15 v_q16 j2_0 v_gain v_size v_w v_s v_h v_laidArea v_parts v_isMinus v_readSpot v_isStar v_wantsNumber v_waiting v_shiftX v_shiftY v_times v_dotsLaid v_joinedLaid v_hash v_isThereA v_vA v_spotOfA v_inMiddleA v_tintsA v_bufferA v_valuesA v_ranksA v_oldRanksA v_partA v_allRanksA v_basesA v_isMetA v_metXA v_metYA v_lineA) → va_S A s.heap H locs → W p l e rmX5_nearest s m args below meth c H locs 0 0 Q (F0 m 123 ls [.int j15_0]) := by
                    intro j15_0 jz15_0 H locs ls h hl hP hD hS
                    replace h := (hK15 j15_0).symm.trans h
                    refine lv_istore (lv' := [(9, .int j15_0), (8, .int v13_0), (7, .int v11_0), (6, .int v13_1), (5, .int v13_2), (0, .ref v_q0), (1, .int a0), (2, .int a1), (3, .int a2), (4, .int a3)]) hx hb dX5_nearest_123 hl (by decide) rfl (fun ls hl => ?_)
                    refine lv_iload hx hb dX5_nearest_125 (lv_at hl 0 rfl) ?_
                    obtain ⟨K19, hK19, h⟩ := jB1_e h
                    have J19 : ∀ (j19_0 : Int32) (H : Heap) (locs : List Loc) (ls : Array Slot), K19 j19_0 = some (u13_0, u13_1, u13_2) → lv_has ls 10 [(9, .int j15_0), (8, .int v13_0), (7, .int v11_0), (6, .int v13_1), (5, .int v13_2), (0, .ref v_q0), (1, .int a0), (2, .int a1), (3, .int a2), (4, .int a3)] → va_P G.1 vwCl (wdX5 G v_q0 v_q1 v_q2 v_q3 v_q4 v_q5 v_q6 v_q7 v_q8 v_q9 v_q10 v_q11 v_q12 v_q13 v_q14 v_q15 v_q16 j2_0 v_gain v_size v_w v_s v_h v_laidArea v_parts v_isMinus v_readSpot v_isStar v_wantsNumber v_waiting v_shiftX v_shiftY v_times v_dotsLaid v_joinedLaid v_hash v_isThereA v_vA v_spotOfA v_inMiddleA v_tintsA v_bufferA v_valuesA v_ranksA v_oldRanksA v_partA v_allRanksA v_basesA v_isMetA v_metXA v_metYA v_lineA) H → va_D A (wdX5 G v_q0 v_q1 v_q2 v_q3 v_q4 v_q5 v_q6 v_q7 v_q8 v_q9 v_q10 v_q11 v_q12 v_q13 v_q14 v_q15 v_q16 j2_0 v_gain v_size v_w v_s v_h v_laidArea v_parts v_isMinus v_readSpot v_isStar v_wantsNumber v_waiting v_shiftX v_shiftY v_times v_dotsLaid v_joinedLaid v_hash v_isThereA v_vA v_spotOfA v_inMiddleA v_tintsA v_bufferA v_valuesA v_ranksA v_oldRanksA v_partA v_allRanksA v_basesA v_isMetA v_metXA v_metYA v_lineA) → va_S A s.heap H locs → W p l e rmX5_nearest s m args below meth c H locs 0 0 Q (F0 m 137 ls [.int j19_0]) := by
                      intro j19_0 H locs ls h hl hP hD hS
                      replace h := (hK19 j19_0).symm.trans h
                      refine lv_istore (lv' := [(5, .int j19_0), (9, .int j15_0), (8, .int v13_0), (7, .int v11_0), (6, .int v13_1), (0, .ref v_q0), (1, .int a0), (2, .int a1), (3, .int a2), (4, .int a3)]) hx hb dX5_nearest_137 hl (by decide) rfl (fun ls hl => ?_)
                      refine lv_iload hx hb dX5_nearest_139 (lv_at hl 1 rfl) ?_
                      refine lv_if_eq (tgt := 149) hx hb dX5_nearest_141 (by decide) (fun c21 => ?_) (fun c21 => ?_)
                      · replace h := ite_t c21 h
                        refine lv_iload hx hb dX5_nearest_149 (lv_at hl 4 rfl) ?_
                        refine lv_istore (lv' := [(6, .int v13_1), (5, .int j19_0), (9, .int j15_0), (8, .int v13_0), (7, .int v11_0), (0, .ref v_q0), (1, .int a0), (2, .int a1), (3, .int a2), (4, .int a3)]) hx hb dX5_nearest_151 hl (by decide) rfl (fun ls hl => ?_)
                        obtain ⟨x22, e22⟩ : ∃ y : Int32, y = v13_0 + 1 := ⟨_, rfl⟩
                        replace h := nmB_e e22 h
                        refine lv_iinc (v := x22) (lv' := [(8, .int x22), (6, .int v13_1), (5, .int j19_0), (9, .int j15_0), (7, .int v11_0), (0, .ref v_q0), (1, .int a0), (2, .int a1), (3, .int a2), (4, .int a3)]) hx hb dX5_nearest_153 hl (k := 3) rfl (by rw [e22]; rfl) (by decide) rfl (fun ls hl => ?_)
                        refine lv_goto (tgt := 80) hx hb dX5_nearest_156 (by decide) ?_
                        exact ih x22 v13_1 j19_0 u13_0 u13_1 u13_2 H locs ls h (lv_sub hl [0, 4, 1, 2, 5, 6, 7, 8, 9] rfl) hP hD hS kE
                      · replace h := ite_f c21 h
                        refine lv_iload hx hb dX5_nearest_144 (lv_at hl 2 rfl) ?_
                        refine lv_goto (tgt := 151) hx hb dX5_nearest_146 (by decide) ?_
                        refine lv_istore (lv' := [(6, .int v13_0), (5, .int j19_0), (9, .int j15_0), (8, .int v13_0), (7, .int v11_0), (0, .ref v_q0), (1, .int a0), (2, .int a1), (3, .int a2), (4, .int a3)]) hx hb dX5_nearest_151 hl (by decide) rfl (fun ls hl => ?_)
                        obtain ⟨x23, e23⟩ : ∃ y : Int32, y = v13_0 + 1 := ⟨_, rfl⟩
                        replace h := nmB_e e23 h
                        refine lv_iinc (v := x23) (lv' := [(8, .int x23), (6, .int v13_0), (5, .int j19_0), (9, .int j15_0), (7, .int v11_0), (0, .ref v_q0), (1, .int a0), (2, .int a1), (3, .int a2), (4, .int a3)]) hx hb dX5_nearest_153 hl (k := 3) rfl (by rw [e23]; rfl) (by decide) rfl (fun ls hl => ?_)
                        refine lv_goto (tgt := 80) hx hb dX5_nearest_156 (by decide) ?_
                        exact ih x23 v13_0 j19_0 u13_0 u13_1 u13_2 H locs ls h (lv_sub hl [0, 4, 1, 2, 5, 6, 7, 8, 9] rfl) hP hD hS kE
                    refine lv_if_eq (tgt := 135) hx hb dX5_nearest_127 (by decide) (fun c20 => ?_) (fun c20 => ?_)
                    · replace h := ite_t c20 h
                      refine lv_iload hx hb dX5_nearest_135 (lv_at hl 4 rfl) ?_
                      exact J19 v13_2 H locs ls h hl hP hD hS
                    · replace h := ite_f c20 h
                      refine lv_iload hx hb dX5_nearest_130 (lv_at hl 2 rfl) ?_
                      refine lv_goto (tgt := 137) hx hb dX5_nearest_132 (by decide) ?_
                      exact J19 v11_0 H locs ls h hl hP hD hS
                  refine lv_icmp_gt (tgt := 122) hx hb dX5_nearest_99 (by decide) (fun c16 => ?_) (fun c16 => ?_)
                  · replace h := ite_t c16 h
                    refine lv_iconst (v := 0) hx hb dX5_nearest_122 (by decide) ?_
                    exact J15 0 isZ0 H locs ls h hl hP hD hS
                  · replace h := ite_f c16 h
                    refine lv_iload hx hb dX5_nearest_102 (lv_at hl 1 rfl) ?_
                    refine lv_iload hx hb dX5_nearest_104 (lv_at hl 0 rfl) ?_
                    refine lv_iload hx hb dX5_nearest_106 (lv_at hl 3 rfl) ?_
                    refine lv_iload hx hb dX5_nearest_108 (lv_at hl 2 rfl) ?_
                    refine lv_iload_n hx hb dX5_nearest_110 rfl (lv_at hl 5 rfl) ?_
                    refine lv_iload_n hx hb dX5_nearest_111 rfl (lv_at hl 6 rfl) ?_
                    obtain ⟨r17_0, g17, h⟩ := bnd1_e h
                    refine roSi1 (rest := []) (As := [.int v11_0, .int v13_0, .int v13_2, .int v13_1, .int a0, .int a1]) S (ctX5_isNearer l G v11_0 v13_0 v13_2 v13_1 a0 a1 r17_0 g17) (va_cwS 6 hts gX5_nearest_X5_isNearer rfl rfl rfl hsX5_isNearer ⟨Nat.le_of_ble_eq_true rfl, Nat.le_of_ble_eq_true rfl⟩) hK hP [] rfl rfl hl.1 rfl (Nat.le_of_ble_eq_true rfl) dX5_nearest_112 ⟨Nat.le_refl _, Nat.le_refl _⟩ (fun hz17 => ?_)
                    refine lv_if_eq (tgt := 122) hx hb dX5_nearest_115 (by decide) (fun c18 => ?_) (fun c18 => ?_)
                    · replace h := ite_t c18 h
                      refine lv_iconst (v := 0) hx hb dX5_nearest_122 (by decide) ?_
                      exact J15 0 isZ0 H locs ls h hl hP hD hS
                    · replace h := ite_f c18 h
                      refine lv_iconst (v := 1) hx hb dX5_nearest_118 (by decide) ?_
                      refine lv_goto (tgt := 123) hx hb dX5_nearest_119 (by decide) ?_
                      exact J15 1 isZ1 H locs ls h hl hP hD hS
            refine L13 FU 0 v11_1 v11_2 u13_0 u13_1 u13_2 H locs ls g13 hl hP hD hS (fun H locs ls hl hP hD hS => ?_)
            obtain ⟨x24, e24⟩ : ∃ y : Int32, y = v11_0 + 1 := ⟨_, rfl⟩
            replace h := nmB_e e24 h
            refine lv_iinc (v := x24) (lv' := [(7, .int x24), (8, .int u13_0), (6, .int u13_1), (5, .int u13_2), (0, .ref v_q0), (1, .int a0), (2, .int a1), (3, .int a2), (4, .int a3)]) hx hb dX5_nearest_159 hl (k := 1) rfl (by rw [e24]; rfl) (by decide) rfl (fun ls hl => ?_)
            refine lv_goto (tgt := 70) hx hb dX5_nearest_162 (by decide) ?_
            exact ih x24 u13_1 u13_2 u11_0 u11_1 u11_2 H locs ls h (lv_sub hl [0, 2, 3, 4, 5, 6, 7, 8] rfl) hP hD hS kE
      refine L11 FU 1 0 1 u11_0 u11_1 u11_2 H locs ls g11 hl hP hD hS (fun H locs ls hl hP hD hS => ?_)
      refine lv_iload hx hb dX5_nearest_165 (lv_at hl 7 rfl) ?_
      refine lv_if_ne (tgt := 175) hx hb dX5_nearest_167 (by decide) (fun c25 => ?_) (fun c25 => ?_)
      · replace h := ite_f c25 h
        refine lv_iload hx hb dX5_nearest_175 (lv_at hl 7 rfl) ?_
        refine lv_iconst (v := 1) hx hb dX5_nearest_177 (by decide) ?_
        refine lv_icmp_ne (tgt := 186) hx hb dX5_nearest_178 (by decide) (fun c26 => ?_) (fun c26 => ?_)
        · replace h := ite_f c26 h
          refine lv_iload hx hb dX5_nearest_186 (lv_at hl 2 rfl) ?_
          refine lv_iload_n hx hb dX5_nearest_188 rfl (lv_at hl 4 rfl) ?_
          refine lv_imul hx hb dX5_nearest_189 ?_
          refine lv_iload hx hb dX5_nearest_190 (lv_at hl 1 rfl) ?_
          refine lv_iload_n hx hb dX5_nearest_192 rfl (lv_at hl 5 rfl) ?_
          refine lv_imul hx hb dX5_nearest_193 ?_
          refine lv_isub hx hb dX5_nearest_194 ?_
          obtain ⟨r27_0, g27, h⟩ := bnd1_e h
          refine roSi1 (rest := []) (As := [.int ((u11_2 * a0) - (u11_1 * a1))]) S (ctX5_abs l G ((u11_2 * a0) - (u11_1 * a1)) r27_0 g27) (va_cwS 1 hts gX5_nearest_X5_abs rfl rfl rfl hsX5_abs ⟨Nat.le_of_ble_eq_true rfl, Nat.le_of_ble_eq_true rfl⟩) hK hP [] rfl rfl hl.1 rfl (Nat.le_of_ble_eq_true rfl) dX5_nearest_195 ⟨Nat.le_refl _, Nat.le_refl _⟩ (fun _ => ?_)
          obtain ⟨rfl, rfl⟩ := sm2 h
          exact hret _ _ _ _ _ rfl trivial rfl hP hD hS dX5_nearest_198
        · replace h := ite_t c26 h
          refine lv_iload hx hb dX5_nearest_181 (lv_at hl 1 rfl) ?_
          refine lv_goto (tgt := 198) hx hb dX5_nearest_183 (by decide) ?_
          obtain ⟨rfl, rfl⟩ := sm2 h
          exact hret _ _ _ _ _ rfl trivial rfl hP hD hS dX5_nearest_198
      · replace h := ite_t c25 h
        refine lv_iload hx hb dX5_nearest_170 (lv_at hl 2 rfl) ?_
        refine lv_goto (tgt := 198) hx hb dX5_nearest_172 (by decide) ?_
        obtain ⟨rfl, rfl⟩ := sm2 h
        exact hret _ _ _ _ _ rfl trivial rfl hP hD hS dX5_nearest_198
    · replace h := ite_f c10 h
      refine lv_iconst (v := 0) hx hb dX5_nearest_59 (by decide) ?_
      obtain ⟨rfl, rfl⟩ := sm2 h
      exact hret _ _ _ _ _ rfl trivial rfl hP hD hS dX5_nearest_60
  refine lv_if_eq (tgt := 48) hx hb dX5_nearest_9 (by decide) (fun c3 => ?_) (fun c3 => ?_)
  · replace h := ite_t c3 h
    refine lv_iconst (v := 1) hx hb dX5_nearest_48 (by decide) ?_
    exact J2 1 isZ1 H locs ls h hl hP hD hS
  · replace h := ite_f c3 h
    refine lv_iload_n hx hb dX5_nearest_12 rfl (lv_at hl 2 rfl) ?_
    refine lv_iconst (v := 1) hx hb dX5_nearest_13 (by decide) ?_
    refine lv_sipush (v := 1000) hx hb dX5_nearest_14 (by decide) ?_
    obtain ⟨r4_0, g4, h⟩ := bnd1_e h
    refine roSi1 (rest := [.ref v_q0]) (As := [.int a1, .int 1, .int 1000]) S (ctX5_within l G a1 1 1000 r4_0 g4) (va_cwS 3 hts gX5_nearest_X5_within rfl rfl rfl hsX5_within ⟨Nat.le_of_ble_eq_true rfl, Nat.le_of_ble_eq_true rfl⟩) hK hP [] rfl rfl hl.1 rfl (Nat.le_of_ble_eq_true rfl) dX5_nearest_17 ⟨Nat.le_refl _, Nat.le_refl _⟩ (fun hz4 => ?_)
    refine lv_if_eq (tgt := 48) hx hb dX5_nearest_20 (by decide) (fun c5 => ?_) (fun c5 => ?_)
    · replace h := ite_t c5 h
      refine lv_iconst (v := 1) hx hb dX5_nearest_48 (by decide) ?_
      exact J2 1 isZ1 H locs ls h hl hP hD hS
    · replace h := ite_f c5 h
      refine lv_iload_n hx hb dX5_nearest_23 rfl (lv_at hl 3 rfl) ?_
      refine lv_iconst (v := 1) hx hb dX5_nearest_24 (by decide) ?_
      refine lv_sipush (v := 128) hx hb dX5_nearest_25 (by decide) ?_
      obtain ⟨r6_0, g6, h⟩ := bnd1_e h
      refine roSi1 (rest := [.ref v_q0]) (As := [.int a2, .int 1, .int 128]) S (ctX5_within l G a2 1 128 r6_0 g6) (va_cwS 3 hts gX5_nearest_X5_within rfl rfl rfl hsX5_within ⟨Nat.le_of_ble_eq_true rfl, Nat.le_of_ble_eq_true rfl⟩) hK hP [] rfl rfl hl.1 rfl (Nat.le_of_ble_eq_true rfl) dX5_nearest_28 ⟨Nat.le_refl _, Nat.le_refl _⟩ (fun hz6 => ?_)
      refine lv_if_eq (tgt := 48) hx hb dX5_nearest_31 (by decide) (fun c7 => ?_) (fun c7 => ?_)
      · replace h := ite_t c7 h
        refine lv_iconst (v := 1) hx hb dX5_nearest_48 (by decide) ?_
        exact J2 1 isZ1 H locs ls h hl hP hD hS
      · replace h := ite_f c7 h
        refine lv_iload hx hb dX5_nearest_34 (lv_at hl 4 rfl) ?_
        refine lv_iconst (v := 0) hx hb dX5_nearest_36 (by decide) ?_
        refine lv_iconst (v := 2) hx hb dX5_nearest_37 (by decide) ?_
        obtain ⟨r8_0, g8, h⟩ := bnd1_e h
        refine roSi1 (rest := [.ref v_q0]) (As := [.int a3, .int 0, .int 2]) S (ctX5_within l G a3 0 2 r8_0 g8) (va_cwS 3 hts gX5_nearest_X5_within rfl rfl rfl hsX5_within ⟨Nat.le_of_ble_eq_true rfl, Nat.le_of_ble_eq_true rfl⟩) hK hP [] rfl rfl hl.1 rfl (Nat.le_of_ble_eq_true rfl) dX5_nearest_38 ⟨Nat.le_refl _, Nat.le_refl _⟩ (fun hz8 => ?_)
        refine lv_if_eq (tgt := 48) hx hb dX5_nearest_41 (by decide) (fun c9 => ?_) (fun c9 => ?_)
        · replace h := ite_t c9 h
          refine lv_iconst (v := 1) hx hb dX5_nearest_48 (by decide) ?_
          exact J2 1 isZ1 H locs ls h hl hP hD hS
        · replace h := ite_f c9 h
          refine lv_iconst (v := 0) hx hb dX5_nearest_44 (by decide) ?_
          refine lv_goto (tgt := 49) hx hb dX5_nearest_45 (by decide) ?_
          exact J2 0 isZ0 H locs ls h hl hP hD hS
theorem fw_X5_counted_X5 : ∀ w ∈ wsX50, w ∈ wsX5_counted := fun w h => List.mem_cons_of_mem _ (List.mem_append_right _ h)
theorem lk_X5_counted_f7 : Cond.fieldLink RX5 7 "HalftoneScreensModel" "isThere" "[Z" ∈ wsX5_counted := List.mem_of_getElem? (i := 1) rfl
theorem lk_X5_counted_f23 : Cond.fieldLink RX5 23 "HalftoneScreensModel" "tints" "[I" ∈ wsX5_counted := List.mem_of_getElem? (i := 2) rfl
theorem lk_X5_counted_f123 : Cond.fieldLink RX5 123 "HalftoneScreensModel" "size" "I" ∈ wsX5_counted := List.mem_of_getElem? (i := 4) rfl
theorem lk_X5_counted_f191 : Cond.fieldLink RX5 191 "HalftoneScreensModel" "gain" "I" ∈ wsX5_counted := List.mem_of_getElem? (i := 3) rfl
abbrev rmX5_counted : Room := { frames := 3, cells := 0, slots := 0, locals := 64 }
set_option maxHeartbeats 4000000 in
set_option maxRecDepth 100000 in
theorem ctX5_counted (l : Launch) (G : GG) (v_q0 : Nat) (v_q1 : Nat) (v_q2 : Nat) (v_q3 : Nat) (v_q4 : Nat) (v_q5 : Nat) (v_q6 : Nat) (v_q7 : Nat) (v_q8 : Nat) (v_q9 : Nat) (v_q10 : Nat) (v_q11 : Nat) (v_q12 : Nat) (v_q13 : Nat) (v_q14 : Nat) (v_q15 : Nat) (v_q16 : Nat) (v_thrown : Int32) (v_gain : Int32) (v_size : Int32) (v_w : Int32) (v_s : Int32) (v_h : Int32) (v_laidArea : Int32) (v_parts : Int32) (v_isMinus : Int32) (v_readSpot : Int32) (v_isStar : Int32) (v_wantsNumber : Int32) (v_waiting : Int32) (v_shiftX : Int32) (v_shiftY : Int32) (v_times : Int32) (v_dotsLaid : Int32) (v_joinedLaid : Int32) (v_hash : Int64) (v_isThereA : (Nat → Int32)) (v_vA : (Nat → Int32)) (v_spotOfA : (Nat → Int32)) (v_inMiddleA : (Nat → Int32)) (v_tintsA : (Nat → Int32)) (v_bufferA : (Nat → Int32)) (v_valuesA : (Nat → Int32)) (v_ranksA : (Nat → Int32)) (v_oldRanksA : (Nat → Int32)) (v_partA : (Nat → Int32)) (v_allRanksA : (Nat → Int32)) (v_basesA : (Nat → Int32)) (v_isMetA : (Nat → Int32)) (v_metXA : (Nat → Int32)) (v_metYA : (Nat → Int32)) (v_lineA : (Nat → Int32)) (a0 : Int32) (o0 : Int32) (h : mX5_counted v_gain v_size v_isThereA v_vA v_tintsA a0 = some (o0))  : Met l yX5_counted wsX5_counted rmX5_counted (va_Pc [.ref v_q0, .int a0] (PreD G (wdX5 G v_q0 v_q1 v_q2 v_q3 v_q4 v_q5 v_q6 v_q7 v_q8 v_q9 v_q10 v_q11 v_q12 v_q13 v_q14 v_q15 v_q16 v_thrown v_gain v_size v_w v_s v_h v_laidArea v_parts v_isMinus v_readSpot v_isStar v_wantsNumber v_waiting v_shiftX v_shiftY v_times v_dotsLaid v_joinedLaid v_hash v_isThereA v_vA v_spotOfA v_inMiddleA v_tintsA v_bufferA v_valuesA v_ranksA v_oldRanksA v_partA v_allRanksA v_basesA v_isMetA v_metXA v_metYA v_lineA) (fun _ => True))) (QwA G (va_A0 (wdX5 G v_q0 v_q1 v_q2 v_q3 v_q4 v_q5 v_q6 v_q7 v_q8 v_q9 v_q10 v_q11 v_q12 v_q13 v_q14 v_q15 v_q16 v_thrown v_gain v_size v_w v_s v_h v_laidArea v_parts v_isMinus v_readSpot v_isStar v_wantsNumber v_waiting v_shiftX v_shiftY v_times v_dotsLaid v_joinedLaid v_hash v_isThereA v_vA v_spotOfA v_inMiddleA v_tintsA v_bufferA v_valuesA v_ranksA v_oldRanksA v_partA v_allRanksA v_basesA v_isMetA v_metXA v_metYA v_lineA)) (wdX5 G v_q0 v_q1 v_q2 v_q3 v_q4 v_q5 v_q6 v_q7 v_q8 v_q9 v_q10 v_q11 v_q12 v_q13 v_q14 v_q15 v_q16 v_thrown v_gain v_size v_w v_s v_h v_laidArea v_parts v_isMinus v_readSpot v_isStar v_wantsNumber v_waiting v_shiftX v_shiftY v_times v_dotsLaid v_joinedLaid v_hash v_isThereA v_vA v_spotOfA v_inMiddleA v_tintsA v_bufferA v_valuesA v_ranksA v_oldRanksA v_partA v_allRanksA v_basesA v_isMetA v_metXA v_metYA v_lineA) (some (.int o0)) True) 0 0 (va_A0 (wdX5 G v_q0 v_q1 v_q2 v_q3 v_q4 v_q5 v_q6 v_q7 v_q8 v_q9 v_q10 v_q11 v_q12 v_q13 v_q14 v_q15 v_q16 v_thrown v_gain v_size v_w v_s v_h v_laidArea v_parts v_isMinus v_readSpot v_isStar v_wantsNumber v_waiting v_shiftX v_shiftY v_times v_dotsLaid v_joinedLaid v_hash v_isThereA v_vA v_spotOfA v_inMiddleA v_tintsA v_bufferA v_valuesA v_ranksA v_oldRanksA v_partA v_allRanksA v_basesA v_isMetA v_metXA v_metYA v_lineA)) := by
  refine of_wi (cc := cX5_counted) (maxL := 5) (ty := .int) (plainFor_of_name (by decide)) rfl (Nat.le_of_ble_eq_true rfl) ?_
  intro p e s m args below meth c ls Q A S hl hP hD hS hK hX hA hret
  obtain ⟨H, hH⟩ : ∃ H, H = s.heap := ⟨_, rfl⟩
  obtain ⟨locs, hlocs⟩ : ∃ L : List Loc, L = [] := ⟨_, rfl⟩
  rw [← hlocs]
  rw [← hlocs] at hS
  have hP : va_P G.1 vwCl (wdX5 G v_q0 v_q1 v_q2 v_q3 v_q4 v_q5 v_q6 v_q7 v_q8 v_q9 v_q10 v_q11 v_q12 v_q13 v_q14 v_q15 v_q16 v_thrown v_gain v_size v_w v_s v_h v_laidArea v_parts v_isMinus v_readSpot v_isStar v_wantsNumber v_waiting v_shiftX v_shiftY v_times v_dotsLaid v_joinedLaid v_hash v_isThereA v_vA v_spotOfA v_inMiddleA v_tintsA v_bufferA v_valuesA v_ranksA v_oldRanksA v_partA v_allRanksA v_basesA v_isMetA v_metXA v_metYA v_lineA) H := by rw [hH]; exact hP
  have hS : va_S A s.heap H locs := by rw [hH]; exact hS
  suffices hgo : W p l e rmX5_counted s m args below meth c H locs 0 0 Q (F0 m 0 ls []) by rw [hH] at hgo; exact hgo
  have S : CallFix p m c cX5_counted 5 s args wsX5_counted RX5 := S
  obtain ⟨hx, hb, hml, hown, hts⟩ := id S
  have hl : lv_has ls 5 [(0, .ref v_q0), (1, .int a0)] := hl
  unfold mX5_counted at h
  refine lv_iconst (v := 0) hx hb dX5_counted_0 (by decide) ?_
  refine lv_istore_n (lv' := [(2, .int 0), (0, .ref v_q0), (1, .int a0)]) hx hb dX5_counted_1 rfl hl (by decide) rfl (fun ls hl => ?_)
  refine lv_iconst (v := 0) hx hb dX5_counted_2 (by decide) ?_
  refine lv_istore_n (lv' := [(3, .int 0), (2, .int 0), (0, .ref v_q0), (1, .int a0)]) hx hb dX5_counted_3 rfl hl (by decide) rfl (fun ls hl => ?_)
  refine lv_iconst (v := 0) hx hb dX5_counted_4 (by decide) ?_
  refine lv_istore (lv' := [(4, .int 0), (3, .int 0), (2, .int 0), (0, .ref v_q0), (1, .int a0)]) hx hb dX5_counted_5 hl (by decide) rfl (fun ls hl => ?_)
  obtain ⟨u1_0, u1_1, u1_2, g1, h⟩ := bnd3_e h
  have L1 : ∀ (fu : Nat) (v1_0 : Int32) (v1_1 : Int32) (v1_2 : Int32) (u1_0 : Int32) (u1_1 : Int32) (u1_2 : Int32) (H : Heap) (locs : List Loc) (ls : Array Slot), mX5_counted_L7 v_isThereA v_vA v_tintsA fu v1_0 v1_1 v1_2 = some (u1_0, u1_1, u1_2) → lv_has ls 5 [(4, .int v1_0), (3, .int v1_1), (2, .int v1_2), (0, .ref v_q0), (1, .int a0)] → va_P G.1 vwCl (wdX5 G v_q0 v_q1 v_q2 v_q3 v_q4 v_q5 v_q6 v_q7 v_q8 v_q9 v_q10 v_q11 v_q12 v_q13 v_q14 v_q15 v_q16 v_thrown v_gain v_size v_w v_s v_h v_laidArea v_parts v_isMinus v_readSpot v_isStar v_wantsNumber v_waiting v_shiftX v_shiftY v_times v_dotsLaid v_joinedLaid v_hash v_isThereA v_vA v_spotOfA v_inMiddleA v_tintsA v_bufferA v_valuesA v_ranksA v_oldRanksA v_partA v_allRanksA v_basesA v_isMetA v_metXA v_metYA v_lineA) H → va_D A (wdX5 G v_q0 v_q1 v_q2 v_q3 v_q4 v_q5 v_q6 v_q7 v_q8 v_q9 v_q10 v_q11 v_q12 v_q13 v_q14 v_q15 v_q16 v_thrown v_gain v_size v_w v_s v_h v_laidArea v_parts v_isMinus v_readSpot v_isStar v_wantsNumber v_waiting v_shiftX v_shiftY v_times v_dotsLaid v_joinedLaid v_hash v_isThereA v_vA v_spotOfA v_inMiddleA v_tintsA v_bufferA v_valuesA v_ranksA v_oldRanksA v_partA v_allRanksA v_basesA v_isMetA v_metXA v_metYA v_lineA) → va_S A s.heap H locs → (∀ (H : Heap) (locs : List Loc) (ls : Array Slot), lv_has ls 5 [(4, .int u1_0), (3, .int u1_1), (2, .int u1_2), (0, .ref v_q0), (1, .int a0)] → va_P G.1 vwCl (wdX5 G v_q0 v_q1 v_q2 v_q3 v_q4 v_q5 v_q6 v_q7 v_q8 v_q9 v_q10 v_q11 v_q12 v_q13 v_q14 v_q15 v_q16 v_thrown v_gain v_size v_w v_s v_h v_laidArea v_parts v_isMinus v_readSpot v_isStar v_wantsNumber v_waiting v_shiftX v_shiftY v_times v_dotsLaid v_joinedLaid v_hash v_isThereA v_vA v_spotOfA v_inMiddleA v_tintsA v_bufferA v_valuesA v_ranksA v_oldRanksA v_partA v_allRanksA v_basesA v_isMetA v_metXA v_metYA v_lineA) H → va_D A (wdX5 G v_q0 v_q1 v_q2 v_q3 v_q4 v_q5 v_q6 v_q7 v_q8 v_q9 v_q10 v_q11 v_q12 v_q13 v_q14 v_q15 v_q16 v_thrown v_gain v_size v_w v_s v_h v_laidArea v_parts v_isMinus v_readSpot v_isStar v_wantsNumber v_waiting v_shiftX v_shiftY v_times v_dotsLaid v_joinedLaid v_hash v_isThereA v_vA v_spotOfA v_inMiddleA v_tintsA v_bufferA v_valuesA v_ranksA v_oldRanksA v_partA v_allRanksA v_basesA v_isMetA v_metXA v_metYA v_lineA) → va_S A s.heap H locs → W p l e rmX5_counted s m args below meth c H locs 0 0 Q (F0 m 66 ls [])) → W p l e rmX5_counted s m args below meth c H locs 0 0 Q (F0 m 7 ls []) := by
    intro fu
    induction fu with
    | zero => intro v1_0 v1_1 v1_2 u1_0 u1_1 u1_2 H locs ls h; exact nomatch h
    | succ fu ih =>
      intro v1_0 v1_1 v1_2 u1_0 u1_1 u1_2 H locs ls h hl hP hD hS kE
      rw [mX5_counted_L7] at h
      refine lv_iload hx hb dX5_counted_7 (lv_at hl 0 rfl) ?_
      refine lv_iconst (v := 3) hx hb dX5_counted_9 (by decide) ?_
      refine lv_icmp_ge (tgt := 66) hx hb dX5_counted_10 (by decide) (fun c2 => ?_) (fun c2 => ?_)
      · replace h := ite_t c2 h
        obtain ⟨rfl, rfl, rfl⟩ := sm3 h
        exact kE H locs ls hl hP hD hS
      · replace h := ite_f c2 h
        refine lv_iload_n hx hb dX5_counted_13 rfl (lv_at hl 2 rfl) ?_
        refine lv_aload_n hx hb dX5_counted_14 rfl (lv_at hl 3 rfl) ?_
        refine va_get (D := G.1) (ci := 5) (v := .ref v_q1) (C := RX5) (T := TX5) (N := 35) hx hb hts fw_X5_counted_X5 hown hK.1 hP 0 rfl rfl 1 (by decide) (hts (.fieldLink RX5 7 "HalftoneScreensModel" "isThere" "[Z") lk_X5_counted_f7) (fun _ h9 => h9) rfl dX5_counted_15 ?_
        refine lv_iload hx hb dX5_counted_18 (lv_at hl 0 rfl) ?_
        obtain ⟨i3, h⟩ := gd_e h
        refine va_zald hx hb hK.1 hP 1 1 rfl rfl i3 dX5_counted_20 ?_
        obtain ⟨K4, hK4, h⟩ := jB1_e h
        have J4 : ∀ (j4_0 : Int32) (H : Heap) (locs : List Loc) (ls : Array Slot), K4 j4_0 = some (u1_0, u1_1, u1_2) → lv_has ls 5 [(4, .int v1_0), (3, .int v1_1), (2, .int v1_2), (0, .ref v_q0), (1, .int a0)] → va_P G.1 vwCl (wdX5 G v_q0 v_q1 v_q2 v_q3 v_q4 v_q5 v_q6 v_q7 v_q8 v_q9 v_q10 v_q11 v_q12 v_q13 v_q14 v_q15 v_q16 v_thrown v_gain v_size v_w v_s v_h v_laidArea v_parts v_isMinus v_readSpot v_isStar v_wantsNumber v_waiting v_shiftX v_shiftY v_times v_dotsLaid v_joinedLaid v_hash v_isThereA v_vA v_spotOfA v_inMiddleA v_tintsA v_bufferA v_valuesA v_ranksA v_oldRanksA v_partA v_allRanksA v_basesA v_isMetA v_metXA v_metYA v_lineA) H → va_D A (wdX5 G v_q0 v_q1 v_q2 v_q3 v_q4 v_q5 v_q6 v_q7 v_q8 v_q9 v_q10 v_q11 v_q12 v_q13 v_q14 v_q15 v_q16 v_thrown v_gain v_size v_w v_s v_h v_laidArea v_parts v_isMinus v_readSpot v_isStar v_wantsNumber v_waiting v_shiftX v_shiftY v_times v_dotsLaid v_joinedLaid v_hash v_isThereA v_vA v_spotOfA v_inMiddleA v_tintsA v_bufferA v_valuesA v_ranksA v_oldRanksA v_partA v_allRanksA v_basesA v_isMetA v_metXA v_metYA v_lineA) → va_S A s.heap H locs → W p l e rmX5_counted s m args below meth c H locs 0 0 Q (F0 m 34 ls [.int j4_0, .int v1_2]) := by
          intro j4_0 H locs ls h hl hP hD hS
          replace h := (hK4 j4_0).symm.trans h
          refine lv_iadd hx hb dX5_counted_34 ?_
          refine lv_topi (fun x7 e7 => ?_)
          replace h := nmB_e e7 h
          refine lv_istore_n (lv' := [(2, .int x7), (4, .int v1_0), (3, .int v1_1), (0, .ref v_q0), (1, .int a0)]) hx hb dX5_counted_35 rfl hl (by decide) rfl (fun ls hl => ?_)
          refine lv_iload_n hx hb dX5_counted_36 rfl (lv_at hl 2 rfl) ?_
          refine lv_aload_n hx hb dX5_counted_37 rfl (lv_at hl 3 rfl) ?_
          refine va_get (D := G.1) (ci := 5) (v := .ref v_q1) (C := RX5) (T := TX5) (N := 35) hx hb hts fw_X5_counted_X5 hown hK.1 hP 0 rfl rfl 1 (by decide) (hts (.fieldLink RX5 7 "HalftoneScreensModel" "isThere" "[Z") lk_X5_counted_f7) (fun _ h9 => h9) rfl dX5_counted_38 ?_
          refine lv_iload hx hb dX5_counted_41 (lv_at hl 1 rfl) ?_
          obtain ⟨i8, h⟩ := gd_e h
          refine va_zald hx hb hK.1 hP 1 1 rfl rfl i8 dX5_counted_43 ?_
          refine lv_if_eq (tgt := 57) hx hb dX5_counted_44 (by decide) (fun c9 => ?_) (fun c9 => ?_)
          · replace h := ite_t c9 h
            refine lv_iconst (v := 0) hx hb dX5_counted_57 (by decide) ?_
            refine lv_iadd hx hb dX5_counted_58 ?_
            refine lv_topi (fun x10 e10 => ?_)
            replace h := nmB_e e10 h
            refine lv_istore_n (lv' := [(3, .int x10), (2, .int x7), (4, .int v1_0), (0, .ref v_q0), (1, .int a0)]) hx hb dX5_counted_59 rfl hl (by decide) rfl (fun ls hl => ?_)
            obtain ⟨x11, e11⟩ : ∃ y : Int32, y = v1_0 + 1 := ⟨_, rfl⟩
            replace h := nmB_e e11 h
            refine lv_iinc (v := x11) (lv' := [(4, .int x11), (3, .int x10), (2, .int x7), (0, .ref v_q0), (1, .int a0)]) hx hb dX5_counted_60 hl (k := 2) rfl (by rw [e11]; rfl) (by decide) rfl (fun ls hl => ?_)
            refine lv_goto (tgt := 7) hx hb dX5_counted_63 (by decide) ?_
            exact ih x11 x10 x7 u1_0 u1_1 u1_2 H locs ls h hl hP hD hS kE
          · replace h := ite_f c9 h
            refine lv_aload_n hx hb dX5_counted_47 rfl (lv_at hl 3 rfl) ?_
            refine va_get (D := G.1) (ci := 5) (v := .ref v_q5) (C := RX5) (T := TX5) (N := 35) hx hb hts fw_X5_counted_X5 hown hK.1 hP 0 rfl rfl 5 (by decide) (hts (.fieldLink RX5 23 "HalftoneScreensModel" "tints" "[I") lk_X5_counted_f23) (fun _ h9 => h9) rfl dX5_counted_48 ?_
            refine lv_iload hx hb dX5_counted_51 (lv_at hl 1 rfl) ?_
            obtain ⟨i12, h⟩ := gd_e h
            refine va_iald hx hb hK.1 hP 5 0 rfl rfl i12 dX5_counted_53 ?_
            refine lv_goto (tgt := 58) hx hb dX5_counted_54 (by decide) ?_
            refine lv_iadd hx hb dX5_counted_58 ?_
            refine lv_topi (fun x13 e13 => ?_)
            replace h := nmB_e e13 h
            refine lv_istore_n (lv' := [(3, .int x13), (2, .int x7), (4, .int v1_0), (0, .ref v_q0), (1, .int a0)]) hx hb dX5_counted_59 rfl hl (by decide) rfl (fun ls hl => ?_)
            obtain ⟨x14, e14⟩ : ∃ y : Int32, y = v1_0 + 1 := ⟨_, rfl⟩
            replace h := nmB_e e14 h
            refine lv_iinc (v := x14) (lv' := [(4, .int x14), (3, .int x13), (2, .int x7), (0, .ref v_q0), (1, .int a0)]) hx hb dX5_counted_60 hl (k := 2) rfl (by rw [e14]; rfl) (by decide) rfl (fun ls hl => ?_)
            refine lv_goto (tgt := 7) hx hb dX5_counted_63 (by decide) ?_
            exact ih x14 x13 x7 u1_0 u1_1 u1_2 H locs ls h hl hP hD hS kE
        refine lv_if_eq (tgt := 33) hx hb dX5_counted_21 (by decide) (fun c5 => ?_) (fun c5 => ?_)
        · replace h := ite_t c5 h
          refine lv_iconst (v := 0) hx hb dX5_counted_33 (by decide) ?_
          exact J4 0 H locs ls h hl hP hD hS
        · replace h := ite_f c5 h
          refine lv_aload_n hx hb dX5_counted_24 rfl (lv_at hl 3 rfl) ?_
          refine lv_iload hx hb dX5_counted_25 (lv_at hl 0 rfl) ?_
          obtain ⟨r6_0, g6, h⟩ := bnd1_e h
          refine roVi1 (rest := [.int v1_2]) (As := [.int v1_0]) S (ctX5_areaIn l G v_q0 v_q1 v_q2 v_q3 v_q4 v_q5 v_q6 v_q7 v_q8 v_q9 v_q10 v_q11 v_q12 v_q13 v_q14 v_q15 v_q16 v_thrown v_gain v_size v_w v_s v_h v_laidArea v_parts v_isMinus v_readSpot v_isStar v_wantsNumber v_waiting v_shiftX v_shiftY v_times v_dotsLaid v_joinedLaid v_hash v_isThereA v_vA v_spotOfA v_inMiddleA v_tintsA v_bufferA v_valuesA v_ranksA v_oldRanksA v_partA v_allRanksA v_basesA v_isMetA v_metXA v_metYA v_lineA v1_0 r6_0 g6) (cwV 1 hts gX5_counted_X5_areaIn rfl rfl rfl hvX5_areaIn ⟨Nat.le_of_ble_eq_true rfl, Nat.le_of_ble_eq_true rfl⟩) hK hP [0, 1, 2, 3, 4, 5, 6, 7, 8, 9, 10, 11, 12, 13, 14, 15, 16] rfl 0 5 rfl rfl rfl rfl hl.1 rfl (Nat.le_of_ble_eq_true rfl) dX5_counted_27 ⟨Nat.le_refl _, Nat.le_refl _⟩ (fun _ => ?_)
          refine lv_goto (tgt := 34) hx hb dX5_counted_30 (by decide) ?_
          exact J4 r6_0 H locs ls h hl hP hD hS
  refine L1 FU 0 0 0 u1_0 u1_1 u1_2 H locs ls g1 hl hP hD hS (fun H locs ls hl hP hD hS => ?_)
  refine lv_iload_n hx hb dX5_counted_66 rfl (lv_at hl 4 rfl) ?_
  refine lv_if_ne (tgt := 77) hx hb dX5_counted_67 (by decide) (fun c15 => ?_) (fun c15 => ?_)
  · replace h := ite_f c15 h
    refine lv_iload_n hx hb dX5_counted_77 rfl (lv_at hl 4 rfl) ?_
    refine lv_iconst (v := 1) hx hb dX5_counted_78 (by decide) ?_
    refine lv_icmp_ne (tgt := 86) hx hb dX5_counted_79 (by decide) (fun c16 => ?_) (fun c16 => ?_)
    · replace h := ite_f c16 h
      refine lv_iload_n hx hb dX5_counted_86 rfl (lv_at hl 4 rfl) ?_
      refine lv_iconst (v := 2) hx hb dX5_counted_87 (by decide) ?_
      refine lv_icmp_ne (tgt := 95) hx hb dX5_counted_88 (by decide) (fun c17 => ?_) (fun c17 => ?_)
      · replace h := ite_f c17 h
        refine lv_iload_n hx hb dX5_counted_95 rfl (lv_at hl 4 rfl) ?_
        refine lv_iconst (v := 3) hx hb dX5_counted_96 (by decide) ?_
        refine lv_icmp_ne (tgt := 107) hx hb dX5_counted_97 (by decide) (fun c18 => ?_) (fun c18 => ?_)
        · replace h := ite_f c18 h
          refine lv_aload_n hx hb dX5_counted_107 rfl (lv_at hl 3 rfl) ?_
          refine va_get (D := G.1) (ci := 5) (v := .int v_size) (C := RX5) (T := TX5) (N := 35) hx hb hts fw_X5_counted_X5 hown hK.1 hP 0 rfl rfl 7 (by decide) (hts (.fieldLink RX5 123 "HalftoneScreensModel" "size" "I") lk_X5_counted_f123) (fun _ h9 => h9) rfl dX5_counted_108 ?_
          obtain rfl := sm1 h
          exact hret _ _ _ _ _ rfl trivial rfl hP hD hS dX5_counted_111
        · replace h := ite_t c18 h
          refine lv_aload_n hx hb dX5_counted_100 rfl (lv_at hl 3 rfl) ?_
          refine va_get (D := G.1) (ci := 5) (v := .int v_gain) (C := RX5) (T := TX5) (N := 35) hx hb hts fw_X5_counted_X5 hown hK.1 hP 0 rfl rfl 6 (by decide) (hts (.fieldLink RX5 191 "HalftoneScreensModel" "gain" "I") lk_X5_counted_f191) (fun _ h9 => h9) rfl dX5_counted_101 ?_
          refine lv_goto (tgt := 111) hx hb dX5_counted_104 (by decide) ?_
          obtain rfl := sm1 h
          exact hret _ _ _ _ _ rfl trivial rfl hP hD hS dX5_counted_111
      · replace h := ite_t c17 h
        refine lv_iload_n hx hb dX5_counted_91 rfl (lv_at hl 1 rfl) ?_
        refine lv_goto (tgt := 111) hx hb dX5_counted_92 (by decide) ?_
        obtain rfl := sm1 h
        exact hret _ _ _ _ _ rfl trivial rfl hP hD hS dX5_counted_111
    · replace h := ite_t c16 h
      refine lv_iload_n hx hb dX5_counted_82 rfl (lv_at hl 2 rfl) ?_
      refine lv_goto (tgt := 111) hx hb dX5_counted_83 (by decide) ?_
      obtain rfl := sm1 h
      exact hret _ _ _ _ _ rfl trivial rfl hP hD hS dX5_counted_111
  · replace h := ite_t c15 h
    refine lv_aload_n hx hb dX5_counted_70 rfl (lv_at hl 3 rfl) ?_
    obtain ⟨r19_0, g19, h⟩ := bnd1_e h
    refine roVi1 (rest := []) (As := []) S (ctX5_screens l G v_q0 v_q1 v_q2 v_q3 v_q4 v_q5 v_q6 v_q7 v_q8 v_q9 v_q10 v_q11 v_q12 v_q13 v_q14 v_q15 v_q16 v_thrown v_gain v_size v_w v_s v_h v_laidArea v_parts v_isMinus v_readSpot v_isStar v_wantsNumber v_waiting v_shiftX v_shiftY v_times v_dotsLaid v_joinedLaid v_hash v_isThereA v_vA v_spotOfA v_inMiddleA v_tintsA v_bufferA v_valuesA v_ranksA v_oldRanksA v_partA v_allRanksA v_basesA v_isMetA v_metXA v_metYA v_lineA r19_0 g19) (cwV 0 hts gX5_counted_X5_screens rfl rfl rfl hvX5_screens ⟨Nat.le_of_ble_eq_true rfl, Nat.le_of_ble_eq_true rfl⟩) hK hP [0, 1, 2, 3, 4, 5, 6, 7, 8, 9, 10, 11, 12, 13, 14, 15, 16] rfl 0 5 rfl rfl rfl rfl hl.1 rfl (Nat.le_of_ble_eq_true rfl) dX5_counted_71 ⟨Nat.le_refl _, Nat.le_refl _⟩ (fun _ => ?_)
    refine lv_goto (tgt := 111) hx hb dX5_counted_74 (by decide) ?_
    obtain rfl := sm1 h
    exact hret _ _ _ _ _ rfl trivial rfl hP hD hS dX5_counted_111
theorem fw_X5_count_X5 : ∀ w ∈ wsX50, w ∈ wsX5_count := fun w h => List.mem_cons_of_mem _ (List.mem_append_right _ h)
theorem lk_X5_count_f59 : Cond.fieldLink RX5 59 "HalftoneScreensModel" "thrown" "I" ∈ wsX5_count := List.mem_of_getElem? (i := 1) rfl
theorem hsX5_counted : yX5_counted.cls ≠ "java/lang/invoke/MethodHandle" ∧ yX5_counted.cls ≠ "java/lang/invoke/VarHandle" ∧ (parseMethodDescriptor yX5_counted.desc).map (fun d => d.parameters.length) = some 1 := by decide +kernel
theorem hvX5_counted : yX5_counted.cls = RX5 ∧ yX5_counted.cls ≠ "java/lang/invoke/MethodHandle" ∧ yX5_counted.cls ≠ "java/lang/invoke/VarHandle" ∧ (parseMethodDescriptor yX5_counted.desc).map (fun d => d.parameters.length) = some 1 := ⟨rfl, hsX5_counted⟩
abbrev rmX5_count : Room := { frames := 4, cells := 0, slots := 0, locals := 88 }
set_option maxHeartbeats 4000000 in
set_option maxRecDepth 100000 in
theorem ctX5_count (l : Launch) (G : GG) (v_q0 : Nat) (v_q1 : Nat) (v_q2 : Nat) (v_q3 : Nat) (v_q4 : Nat) (v_q5 : Nat) (v_q6 : Nat) (v_q7 : Nat) (v_q8 : Nat) (v_q9 : Nat) (v_q10 : Nat) (v_q11 : Nat) (v_q12 : Nat) (v_q13 : Nat) (v_q14 : Nat) (v_q15 : Nat) (v_q16 : Nat) (v_thrown : Int32) (v_gain : Int32) (v_size : Int32) (v_w : Int32) (v_s : Int32) (v_h : Int32) (v_laidArea : Int32) (v_parts : Int32) (v_isMinus : Int32) (v_readSpot : Int32) (v_isStar : Int32) (v_wantsNumber : Int32) (v_waiting : Int32) (v_shiftX : Int32) (v_shiftY : Int32) (v_times : Int32) (v_dotsLaid : Int32) (v_joinedLaid : Int32) (v_hash : Int64) (v_isThereA : (Nat → Int32)) (v_vA : (Nat → Int32)) (v_spotOfA : (Nat → Int32)) (v_inMiddleA : (Nat → Int32)) (v_tintsA : (Nat → Int32)) (v_bufferA : (Nat → Int32)) (v_valuesA : (Nat → Int32)) (v_ranksA : (Nat → Int32)) (v_oldRanksA : (Nat → Int32)) (v_partA : (Nat → Int32)) (v_allRanksA : (Nat → Int32)) (v_basesA : (Nat → Int32)) (v_isMetA : (Nat → Int32)) (v_metXA : (Nat → Int32)) (v_metYA : (Nat → Int32)) (v_lineA : (Nat → Int32)) (a0 : Int32) (o0 : Int32) (o1 : Int32) (h : mX5_count v_gain v_size v_isThereA v_vA v_tintsA a0 = some (o0, o1))  : Met l yX5_count wsX5_count rmX5_count (va_Pc [.ref v_q0, .int a0] (PreD G (wdX5 G v_q0 v_q1 v_q2 v_q3 v_q4 v_q5 v_q6 v_q7 v_q8 v_q9 v_q10 v_q11 v_q12 v_q13 v_q14 v_q15 v_q16 v_thrown v_gain v_size v_w v_s v_h v_laidArea v_parts v_isMinus v_readSpot v_isStar v_wantsNumber v_waiting v_shiftX v_shiftY v_times v_dotsLaid v_joinedLaid v_hash v_isThereA v_vA v_spotOfA v_inMiddleA v_tintsA v_bufferA v_valuesA v_ranksA v_oldRanksA v_partA v_allRanksA v_basesA v_isMetA v_metXA v_metYA v_lineA) (fun _ => True))) (QwA G (va_A0 (wdX5 G v_q0 v_q1 v_q2 v_q3 v_q4 v_q5 v_q6 v_q7 v_q8 v_q9 v_q10 v_q11 v_q12 v_q13 v_q14 v_q15 v_q16 v_thrown v_gain v_size v_w v_s v_h v_laidArea v_parts v_isMinus v_readSpot v_isStar v_wantsNumber v_waiting v_shiftX v_shiftY v_times v_dotsLaid v_joinedLaid v_hash v_isThereA v_vA v_spotOfA v_inMiddleA v_tintsA v_bufferA v_valuesA v_ranksA v_oldRanksA v_partA v_allRanksA v_basesA v_isMetA v_metXA v_metYA v_lineA)) (wdX5 G v_q0 v_q1 v_q2 v_q3 v_q4 v_q5 v_q6 v_q7 v_q8 v_q9 v_q10 v_q11 v_q12 v_q13 v_q14 v_q15 v_q16 o1 v_gain v_size v_w v_s v_h v_laidArea v_parts v_isMinus v_readSpot v_isStar v_wantsNumber v_waiting v_shiftX v_shiftY v_times v_dotsLaid v_joinedLaid v_hash v_isThereA v_vA v_spotOfA v_inMiddleA v_tintsA v_bufferA v_valuesA v_ranksA v_oldRanksA v_partA v_allRanksA v_basesA v_isMetA v_metXA v_metYA v_lineA) (some (.int o0)) True) 0 0 (va_A0 (wdX5 G v_q0 v_q1 v_q2 v_q3 v_q4 v_q5 v_q6 v_q7 v_q8 v_q9 v_q10 v_q11 v_q12 v_q13 v_q14 v_q15 v_q16 v_thrown v_gain v_size v_w v_s v_h v_laidArea v_parts v_isMinus v_readSpot v_isStar v_wantsNumber v_waiting v_shiftX v_shiftY v_times v_dotsLaid v_joinedLaid v_hash v_isThereA v_vA v_spotOfA v_inMiddleA v_tintsA v_bufferA v_valuesA v_ranksA v_oldRanksA v_partA v_allRanksA v_basesA v_isMetA v_metXA v_metYA v_lineA)) := by
  refine of_wi (cc := cX5_count) (maxL := 2) (ty := .int) (plainFor_of_name (by decide)) rfl (Nat.le_of_ble_eq_true rfl) ?_
  intro p e s m args below meth c ls Q A S hl hP hD hS hK hX hA hret
  obtain ⟨H, hH⟩ : ∃ H, H = s.heap := ⟨_, rfl⟩
  obtain ⟨locs, hlocs⟩ : ∃ L : List Loc, L = [] := ⟨_, rfl⟩
  rw [← hlocs]
  rw [← hlocs] at hS
  have hP : va_P G.1 vwCl (wdX5 G v_q0 v_q1 v_q2 v_q3 v_q4 v_q5 v_q6 v_q7 v_q8 v_q9 v_q10 v_q11 v_q12 v_q13 v_q14 v_q15 v_q16 v_thrown v_gain v_size v_w v_s v_h v_laidArea v_parts v_isMinus v_readSpot v_isStar v_wantsNumber v_waiting v_shiftX v_shiftY v_times v_dotsLaid v_joinedLaid v_hash v_isThereA v_vA v_spotOfA v_inMiddleA v_tintsA v_bufferA v_valuesA v_ranksA v_oldRanksA v_partA v_allRanksA v_basesA v_isMetA v_metXA v_metYA v_lineA) H := by rw [hH]; exact hP
  have hS : va_S A s.heap H locs := by rw [hH]; exact hS
  suffices hgo : W p l e rmX5_count s m args below meth c H locs 0 0 Q (F0 m 0 ls []) by rw [hH] at hgo; exact hgo
  have S : CallFix p m c cX5_count 2 s args wsX5_count RX5 := S
  obtain ⟨hx, hb, hml, hown, hts⟩ := id S
  have hl : lv_has ls 2 [(0, .ref v_q0), (1, .int a0)] := hl
  unfold mX5_count at h
  refine lv_aload_n hx hb dX5_count_0 rfl (lv_at hl 0 rfl) ?_
  refine lv_iload_n hx hb dX5_count_1 rfl (lv_at hl 1 rfl) ?_
  refine lv_iconst (v := 0) hx hb dX5_count_2 (by decide) ?_
  refine lv_iconst (v := 4) hx hb dX5_count_3 (by decide) ?_
  obtain ⟨r1_0, g1, h⟩ := bnd1_e h
  refine roSi1 (rest := [.ref v_q0]) (As := [.int a0, .int 0, .int 4]) S (ctX5_within l G a0 0 4 r1_0 g1) (va_cwS 3 hts gX5_count_X5_within rfl rfl rfl hsX5_within ⟨Nat.le_of_ble_eq_true rfl, Nat.le_of_ble_eq_true rfl⟩) hK hP [] rfl rfl hl.1 rfl (Nat.le_of_ble_eq_true rfl) dX5_count_4 ⟨Nat.le_refl _, Nat.le_refl _⟩ (fun hz1 => ?_)
  obtain ⟨K2, hK2, h⟩ := jB1_e h
  have J2 : ∀ (j2_0 : Int32) (jz2_0 : isZ j2_0) (H : Heap) (locs : List Loc) (ls : Array Slot), K2 j2_0 = some (o0, o1) → lv_has ls 2 [(0, .ref v_q0), (1, .int a0)] → va_P G.1 vwCl (wdX5 G v_q0 v_q1 v_q2 v_q3 v_q4 v_q5 v_q6 v_q7 v_q8 v_q9 v_q10 v_q11 v_q12 v_q13 v_q14 v_q15 v_q16 v_thrown v_gain v_size v_w v_s v_h v_laidArea v_parts v_isMinus v_readSpot v_isStar v_wantsNumber v_waiting v_shiftX v_shiftY v_times v_dotsLaid v_joinedLaid v_hash v_isThereA v_vA v_spotOfA v_inMiddleA v_tintsA v_bufferA v_valuesA v_ranksA v_oldRanksA v_partA v_allRanksA v_basesA v_isMetA v_metXA v_metYA v_lineA) H → va_D A (wdX5 G v_q0 v_q1 v_q2 v_q3 v_q4 v_q5 v_q6 v_q7 v_q8 v_q9 v_q10 v_q11 v_q12 v_q13 v_q14 v_q15 v_q16 v_thrown v_gain v_size v_w v_s v_h v_laidArea v_parts v_isMinus v_readSpot v_isStar v_wantsNumber v_waiting v_shiftX v_shiftY v_times v_dotsLaid v_joinedLaid v_hash v_isThereA v_vA v_spotOfA v_inMiddleA v_tintsA v_bufferA v_valuesA v_ranksA v_oldRanksA v_partA v_allRanksA v_basesA v_isMetA v_metXA v_metYA v_lineA) → va_S A s.heap H locs → W p l e rmX5_count s m args below meth c H locs 0 0 Q (F0 m 15 ls [.int j2_0, .ref v_q0]) := by
    intro j2_0 jz2_0 H locs ls h hl hP hD hS
    replace h := (hK2 j2_0).symm.trans h
    refine va_put (D := G.1) (ci := 5) (v := .int j2_0) (ty := .int) (C := RX5) (T := TX5) (N := 35) hx hb hts fw_X5_count_X5 tyX5 tyX5_ok nmX5 hown hK.1 hP hD hS 0 rfl rfl 0 (by decide) (hts (.fieldLink RX5 59 "HalftoneScreensModel" "thrown" "I") lk_X5_count_f59) (fun _ h9 => h9) rfl (tyX5_ok 0 (by decide)) rfl rfl (Nat.le_of_ble_eq_true rfl) dX5_count_15 (fun H locs hP hD hS => ?_)
    have hP : va_P G.1 vwCl (wdX5 G v_q0 v_q1 v_q2 v_q3 v_q4 v_q5 v_q6 v_q7 v_q8 v_q9 v_q10 v_q11 v_q12 v_q13 v_q14 v_q15 v_q16 j2_0 v_gain v_size v_w v_s v_h v_laidArea v_parts v_isMinus v_readSpot v_isStar v_wantsNumber v_waiting v_shiftX v_shiftY v_times v_dotsLaid v_joinedLaid v_hash v_isThereA v_vA v_spotOfA v_inMiddleA v_tintsA v_bufferA v_valuesA v_ranksA v_oldRanksA v_partA v_allRanksA v_basesA v_isMetA v_metXA v_metYA v_lineA) H := hP
    have hD : va_D A (wdX5 G v_q0 v_q1 v_q2 v_q3 v_q4 v_q5 v_q6 v_q7 v_q8 v_q9 v_q10 v_q11 v_q12 v_q13 v_q14 v_q15 v_q16 j2_0 v_gain v_size v_w v_s v_h v_laidArea v_parts v_isMinus v_readSpot v_isStar v_wantsNumber v_waiting v_shiftX v_shiftY v_times v_dotsLaid v_joinedLaid v_hash v_isThereA v_vA v_spotOfA v_inMiddleA v_tintsA v_bufferA v_valuesA v_ranksA v_oldRanksA v_partA v_allRanksA v_basesA v_isMetA v_metXA v_metYA v_lineA) := hD
    refine lv_aload_n hx hb dX5_count_18 rfl (lv_at hl 0 rfl) ?_
    refine va_get (D := G.1) (ci := 5) (v := .int j2_0) (C := RX5) (T := TX5) (N := 35) hx hb hts fw_X5_count_X5 hown hK.1 hP 0 rfl rfl 0 (by decide) (hts (.fieldLink RX5 59 "HalftoneScreensModel" "thrown" "I") lk_X5_count_f59) (fun _ h9 => h9) rfl dX5_count_19 ?_
    refine lv_if_le (tgt := 29) hx hb dX5_count_22 (by decide) (fun c4 => ?_) (fun c4 => ?_)
    · replace h := ite_t c4 h
      refine lv_aload_n hx hb dX5_count_29 rfl (lv_at hl 0 rfl) ?_
      refine lv_iload_n hx hb dX5_count_30 rfl (lv_at hl 1 rfl) ?_
      obtain ⟨r5_0, g5, h⟩ := bnd1_e h
      refine rwV_same (rest := []) (As := [.int a0]) S (ctX5_counted l G v_q0 v_q1 v_q2 v_q3 v_q4 v_q5 v_q6 v_q7 v_q8 v_q9 v_q10 v_q11 v_q12 v_q13 v_q14 v_q15 v_q16 j2_0 v_gain v_size v_w v_s v_h v_laidArea v_parts v_isMinus v_readSpot v_isStar v_wantsNumber v_waiting v_shiftX v_shiftY v_times v_dotsLaid v_joinedLaid v_hash v_isThereA v_vA v_spotOfA v_inMiddleA v_tintsA v_bufferA v_valuesA v_ranksA v_oldRanksA v_partA v_allRanksA v_basesA v_isMetA v_metXA v_metYA v_lineA a0 r5_0 g5) (cwV 1 hts gX5_count_X5_counted rfl rfl rfl hvX5_counted ⟨Nat.le_of_ble_eq_true rfl, Nat.le_of_ble_eq_true rfl⟩) hK hP hD hS xb_triv (fun _ _ _ => trivial) 0 5 rfl rfl rfl rfl hl.1 rfl (Nat.le_of_ble_eq_true rfl) dX5_count_31 ⟨Nat.le_refl _, Nat.le_refl _⟩ (fun _ H locs hP hD hS => ?_)
      have hP : va_P G.1 vwCl (wdX5 G v_q0 v_q1 v_q2 v_q3 v_q4 v_q5 v_q6 v_q7 v_q8 v_q9 v_q10 v_q11 v_q12 v_q13 v_q14 v_q15 v_q16 j2_0 v_gain v_size v_w v_s v_h v_laidArea v_parts v_isMinus v_readSpot v_isStar v_wantsNumber v_waiting v_shiftX v_shiftY v_times v_dotsLaid v_joinedLaid v_hash v_isThereA v_vA v_spotOfA v_inMiddleA v_tintsA v_bufferA v_valuesA v_ranksA v_oldRanksA v_partA v_allRanksA v_basesA v_isMetA v_metXA v_metYA v_lineA) H := hP
      have hD : va_D A (wdX5 G v_q0 v_q1 v_q2 v_q3 v_q4 v_q5 v_q6 v_q7 v_q8 v_q9 v_q10 v_q11 v_q12 v_q13 v_q14 v_q15 v_q16 j2_0 v_gain v_size v_w v_s v_h v_laidArea v_parts v_isMinus v_readSpot v_isStar v_wantsNumber v_waiting v_shiftX v_shiftY v_times v_dotsLaid v_joinedLaid v_hash v_isThereA v_vA v_spotOfA v_inMiddleA v_tintsA v_bufferA v_valuesA v_ranksA v_oldRanksA v_partA v_allRanksA v_basesA v_isMetA v_metXA v_metYA v_lineA) := hD
      obtain ⟨rfl, rfl⟩ := sm2 h
      exact hret _ _ _ _ _ rfl trivial rfl hP hD hS dX5_count_34
    · replace h := ite_f c4 h
      refine lv_iconst (v := 0) hx hb dX5_count_25 (by decide) ?_
      refine lv_goto (tgt := 34) hx hb dX5_count_26 (by decide) ?_
      obtain ⟨rfl, rfl⟩ := sm2 h
      exact hret _ _ _ _ _ rfl trivial rfl hP hD hS dX5_count_34
  refine lv_if_eq (tgt := 14) hx hb dX5_count_7 (by decide) (fun c3 => ?_) (fun c3 => ?_)
  · replace h := ite_t c3 h
    refine lv_iconst (v := 1) hx hb dX5_count_14 (by decide) ?_
    exact J2 1 isZ1 H locs ls h hl hP hD hS
  · replace h := ite_f c3 h
    refine lv_iconst (v := 0) hx hb dX5_count_10 (by decide) ?_
    refine lv_goto (tgt := 15) hx hb dX5_count_11 (by decide) ?_
    exact J2 0 isZ0 H locs ls h hl hP hD hS
theorem lk_X5_mix_k275 : Cond.constantLong RX5 275 (31) ∈ wsX5_mix := List.mem_of_getElem? (i := 1) rfl
theorem fw_X5_mix_X5 : ∀ w ∈ wsX50, w ∈ wsX5_mix := fun w h => List.mem_cons_of_mem _ (List.mem_append_right _ h)
theorem lk_X5_mix_f277 : Cond.fieldLink RX5 277 "HalftoneScreensModel" "hash" "J" ∈ wsX5_mix := List.mem_of_getElem? (i := 2) rfl
abbrev rmX5_mix : Room := { frames := 0, cells := 0, slots := 0, locals := 0 }
set_option maxHeartbeats 4000000 in
set_option maxRecDepth 100000 in
theorem ctX5_mix (l : Launch) (G : GG) (v_q0 : Nat) (v_q1 : Nat) (v_q2 : Nat) (v_q3 : Nat) (v_q4 : Nat) (v_q5 : Nat) (v_q6 : Nat) (v_q7 : Nat) (v_q8 : Nat) (v_q9 : Nat) (v_q10 : Nat) (v_q11 : Nat) (v_q12 : Nat) (v_q13 : Nat) (v_q14 : Nat) (v_q15 : Nat) (v_q16 : Nat) (v_thrown : Int32) (v_gain : Int32) (v_size : Int32) (v_w : Int32) (v_s : Int32) (v_h : Int32) (v_laidArea : Int32) (v_parts : Int32) (v_isMinus : Int32) (v_readSpot : Int32) (v_isStar : Int32) (v_wantsNumber : Int32) (v_waiting : Int32) (v_shiftX : Int32) (v_shiftY : Int32) (v_times : Int32) (v_dotsLaid : Int32) (v_joinedLaid : Int32) (v_hash : Int64) (v_isThereA : (Nat → Int32)) (v_vA : (Nat → Int32)) (v_spotOfA : (Nat → Int32)) (v_inMiddleA : (Nat → Int32)) (v_tintsA : (Nat → Int32)) (v_bufferA : (Nat → Int32)) (v_valuesA : (Nat → Int32)) (v_ranksA : (Nat → Int32)) (v_oldRanksA : (Nat → Int32)) (v_partA : (Nat → Int32)) (v_allRanksA : (Nat → Int32)) (v_basesA : (Nat → Int32)) (v_isMetA : (Nat → Int32)) (v_metXA : (Nat → Int32)) (v_metYA : (Nat → Int32)) (v_lineA : (Nat → Int32)) (a0 : Int64) (o0 : Int64) (h : mX5_mix v_hash a0 = some (o0))  : Met l yX5_mix wsX5_mix rmX5_mix (va_Pc [.ref v_q0, .long a0] (PreD G (wdX5 G v_q0 v_q1 v_q2 v_q3 v_q4 v_q5 v_q6 v_q7 v_q8 v_q9 v_q10 v_q11 v_q12 v_q13 v_q14 v_q15 v_q16 v_thrown v_gain v_size v_w v_s v_h v_laidArea v_parts v_isMinus v_readSpot v_isStar v_wantsNumber v_waiting v_shiftX v_shiftY v_times v_dotsLaid v_joinedLaid v_hash v_isThereA v_vA v_spotOfA v_inMiddleA v_tintsA v_bufferA v_valuesA v_ranksA v_oldRanksA v_partA v_allRanksA v_basesA v_isMetA v_metXA v_metYA v_lineA) (fun _ => True))) (QwA G (va_A0 (wdX5 G v_q0 v_q1 v_q2 v_q3 v_q4 v_q5 v_q6 v_q7 v_q8 v_q9 v_q10 v_q11 v_q12 v_q13 v_q14 v_q15 v_q16 v_thrown v_gain v_size v_w v_s v_h v_laidArea v_parts v_isMinus v_readSpot v_isStar v_wantsNumber v_waiting v_shiftX v_shiftY v_times v_dotsLaid v_joinedLaid v_hash v_isThereA v_vA v_spotOfA v_inMiddleA v_tintsA v_bufferA v_valuesA v_ranksA v_oldRanksA v_partA v_allRanksA v_basesA v_isMetA v_metXA v_metYA v_lineA)) (wdX5 G v_q0 v_q1 v_q2 v_q3 v_q4 v_q5 v_q6 v_q7 v_q8 v_q9 v_q10 v_q11 v_q12 v_q13 v_q14 v_q15 v_q16 v_thrown v_gain v_size v_w v_s v_h v_laidArea v_parts v_isMinus v_readSpot v_isStar v_wantsNumber v_waiting v_shiftX v_shiftY v_times v_dotsLaid v_joinedLaid o0 v_isThereA v_vA v_spotOfA v_inMiddleA v_tintsA v_bufferA v_valuesA v_ranksA v_oldRanksA v_partA v_allRanksA v_basesA v_isMetA v_metXA v_metYA v_lineA) none True) 0 0 (va_A0 (wdX5 G v_q0 v_q1 v_q2 v_q3 v_q4 v_q5 v_q6 v_q7 v_q8 v_q9 v_q10 v_q11 v_q12 v_q13 v_q14 v_q15 v_q16 v_thrown v_gain v_size v_w v_s v_h v_laidArea v_parts v_isMinus v_readSpot v_isStar v_wantsNumber v_waiting v_shiftX v_shiftY v_times v_dotsLaid v_joinedLaid v_hash v_isThereA v_vA v_spotOfA v_inMiddleA v_tintsA v_bufferA v_valuesA v_ranksA v_oldRanksA v_partA v_allRanksA v_basesA v_isMetA v_metXA v_metYA v_lineA)) := by
  refine of_wv (cc := cX5_mix) (maxL := 3) (plainFor_of_name (by decide)) rfl (Nat.le_of_ble_eq_true rfl) ?_
  intro p e s m args below meth c ls Q A S hl hP hD hS hK hX hA hret
  obtain ⟨H, hH⟩ : ∃ H, H = s.heap := ⟨_, rfl⟩
  obtain ⟨locs, hlocs⟩ : ∃ L : List Loc, L = [] := ⟨_, rfl⟩
  rw [← hlocs]
  rw [← hlocs] at hS
  have hP : va_P G.1 vwCl (wdX5 G v_q0 v_q1 v_q2 v_q3 v_q4 v_q5 v_q6 v_q7 v_q8 v_q9 v_q10 v_q11 v_q12 v_q13 v_q14 v_q15 v_q16 v_thrown v_gain v_size v_w v_s v_h v_laidArea v_parts v_isMinus v_readSpot v_isStar v_wantsNumber v_waiting v_shiftX v_shiftY v_times v_dotsLaid v_joinedLaid v_hash v_isThereA v_vA v_spotOfA v_inMiddleA v_tintsA v_bufferA v_valuesA v_ranksA v_oldRanksA v_partA v_allRanksA v_basesA v_isMetA v_metXA v_metYA v_lineA) H := by rw [hH]; exact hP
  have hS : va_S A s.heap H locs := by rw [hH]; exact hS
  suffices hgo : W p l e rmX5_mix s m args below meth c H locs 0 0 Q (F0 m 0 ls []) by rw [hH] at hgo; exact hgo
  have S : CallFix p m c cX5_mix 3 s args wsX5_mix RX5 := S
  obtain ⟨hx, hb, hml, hown, hts⟩ := id S
  have hl : lv_has ls 3 [(0, .ref v_q0), (1, .long a0)] := hl
  unfold mX5_mix at h
  refine lv_aload_n hx hb dX5_mix_0 rfl (lv_at hl 0 rfl) ?_
  refine lv_ldc2 (v := 31) hx hb hown (hts (.constantLong RX5 275 (31)) lk_X5_mix_k275) dX5_mix_1 ?_
  refine lv_aload_n hx hb dX5_mix_4 rfl (lv_at hl 0 rfl) ?_
  refine va_get (D := G.1) (ci := 5) (v := .long v_hash) (C := RX5) (T := TX5) (N := 35) hx hb hts fw_X5_mix_X5 hown hK.1 hP 0 rfl rfl 34 (by decide) (hts (.fieldLink RX5 277 "HalftoneScreensModel" "hash" "J") lk_X5_mix_f277) (fun _ h9 => h9) rfl dX5_mix_5 ?_
  refine lv_lmul hx hb dX5_mix_8 ?_
  refine lv_lload_n hx hb dX5_mix_9 rfl (lv_at hl 1 rfl) ?_
  refine lv_ladd hx hb dX5_mix_10 ?_
  refine lv_topl (fun x1 e1 => ?_)
  replace h := nmB_e e1 h
  refine va_put (D := G.1) (ci := 5) (v := .long x1) (ty := .long) (C := RX5) (T := TX5) (N := 35) hx hb hts fw_X5_mix_X5 tyX5 tyX5_ok nmX5 hown hK.1 hP hD hS 0 rfl rfl 34 (by decide) (hts (.fieldLink RX5 277 "HalftoneScreensModel" "hash" "J") lk_X5_mix_f277) (fun _ h9 => h9) rfl (tyX5_ok 34 (by decide)) rfl rfl (Nat.le_of_ble_eq_true rfl) dX5_mix_11 (fun H locs hP hD hS => ?_)
  have hP : va_P G.1 vwCl (wdX5 G v_q0 v_q1 v_q2 v_q3 v_q4 v_q5 v_q6 v_q7 v_q8 v_q9 v_q10 v_q11 v_q12 v_q13 v_q14 v_q15 v_q16 v_thrown v_gain v_size v_w v_s v_h v_laidArea v_parts v_isMinus v_readSpot v_isStar v_wantsNumber v_waiting v_shiftX v_shiftY v_times v_dotsLaid v_joinedLaid x1 v_isThereA v_vA v_spotOfA v_inMiddleA v_tintsA v_bufferA v_valuesA v_ranksA v_oldRanksA v_partA v_allRanksA v_basesA v_isMetA v_metXA v_metYA v_lineA) H := hP
  have hD : va_D A (wdX5 G v_q0 v_q1 v_q2 v_q3 v_q4 v_q5 v_q6 v_q7 v_q8 v_q9 v_q10 v_q11 v_q12 v_q13 v_q14 v_q15 v_q16 v_thrown v_gain v_size v_w v_s v_h v_laidArea v_parts v_isMinus v_readSpot v_isStar v_wantsNumber v_waiting v_shiftX v_shiftY v_times v_dotsLaid v_joinedLaid x1 v_isThereA v_vA v_spotOfA v_inMiddleA v_tintsA v_bufferA v_valuesA v_ranksA v_oldRanksA v_partA v_allRanksA v_basesA v_isMetA v_metXA v_metYA v_lineA) := hD
  obtain rfl := sm1 h
  exact hret _ _ _ _ trivial hP hD hS dX5_mix_14
theorem fw_X5_mixScreen_X5 : ∀ w ∈ wsX50, w ∈ wsX5_mixScreen := fun w h => List.mem_cons_of_mem _ (List.mem_append_right _ h)
theorem lk_X5_mixScreen_f113 : Cond.fieldLink RX5 113 "HalftoneScreensModel" "laidArea" "I" ∈ wsX5_mixScreen := List.mem_of_getElem? (i := 1) rfl
theorem lk_X5_mixScreen_f29 : Cond.fieldLink RX5 29 "HalftoneScreensModel" "values" "[I" ∈ wsX5_mixScreen := List.mem_of_getElem? (i := 2) rfl
theorem lk_X5_mixScreen_f32 : Cond.fieldLink RX5 32 "HalftoneScreensModel" "ranks" "[I" ∈ wsX5_mixScreen := List.mem_of_getElem? (i := 3) rfl
theorem lk_X5_mixScreen_f23 : Cond.fieldLink RX5 23 "HalftoneScreensModel" "tints" "[I" ∈ wsX5_mixScreen := List.mem_of_getElem? (i := 4) rfl
theorem lk_X5_mixScreen_f231 : Cond.fieldLink RX5 231 "HalftoneScreensModel" "dotsLaid" "I" ∈ wsX5_mixScreen := List.mem_of_getElem? (i := 5) rfl
theorem lk_X5_mixScreen_f234 : Cond.fieldLink RX5 234 "HalftoneScreensModel" "joinedLaid" "I" ∈ wsX5_mixScreen := List.mem_of_getElem? (i := 6) rfl
theorem hsX5_mix : yX5_mix.cls ≠ "java/lang/invoke/MethodHandle" ∧ yX5_mix.cls ≠ "java/lang/invoke/VarHandle" ∧ (parseMethodDescriptor yX5_mix.desc).map (fun d => d.parameters.length) = some 1 := by decide +kernel
theorem hvX5_mix : yX5_mix.cls = RX5 ∧ yX5_mix.cls ≠ "java/lang/invoke/MethodHandle" ∧ yX5_mix.cls ≠ "java/lang/invoke/VarHandle" ∧ (parseMethodDescriptor yX5_mix.desc).map (fun d => d.parameters.length) = some 1 := ⟨rfl, hsX5_mix⟩
abbrev rmX5_mixScreen : Room := { frames := 6, cells := 0, slots := 0, locals := 141 }
set_option maxHeartbeats 4000000 in
set_option maxRecDepth 100000 in
theorem ctX5_mixScreen (l : Launch) (G : GG) (v_q0 : Nat) (v_q1 : Nat) (v_q2 : Nat) (v_q3 : Nat) (v_q4 : Nat) (v_q5 : Nat) (v_q6 : Nat) (v_q7 : Nat) (v_q8 : Nat) (v_q9 : Nat) (v_q10 : Nat) (v_q11 : Nat) (v_q12 : Nat) (v_q13 : Nat) (v_q14 : Nat) (v_q15 : Nat) (v_q16 : Nat) (v_thrown : Int32) (v_gain : Int32) (v_size : Int32) (v_w : Int32) (v_s : Int32) (v_h : Int32) (v_laidArea : Int32) (v_parts : Int32) (v_isMinus : Int32) (v_readSpot : Int32) (v_isStar : Int32) (v_wantsNumber : Int32) (v_waiting : Int32) (v_shiftX : Int32) (v_shiftY : Int32) (v_times : Int32) (v_dotsLaid : Int32) (v_joinedLaid : Int32) (v_hash : Int64) (v_isThereA : (Nat → Int32)) (v_vA : (Nat → Int32)) (v_spotOfA : (Nat → Int32)) (v_inMiddleA : (Nat → Int32)) (v_tintsA : (Nat → Int32)) (v_bufferA : (Nat → Int32)) (v_valuesA : (Nat → Int32)) (v_ranksA : (Nat → Int32)) (v_oldRanksA : (Nat → Int32)) (v_partA : (Nat → Int32)) (v_allRanksA : (Nat → Int32)) (v_basesA : (Nat → Int32)) (v_isMetA : (Nat → Int32)) (v_metXA : (Nat → Int32)) (v_metYA : (Nat → Int32)) (v_lineA : (Nat → Int32)) (a0 : Int32) (o0 : Int32) (o1 : Int32) (o2 : Int32) (o3 : Int32) (o4 : Int32) (o5 : Int32) (o6 : Int32) (o7 : Int32) (o8 : Int32) (o9 : Int32) (o10 : Int64) (o11 : (Nat → Int32)) (o12 : (Nat → Int32)) (o13 : (Nat → Int32)) (o14 : (Nat → Int32)) (o15 : (Nat → Int32)) (o16 : (Nat → Int32)) (h : mX5_mixScreen v_gain v_w v_s v_h v_waiting v_shiftX v_shiftY v_times v_hash v_vA v_spotOfA v_inMiddleA v_tintsA v_valuesA v_ranksA v_isMetA v_metXA v_metYA v_lineA a0 = some (o0, o1, o2, o3, o4, o5, o6, o7, o8, o9, o10, o11, o12, o13, o14, o15, o16))  : Met l yX5_mixScreen wsX5_mixScreen rmX5_mixScreen (va_Pc [.ref v_q0, .int a0] (PreD G (wdX5 G v_q0 v_q1 v_q2 v_q3 v_q4 v_q5 v_q6 v_q7 v_q8 v_q9 v_q10 v_q11 v_q12 v_q13 v_q14 v_q15 v_q16 v_thrown v_gain v_size v_w v_s v_h v_laidArea v_parts v_isMinus v_readSpot v_isStar v_wantsNumber v_waiting v_shiftX v_shiftY v_times v_dotsLaid v_joinedLaid v_hash v_isThereA v_vA v_spotOfA v_inMiddleA v_tintsA v_bufferA v_valuesA v_ranksA v_oldRanksA v_partA v_allRanksA v_basesA v_isMetA v_metXA v_metYA v_lineA) (fun _ => True))) (QwA G (va_A0 (wdX5 G v_q0 v_q1 v_q2 v_q3 v_q4 v_q5 v_q6 v_q7 v_q8 v_q9 v_q10 v_q11 v_q12 v_q13 v_q14 v_q15 v_q16 v_thrown v_gain v_size v_w v_s v_h v_laidArea v_parts v_isMinus v_readSpot v_isStar v_wantsNumber v_waiting v_shiftX v_shiftY v_times v_dotsLaid v_joinedLaid v_hash v_isThereA v_vA v_spotOfA v_inMiddleA v_tintsA v_bufferA v_valuesA v_ranksA v_oldRanksA v_partA v_allRanksA v_basesA v_isMetA v_metXA v_metYA v_lineA)) (wdX5 G v_q0 v_q1 v_q2 v_q3 v_q4 v_q5 v_q6 v_q7 v_q8 v_q9 v_q10 v_q11 v_q12 v_q13 v_q14 v_q15 v_q16 v_thrown v_gain v_size o0 o1 o2 o3 v_parts v_isMinus v_readSpot v_isStar v_wantsNumber o4 o5 o6 o7 o8 o9 o10 v_isThereA v_vA v_spotOfA v_inMiddleA v_tintsA v_bufferA o11 o12 v_oldRanksA v_partA v_allRanksA v_basesA o13 o14 o15 o16) none True) 0 0 (va_A0 (wdX5 G v_q0 v_q1 v_q2 v_q3 v_q4 v_q5 v_q6 v_q7 v_q8 v_q9 v_q10 v_q11 v_q12 v_q13 v_q14 v_q15 v_q16 v_thrown v_gain v_size v_w v_s v_h v_laidArea v_parts v_isMinus v_readSpot v_isStar v_wantsNumber v_waiting v_shiftX v_shiftY v_times v_dotsLaid v_joinedLaid v_hash v_isThereA v_vA v_spotOfA v_inMiddleA v_tintsA v_bufferA v_valuesA v_ranksA v_oldRanksA v_partA v_allRanksA v_basesA v_isMetA v_metXA v_metYA v_lineA)) := by
  refine of_wv (cc := cX5_mixScreen) (maxL := 3) (plainFor_of_name (by decide)) rfl (Nat.le_of_ble_eq_true rfl) ?_
  intro p e s m args below meth c ls Q A S hl hP hD hS hK hX hA hret
  obtain ⟨H, hH⟩ : ∃ H, H = s.heap := ⟨_, rfl⟩
  obtain ⟨locs, hlocs⟩ : ∃ L : List Loc, L = [] := ⟨_, rfl⟩
  rw [← hlocs]
  rw [← hlocs] at hS
  have hP : va_P G.1 vwCl (wdX5 G v_q0 v_q1 v_q2 v_q3 v_q4 v_q5 v_q6 v_q7 v_q8 v_q9 v_q10 v_q11 v_q12 v_q13 v_q14 v_q15 v_q16 v_thrown v_gain v_size v_w v_s v_h v_laidArea v_parts v_isMinus v_readSpot v_isStar v_wantsNumber v_waiting v_shiftX v_shiftY v_times v_dotsLaid v_joinedLaid v_hash v_isThereA v_vA v_spotOfA v_inMiddleA v_tintsA v_bufferA v_valuesA v_ranksA v_oldRanksA v_partA v_allRanksA v_basesA v_isMetA v_metXA v_metYA v_lineA) H := by rw [hH]; exact hP
  have hS : va_S A s.heap H locs := by rw [hH]; exact hS
  suffices hgo : W p l e rmX5_mixScreen s m args below meth c H locs 0 0 Q (F0 m 0 ls []) by rw [hH] at hgo; exact hgo
  have S : CallFix p m c cX5_mixScreen 3 s args wsX5_mixScreen RX5 := S
  obtain ⟨hx, hb, hml, hown, hts⟩ := id S
  have hl : lv_has ls 3 [(0, .ref v_q0), (1, .int a0)] := hl
  unfold mX5_mixScreen at h
  refine lv_aload_n hx hb dX5_mixScreen_0 rfl (lv_at hl 0 rfl) ?_
  refine lv_lconst (v := 1) hx hb dX5_mixScreen_1 (by decide) ?_
  obtain ⟨r1_0, g1, h⟩ := bnd1_e h
  refine rwV_same (rest := []) (As := [.long 1]) S (ctX5_mix l G v_q0 v_q1 v_q2 v_q3 v_q4 v_q5 v_q6 v_q7 v_q8 v_q9 v_q10 v_q11 v_q12 v_q13 v_q14 v_q15 v_q16 v_thrown v_gain v_size v_w v_s v_h v_laidArea v_parts v_isMinus v_readSpot v_isStar v_wantsNumber v_waiting v_shiftX v_shiftY v_times v_dotsLaid v_joinedLaid v_hash v_isThereA v_vA v_spotOfA v_inMiddleA v_tintsA v_bufferA v_valuesA v_ranksA v_oldRanksA v_partA v_allRanksA v_basesA v_isMetA v_metXA v_metYA v_lineA 1 r1_0 g1) (cwV 1 hts gX5_mixScreen_X5_mix rfl rfl rfl hvX5_mix ⟨Nat.le_of_ble_eq_true rfl, Nat.le_of_ble_eq_true rfl⟩) hK hP hD hS xb_triv (fun _ _ _ => trivial) 0 5 rfl rfl rfl rfl hl.1 rfl (Nat.le_of_ble_eq_true rfl) dX5_mixScreen_2 ⟨Nat.le_refl _, Nat.le_refl _⟩ (fun _ H locs hP hD hS => ?_)
  have hP : va_P G.1 vwCl (wdX5 G v_q0 v_q1 v_q2 v_q3 v_q4 v_q5 v_q6 v_q7 v_q8 v_q9 v_q10 v_q11 v_q12 v_q13 v_q14 v_q15 v_q16 v_thrown v_gain v_size v_w v_s v_h v_laidArea v_parts v_isMinus v_readSpot v_isStar v_wantsNumber v_waiting v_shiftX v_shiftY v_times v_dotsLaid v_joinedLaid r1_0 v_isThereA v_vA v_spotOfA v_inMiddleA v_tintsA v_bufferA v_valuesA v_ranksA v_oldRanksA v_partA v_allRanksA v_basesA v_isMetA v_metXA v_metYA v_lineA) H := hP
  have hD : va_D A (wdX5 G v_q0 v_q1 v_q2 v_q3 v_q4 v_q5 v_q6 v_q7 v_q8 v_q9 v_q10 v_q11 v_q12 v_q13 v_q14 v_q15 v_q16 v_thrown v_gain v_size v_w v_s v_h v_laidArea v_parts v_isMinus v_readSpot v_isStar v_wantsNumber v_waiting v_shiftX v_shiftY v_times v_dotsLaid v_joinedLaid r1_0 v_isThereA v_vA v_spotOfA v_inMiddleA v_tintsA v_bufferA v_valuesA v_ranksA v_oldRanksA v_partA v_allRanksA v_basesA v_isMetA v_metXA v_metYA v_lineA) := hD
  refine lv_iconst (v := 0) hx hb dX5_mixScreen_5 (by decide) ?_
  refine lv_istore_n (lv' := [(2, .int 0), (0, .ref v_q0), (1, .int a0)]) hx hb dX5_mixScreen_6 rfl hl (by decide) rfl (fun ls hl => ?_)
  obtain ⟨u2_0, u2_1, u2_2, u2_3, u2_4, g2, h⟩ := bnd5_e h
  have L2 : ∀ (fu : Nat) (v2_0 : Int32) (v2_1 : Int32) (v2_2 : Int32) (v2_3 : Int32) (v2_4 : Int64) (u2_0 : Int32) (u2_1 : Int32) (u2_2 : Int32) (u2_3 : Int32) (u2_4 : Int64) (H : Heap) (locs : List Loc) (ls : Array Slot), mX5_mixScreen_L7 v_vA v_spotOfA v_inMiddleA v_tintsA a0 fu v2_0 v2_1 v2_2 v2_3 v2_4 = some (u2_0, u2_1, u2_2, u2_3, u2_4) → lv_has ls 3 [(2, .int v2_0), (0, .ref v_q0), (1, .int a0)] → va_P G.1 vwCl (wdX5 G v_q0 v_q1 v_q2 v_q3 v_q4 v_q5 v_q6 v_q7 v_q8 v_q9 v_q10 v_q11 v_q12 v_q13 v_q14 v_q15 v_q16 v_thrown v_gain v_size v2_1 v2_2 v2_3 v_laidArea v_parts v_isMinus v_readSpot v_isStar v_wantsNumber v_waiting v_shiftX v_shiftY v_times v_dotsLaid v_joinedLaid v2_4 v_isThereA v_vA v_spotOfA v_inMiddleA v_tintsA v_bufferA v_valuesA v_ranksA v_oldRanksA v_partA v_allRanksA v_basesA v_isMetA v_metXA v_metYA v_lineA) H → va_D A (wdX5 G v_q0 v_q1 v_q2 v_q3 v_q4 v_q5 v_q6 v_q7 v_q8 v_q9 v_q10 v_q11 v_q12 v_q13 v_q14 v_q15 v_q16 v_thrown v_gain v_size v2_1 v2_2 v2_3 v_laidArea v_parts v_isMinus v_readSpot v_isStar v_wantsNumber v_waiting v_shiftX v_shiftY v_times v_dotsLaid v_joinedLaid v2_4 v_isThereA v_vA v_spotOfA v_inMiddleA v_tintsA v_bufferA v_valuesA v_ranksA v_oldRanksA v_partA v_allRanksA v_basesA v_isMetA v_metXA v_metYA v_lineA) → va_S A s.heap H locs → (∀ (H : Heap) (locs : List Loc) (ls : Array Slot), lv_has ls 3 [(2, .int u2_0), (0, .ref v_q0), (1, .int a0)] → va_P G.1 vwCl (wdX5 G v_q0 v_q1 v_q2 v_q3 v_q4 v_q5 v_q6 v_q7 v_q8 v_q9 v_q10 v_q11 v_q12 v_q13 v_q14 v_q15 v_q16 v_thrown v_gain v_size u2_1 u2_2 u2_3 v_laidArea v_parts v_isMinus v_readSpot v_isStar v_wantsNumber v_waiting v_shiftX v_shiftY v_times v_dotsLaid v_joinedLaid u2_4 v_isThereA v_vA v_spotOfA v_inMiddleA v_tintsA v_bufferA v_valuesA v_ranksA v_oldRanksA v_partA v_allRanksA v_basesA v_isMetA v_metXA v_metYA v_lineA) H → va_D A (wdX5 G v_q0 v_q1 v_q2 v_q3 v_q4 v_q5 v_q6 v_q7 v_q8 v_q9 v_q10 v_q11 v_q12 v_q13 v_q14 v_q15 v_q16 v_thrown v_gain v_size u2_1 u2_2 u2_3 v_laidArea v_parts v_isMinus v_readSpot v_isStar v_wantsNumber v_waiting v_shiftX v_shiftY v_times v_dotsLaid v_joinedLaid u2_4 v_isThereA v_vA v_spotOfA v_inMiddleA v_tintsA v_bufferA v_valuesA v_ranksA v_oldRanksA v_partA v_allRanksA v_basesA v_isMetA v_metXA v_metYA v_lineA) → va_S A s.heap H locs → W p l e rmX5_mixScreen s m args below meth c H locs 0 0 Q (F0 m 30 ls [])) → W p l e rmX5_mixScreen s m args below meth c H locs 0 0 Q (F0 m 7 ls []) := by
    intro fu
    induction fu with
    | zero => intro v2_0 v2_1 v2_2 v2_3 v2_4 u2_0 u2_1 u2_2 u2_3 u2_4 H locs ls h; exact nomatch h
    | succ fu ih =>
      intro v2_0 v2_1 v2_2 v2_3 v2_4 u2_0 u2_1 u2_2 u2_3 u2_4 H locs ls h hl hP hD hS kE
      rw [mX5_mixScreen_L7] at h
      refine lv_iload_n hx hb dX5_mixScreen_7 rfl (lv_at hl 0 rfl) ?_
      refine lv_bipush (v := 11) hx hb dX5_mixScreen_8 (by decide) ?_
      refine lv_icmp_ge (tgt := 30) hx hb dX5_mixScreen_10 (by decide) (fun c3 => ?_) (fun c3 => ?_)
      · replace h := ite_t c3 h
        obtain ⟨rfl, rfl, rfl, rfl, rfl⟩ := sm5 h
        exact kE H locs ls hl hP hD hS
      · replace h := ite_f c3 h
        refine lv_aload_n hx hb dX5_mixScreen_13 rfl (lv_at hl 1 rfl) ?_
        refine lv_aload_n hx hb dX5_mixScreen_14 rfl (lv_at hl 1 rfl) ?_
        refine lv_iload_n hx hb dX5_mixScreen_15 rfl (lv_at hl 2 rfl) ?_
        refine lv_iload_n hx hb dX5_mixScreen_16 rfl (lv_at hl 0 rfl) ?_
        obtain ⟨r4_0, r4_1, r4_2, r4_3, g4, h⟩ := bnd4_e h
        refine rwV_same (rest := [.ref v_q0]) (As := [.int a0, .int v2_0]) S (ctX5_propertyOf l G v_q0 v_q1 v_q2 v_q3 v_q4 v_q5 v_q6 v_q7 v_q8 v_q9 v_q10 v_q11 v_q12 v_q13 v_q14 v_q15 v_q16 v_thrown v_gain v_size v2_1 v2_2 v2_3 v_laidArea v_parts v_isMinus v_readSpot v_isStar v_wantsNumber v_waiting v_shiftX v_shiftY v_times v_dotsLaid v_joinedLaid v2_4 v_isThereA v_vA v_spotOfA v_inMiddleA v_tintsA v_bufferA v_valuesA v_ranksA v_oldRanksA v_partA v_allRanksA v_basesA v_isMetA v_metXA v_metYA v_lineA a0 v2_0 r4_0 r4_1 r4_2 r4_3 g4) (cwV 2 hts gX5_mixScreen_X5_propertyOf rfl rfl rfl hvX5_propertyOf ⟨Nat.le_of_ble_eq_true rfl, Nat.le_of_ble_eq_true rfl⟩) hK hP hD hS xb_triv (fun _ _ _ => trivial) 0 5 rfl rfl rfl rfl hl.1 rfl (Nat.le_of_ble_eq_true rfl) dX5_mixScreen_17 ⟨Nat.le_refl _, Nat.le_refl _⟩ (fun _ H locs hP hD hS => ?_)
        have hP : va_P G.1 vwCl (wdX5 G v_q0 v_q1 v_q2 v_q3 v_q4 v_q5 v_q6 v_q7 v_q8 v_q9 v_q10 v_q11 v_q12 v_q13 v_q14 v_q15 v_q16 v_thrown v_gain v_size r4_1 r4_2 r4_3 v_laidArea v_parts v_isMinus v_readSpot v_isStar v_wantsNumber v_waiting v_shiftX v_shiftY v_times v_dotsLaid v_joinedLaid v2_4 v_isThereA v_vA v_spotOfA v_inMiddleA v_tintsA v_bufferA v_valuesA v_ranksA v_oldRanksA v_partA v_allRanksA v_basesA v_isMetA v_metXA v_metYA v_lineA) H := hP
        have hD : va_D A (wdX5 G v_q0 v_q1 v_q2 v_q3 v_q4 v_q5 v_q6 v_q7 v_q8 v_q9 v_q10 v_q11 v_q12 v_q13 v_q14 v_q15 v_q16 v_thrown v_gain v_size r4_1 r4_2 r4_3 v_laidArea v_parts v_isMinus v_readSpot v_isStar v_wantsNumber v_waiting v_shiftX v_shiftY v_times v_dotsLaid v_joinedLaid v2_4 v_isThereA v_vA v_spotOfA v_inMiddleA v_tintsA v_bufferA v_valuesA v_ranksA v_oldRanksA v_partA v_allRanksA v_basesA v_isMetA v_metXA v_metYA v_lineA) := hD
        refine lv_i2l hx hb dX5_mixScreen_20 rfl ?_
        obtain ⟨r5_0, g5, h⟩ := bnd1_e h
        refine rwV_same (rest := []) (As := [.long r4_0.toInt64]) S (ctX5_mix l G v_q0 v_q1 v_q2 v_q3 v_q4 v_q5 v_q6 v_q7 v_q8 v_q9 v_q10 v_q11 v_q12 v_q13 v_q14 v_q15 v_q16 v_thrown v_gain v_size r4_1 r4_2 r4_3 v_laidArea v_parts v_isMinus v_readSpot v_isStar v_wantsNumber v_waiting v_shiftX v_shiftY v_times v_dotsLaid v_joinedLaid v2_4 v_isThereA v_vA v_spotOfA v_inMiddleA v_tintsA v_bufferA v_valuesA v_ranksA v_oldRanksA v_partA v_allRanksA v_basesA v_isMetA v_metXA v_metYA v_lineA r4_0.toInt64 r5_0 g5) (cwV 1 hts gX5_mixScreen_X5_mix rfl rfl rfl hvX5_mix ⟨Nat.le_of_ble_eq_true rfl, Nat.le_of_ble_eq_true rfl⟩) hK hP hD hS xb_triv (fun _ _ _ => trivial) 0 5 rfl rfl rfl rfl hl.1 rfl (Nat.le_of_ble_eq_true rfl) dX5_mixScreen_21 ⟨Nat.le_refl _, Nat.le_refl _⟩ (fun _ H locs hP hD hS => ?_)
        have hP : va_P G.1 vwCl (wdX5 G v_q0 v_q1 v_q2 v_q3 v_q4 v_q5 v_q6 v_q7 v_q8 v_q9 v_q10 v_q11 v_q12 v_q13 v_q14 v_q15 v_q16 v_thrown v_gain v_size r4_1 r4_2 r4_3 v_laidArea v_parts v_isMinus v_readSpot v_isStar v_wantsNumber v_waiting v_shiftX v_shiftY v_times v_dotsLaid v_joinedLaid r5_0 v_isThereA v_vA v_spotOfA v_inMiddleA v_tintsA v_bufferA v_valuesA v_ranksA v_oldRanksA v_partA v_allRanksA v_basesA v_isMetA v_metXA v_metYA v_lineA) H := hP
        have hD : va_D A (wdX5 G v_q0 v_q1 v_q2 v_q3 v_q4 v_q5 v_q6 v_q7 v_q8 v_q9 v_q10 v_q11 v_q12 v_q13 v_q14 v_q15 v_q16 v_thrown v_gain v_size r4_1 r4_2 r4_3 v_laidArea v_parts v_isMinus v_readSpot v_isStar v_wantsNumber v_waiting v_shiftX v_shiftY v_times v_dotsLaid v_joinedLaid r5_0 v_isThereA v_vA v_spotOfA v_inMiddleA v_tintsA v_bufferA v_valuesA v_ranksA v_oldRanksA v_partA v_allRanksA v_basesA v_isMetA v_metXA v_metYA v_lineA) := hD
        obtain ⟨x6, e6⟩ : ∃ y : Int32, y = v2_0 + 1 := ⟨_, rfl⟩
        replace h := nmB_e e6 h
        refine lv_iinc (v := x6) (lv' := [(2, .int x6), (0, .ref v_q0), (1, .int a0)]) hx hb dX5_mixScreen_24 hl (k := 0) rfl (by rw [e6]; rfl) (by decide) rfl (fun ls hl => ?_)
        refine lv_goto (tgt := 7) hx hb dX5_mixScreen_27 (by decide) ?_
        exact ih x6 r4_1 r4_2 r4_3 r5_0 u2_0 u2_1 u2_2 u2_3 u2_4 H locs ls h hl hP hD hS kE
  refine L2 FU 0 v_w v_s v_h r1_0 u2_0 u2_1 u2_2 u2_3 u2_4 H locs ls g2 hl hP hD hS (fun H locs ls hl hP hD hS => ?_)
  refine lv_aload_n hx hb dX5_mixScreen_30 rfl (lv_at hl 1 rfl) ?_
  refine lv_iload_n hx hb dX5_mixScreen_31 rfl (lv_at hl 2 rfl) ?_
  obtain ⟨r7_0, r7_1, r7_2, r7_3, r7_4, r7_5, g7, h⟩ := bnd6_e h
  refine rwV_same (rest := []) (As := [.int a0]) S (ctX5_layGrowth l G v_q0 v_q1 v_q2 v_q3 v_q4 v_q5 v_q6 v_q7 v_q8 v_q9 v_q10 v_q11 v_q12 v_q13 v_q14 v_q15 v_q16 v_thrown v_gain v_size u2_1 u2_2 u2_3 v_laidArea v_parts v_isMinus v_readSpot v_isStar v_wantsNumber v_waiting v_shiftX v_shiftY v_times v_dotsLaid v_joinedLaid u2_4 v_isThereA v_vA v_spotOfA v_inMiddleA v_tintsA v_bufferA v_valuesA v_ranksA v_oldRanksA v_partA v_allRanksA v_basesA v_isMetA v_metXA v_metYA v_lineA a0 r7_0 r7_1 r7_2 r7_3 r7_4 r7_5 g7) (cwV 1 hts gX5_mixScreen_X5_layGrowth rfl rfl rfl hvX5_layGrowth ⟨Nat.le_of_ble_eq_true rfl, Nat.le_of_ble_eq_true rfl⟩) hK hP hD hS xb_triv (fun _ _ _ => trivial) 0 5 rfl rfl rfl rfl hl.1 rfl (Nat.le_of_ble_eq_true rfl) dX5_mixScreen_32 ⟨Nat.le_refl _, Nat.le_refl _⟩ (fun _ H locs hP hD hS => ?_)
  have hP : va_P G.1 vwCl (wdX5 G v_q0 v_q1 v_q2 v_q3 v_q4 v_q5 v_q6 v_q7 v_q8 v_q9 v_q10 v_q11 v_q12 v_q13 v_q14 v_q15 v_q16 v_thrown v_gain v_size r7_0 r7_1 r7_2 r7_3 v_parts v_isMinus v_readSpot v_isStar v_wantsNumber v_waiting v_shiftX v_shiftY v_times v_dotsLaid v_joinedLaid u2_4 v_isThereA v_vA v_spotOfA v_inMiddleA v_tintsA v_bufferA r7_4 r7_5 v_oldRanksA v_partA v_allRanksA v_basesA v_isMetA v_metXA v_metYA v_lineA) H := hP
  have hD : va_D A (wdX5 G v_q0 v_q1 v_q2 v_q3 v_q4 v_q5 v_q6 v_q7 v_q8 v_q9 v_q10 v_q11 v_q12 v_q13 v_q14 v_q15 v_q16 v_thrown v_gain v_size r7_0 r7_1 r7_2 r7_3 v_parts v_isMinus v_readSpot v_isStar v_wantsNumber v_waiting v_shiftX v_shiftY v_times v_dotsLaid v_joinedLaid u2_4 v_isThereA v_vA v_spotOfA v_inMiddleA v_tintsA v_bufferA r7_4 r7_5 v_oldRanksA v_partA v_allRanksA v_basesA v_isMetA v_metXA v_metYA v_lineA) := hD
  refine lv_iconst (v := 0) hx hb dX5_mixScreen_35 (by decide) ?_
  refine lv_istore_n (lv' := [(2, .int 0), (0, .ref v_q0), (1, .int a0)]) hx hb dX5_mixScreen_36 rfl hl (by decide) rfl (fun ls hl => ?_)
  obtain ⟨u8_0, u8_1, g8, h⟩ := bnd2_e h
  have L8 : ∀ (fu : Nat) (v8_0 : Int32) (v8_1 : Int64) (u8_0 : Int32) (u8_1 : Int64) (H : Heap) (locs : List Loc) (ls : Array Slot), mX5_mixScreen_L37 r7_3 r7_4 r7_5 fu v8_0 v8_1 = some (u8_0, u8_1) → lv_has ls 3 [(2, .int v8_0), (0, .ref v_q0), (1, .int a0)] → va_P G.1 vwCl (wdX5 G v_q0 v_q1 v_q2 v_q3 v_q4 v_q5 v_q6 v_q7 v_q8 v_q9 v_q10 v_q11 v_q12 v_q13 v_q14 v_q15 v_q16 v_thrown v_gain v_size r7_0 r7_1 r7_2 r7_3 v_parts v_isMinus v_readSpot v_isStar v_wantsNumber v_waiting v_shiftX v_shiftY v_times v_dotsLaid v_joinedLaid v8_1 v_isThereA v_vA v_spotOfA v_inMiddleA v_tintsA v_bufferA r7_4 r7_5 v_oldRanksA v_partA v_allRanksA v_basesA v_isMetA v_metXA v_metYA v_lineA) H → va_D A (wdX5 G v_q0 v_q1 v_q2 v_q3 v_q4 v_q5 v_q6 v_q7 v_q8 v_q9 v_q10 v_q11 v_q12 v_q13 v_q14 v_q15 v_q16 v_thrown v_gain v_size r7_0 r7_1 r7_2 r7_3 v_parts v_isMinus v_readSpot v_isStar v_wantsNumber v_waiting v_shiftX v_shiftY v_times v_dotsLaid v_joinedLaid v8_1 v_isThereA v_vA v_spotOfA v_inMiddleA v_tintsA v_bufferA r7_4 r7_5 v_oldRanksA v_partA v_allRanksA v_basesA v_isMetA v_metXA v_metYA v_lineA) → va_S A s.heap H locs → (∀ (H : Heap) (locs : List Loc) (ls : Array Slot), lv_has ls 3 [(2, .int u8_0), (0, .ref v_q0), (1, .int a0)] → va_P G.1 vwCl (wdX5 G v_q0 v_q1 v_q2 v_q3 v_q4 v_q5 v_q6 v_q7 v_q8 v_q9 v_q10 v_q11 v_q12 v_q13 v_q14 v_q15 v_q16 v_thrown v_gain v_size r7_0 r7_1 r7_2 r7_3 v_parts v_isMinus v_readSpot v_isStar v_wantsNumber v_waiting v_shiftX v_shiftY v_times v_dotsLaid v_joinedLaid u8_1 v_isThereA v_vA v_spotOfA v_inMiddleA v_tintsA v_bufferA r7_4 r7_5 v_oldRanksA v_partA v_allRanksA v_basesA v_isMetA v_metXA v_metYA v_lineA) H → va_D A (wdX5 G v_q0 v_q1 v_q2 v_q3 v_q4 v_q5 v_q6 v_q7 v_q8 v_q9 v_q10 v_q11 v_q12 v_q13 v_q14 v_q15 v_q16 v_thrown v_gain v_size r7_0 r7_1 r7_2 r7_3 v_parts v_isMinus v_readSpot v_isStar v_wantsNumber v_waiting v_shiftX v_shiftY v_times v_dotsLaid v_joinedLaid u8_1 v_isThereA v_vA v_spotOfA v_inMiddleA v_tintsA v_bufferA r7_4 r7_5 v_oldRanksA v_partA v_allRanksA v_basesA v_isMetA v_metXA v_metYA v_lineA) → va_S A s.heap H locs → W p l e rmX5_mixScreen s m args below meth c H locs 0 0 Q (F0 m 73 ls [])) → W p l e rmX5_mixScreen s m args below meth c H locs 0 0 Q (F0 m 37 ls []) := by
    intro fu
    induction fu with
    | zero => intro v8_0 v8_1 u8_0 u8_1 H locs ls h; exact nomatch h
    | succ fu ih =>
      intro v8_0 v8_1 u8_0 u8_1 H locs ls h hl hP hD hS kE
      rw [mX5_mixScreen_L37] at h
      refine lv_iload_n hx hb dX5_mixScreen_37 rfl (lv_at hl 0 rfl) ?_
      refine lv_aload_n hx hb dX5_mixScreen_38 rfl (lv_at hl 1 rfl) ?_
      refine va_get (D := G.1) (ci := 5) (v := .int r7_3) (C := RX5) (T := TX5) (N := 35) hx hb hts fw_X5_mixScreen_X5 hown hK.1 hP 0 rfl rfl 14 (by decide) (hts (.fieldLink RX5 113 "HalftoneScreensModel" "laidArea" "I") lk_X5_mixScreen_f113) (fun _ h9 => h9) rfl dX5_mixScreen_39 ?_
      refine lv_icmp_ge (tgt := 73) hx hb dX5_mixScreen_42 (by decide) (fun c9 => ?_) (fun c9 => ?_)
      · replace h := ite_t c9 h
        obtain ⟨rfl, rfl⟩ := sm2 h
        exact kE H locs ls hl hP hD hS
      · replace h := ite_f c9 h
        refine lv_aload_n hx hb dX5_mixScreen_45 rfl (lv_at hl 1 rfl) ?_
        refine lv_aload_n hx hb dX5_mixScreen_46 rfl (lv_at hl 1 rfl) ?_
        refine va_get (D := G.1) (ci := 5) (v := .ref v_q7) (C := RX5) (T := TX5) (N := 35) hx hb hts fw_X5_mixScreen_X5 hown hK.1 hP 0 rfl rfl 12 (by decide) (hts (.fieldLink RX5 29 "HalftoneScreensModel" "values" "[I") lk_X5_mixScreen_f29) (fun _ h9 => h9) rfl dX5_mixScreen_47 ?_
        refine lv_iload_n hx hb dX5_mixScreen_50 rfl (lv_at hl 0 rfl) ?_
        obtain ⟨i10, h⟩ := gd_e h
        refine va_iald hx hb hK.1 hP 7 0 rfl rfl i10 dX5_mixScreen_51 ?_
        refine lv_i2l hx hb dX5_mixScreen_52 rfl ?_
        obtain ⟨r11_0, g11, h⟩ := bnd1_e h
        refine rwV_same (rest := []) (As := [.long (((r7_4 v8_0.toNatClampNeg)).toInt64)]) S (ctX5_mix l G v_q0 v_q1 v_q2 v_q3 v_q4 v_q5 v_q6 v_q7 v_q8 v_q9 v_q10 v_q11 v_q12 v_q13 v_q14 v_q15 v_q16 v_thrown v_gain v_size r7_0 r7_1 r7_2 r7_3 v_parts v_isMinus v_readSpot v_isStar v_wantsNumber v_waiting v_shiftX v_shiftY v_times v_dotsLaid v_joinedLaid v8_1 v_isThereA v_vA v_spotOfA v_inMiddleA v_tintsA v_bufferA r7_4 r7_5 v_oldRanksA v_partA v_allRanksA v_basesA v_isMetA v_metXA v_metYA v_lineA (((r7_4 v8_0.toNatClampNeg)).toInt64) r11_0 g11) (cwV 1 hts gX5_mixScreen_X5_mix rfl rfl rfl hvX5_mix ⟨Nat.le_of_ble_eq_true rfl, Nat.le_of_ble_eq_true rfl⟩) hK hP hD hS xb_triv (fun _ _ _ => trivial) 0 5 rfl rfl rfl rfl hl.1 rfl (Nat.le_of_ble_eq_true rfl) dX5_mixScreen_53 ⟨Nat.le_refl _, Nat.le_refl _⟩ (fun _ H locs hP hD hS => ?_)
        have hP : va_P G.1 vwCl (wdX5 G v_q0 v_q1 v_q2 v_q3 v_q4 v_q5 v_q6 v_q7 v_q8 v_q9 v_q10 v_q11 v_q12 v_q13 v_q14 v_q15 v_q16 v_thrown v_gain v_size r7_0 r7_1 r7_2 r7_3 v_parts v_isMinus v_readSpot v_isStar v_wantsNumber v_waiting v_shiftX v_shiftY v_times v_dotsLaid v_joinedLaid r11_0 v_isThereA v_vA v_spotOfA v_inMiddleA v_tintsA v_bufferA r7_4 r7_5 v_oldRanksA v_partA v_allRanksA v_basesA v_isMetA v_metXA v_metYA v_lineA) H := hP
        have hD : va_D A (wdX5 G v_q0 v_q1 v_q2 v_q3 v_q4 v_q5 v_q6 v_q7 v_q8 v_q9 v_q10 v_q11 v_q12 v_q13 v_q14 v_q15 v_q16 v_thrown v_gain v_size r7_0 r7_1 r7_2 r7_3 v_parts v_isMinus v_readSpot v_isStar v_wantsNumber v_waiting v_shiftX v_shiftY v_times v_dotsLaid v_joinedLaid r11_0 v_isThereA v_vA v_spotOfA v_inMiddleA v_tintsA v_bufferA r7_4 r7_5 v_oldRanksA v_partA v_allRanksA v_basesA v_isMetA v_metXA v_metYA v_lineA) := hD
        refine lv_aload_n hx hb dX5_mixScreen_56 rfl (lv_at hl 1 rfl) ?_
        refine lv_aload_n hx hb dX5_mixScreen_57 rfl (lv_at hl 1 rfl) ?_
        refine va_get (D := G.1) (ci := 5) (v := .ref v_q8) (C := RX5) (T := TX5) (N := 35) hx hb hts fw_X5_mixScreen_X5 hown hK.1 hP 0 rfl rfl 13 (by decide) (hts (.fieldLink RX5 32 "HalftoneScreensModel" "ranks" "[I") lk_X5_mixScreen_f32) (fun _ h9 => h9) rfl dX5_mixScreen_58 ?_
        refine lv_iload_n hx hb dX5_mixScreen_61 rfl (lv_at hl 0 rfl) ?_
        obtain ⟨i12, h⟩ := gd_e h
        refine va_iald hx hb hK.1 hP 8 0 rfl rfl i12 dX5_mixScreen_62 ?_
        refine lv_i2l hx hb dX5_mixScreen_63 rfl ?_
        obtain ⟨r13_0, g13, h⟩ := bnd1_e h
        refine rwV_same (rest := []) (As := [.long (((r7_5 v8_0.toNatClampNeg)).toInt64)]) S (ctX5_mix l G v_q0 v_q1 v_q2 v_q3 v_q4 v_q5 v_q6 v_q7 v_q8 v_q9 v_q10 v_q11 v_q12 v_q13 v_q14 v_q15 v_q16 v_thrown v_gain v_size r7_0 r7_1 r7_2 r7_3 v_parts v_isMinus v_readSpot v_isStar v_wantsNumber v_waiting v_shiftX v_shiftY v_times v_dotsLaid v_joinedLaid r11_0 v_isThereA v_vA v_spotOfA v_inMiddleA v_tintsA v_bufferA r7_4 r7_5 v_oldRanksA v_partA v_allRanksA v_basesA v_isMetA v_metXA v_metYA v_lineA (((r7_5 v8_0.toNatClampNeg)).toInt64) r13_0 g13) (cwV 1 hts gX5_mixScreen_X5_mix rfl rfl rfl hvX5_mix ⟨Nat.le_of_ble_eq_true rfl, Nat.le_of_ble_eq_true rfl⟩) hK hP hD hS xb_triv (fun _ _ _ => trivial) 0 5 rfl rfl rfl rfl hl.1 rfl (Nat.le_of_ble_eq_true rfl) dX5_mixScreen_64 ⟨Nat.le_refl _, Nat.le_refl _⟩ (fun _ H locs hP hD hS => ?_)
        have hP : va_P G.1 vwCl (wdX5 G v_q0 v_q1 v_q2 v_q3 v_q4 v_q5 v_q6 v_q7 v_q8 v_q9 v_q10 v_q11 v_q12 v_q13 v_q14 v_q15 v_q16 v_thrown v_gain v_size r7_0 r7_1 r7_2 r7_3 v_parts v_isMinus v_readSpot v_isStar v_wantsNumber v_waiting v_shiftX v_shiftY v_times v_dotsLaid v_joinedLaid r13_0 v_isThereA v_vA v_spotOfA v_inMiddleA v_tintsA v_bufferA r7_4 r7_5 v_oldRanksA v_partA v_allRanksA v_basesA v_isMetA v_metXA v_metYA v_lineA) H := hP
        have hD : va_D A (wdX5 G v_q0 v_q1 v_q2 v_q3 v_q4 v_q5 v_q6 v_q7 v_q8 v_q9 v_q10 v_q11 v_q12 v_q13 v_q14 v_q15 v_q16 v_thrown v_gain v_size r7_0 r7_1 r7_2 r7_3 v_parts v_isMinus v_readSpot v_isStar v_wantsNumber v_waiting v_shiftX v_shiftY v_times v_dotsLaid v_joinedLaid r13_0 v_isThereA v_vA v_spotOfA v_inMiddleA v_tintsA v_bufferA r7_4 r7_5 v_oldRanksA v_partA v_allRanksA v_basesA v_isMetA v_metXA v_metYA v_lineA) := hD
        obtain ⟨x14, e14⟩ : ∃ y : Int32, y = v8_0 + 1 := ⟨_, rfl⟩
        replace h := nmB_e e14 h
        refine lv_iinc (v := x14) (lv' := [(2, .int x14), (0, .ref v_q0), (1, .int a0)]) hx hb dX5_mixScreen_67 hl (k := 0) rfl (by rw [e14]; rfl) (by decide) rfl (fun ls hl => ?_)
        refine lv_goto (tgt := 37) hx hb dX5_mixScreen_70 (by decide) ?_
        exact ih x14 r13_0 u8_0 u8_1 H locs ls h hl hP hD hS kE
  refine L8 FU 0 u2_4 u8_0 u8_1 H locs ls g8 hl hP hD hS (fun H locs ls hl hP hD hS => ?_)
  refine lv_aload_n hx hb dX5_mixScreen_73 rfl (lv_at hl 1 rfl) ?_
  refine lv_aload_n hx hb dX5_mixScreen_74 rfl (lv_at hl 1 rfl) ?_
  refine va_get (D := G.1) (ci := 5) (v := .ref v_q5) (C := RX5) (T := TX5) (N := 35) hx hb hts fw_X5_mixScreen_X5 hown hK.1 hP 0 rfl rfl 5 (by decide) (hts (.fieldLink RX5 23 "HalftoneScreensModel" "tints" "[I") lk_X5_mixScreen_f23) (fun _ h9 => h9) rfl dX5_mixScreen_75 ?_
  refine lv_iload_n hx hb dX5_mixScreen_78 rfl (lv_at hl 2 rfl) ?_
  obtain ⟨i15, h⟩ := gd_e h
  refine va_iald hx hb hK.1 hP 5 0 rfl rfl i15 dX5_mixScreen_79 ?_
  obtain ⟨r16_0, r16_1, r16_2, r16_3, r16_4, r16_5, r16_6, r16_7, r16_8, r16_9, g16, h⟩ := bnd10_e h
  refine rwV_same (rest := []) (As := [.int (v_tintsA a0.toNatClampNeg)]) S (ctX5_layDots l G v_q0 v_q1 v_q2 v_q3 v_q4 v_q5 v_q6 v_q7 v_q8 v_q9 v_q10 v_q11 v_q12 v_q13 v_q14 v_q15 v_q16 v_thrown v_gain v_size r7_0 r7_1 r7_2 r7_3 v_parts v_isMinus v_readSpot v_isStar v_wantsNumber v_waiting v_shiftX v_shiftY v_times v_dotsLaid v_joinedLaid u8_1 v_isThereA v_vA v_spotOfA v_inMiddleA v_tintsA v_bufferA r7_4 r7_5 v_oldRanksA v_partA v_allRanksA v_basesA v_isMetA v_metXA v_metYA v_lineA (v_tintsA a0.toNatClampNeg) r16_0 r16_1 r16_2 r16_3 r16_4 r16_5 r16_6 r16_7 r16_8 r16_9 g16) (cwV 1 hts gX5_mixScreen_X5_layDots rfl rfl rfl hvX5_layDots ⟨Nat.le_of_ble_eq_true rfl, Nat.le_of_ble_eq_true rfl⟩) hK hP hD hS xb_triv (fun _ _ _ => trivial) 0 5 rfl rfl rfl rfl hl.1 rfl (Nat.le_of_ble_eq_true rfl) dX5_mixScreen_80 ⟨Nat.le_refl _, Nat.le_refl _⟩ (fun _ H locs hP hD hS => ?_)
  have hP : va_P G.1 vwCl (wdX5 G v_q0 v_q1 v_q2 v_q3 v_q4 v_q5 v_q6 v_q7 v_q8 v_q9 v_q10 v_q11 v_q12 v_q13 v_q14 v_q15 v_q16 v_thrown v_gain v_size r7_0 r7_1 r7_2 r7_3 v_parts v_isMinus v_readSpot v_isStar v_wantsNumber r16_0 r16_1 r16_2 r16_3 r16_4 r16_5 u8_1 v_isThereA v_vA v_spotOfA v_inMiddleA v_tintsA v_bufferA r7_4 r7_5 v_oldRanksA v_partA v_allRanksA v_basesA r16_6 r16_7 r16_8 r16_9) H := hP
  have hD : va_D A (wdX5 G v_q0 v_q1 v_q2 v_q3 v_q4 v_q5 v_q6 v_q7 v_q8 v_q9 v_q10 v_q11 v_q12 v_q13 v_q14 v_q15 v_q16 v_thrown v_gain v_size r7_0 r7_1 r7_2 r7_3 v_parts v_isMinus v_readSpot v_isStar v_wantsNumber r16_0 r16_1 r16_2 r16_3 r16_4 r16_5 u8_1 v_isThereA v_vA v_spotOfA v_inMiddleA v_tintsA v_bufferA r7_4 r7_5 v_oldRanksA v_partA v_allRanksA v_basesA r16_6 r16_7 r16_8 r16_9) := hD
  refine lv_aload_n hx hb dX5_mixScreen_83 rfl (lv_at hl 1 rfl) ?_
  refine lv_aload_n hx hb dX5_mixScreen_84 rfl (lv_at hl 1 rfl) ?_
  refine va_get (D := G.1) (ci := 5) (v := .int r16_4) (C := RX5) (T := TX5) (N := 35) hx hb hts fw_X5_mixScreen_X5 hown hK.1 hP 0 rfl rfl 32 (by decide) (hts (.fieldLink RX5 231 "HalftoneScreensModel" "dotsLaid" "I") lk_X5_mixScreen_f231) (fun _ h9 => h9) rfl dX5_mixScreen_85 ?_
  refine lv_i2l hx hb dX5_mixScreen_88 rfl ?_
  obtain ⟨r17_0, g17, h⟩ := bnd1_e h
  refine rwV_same (rest := []) (As := [.long r16_4.toInt64]) S (ctX5_mix l G v_q0 v_q1 v_q2 v_q3 v_q4 v_q5 v_q6 v_q7 v_q8 v_q9 v_q10 v_q11 v_q12 v_q13 v_q14 v_q15 v_q16 v_thrown v_gain v_size r7_0 r7_1 r7_2 r7_3 v_parts v_isMinus v_readSpot v_isStar v_wantsNumber r16_0 r16_1 r16_2 r16_3 r16_4 r16_5 u8_1 v_isThereA v_vA v_spotOfA v_inMiddleA v_tintsA v_bufferA r7_4 r7_5 v_oldRanksA v_partA v_allRanksA v_basesA r16_6 r16_7 r16_8 r16_9 r16_4.toInt64 r17_0 g17) (cwV 1 hts gX5_mixScreen_X5_mix rfl rfl rfl hvX5_mix ⟨Nat.le_of_ble_eq_true rfl, Nat.le_of_ble_eq_true rfl⟩) hK hP hD hS xb_triv (fun _ _ _ => trivial) 0 5 rfl rfl rfl rfl hl.1 rfl (Nat.le_of_ble_eq_true rfl) dX5_mixScreen_89 ⟨Nat.le_refl _, Nat.le_refl _⟩ (fun _ H locs hP hD hS => ?_)
  have hP : va_P G.1 vwCl (wdX5 G v_q0 v_q1 v_q2 v_q3 v_q4 v_q5 v_q6 v_q7 v_q8 v_q9 v_q10 v_q11 v_q12 v_q13 v_q14 v_q15 v_q16 v_thrown v_gain v_size r7_0 r7_1 r7_2 r7_3 v_parts v_isMinus v_readSpot v_isStar v_wantsNumber r16_0 r16_1 r16_2 r16_3 r16_4 r16_5 r17_0 v_isThereA v_vA v_spotOfA v_inMiddleA v_tintsA v_bufferA r7_4 r7_5 v_oldRanksA v_partA v_allRanksA v_basesA r16_6 r16_7 r16_8 r16_9) H := hP
  have hD : va_D A (wdX5 G v_q0 v_q1 v_q2 v_q3 v_q4 v_q5 v_q6 v_q7 v_q8 v_q9 v_q10 v_q11 v_q12 v_q13 v_q14 v_q15 v_q16 v_thrown v_gain v_size r7_0 r7_1 r7_2 r7_3 v_parts v_isMinus v_readSpot v_isStar v_wantsNumber r16_0 r16_1 r16_2 r16_3 r16_4 r16_5 r17_0 v_isThereA v_vA v_spotOfA v_inMiddleA v_tintsA v_bufferA r7_4 r7_5 v_oldRanksA v_partA v_allRanksA v_basesA r16_6 r16_7 r16_8 r16_9) := hD
  refine lv_aload_n hx hb dX5_mixScreen_92 rfl (lv_at hl 1 rfl) ?_
  refine lv_aload_n hx hb dX5_mixScreen_93 rfl (lv_at hl 1 rfl) ?_
  refine va_get (D := G.1) (ci := 5) (v := .int r16_5) (C := RX5) (T := TX5) (N := 35) hx hb hts fw_X5_mixScreen_X5 hown hK.1 hP 0 rfl rfl 33 (by decide) (hts (.fieldLink RX5 234 "HalftoneScreensModel" "joinedLaid" "I") lk_X5_mixScreen_f234) (fun _ h9 => h9) rfl dX5_mixScreen_94 ?_
  refine lv_i2l hx hb dX5_mixScreen_97 rfl ?_
  obtain ⟨r18_0, g18, h⟩ := bnd1_e h
  refine rwV_same (rest := []) (As := [.long r16_5.toInt64]) S (ctX5_mix l G v_q0 v_q1 v_q2 v_q3 v_q4 v_q5 v_q6 v_q7 v_q8 v_q9 v_q10 v_q11 v_q12 v_q13 v_q14 v_q15 v_q16 v_thrown v_gain v_size r7_0 r7_1 r7_2 r7_3 v_parts v_isMinus v_readSpot v_isStar v_wantsNumber r16_0 r16_1 r16_2 r16_3 r16_4 r16_5 r17_0 v_isThereA v_vA v_spotOfA v_inMiddleA v_tintsA v_bufferA r7_4 r7_5 v_oldRanksA v_partA v_allRanksA v_basesA r16_6 r16_7 r16_8 r16_9 r16_5.toInt64 r18_0 g18) (cwV 1 hts gX5_mixScreen_X5_mix rfl rfl rfl hvX5_mix ⟨Nat.le_of_ble_eq_true rfl, Nat.le_of_ble_eq_true rfl⟩) hK hP hD hS xb_triv (fun _ _ _ => trivial) 0 5 rfl rfl rfl rfl hl.1 rfl (Nat.le_of_ble_eq_true rfl) dX5_mixScreen_98 ⟨Nat.le_refl _, Nat.le_refl _⟩ (fun _ H locs hP hD hS => ?_)
  have hP : va_P G.1 vwCl (wdX5 G v_q0 v_q1 v_q2 v_q3 v_q4 v_q5 v_q6 v_q7 v_q8 v_q9 v_q10 v_q11 v_q12 v_q13 v_q14 v_q15 v_q16 v_thrown v_gain v_size r7_0 r7_1 r7_2 r7_3 v_parts v_isMinus v_readSpot v_isStar v_wantsNumber r16_0 r16_1 r16_2 r16_3 r16_4 r16_5 r18_0 v_isThereA v_vA v_spotOfA v_inMiddleA v_tintsA v_bufferA r7_4 r7_5 v_oldRanksA v_partA v_allRanksA v_basesA r16_6 r16_7 r16_8 r16_9) H := hP
  have hD : va_D A (wdX5 G v_q0 v_q1 v_q2 v_q3 v_q4 v_q5 v_q6 v_q7 v_q8 v_q9 v_q10 v_q11 v_q12 v_q13 v_q14 v_q15 v_q16 v_thrown v_gain v_size r7_0 r7_1 r7_2 r7_3 v_parts v_isMinus v_readSpot v_isStar v_wantsNumber r16_0 r16_1 r16_2 r16_3 r16_4 r16_5 r18_0 v_isThereA v_vA v_spotOfA v_inMiddleA v_tintsA v_bufferA r7_4 r7_5 v_oldRanksA v_partA v_allRanksA v_basesA r16_6 r16_7 r16_8 r16_9) := hD
  refine lv_aload_n hx hb dX5_mixScreen_101 rfl (lv_at hl 1 rfl) ?_
  refine lv_aload_n hx hb dX5_mixScreen_102 rfl (lv_at hl 1 rfl) ?_
  refine lv_aload_n hx hb dX5_mixScreen_103 rfl (lv_at hl 1 rfl) ?_
  refine va_get (D := G.1) (ci := 5) (v := .ref v_q5) (C := RX5) (T := TX5) (N := 35) hx hb hts fw_X5_mixScreen_X5 hown hK.1 hP 0 rfl rfl 5 (by decide) (hts (.fieldLink RX5 23 "HalftoneScreensModel" "tints" "[I") lk_X5_mixScreen_f23) (fun _ h9 => h9) rfl dX5_mixScreen_104 ?_
  refine lv_iload_n hx hb dX5_mixScreen_107 rfl (lv_at hl 2 rfl) ?_
  obtain ⟨i19, h⟩ := gd_e h
  refine va_iald hx hb hK.1 hP 5 0 rfl rfl i19 dX5_mixScreen_108 ?_
  obtain ⟨r20_0, g20, h⟩ := bnd1_e h
  refine roVi1 (rest := [.ref v_q0]) (As := [.int (v_tintsA a0.toNatClampNeg)]) S (ctX5_strengthOf l G v_q0 v_q1 v_q2 v_q3 v_q4 v_q5 v_q6 v_q7 v_q8 v_q9 v_q10 v_q11 v_q12 v_q13 v_q14 v_q15 v_q16 v_thrown v_gain v_size r7_0 r7_1 r7_2 r7_3 v_parts v_isMinus v_readSpot v_isStar v_wantsNumber r16_0 r16_1 r16_2 r16_3 r16_4 r16_5 r18_0 v_isThereA v_vA v_spotOfA v_inMiddleA v_tintsA v_bufferA r7_4 r7_5 v_oldRanksA v_partA v_allRanksA v_basesA r16_6 r16_7 r16_8 r16_9 (v_tintsA a0.toNatClampNeg) r20_0 g20) (cwV 1 hts gX5_mixScreen_X5_strengthOf rfl rfl rfl hvX5_strengthOf ⟨Nat.le_of_ble_eq_true rfl, Nat.le_of_ble_eq_true rfl⟩) hK hP [0, 1, 2, 3, 4, 5, 6, 7, 8, 9, 10, 11, 12, 13, 14, 15, 16] rfl 0 5 rfl rfl rfl rfl hl.1 rfl (Nat.le_of_ble_eq_true rfl) dX5_mixScreen_109 ⟨Nat.le_refl _, Nat.le_refl _⟩ (fun _ => ?_)
  refine lv_i2l hx hb dX5_mixScreen_112 rfl ?_
  obtain ⟨r21_0, g21, h⟩ := bnd1_e h
  refine rwV_same (rest := []) (As := [.long r20_0.toInt64]) S (ctX5_mix l G v_q0 v_q1 v_q2 v_q3 v_q4 v_q5 v_q6 v_q7 v_q8 v_q9 v_q10 v_q11 v_q12 v_q13 v_q14 v_q15 v_q16 v_thrown v_gain v_size r7_0 r7_1 r7_2 r7_3 v_parts v_isMinus v_readSpot v_isStar v_wantsNumber r16_0 r16_1 r16_2 r16_3 r16_4 r16_5 r18_0 v_isThereA v_vA v_spotOfA v_inMiddleA v_tintsA v_bufferA r7_4 r7_5 v_oldRanksA v_partA v_allRanksA v_basesA r16_6 r16_7 r16_8 r16_9 r20_0.toInt64 r21_0 g21) (cwV 1 hts gX5_mixScreen_X5_mix rfl rfl rfl hvX5_mix ⟨Nat.le_of_ble_eq_true rfl, Nat.le_of_ble_eq_true rfl⟩) hK hP hD hS xb_triv (fun _ _ _ => trivial) 0 5 rfl rfl rfl rfl hl.1 rfl (Nat.le_of_ble_eq_true rfl) dX5_mixScreen_113 ⟨Nat.le_refl _, Nat.le_refl _⟩ (fun _ H locs hP hD hS => ?_)
  have hP : va_P G.1 vwCl (wdX5 G v_q0 v_q1 v_q2 v_q3 v_q4 v_q5 v_q6 v_q7 v_q8 v_q9 v_q10 v_q11 v_q12 v_q13 v_q14 v_q15 v_q16 v_thrown v_gain v_size r7_0 r7_1 r7_2 r7_3 v_parts v_isMinus v_readSpot v_isStar v_wantsNumber r16_0 r16_1 r16_2 r16_3 r16_4 r16_5 r21_0 v_isThereA v_vA v_spotOfA v_inMiddleA v_tintsA v_bufferA r7_4 r7_5 v_oldRanksA v_partA v_allRanksA v_basesA r16_6 r16_7 r16_8 r16_9) H := hP
  have hD : va_D A (wdX5 G v_q0 v_q1 v_q2 v_q3 v_q4 v_q5 v_q6 v_q7 v_q8 v_q9 v_q10 v_q11 v_q12 v_q13 v_q14 v_q15 v_q16 v_thrown v_gain v_size r7_0 r7_1 r7_2 r7_3 v_parts v_isMinus v_readSpot v_isStar v_wantsNumber r16_0 r16_1 r16_2 r16_3 r16_4 r16_5 r21_0 v_isThereA v_vA v_spotOfA v_inMiddleA v_tintsA v_bufferA r7_4 r7_5 v_oldRanksA v_partA v_allRanksA v_basesA r16_6 r16_7 r16_8 r16_9) := hD
  obtain ⟨rfl, rfl, rfl, rfl, rfl, rfl, rfl, rfl, rfl, rfl, rfl, rfl, rfl, rfl, rfl, rfl, rfl⟩ := sm17 h
  exact hret _ _ _ _ trivial hP hD hS dX5_mixScreen_116
abbrev rmX5_mixPair : Room := { frames := 5, cells := 0, slots := 0, locals := 120 }
set_option maxHeartbeats 4000000 in
set_option maxRecDepth 100000 in
theorem ctX5_mixPair (l : Launch) (G : GG) (v_q0 : Nat) (v_q1 : Nat) (v_q2 : Nat) (v_q3 : Nat) (v_q4 : Nat) (v_q5 : Nat) (v_q6 : Nat) (v_q7 : Nat) (v_q8 : Nat) (v_q9 : Nat) (v_q10 : Nat) (v_q11 : Nat) (v_q12 : Nat) (v_q13 : Nat) (v_q14 : Nat) (v_q15 : Nat) (v_q16 : Nat) (v_thrown : Int32) (v_gain : Int32) (v_size : Int32) (v_w : Int32) (v_s : Int32) (v_h : Int32) (v_laidArea : Int32) (v_parts : Int32) (v_isMinus : Int32) (v_readSpot : Int32) (v_isStar : Int32) (v_wantsNumber : Int32) (v_waiting : Int32) (v_shiftX : Int32) (v_shiftY : Int32) (v_times : Int32) (v_dotsLaid : Int32) (v_joinedLaid : Int32) (v_hash : Int64) (v_isThereA : (Nat → Int32)) (v_vA : (Nat → Int32)) (v_spotOfA : (Nat → Int32)) (v_inMiddleA : (Nat → Int32)) (v_tintsA : (Nat → Int32)) (v_bufferA : (Nat → Int32)) (v_valuesA : (Nat → Int32)) (v_ranksA : (Nat → Int32)) (v_oldRanksA : (Nat → Int32)) (v_partA : (Nat → Int32)) (v_allRanksA : (Nat → Int32)) (v_basesA : (Nat → Int32)) (v_isMetA : (Nat → Int32)) (v_metXA : (Nat → Int32)) (v_metYA : (Nat → Int32)) (v_lineA : (Nat → Int32)) (a0 : Int32) (a1 : Int32) (o0 : Int32) (o1 : Int32) (o2 : Int32) (o3 : Int64) (h : mX5_mixPair v_hash v_vA a0 a1 = some (o0, o1, o2, o3))  : Met l yX5_mixPair wsX5_mixPair rmX5_mixPair (va_Pc [.ref v_q0, .int a0, .int a1] (PreD G (wdX5 G v_q0 v_q1 v_q2 v_q3 v_q4 v_q5 v_q6 v_q7 v_q8 v_q9 v_q10 v_q11 v_q12 v_q13 v_q14 v_q15 v_q16 v_thrown v_gain v_size v_w v_s v_h v_laidArea v_parts v_isMinus v_readSpot v_isStar v_wantsNumber v_waiting v_shiftX v_shiftY v_times v_dotsLaid v_joinedLaid v_hash v_isThereA v_vA v_spotOfA v_inMiddleA v_tintsA v_bufferA v_valuesA v_ranksA v_oldRanksA v_partA v_allRanksA v_basesA v_isMetA v_metXA v_metYA v_lineA) (fun _ => True))) (QwA G (va_A0 (wdX5 G v_q0 v_q1 v_q2 v_q3 v_q4 v_q5 v_q6 v_q7 v_q8 v_q9 v_q10 v_q11 v_q12 v_q13 v_q14 v_q15 v_q16 v_thrown v_gain v_size v_w v_s v_h v_laidArea v_parts v_isMinus v_readSpot v_isStar v_wantsNumber v_waiting v_shiftX v_shiftY v_times v_dotsLaid v_joinedLaid v_hash v_isThereA v_vA v_spotOfA v_inMiddleA v_tintsA v_bufferA v_valuesA v_ranksA v_oldRanksA v_partA v_allRanksA v_basesA v_isMetA v_metXA v_metYA v_lineA)) (wdX5 G v_q0 v_q1 v_q2 v_q3 v_q4 v_q5 v_q6 v_q7 v_q8 v_q9 v_q10 v_q11 v_q12 v_q13 v_q14 v_q15 v_q16 v_thrown v_gain v_size o0 o1 o2 v_laidArea v_parts v_isMinus v_readSpot v_isStar v_wantsNumber v_waiting v_shiftX v_shiftY v_times v_dotsLaid v_joinedLaid o3 v_isThereA v_vA v_spotOfA v_inMiddleA v_tintsA v_bufferA v_valuesA v_ranksA v_oldRanksA v_partA v_allRanksA v_basesA v_isMetA v_metXA v_metYA v_lineA) none True) 0 0 (va_A0 (wdX5 G v_q0 v_q1 v_q2 v_q3 v_q4 v_q5 v_q6 v_q7 v_q8 v_q9 v_q10 v_q11 v_q12 v_q13 v_q14 v_q15 v_q16 v_thrown v_gain v_size v_w v_s v_h v_laidArea v_parts v_isMinus v_readSpot v_isStar v_wantsNumber v_waiting v_shiftX v_shiftY v_times v_dotsLaid v_joinedLaid v_hash v_isThereA v_vA v_spotOfA v_inMiddleA v_tintsA v_bufferA v_valuesA v_ranksA v_oldRanksA v_partA v_allRanksA v_basesA v_isMetA v_metXA v_metYA v_lineA)) := by
  refine of_wv (cc := cX5_mixPair) (maxL := 4) (plainFor_of_name (by decide)) rfl (Nat.le_of_ble_eq_true rfl) ?_
  intro p e s m args below meth c ls Q A S hl hP hD hS hK hX hA hret
  obtain ⟨H, hH⟩ : ∃ H, H = s.heap := ⟨_, rfl⟩
  obtain ⟨locs, hlocs⟩ : ∃ L : List Loc, L = [] := ⟨_, rfl⟩
  rw [← hlocs]
  rw [← hlocs] at hS
  have hP : va_P G.1 vwCl (wdX5 G v_q0 v_q1 v_q2 v_q3 v_q4 v_q5 v_q6 v_q7 v_q8 v_q9 v_q10 v_q11 v_q12 v_q13 v_q14 v_q15 v_q16 v_thrown v_gain v_size v_w v_s v_h v_laidArea v_parts v_isMinus v_readSpot v_isStar v_wantsNumber v_waiting v_shiftX v_shiftY v_times v_dotsLaid v_joinedLaid v_hash v_isThereA v_vA v_spotOfA v_inMiddleA v_tintsA v_bufferA v_valuesA v_ranksA v_oldRanksA v_partA v_allRanksA v_basesA v_isMetA v_metXA v_metYA v_lineA) H := by rw [hH]; exact hP
  have hS : va_S A s.heap H locs := by rw [hH]; exact hS
  suffices hgo : W p l e rmX5_mixPair s m args below meth c H locs 0 0 Q (F0 m 0 ls []) by rw [hH] at hgo; exact hgo
  have S : CallFix p m c cX5_mixPair 4 s args wsX5_mixPair RX5 := S
  obtain ⟨hx, hb, hml, hown, hts⟩ := id S
  have hl : lv_has ls 4 [(0, .ref v_q0), (1, .int a0), (2, .int a1)] := hl
  unfold mX5_mixPair at h
  refine lv_aload_n hx hb dX5_mixPair_0 rfl (lv_at hl 0 rfl) ?_
  refine lv_iconst (v := 1) hx hb dX5_mixPair_1 (by decide) ?_
  refine lv_iload_n hx hb dX5_mixPair_2 rfl (lv_at hl 1 rfl) ?_
  refine lv_ishl hx hb dX5_mixPair_3 ?_
  refine lv_iconst (v := 1) hx hb dX5_mixPair_4 (by decide) ?_
  refine lv_iload_n hx hb dX5_mixPair_5 rfl (lv_at hl 2 rfl) ?_
  refine lv_ishl hx hb dX5_mixPair_6 ?_
  refine lv_ior hx hb dX5_mixPair_7 ?_
  obtain ⟨r1_0, r1_1, r1_2, g1, h⟩ := bnd3_e h
  refine rwV_same (rest := []) (As := [.int ((1 <<< (a0 &&& 31)) ||| (1 <<< (a1 &&& 31)))]) S (ctX5_layPeriod l G v_q0 v_q1 v_q2 v_q3 v_q4 v_q5 v_q6 v_q7 v_q8 v_q9 v_q10 v_q11 v_q12 v_q13 v_q14 v_q15 v_q16 v_thrown v_gain v_size v_w v_s v_h v_laidArea v_parts v_isMinus v_readSpot v_isStar v_wantsNumber v_waiting v_shiftX v_shiftY v_times v_dotsLaid v_joinedLaid v_hash v_isThereA v_vA v_spotOfA v_inMiddleA v_tintsA v_bufferA v_valuesA v_ranksA v_oldRanksA v_partA v_allRanksA v_basesA v_isMetA v_metXA v_metYA v_lineA ((1 <<< (a0 &&& 31)) ||| (1 <<< (a1 &&& 31))) r1_0 r1_1 r1_2 g1) (cwV 1 hts gX5_mixPair_X5_layPeriod rfl rfl rfl hvX5_layPeriod ⟨Nat.le_of_ble_eq_true rfl, Nat.le_of_ble_eq_true rfl⟩) hK hP hD hS xb_triv (fun _ _ _ => trivial) 0 5 rfl rfl rfl rfl hl.1 rfl (Nat.le_of_ble_eq_true rfl) dX5_mixPair_8 ⟨Nat.le_refl _, Nat.le_refl _⟩ (fun _ H locs hP hD hS => ?_)
  have hP : va_P G.1 vwCl (wdX5 G v_q0 v_q1 v_q2 v_q3 v_q4 v_q5 v_q6 v_q7 v_q8 v_q9 v_q10 v_q11 v_q12 v_q13 v_q14 v_q15 v_q16 v_thrown v_gain v_size r1_0 r1_1 r1_2 v_laidArea v_parts v_isMinus v_readSpot v_isStar v_wantsNumber v_waiting v_shiftX v_shiftY v_times v_dotsLaid v_joinedLaid v_hash v_isThereA v_vA v_spotOfA v_inMiddleA v_tintsA v_bufferA v_valuesA v_ranksA v_oldRanksA v_partA v_allRanksA v_basesA v_isMetA v_metXA v_metYA v_lineA) H := hP
  have hD : va_D A (wdX5 G v_q0 v_q1 v_q2 v_q3 v_q4 v_q5 v_q6 v_q7 v_q8 v_q9 v_q10 v_q11 v_q12 v_q13 v_q14 v_q15 v_q16 v_thrown v_gain v_size r1_0 r1_1 r1_2 v_laidArea v_parts v_isMinus v_readSpot v_isStar v_wantsNumber v_waiting v_shiftX v_shiftY v_times v_dotsLaid v_joinedLaid v_hash v_isThereA v_vA v_spotOfA v_inMiddleA v_tintsA v_bufferA v_valuesA v_ranksA v_oldRanksA v_partA v_allRanksA v_basesA v_isMetA v_metXA v_metYA v_lineA) := hD
  refine lv_iconst (v := 0) hx hb dX5_mixPair_11 (by decide) ?_
  refine lv_istore_n (lv' := [(3, .int 0), (0, .ref v_q0), (1, .int a0), (2, .int a1)]) hx hb dX5_mixPair_12 rfl hl (by decide) rfl (fun ls hl => ?_)
  obtain ⟨u2_0, u2_1, g2, h⟩ := bnd2_e h
  have L2 : ∀ (fu : Nat) (v2_0 : Int32) (v2_1 : Int64) (u2_0 : Int32) (u2_1 : Int64) (H : Heap) (locs : List Loc) (ls : Array Slot), mX5_mixPair_L13 r1_0 r1_1 r1_2 fu v2_0 v2_1 = some (u2_0, u2_1) → lv_has ls 4 [(3, .int v2_0), (0, .ref v_q0), (1, .int a0), (2, .int a1)] → va_P G.1 vwCl (wdX5 G v_q0 v_q1 v_q2 v_q3 v_q4 v_q5 v_q6 v_q7 v_q8 v_q9 v_q10 v_q11 v_q12 v_q13 v_q14 v_q15 v_q16 v_thrown v_gain v_size r1_0 r1_1 r1_2 v_laidArea v_parts v_isMinus v_readSpot v_isStar v_wantsNumber v_waiting v_shiftX v_shiftY v_times v_dotsLaid v_joinedLaid v2_1 v_isThereA v_vA v_spotOfA v_inMiddleA v_tintsA v_bufferA v_valuesA v_ranksA v_oldRanksA v_partA v_allRanksA v_basesA v_isMetA v_metXA v_metYA v_lineA) H → va_D A (wdX5 G v_q0 v_q1 v_q2 v_q3 v_q4 v_q5 v_q6 v_q7 v_q8 v_q9 v_q10 v_q11 v_q12 v_q13 v_q14 v_q15 v_q16 v_thrown v_gain v_size r1_0 r1_1 r1_2 v_laidArea v_parts v_isMinus v_readSpot v_isStar v_wantsNumber v_waiting v_shiftX v_shiftY v_times v_dotsLaid v_joinedLaid v2_1 v_isThereA v_vA v_spotOfA v_inMiddleA v_tintsA v_bufferA v_valuesA v_ranksA v_oldRanksA v_partA v_allRanksA v_basesA v_isMetA v_metXA v_metYA v_lineA) → va_S A s.heap H locs → (∀ (H : Heap) (locs : List Loc) (ls : Array Slot), lv_has ls 4 [(3, .int u2_0), (0, .ref v_q0), (1, .int a0), (2, .int a1)] → va_P G.1 vwCl (wdX5 G v_q0 v_q1 v_q2 v_q3 v_q4 v_q5 v_q6 v_q7 v_q8 v_q9 v_q10 v_q11 v_q12 v_q13 v_q14 v_q15 v_q16 v_thrown v_gain v_size r1_0 r1_1 r1_2 v_laidArea v_parts v_isMinus v_readSpot v_isStar v_wantsNumber v_waiting v_shiftX v_shiftY v_times v_dotsLaid v_joinedLaid u2_1 v_isThereA v_vA v_spotOfA v_inMiddleA v_tintsA v_bufferA v_valuesA v_ranksA v_oldRanksA v_partA v_allRanksA v_basesA v_isMetA v_metXA v_metYA v_lineA) H → va_D A (wdX5 G v_q0 v_q1 v_q2 v_q3 v_q4 v_q5 v_q6 v_q7 v_q8 v_q9 v_q10 v_q11 v_q12 v_q13 v_q14 v_q15 v_q16 v_thrown v_gain v_size r1_0 r1_1 r1_2 v_laidArea v_parts v_isMinus v_readSpot v_isStar v_wantsNumber v_waiting v_shiftX v_shiftY v_times v_dotsLaid v_joinedLaid u2_1 v_isThereA v_vA v_spotOfA v_inMiddleA v_tintsA v_bufferA v_valuesA v_ranksA v_oldRanksA v_partA v_allRanksA v_basesA v_isMetA v_metXA v_metYA v_lineA) → va_S A s.heap H locs → W p l e rmX5_mixPair s m args below meth c H locs 0 0 Q (F0 m 34 ls [])) → W p l e rmX5_mixPair s m args below meth c H locs 0 0 Q (F0 m 13 ls []) := by
    intro fu
    induction fu with
    | zero => intro v2_0 v2_1 u2_0 u2_1 H locs ls h; exact nomatch h
    | succ fu ih =>
      intro v2_0 v2_1 u2_0 u2_1 H locs ls h hl hP hD hS kE
      rw [mX5_mixPair_L13] at h
      refine lv_iload_n hx hb dX5_mixPair_13 rfl (lv_at hl 0 rfl) ?_
      refine lv_iconst (v := 4) hx hb dX5_mixPair_14 (by decide) ?_
      refine lv_icmp_ge (tgt := 34) hx hb dX5_mixPair_15 (by decide) (fun c3 => ?_) (fun c3 => ?_)
      · replace h := ite_t c3 h
        obtain ⟨rfl, rfl⟩ := sm2 h
        exact kE H locs ls hl hP hD hS
      · replace h := ite_f c3 h
        refine lv_aload_n hx hb dX5_mixPair_18 rfl (lv_at hl 1 rfl) ?_
        refine lv_aload_n hx hb dX5_mixPair_19 rfl (lv_at hl 1 rfl) ?_
        refine lv_iload_n hx hb dX5_mixPair_20 rfl (lv_at hl 0 rfl) ?_
        obtain ⟨r4_0, g4, h⟩ := bnd1_e h
        refine roVi1 (rest := [.ref v_q0]) (As := [.int v2_0]) S (ctX5_numberOf l G v_q0 v_q1 v_q2 v_q3 v_q4 v_q5 v_q6 v_q7 v_q8 v_q9 v_q10 v_q11 v_q12 v_q13 v_q14 v_q15 v_q16 v_thrown v_gain v_size r1_0 r1_1 r1_2 v_laidArea v_parts v_isMinus v_readSpot v_isStar v_wantsNumber v_waiting v_shiftX v_shiftY v_times v_dotsLaid v_joinedLaid v2_1 v_isThereA v_vA v_spotOfA v_inMiddleA v_tintsA v_bufferA v_valuesA v_ranksA v_oldRanksA v_partA v_allRanksA v_basesA v_isMetA v_metXA v_metYA v_lineA v2_0 r4_0 g4) (cwV 1 hts gX5_mixPair_X5_numberOf rfl rfl rfl hvX5_numberOf ⟨Nat.le_of_ble_eq_true rfl, Nat.le_of_ble_eq_true rfl⟩) hK hP [0, 1, 2, 3, 4, 5, 6, 7, 8, 9, 10, 11, 12, 13, 14, 15, 16] rfl 0 5 rfl rfl rfl rfl hl.1 rfl (Nat.le_of_ble_eq_true rfl) dX5_mixPair_21 ⟨Nat.le_refl _, Nat.le_refl _⟩ (fun _ => ?_)
        refine lv_i2l hx hb dX5_mixPair_24 rfl ?_
        obtain ⟨r5_0, g5, h⟩ := bnd1_e h
        refine rwV_same (rest := []) (As := [.long r4_0.toInt64]) S (ctX5_mix l G v_q0 v_q1 v_q2 v_q3 v_q4 v_q5 v_q6 v_q7 v_q8 v_q9 v_q10 v_q11 v_q12 v_q13 v_q14 v_q15 v_q16 v_thrown v_gain v_size r1_0 r1_1 r1_2 v_laidArea v_parts v_isMinus v_readSpot v_isStar v_wantsNumber v_waiting v_shiftX v_shiftY v_times v_dotsLaid v_joinedLaid v2_1 v_isThereA v_vA v_spotOfA v_inMiddleA v_tintsA v_bufferA v_valuesA v_ranksA v_oldRanksA v_partA v_allRanksA v_basesA v_isMetA v_metXA v_metYA v_lineA r4_0.toInt64 r5_0 g5) (cwV 1 hts gX5_mixPair_X5_mix rfl rfl rfl hvX5_mix ⟨Nat.le_of_ble_eq_true rfl, Nat.le_of_ble_eq_true rfl⟩) hK hP hD hS xb_triv (fun _ _ _ => trivial) 0 5 rfl rfl rfl rfl hl.1 rfl (Nat.le_of_ble_eq_true rfl) dX5_mixPair_25 ⟨Nat.le_refl _, Nat.le_refl _⟩ (fun _ H locs hP hD hS => ?_)
        have hP : va_P G.1 vwCl (wdX5 G v_q0 v_q1 v_q2 v_q3 v_q4 v_q5 v_q6 v_q7 v_q8 v_q9 v_q10 v_q11 v_q12 v_q13 v_q14 v_q15 v_q16 v_thrown v_gain v_size r1_0 r1_1 r1_2 v_laidArea v_parts v_isMinus v_readSpot v_isStar v_wantsNumber v_waiting v_shiftX v_shiftY v_times v_dotsLaid v_joinedLaid r5_0 v_isThereA v_vA v_spotOfA v_inMiddleA v_tintsA v_bufferA v_valuesA v_ranksA v_oldRanksA v_partA v_allRanksA v_basesA v_isMetA v_metXA v_metYA v_lineA) H := hP
        have hD : va_D A (wdX5 G v_q0 v_q1 v_q2 v_q3 v_q4 v_q5 v_q6 v_q7 v_q8 v_q9 v_q10 v_q11 v_q12 v_q13 v_q14 v_q15 v_q16 v_thrown v_gain v_size r1_0 r1_1 r1_2 v_laidArea v_parts v_isMinus v_readSpot v_isStar v_wantsNumber v_waiting v_shiftX v_shiftY v_times v_dotsLaid v_joinedLaid r5_0 v_isThereA v_vA v_spotOfA v_inMiddleA v_tintsA v_bufferA v_valuesA v_ranksA v_oldRanksA v_partA v_allRanksA v_basesA v_isMetA v_metXA v_metYA v_lineA) := hD
        obtain ⟨x6, e6⟩ : ∃ y : Int32, y = v2_0 + 1 := ⟨_, rfl⟩
        replace h := nmB_e e6 h
        refine lv_iinc (v := x6) (lv' := [(3, .int x6), (0, .ref v_q0), (1, .int a0), (2, .int a1)]) hx hb dX5_mixPair_28 hl (k := 0) rfl (by rw [e6]; rfl) (by decide) rfl (fun ls hl => ?_)
        refine lv_goto (tgt := 13) hx hb dX5_mixPair_31 (by decide) ?_
        exact ih x6 r5_0 u2_0 u2_1 H locs ls h hl hP hD hS kE
  refine L2 FU 0 v_hash u2_0 u2_1 H locs ls g2 hl hP hD hS (fun H locs ls hl hP hD hS => ?_)
  refine lv_aload_n hx hb dX5_mixPair_34 rfl (lv_at hl 1 rfl) ?_
  refine lv_iload_n hx hb dX5_mixPair_35 rfl (lv_at hl 2 rfl) ?_
  refine lv_iload_n hx hb dX5_mixPair_36 rfl (lv_at hl 3 rfl) ?_
  obtain ⟨r7_0, r7_1, r7_2, g7, h⟩ := bnd3_e h
  refine rwV_same (rest := []) (As := [.int a0, .int a1]) S (ctX5_layBeat l G v_q0 v_q1 v_q2 v_q3 v_q4 v_q5 v_q6 v_q7 v_q8 v_q9 v_q10 v_q11 v_q12 v_q13 v_q14 v_q15 v_q16 v_thrown v_gain v_size r1_0 r1_1 r1_2 v_laidArea v_parts v_isMinus v_readSpot v_isStar v_wantsNumber v_waiting v_shiftX v_shiftY v_times v_dotsLaid v_joinedLaid u2_1 v_isThereA v_vA v_spotOfA v_inMiddleA v_tintsA v_bufferA v_valuesA v_ranksA v_oldRanksA v_partA v_allRanksA v_basesA v_isMetA v_metXA v_metYA v_lineA a0 a1 r7_0 r7_1 r7_2 g7) (cwV 2 hts gX5_mixPair_X5_layBeat rfl rfl rfl hvX5_layBeat ⟨Nat.le_of_ble_eq_true rfl, Nat.le_of_ble_eq_true rfl⟩) hK hP hD hS xb_triv (fun _ _ _ => trivial) 0 5 rfl rfl rfl rfl hl.1 rfl (Nat.le_of_ble_eq_true rfl) dX5_mixPair_37 ⟨Nat.le_refl _, Nat.le_refl _⟩ (fun _ H locs hP hD hS => ?_)
  have hP : va_P G.1 vwCl (wdX5 G v_q0 v_q1 v_q2 v_q3 v_q4 v_q5 v_q6 v_q7 v_q8 v_q9 v_q10 v_q11 v_q12 v_q13 v_q14 v_q15 v_q16 v_thrown v_gain v_size r7_0 r7_1 r7_2 v_laidArea v_parts v_isMinus v_readSpot v_isStar v_wantsNumber v_waiting v_shiftX v_shiftY v_times v_dotsLaid v_joinedLaid u2_1 v_isThereA v_vA v_spotOfA v_inMiddleA v_tintsA v_bufferA v_valuesA v_ranksA v_oldRanksA v_partA v_allRanksA v_basesA v_isMetA v_metXA v_metYA v_lineA) H := hP
  have hD : va_D A (wdX5 G v_q0 v_q1 v_q2 v_q3 v_q4 v_q5 v_q6 v_q7 v_q8 v_q9 v_q10 v_q11 v_q12 v_q13 v_q14 v_q15 v_q16 v_thrown v_gain v_size r7_0 r7_1 r7_2 v_laidArea v_parts v_isMinus v_readSpot v_isStar v_wantsNumber v_waiting v_shiftX v_shiftY v_times v_dotsLaid v_joinedLaid u2_1 v_isThereA v_vA v_spotOfA v_inMiddleA v_tintsA v_bufferA v_valuesA v_ranksA v_oldRanksA v_partA v_allRanksA v_basesA v_isMetA v_metXA v_metYA v_lineA) := hD
  refine lv_iconst (v := 0) hx hb dX5_mixPair_40 (by decide) ?_
  refine lv_istore_n (lv' := [(3, .int 0), (0, .ref v_q0), (1, .int a0), (2, .int a1)]) hx hb dX5_mixPair_41 rfl hl (by decide) rfl (fun ls hl => ?_)
  obtain ⟨u8_0, u8_1, g8, h⟩ := bnd2_e h
  have L8 : ∀ (fu : Nat) (v8_0 : Int32) (v8_1 : Int64) (u8_0 : Int32) (u8_1 : Int64) (H : Heap) (locs : List Loc) (ls : Array Slot), mX5_mixPair_L42 r7_0 r7_1 r7_2 fu v8_0 v8_1 = some (u8_0, u8_1) → lv_has ls 4 [(3, .int v8_0), (0, .ref v_q0), (1, .int a0), (2, .int a1)] → va_P G.1 vwCl (wdX5 G v_q0 v_q1 v_q2 v_q3 v_q4 v_q5 v_q6 v_q7 v_q8 v_q9 v_q10 v_q11 v_q12 v_q13 v_q14 v_q15 v_q16 v_thrown v_gain v_size r7_0 r7_1 r7_2 v_laidArea v_parts v_isMinus v_readSpot v_isStar v_wantsNumber v_waiting v_shiftX v_shiftY v_times v_dotsLaid v_joinedLaid v8_1 v_isThereA v_vA v_spotOfA v_inMiddleA v_tintsA v_bufferA v_valuesA v_ranksA v_oldRanksA v_partA v_allRanksA v_basesA v_isMetA v_metXA v_metYA v_lineA) H → va_D A (wdX5 G v_q0 v_q1 v_q2 v_q3 v_q4 v_q5 v_q6 v_q7 v_q8 v_q9 v_q10 v_q11 v_q12 v_q13 v_q14 v_q15 v_q16 v_thrown v_gain v_size r7_0 r7_1 r7_2 v_laidArea v_parts v_isMinus v_readSpot v_isStar v_wantsNumber v_waiting v_shiftX v_shiftY v_times v_dotsLaid v_joinedLaid v8_1 v_isThereA v_vA v_spotOfA v_inMiddleA v_tintsA v_bufferA v_valuesA v_ranksA v_oldRanksA v_partA v_allRanksA v_basesA v_isMetA v_metXA v_metYA v_lineA) → va_S A s.heap H locs → (∀ (H : Heap) (locs : List Loc) (ls : Array Slot), lv_has ls 4 [(3, .int u8_0), (0, .ref v_q0), (1, .int a0), (2, .int a1)] → va_P G.1 vwCl (wdX5 G v_q0 v_q1 v_q2 v_q3 v_q4 v_q5 v_q6 v_q7 v_q8 v_q9 v_q10 v_q11 v_q12 v_q13 v_q14 v_q15 v_q16 v_thrown v_gain v_size r7_0 r7_1 r7_2 v_laidArea v_parts v_isMinus v_readSpot v_isStar v_wantsNumber v_waiting v_shiftX v_shiftY v_times v_dotsLaid v_joinedLaid u8_1 v_isThereA v_vA v_spotOfA v_inMiddleA v_tintsA v_bufferA v_valuesA v_ranksA v_oldRanksA v_partA v_allRanksA v_basesA v_isMetA v_metXA v_metYA v_lineA) H → va_D A (wdX5 G v_q0 v_q1 v_q2 v_q3 v_q4 v_q5 v_q6 v_q7 v_q8 v_q9 v_q10 v_q11 v_q12 v_q13 v_q14 v_q15 v_q16 v_thrown v_gain v_size r7_0 r7_1 r7_2 v_laidArea v_parts v_isMinus v_readSpot v_isStar v_wantsNumber v_waiting v_shiftX v_shiftY v_times v_dotsLaid v_joinedLaid u8_1 v_isThereA v_vA v_spotOfA v_inMiddleA v_tintsA v_bufferA v_valuesA v_ranksA v_oldRanksA v_partA v_allRanksA v_basesA v_isMetA v_metXA v_metYA v_lineA) → va_S A s.heap H locs → W p l e rmX5_mixPair s m args below meth c H locs 0 0 Q (F0 m 63 ls [])) → W p l e rmX5_mixPair s m args below meth c H locs 0 0 Q (F0 m 42 ls []) := by
    intro fu
    induction fu with
    | zero => intro v8_0 v8_1 u8_0 u8_1 H locs ls h; exact nomatch h
    | succ fu ih =>
      intro v8_0 v8_1 u8_0 u8_1 H locs ls h hl hP hD hS kE
      rw [mX5_mixPair_L42] at h
      refine lv_iload_n hx hb dX5_mixPair_42 rfl (lv_at hl 0 rfl) ?_
      refine lv_iconst (v := 4) hx hb dX5_mixPair_43 (by decide) ?_
      refine lv_icmp_ge (tgt := 63) hx hb dX5_mixPair_44 (by decide) (fun c9 => ?_) (fun c9 => ?_)
      · replace h := ite_t c9 h
        obtain ⟨rfl, rfl⟩ := sm2 h
        exact kE H locs ls hl hP hD hS
      · replace h := ite_f c9 h
        refine lv_aload_n hx hb dX5_mixPair_47 rfl (lv_at hl 1 rfl) ?_
        refine lv_aload_n hx hb dX5_mixPair_48 rfl (lv_at hl 1 rfl) ?_
        refine lv_iload_n hx hb dX5_mixPair_49 rfl (lv_at hl 0 rfl) ?_
        obtain ⟨r10_0, g10, h⟩ := bnd1_e h
        refine roVi1 (rest := [.ref v_q0]) (As := [.int v8_0]) S (ctX5_numberOf l G v_q0 v_q1 v_q2 v_q3 v_q4 v_q5 v_q6 v_q7 v_q8 v_q9 v_q10 v_q11 v_q12 v_q13 v_q14 v_q15 v_q16 v_thrown v_gain v_size r7_0 r7_1 r7_2 v_laidArea v_parts v_isMinus v_readSpot v_isStar v_wantsNumber v_waiting v_shiftX v_shiftY v_times v_dotsLaid v_joinedLaid v8_1 v_isThereA v_vA v_spotOfA v_inMiddleA v_tintsA v_bufferA v_valuesA v_ranksA v_oldRanksA v_partA v_allRanksA v_basesA v_isMetA v_metXA v_metYA v_lineA v8_0 r10_0 g10) (cwV 1 hts gX5_mixPair_X5_numberOf rfl rfl rfl hvX5_numberOf ⟨Nat.le_of_ble_eq_true rfl, Nat.le_of_ble_eq_true rfl⟩) hK hP [0, 1, 2, 3, 4, 5, 6, 7, 8, 9, 10, 11, 12, 13, 14, 15, 16] rfl 0 5 rfl rfl rfl rfl hl.1 rfl (Nat.le_of_ble_eq_true rfl) dX5_mixPair_50 ⟨Nat.le_refl _, Nat.le_refl _⟩ (fun _ => ?_)
        refine lv_i2l hx hb dX5_mixPair_53 rfl ?_
        obtain ⟨r11_0, g11, h⟩ := bnd1_e h
        refine rwV_same (rest := []) (As := [.long r10_0.toInt64]) S (ctX5_mix l G v_q0 v_q1 v_q2 v_q3 v_q4 v_q5 v_q6 v_q7 v_q8 v_q9 v_q10 v_q11 v_q12 v_q13 v_q14 v_q15 v_q16 v_thrown v_gain v_size r7_0 r7_1 r7_2 v_laidArea v_parts v_isMinus v_readSpot v_isStar v_wantsNumber v_waiting v_shiftX v_shiftY v_times v_dotsLaid v_joinedLaid v8_1 v_isThereA v_vA v_spotOfA v_inMiddleA v_tintsA v_bufferA v_valuesA v_ranksA v_oldRanksA v_partA v_allRanksA v_basesA v_isMetA v_metXA v_metYA v_lineA r10_0.toInt64 r11_0 g11) (cwV 1 hts gX5_mixPair_X5_mix rfl rfl rfl hvX5_mix ⟨Nat.le_of_ble_eq_true rfl, Nat.le_of_ble_eq_true rfl⟩) hK hP hD hS xb_triv (fun _ _ _ => trivial) 0 5 rfl rfl rfl rfl hl.1 rfl (Nat.le_of_ble_eq_true rfl) dX5_mixPair_54 ⟨Nat.le_refl _, Nat.le_refl _⟩ (fun _ H locs hP hD hS => ?_)
        have hP : va_P G.1 vwCl (wdX5 G v_q0 v_q1 v_q2 v_q3 v_q4 v_q5 v_q6 v_q7 v_q8 v_q9 v_q10 v_q11 v_q12 v_q13 v_q14 v_q15 v_q16 v_thrown v_gain v_size r7_0 r7_1 r7_2 v_laidArea v_parts v_isMinus v_readSpot v_isStar v_wantsNumber v_waiting v_shiftX v_shiftY v_times v_dotsLaid v_joinedLaid r11_0 v_isThereA v_vA v_spotOfA v_inMiddleA v_tintsA v_bufferA v_valuesA v_ranksA v_oldRanksA v_partA v_allRanksA v_basesA v_isMetA v_metXA v_metYA v_lineA) H := hP
        have hD : va_D A (wdX5 G v_q0 v_q1 v_q2 v_q3 v_q4 v_q5 v_q6 v_q7 v_q8 v_q9 v_q10 v_q11 v_q12 v_q13 v_q14 v_q15 v_q16 v_thrown v_gain v_size r7_0 r7_1 r7_2 v_laidArea v_parts v_isMinus v_readSpot v_isStar v_wantsNumber v_waiting v_shiftX v_shiftY v_times v_dotsLaid v_joinedLaid r11_0 v_isThereA v_vA v_spotOfA v_inMiddleA v_tintsA v_bufferA v_valuesA v_ranksA v_oldRanksA v_partA v_allRanksA v_basesA v_isMetA v_metXA v_metYA v_lineA) := hD
        obtain ⟨x12, e12⟩ : ∃ y : Int32, y = v8_0 + 1 := ⟨_, rfl⟩
        replace h := nmB_e e12 h
        refine lv_iinc (v := x12) (lv' := [(3, .int x12), (0, .ref v_q0), (1, .int a0), (2, .int a1)]) hx hb dX5_mixPair_57 hl (k := 0) rfl (by rw [e12]; rfl) (by decide) rfl (fun ls hl => ?_)
        refine lv_goto (tgt := 42) hx hb dX5_mixPair_60 (by decide) ?_
        exact ih x12 r11_0 u8_0 u8_1 H locs ls h hl hP hD hS kE
  refine L8 FU 0 u2_1 u8_0 u8_1 H locs ls g8 hl hP hD hS (fun H locs ls hl hP hD hS => ?_)
  obtain ⟨rfl, rfl, rfl, rfl⟩ := sm4 h
  exact hret _ _ _ _ trivial hP hD hS dX5_mixPair_63
theorem fw_X5_digest_X5 : ∀ w ∈ wsX50, w ∈ wsX5_digest := fun w h => List.mem_cons_of_mem _ (List.mem_append_right _ h)
theorem lk_X5_digest_f59 : Cond.fieldLink RX5 59 "HalftoneScreensModel" "thrown" "I" ∈ wsX5_digest := List.mem_of_getElem? (i := 1) rfl
theorem lk_X5_digest_k285 : Cond.constantLong RX5 285 (1951) ∈ wsX5_digest := List.mem_of_getElem? (i := 2) rfl
theorem lk_X5_digest_f277 : Cond.fieldLink RX5 277 "HalftoneScreensModel" "hash" "J" ∈ wsX5_digest := List.mem_of_getElem? (i := 3) rfl
theorem lk_X5_digest_f7 : Cond.fieldLink RX5 7 "HalftoneScreensModel" "isThere" "[Z" ∈ wsX5_digest := List.mem_of_getElem? (i := 4) rfl
theorem lk_X5_digest_f123 : Cond.fieldLink RX5 123 "HalftoneScreensModel" "size" "I" ∈ wsX5_digest := List.mem_of_getElem? (i := 5) rfl
theorem lk_X5_digest_f26 : Cond.fieldLink RX5 26 "HalftoneScreensModel" "buffer" "[I" ∈ wsX5_digest := List.mem_of_getElem? (i := 6) rfl
theorem hsX5_mixPair : yX5_mixPair.cls ≠ "java/lang/invoke/MethodHandle" ∧ yX5_mixPair.cls ≠ "java/lang/invoke/VarHandle" ∧ (parseMethodDescriptor yX5_mixPair.desc).map (fun d => d.parameters.length) = some 2 := by decide +kernel
theorem hvX5_mixPair : yX5_mixPair.cls = RX5 ∧ yX5_mixPair.cls ≠ "java/lang/invoke/MethodHandle" ∧ yX5_mixPair.cls ≠ "java/lang/invoke/VarHandle" ∧ (parseMethodDescriptor yX5_mixPair.desc).map (fun d => d.parameters.length) = some 2 := ⟨rfl, hsX5_mixPair⟩
theorem hsX5_mixScreen : yX5_mixScreen.cls ≠ "java/lang/invoke/MethodHandle" ∧ yX5_mixScreen.cls ≠ "java/lang/invoke/VarHandle" ∧ (parseMethodDescriptor yX5_mixScreen.desc).map (fun d => d.parameters.length) = some 1 := by decide +kernel
theorem hvX5_mixScreen : yX5_mixScreen.cls = RX5 ∧ yX5_mixScreen.cls ≠ "java/lang/invoke/MethodHandle" ∧ yX5_mixScreen.cls ≠ "java/lang/invoke/VarHandle" ∧ (parseMethodDescriptor yX5_mixScreen.desc).map (fun d => d.parameters.length) = some 1 := ⟨rfl, hsX5_mixScreen⟩
abbrev rmX5_digest : Room := { frames := 7, cells := 0, slots := 0, locals := 163 }
set_option maxHeartbeats 4000000 in
set_option maxRecDepth 100000 in
theorem ctX5_digest (l : Launch) (G : GG) (v_q0 : Nat) (v_q1 : Nat) (v_q2 : Nat) (v_q3 : Nat) (v_q4 : Nat) (v_q5 : Nat) (v_q6 : Nat) (v_q7 : Nat) (v_q8 : Nat) (v_q9 : Nat) (v_q10 : Nat) (v_q11 : Nat) (v_q12 : Nat) (v_q13 : Nat) (v_q14 : Nat) (v_q15 : Nat) (v_q16 : Nat) (v_thrown : Int32) (v_gain : Int32) (v_size : Int32) (v_w : Int32) (v_s : Int32) (v_h : Int32) (v_laidArea : Int32) (v_parts : Int32) (v_isMinus : Int32) (v_readSpot : Int32) (v_isStar : Int32) (v_wantsNumber : Int32) (v_waiting : Int32) (v_shiftX : Int32) (v_shiftY : Int32) (v_times : Int32) (v_dotsLaid : Int32) (v_joinedLaid : Int32) (v_hash : Int64) (v_isThereA : (Nat → Int32)) (v_vA : (Nat → Int32)) (v_spotOfA : (Nat → Int32)) (v_inMiddleA : (Nat → Int32)) (v_tintsA : (Nat → Int32)) (v_bufferA : (Nat → Int32)) (v_valuesA : (Nat → Int32)) (v_ranksA : (Nat → Int32)) (v_oldRanksA : (Nat → Int32)) (v_partA : (Nat → Int32)) (v_allRanksA : (Nat → Int32)) (v_basesA : (Nat → Int32)) (v_isMetA : (Nat → Int32)) (v_metXA : (Nat → Int32)) (v_metYA : (Nat → Int32)) (v_lineA : (Nat → Int32)) (o0 : Int64) (o1 : Int32) (o2 : Int32) (o3 : Int32) (o4 : Int32) (o5 : Int32) (o6 : Int32) (o7 : Int32) (o8 : Int32) (o9 : Int32) (o10 : Int32) (o11 : Int32) (o12 : Int64) (o13 : (Nat → Int32)) (o14 : (Nat → Int32)) (o15 : (Nat → Int32)) (o16 : (Nat → Int32)) (o17 : (Nat → Int32)) (o18 : (Nat → Int32)) (h : mX5_digest v_gain v_size v_w v_s v_h v_laidArea v_waiting v_shiftX v_shiftY v_times v_dotsLaid v_joinedLaid v_isThereA v_vA v_spotOfA v_inMiddleA v_tintsA v_bufferA v_valuesA v_ranksA v_isMetA v_metXA v_metYA v_lineA = some (o0, o1, o2, o3, o4, o5, o6, o7, o8, o9, o10, o11, o12, o13, o14, o15, o16, o17, o18))  : Met l yX5_digest wsX5_digest rmX5_digest (va_Pc [.ref v_q0] (PreD G (wdX5 G v_q0 v_q1 v_q2 v_q3 v_q4 v_q5 v_q6 v_q7 v_q8 v_q9 v_q10 v_q11 v_q12 v_q13 v_q14 v_q15 v_q16 v_thrown v_gain v_size v_w v_s v_h v_laidArea v_parts v_isMinus v_readSpot v_isStar v_wantsNumber v_waiting v_shiftX v_shiftY v_times v_dotsLaid v_joinedLaid v_hash v_isThereA v_vA v_spotOfA v_inMiddleA v_tintsA v_bufferA v_valuesA v_ranksA v_oldRanksA v_partA v_allRanksA v_basesA v_isMetA v_metXA v_metYA v_lineA) (fun _ => True))) (QwA G (va_A0 (wdX5 G v_q0 v_q1 v_q2 v_q3 v_q4 v_q5 v_q6 v_q7 v_q8 v_q9 v_q10 v_q11 v_q12 v_q13 v_q14 v_q15 v_q16 v_thrown v_gain v_size v_w v_s v_h v_laidArea v_parts v_isMinus v_readSpot v_isStar v_wantsNumber v_waiting v_shiftX v_shiftY v_times v_dotsLaid v_joinedLaid v_hash v_isThereA v_vA v_spotOfA v_inMiddleA v_tintsA v_bufferA v_valuesA v_ranksA v_oldRanksA v_partA v_allRanksA v_basesA v_isMetA v_metXA v_metYA v_lineA)) (wdX5 G v_q0 v_q1 v_q2 v_q3 v_q4 v_q5 v_q6 v_q7 v_q8 v_q9 v_q10 v_q11 v_q12 v_q13 v_q14 v_q15 v_q16 o1 v_gain v_size o2 o3 o4 o5 v_parts v_isMinus v_readSpot v_isStar v_wantsNumber o6 o7 o8 o9 o10 o11 o12 v_isThereA v_vA v_spotOfA v_inMiddleA v_tintsA v_bufferA o13 o14 v_oldRanksA v_partA v_allRanksA v_basesA o15 o16 o17 o18) (some (.long o0)) True) 0 0 (va_A0 (wdX5 G v_q0 v_q1 v_q2 v_q3 v_q4 v_q5 v_q6 v_q7 v_q8 v_q9 v_q10 v_q11 v_q12 v_q13 v_q14 v_q15 v_q16 v_thrown v_gain v_size v_w v_s v_h v_laidArea v_parts v_isMinus v_readSpot v_isStar v_wantsNumber v_waiting v_shiftX v_shiftY v_times v_dotsLaid v_joinedLaid v_hash v_isThereA v_vA v_spotOfA v_inMiddleA v_tintsA v_bufferA v_valuesA v_ranksA v_oldRanksA v_partA v_allRanksA v_basesA v_isMetA v_metXA v_metYA v_lineA)) := by
  refine of_wl (cc := cX5_digest) (maxL := 3) (plainFor_of_name (by decide)) rfl (Nat.le_of_ble_eq_true rfl) ?_
  intro p e s m args below meth c ls Q A S hl hP hD hS hK hX hA hret
  obtain ⟨H, hH⟩ : ∃ H, H = s.heap := ⟨_, rfl⟩
  obtain ⟨locs, hlocs⟩ : ∃ L : List Loc, L = [] := ⟨_, rfl⟩
  rw [← hlocs]
  rw [← hlocs] at hS
  have hP : va_P G.1 vwCl (wdX5 G v_q0 v_q1 v_q2 v_q3 v_q4 v_q5 v_q6 v_q7 v_q8 v_q9 v_q10 v_q11 v_q12 v_q13 v_q14 v_q15 v_q16 v_thrown v_gain v_size v_w v_s v_h v_laidArea v_parts v_isMinus v_readSpot v_isStar v_wantsNumber v_waiting v_shiftX v_shiftY v_times v_dotsLaid v_joinedLaid v_hash v_isThereA v_vA v_spotOfA v_inMiddleA v_tintsA v_bufferA v_valuesA v_ranksA v_oldRanksA v_partA v_allRanksA v_basesA v_isMetA v_metXA v_metYA v_lineA) H := by rw [hH]; exact hP
  have hS : va_S A s.heap H locs := by rw [hH]; exact hS
  suffices hgo : W p l e rmX5_digest s m args below meth c H locs 0 0 Q (F0 m 0 ls []) by rw [hH] at hgo; exact hgo
  have S : CallFix p m c cX5_digest 3 s args wsX5_digest RX5 := S
  obtain ⟨hx, hb, hml, hown, hts⟩ := id S
  have hl : lv_has ls 3 [(0, .ref v_q0)] := hl
  unfold mX5_digest at h
  refine lv_aload_n hx hb dX5_digest_0 rfl (lv_at hl 0 rfl) ?_
  refine lv_iconst (v := 0) hx hb dX5_digest_1 (by decide) ?_
  refine va_put (D := G.1) (ci := 5) (v := .int 0) (ty := .int) (C := RX5) (T := TX5) (N := 35) hx hb hts fw_X5_digest_X5 tyX5 tyX5_ok nmX5 hown hK.1 hP hD hS 0 rfl rfl 0 (by decide) (hts (.fieldLink RX5 59 "HalftoneScreensModel" "thrown" "I") lk_X5_digest_f59) (fun _ h9 => h9) rfl (tyX5_ok 0 (by decide)) rfl rfl (Nat.le_of_ble_eq_true rfl) dX5_digest_2 (fun H locs hP hD hS => ?_)
  have hP : va_P G.1 vwCl (wdX5 G v_q0 v_q1 v_q2 v_q3 v_q4 v_q5 v_q6 v_q7 v_q8 v_q9 v_q10 v_q11 v_q12 v_q13 v_q14 v_q15 v_q16 0 v_gain v_size v_w v_s v_h v_laidArea v_parts v_isMinus v_readSpot v_isStar v_wantsNumber v_waiting v_shiftX v_shiftY v_times v_dotsLaid v_joinedLaid v_hash v_isThereA v_vA v_spotOfA v_inMiddleA v_tintsA v_bufferA v_valuesA v_ranksA v_oldRanksA v_partA v_allRanksA v_basesA v_isMetA v_metXA v_metYA v_lineA) H := hP
  have hD : va_D A (wdX5 G v_q0 v_q1 v_q2 v_q3 v_q4 v_q5 v_q6 v_q7 v_q8 v_q9 v_q10 v_q11 v_q12 v_q13 v_q14 v_q15 v_q16 0 v_gain v_size v_w v_s v_h v_laidArea v_parts v_isMinus v_readSpot v_isStar v_wantsNumber v_waiting v_shiftX v_shiftY v_times v_dotsLaid v_joinedLaid v_hash v_isThereA v_vA v_spotOfA v_inMiddleA v_tintsA v_bufferA v_valuesA v_ranksA v_oldRanksA v_partA v_allRanksA v_basesA v_isMetA v_metXA v_metYA v_lineA) := hD
  refine lv_aload_n hx hb dX5_digest_5 rfl (lv_at hl 0 rfl) ?_
  refine lv_ldc2 (v := 1951) hx hb hown (hts (.constantLong RX5 285 (1951)) lk_X5_digest_k285) dX5_digest_6 ?_
  refine va_put (D := G.1) (ci := 5) (v := .long 1951) (ty := .long) (C := RX5) (T := TX5) (N := 35) hx hb hts fw_X5_digest_X5 tyX5 tyX5_ok nmX5 hown hK.1 hP hD hS 0 rfl rfl 34 (by decide) (hts (.fieldLink RX5 277 "HalftoneScreensModel" "hash" "J") lk_X5_digest_f277) (fun _ h9 => h9) rfl (tyX5_ok 34 (by decide)) rfl rfl (Nat.le_of_ble_eq_true rfl) dX5_digest_9 (fun H locs hP hD hS => ?_)
  have hP : va_P G.1 vwCl (wdX5 G v_q0 v_q1 v_q2 v_q3 v_q4 v_q5 v_q6 v_q7 v_q8 v_q9 v_q10 v_q11 v_q12 v_q13 v_q14 v_q15 v_q16 0 v_gain v_size v_w v_s v_h v_laidArea v_parts v_isMinus v_readSpot v_isStar v_wantsNumber v_waiting v_shiftX v_shiftY v_times v_dotsLaid v_joinedLaid 1951 v_isThereA v_vA v_spotOfA v_inMiddleA v_tintsA v_bufferA v_valuesA v_ranksA v_oldRanksA v_partA v_allRanksA v_basesA v_isMetA v_metXA v_metYA v_lineA) H := hP
  have hD : va_D A (wdX5 G v_q0 v_q1 v_q2 v_q3 v_q4 v_q5 v_q6 v_q7 v_q8 v_q9 v_q10 v_q11 v_q12 v_q13 v_q14 v_q15 v_q16 0 v_gain v_size v_w v_s v_h v_laidArea v_parts v_isMinus v_readSpot v_isStar v_wantsNumber v_waiting v_shiftX v_shiftY v_times v_dotsLaid v_joinedLaid 1951 v_isThereA v_vA v_spotOfA v_inMiddleA v_tintsA v_bufferA v_valuesA v_ranksA v_oldRanksA v_partA v_allRanksA v_basesA v_isMetA v_metXA v_metYA v_lineA) := hD
  refine lv_iconst (v := 0) hx hb dX5_digest_12 (by decide) ?_
  refine lv_istore_n (lv' := [(1, .int 0), (0, .ref v_q0)]) hx hb dX5_digest_13 rfl hl (by decide) rfl (fun ls hl => ?_)
  obtain ⟨u1_0, u1_1, g1, h⟩ := bnd2_e h
  have L1 : ∀ (fu : Nat) (v1_0 : Int32) (v1_1 : Int64) (u1_0 : Int32) (u1_1 : Int64) (H : Heap) (locs : List Loc) (ls : Array Slot), mX5_digest_L14 v_gain v_size v_isThereA v_vA v_tintsA fu v1_0 v1_1 = some (u1_0, u1_1) → lv_has ls 3 [(1, .int v1_0), (0, .ref v_q0)] → va_P G.1 vwCl (wdX5 G v_q0 v_q1 v_q2 v_q3 v_q4 v_q5 v_q6 v_q7 v_q8 v_q9 v_q10 v_q11 v_q12 v_q13 v_q14 v_q15 v_q16 0 v_gain v_size v_w v_s v_h v_laidArea v_parts v_isMinus v_readSpot v_isStar v_wantsNumber v_waiting v_shiftX v_shiftY v_times v_dotsLaid v_joinedLaid v1_1 v_isThereA v_vA v_spotOfA v_inMiddleA v_tintsA v_bufferA v_valuesA v_ranksA v_oldRanksA v_partA v_allRanksA v_basesA v_isMetA v_metXA v_metYA v_lineA) H → va_D A (wdX5 G v_q0 v_q1 v_q2 v_q3 v_q4 v_q5 v_q6 v_q7 v_q8 v_q9 v_q10 v_q11 v_q12 v_q13 v_q14 v_q15 v_q16 0 v_gain v_size v_w v_s v_h v_laidArea v_parts v_isMinus v_readSpot v_isStar v_wantsNumber v_waiting v_shiftX v_shiftY v_times v_dotsLaid v_joinedLaid v1_1 v_isThereA v_vA v_spotOfA v_inMiddleA v_tintsA v_bufferA v_valuesA v_ranksA v_oldRanksA v_partA v_allRanksA v_basesA v_isMetA v_metXA v_metYA v_lineA) → va_S A s.heap H locs → (∀ (H : Heap) (locs : List Loc) (ls : Array Slot), lv_has ls 3 [(1, .int u1_0), (0, .ref v_q0)] → va_P G.1 vwCl (wdX5 G v_q0 v_q1 v_q2 v_q3 v_q4 v_q5 v_q6 v_q7 v_q8 v_q9 v_q10 v_q11 v_q12 v_q13 v_q14 v_q15 v_q16 0 v_gain v_size v_w v_s v_h v_laidArea v_parts v_isMinus v_readSpot v_isStar v_wantsNumber v_waiting v_shiftX v_shiftY v_times v_dotsLaid v_joinedLaid u1_1 v_isThereA v_vA v_spotOfA v_inMiddleA v_tintsA v_bufferA v_valuesA v_ranksA v_oldRanksA v_partA v_allRanksA v_basesA v_isMetA v_metXA v_metYA v_lineA) H → va_D A (wdX5 G v_q0 v_q1 v_q2 v_q3 v_q4 v_q5 v_q6 v_q7 v_q8 v_q9 v_q10 v_q11 v_q12 v_q13 v_q14 v_q15 v_q16 0 v_gain v_size v_w v_s v_h v_laidArea v_parts v_isMinus v_readSpot v_isStar v_wantsNumber v_waiting v_shiftX v_shiftY v_times v_dotsLaid v_joinedLaid u1_1 v_isThereA v_vA v_spotOfA v_inMiddleA v_tintsA v_bufferA v_valuesA v_ranksA v_oldRanksA v_partA v_allRanksA v_basesA v_isMetA v_metXA v_metYA v_lineA) → va_S A s.heap H locs → W p l e rmX5_digest s m args below meth c H locs 0 0 Q (F0 m 35 ls [])) → W p l e rmX5_digest s m args below meth c H locs 0 0 Q (F0 m 14 ls []) := by
    intro fu
    induction fu with
    | zero => intro v1_0 v1_1 u1_0 u1_1 H locs ls h; exact nomatch h
    | succ fu ih =>
      intro v1_0 v1_1 u1_0 u1_1 H locs ls h hl hP hD hS kE
      rw [mX5_digest_L14] at h
      refine lv_iload_n hx hb dX5_digest_14 rfl (lv_at hl 0 rfl) ?_
      refine lv_iconst (v := 5) hx hb dX5_digest_15 (by decide) ?_
      refine lv_icmp_ge (tgt := 35) hx hb dX5_digest_16 (by decide) (fun c2 => ?_) (fun c2 => ?_)
      · replace h := ite_t c2 h
        obtain ⟨rfl, rfl⟩ := sm2 h
        exact kE H locs ls hl hP hD hS
      · replace h := ite_f c2 h
        refine lv_aload_n hx hb dX5_digest_19 rfl (lv_at hl 1 rfl) ?_
        refine lv_aload_n hx hb dX5_digest_20 rfl (lv_at hl 1 rfl) ?_
        refine lv_iload_n hx hb dX5_digest_21 rfl (lv_at hl 0 rfl) ?_
        obtain ⟨r3_0, g3, h⟩ := bnd1_e h
        refine rwV_same (rest := [.ref v_q0]) (As := [.int v1_0]) S (ctX5_counted l G v_q0 v_q1 v_q2 v_q3 v_q4 v_q5 v_q6 v_q7 v_q8 v_q9 v_q10 v_q11 v_q12 v_q13 v_q14 v_q15 v_q16 0 v_gain v_size v_w v_s v_h v_laidArea v_parts v_isMinus v_readSpot v_isStar v_wantsNumber v_waiting v_shiftX v_shiftY v_times v_dotsLaid v_joinedLaid v1_1 v_isThereA v_vA v_spotOfA v_inMiddleA v_tintsA v_bufferA v_valuesA v_ranksA v_oldRanksA v_partA v_allRanksA v_basesA v_isMetA v_metXA v_metYA v_lineA v1_0 r3_0 g3) (cwV 1 hts gX5_digest_X5_counted rfl rfl rfl hvX5_counted ⟨Nat.le_of_ble_eq_true rfl, Nat.le_of_ble_eq_true rfl⟩) hK hP hD hS xb_triv (fun _ _ _ => trivial) 0 5 rfl rfl rfl rfl hl.1 rfl (Nat.le_of_ble_eq_true rfl) dX5_digest_22 ⟨Nat.le_refl _, Nat.le_refl _⟩ (fun _ H locs hP hD hS => ?_)
        have hP : va_P G.1 vwCl (wdX5 G v_q0 v_q1 v_q2 v_q3 v_q4 v_q5 v_q6 v_q7 v_q8 v_q9 v_q10 v_q11 v_q12 v_q13 v_q14 v_q15 v_q16 0 v_gain v_size v_w v_s v_h v_laidArea v_parts v_isMinus v_readSpot v_isStar v_wantsNumber v_waiting v_shiftX v_shiftY v_times v_dotsLaid v_joinedLaid v1_1 v_isThereA v_vA v_spotOfA v_inMiddleA v_tintsA v_bufferA v_valuesA v_ranksA v_oldRanksA v_partA v_allRanksA v_basesA v_isMetA v_metXA v_metYA v_lineA) H := hP
        have hD : va_D A (wdX5 G v_q0 v_q1 v_q2 v_q3 v_q4 v_q5 v_q6 v_q7 v_q8 v_q9 v_q10 v_q11 v_q12 v_q13 v_q14 v_q15 v_q16 0 v_gain v_size v_w v_s v_h v_laidArea v_parts v_isMinus v_readSpot v_isStar v_wantsNumber v_waiting v_shiftX v_shiftY v_times v_dotsLaid v_joinedLaid v1_1 v_isThereA v_vA v_spotOfA v_inMiddleA v_tintsA v_bufferA v_valuesA v_ranksA v_oldRanksA v_partA v_allRanksA v_basesA v_isMetA v_metXA v_metYA v_lineA) := hD
        refine lv_i2l hx hb dX5_digest_25 rfl ?_
        obtain ⟨r4_0, g4, h⟩ := bnd1_e h
        refine rwV_same (rest := []) (As := [.long r3_0.toInt64]) S (ctX5_mix l G v_q0 v_q1 v_q2 v_q3 v_q4 v_q5 v_q6 v_q7 v_q8 v_q9 v_q10 v_q11 v_q12 v_q13 v_q14 v_q15 v_q16 0 v_gain v_size v_w v_s v_h v_laidArea v_parts v_isMinus v_readSpot v_isStar v_wantsNumber v_waiting v_shiftX v_shiftY v_times v_dotsLaid v_joinedLaid v1_1 v_isThereA v_vA v_spotOfA v_inMiddleA v_tintsA v_bufferA v_valuesA v_ranksA v_oldRanksA v_partA v_allRanksA v_basesA v_isMetA v_metXA v_metYA v_lineA r3_0.toInt64 r4_0 g4) (cwV 1 hts gX5_digest_X5_mix rfl rfl rfl hvX5_mix ⟨Nat.le_of_ble_eq_true rfl, Nat.le_of_ble_eq_true rfl⟩) hK hP hD hS xb_triv (fun _ _ _ => trivial) 0 5 rfl rfl rfl rfl hl.1 rfl (Nat.le_of_ble_eq_true rfl) dX5_digest_26 ⟨Nat.le_refl _, Nat.le_refl _⟩ (fun _ H locs hP hD hS => ?_)
        have hP : va_P G.1 vwCl (wdX5 G v_q0 v_q1 v_q2 v_q3 v_q4 v_q5 v_q6 v_q7 v_q8 v_q9 v_q10 v_q11 v_q12 v_q13 v_q14 v_q15 v_q16 0 v_gain v_size v_w v_s v_h v_laidArea v_parts v_isMinus v_readSpot v_isStar v_wantsNumber v_waiting v_shiftX v_shiftY v_times v_dotsLaid v_joinedLaid r4_0 v_isThereA v_vA v_spotOfA v_inMiddleA v_tintsA v_bufferA v_valuesA v_ranksA v_oldRanksA v_partA v_allRanksA v_basesA v_isMetA v_metXA v_metYA v_lineA) H := hP
        have hD : va_D A (wdX5 G v_q0 v_q1 v_q2 v_q3 v_q4 v_q5 v_q6 v_q7 v_q8 v_q9 v_q10 v_q11 v_q12 v_q13 v_q14 v_q15 v_q16 0 v_gain v_size v_w v_s v_h v_laidArea v_parts v_isMinus v_readSpot v_isStar v_wantsNumber v_waiting v_shiftX v_shiftY v_times v_dotsLaid v_joinedLaid r4_0 v_isThereA v_vA v_spotOfA v_inMiddleA v_tintsA v_bufferA v_valuesA v_ranksA v_oldRanksA v_partA v_allRanksA v_basesA v_isMetA v_metXA v_metYA v_lineA) := hD
        obtain ⟨x5, e5⟩ : ∃ y : Int32, y = v1_0 + 1 := ⟨_, rfl⟩
        replace h := nmB_e e5 h
        refine lv_iinc (v := x5) (lv' := [(1, .int x5), (0, .ref v_q0)]) hx hb dX5_digest_29 hl (k := 0) rfl (by rw [e5]; rfl) (by decide) rfl (fun ls hl => ?_)
        refine lv_goto (tgt := 14) hx hb dX5_digest_32 (by decide) ?_
        exact ih x5 r4_0 u1_0 u1_1 H locs ls h hl hP hD hS kE
  refine L1 FU 0 1951 u1_0 u1_1 H locs ls g1 hl hP hD hS (fun H locs ls hl hP hD hS => ?_)
  refine lv_iconst (v := 0) hx hb dX5_digest_35 (by decide) ?_
  refine lv_istore_n (lv' := [(1, .int 0), (0, .ref v_q0)]) hx hb dX5_digest_36 rfl hl (by decide) rfl (fun ls hl => ?_)
  obtain ⟨u6_0, u6_1, u6_2, u6_3, u6_4, u6_5, u6_6, u6_7, u6_8, u6_9, u6_10, u6_11, u6_12, u6_13, u6_14, u6_15, u6_16, u6_17, g6, h⟩ := bnd18_e h
  have L6 : ∀ (fu : Nat) (v6_0 : Int32) (v6_1 : Int32) (v6_2 : Int32) (v6_3 : Int32) (v6_4 : Int32) (v6_5 : Int32) (v6_6 : Int32) (v6_7 : Int32) (v6_8 : Int32) (v6_9 : Int32) (v6_10 : Int32) (v6_11 : Int64) (v6_12 : (Nat → Int32)) (v6_13 : (Nat → Int32)) (v6_14 : (Nat → Int32)) (v6_15 : (Nat → Int32)) (v6_16 : (Nat → Int32)) (v6_17 : (Nat → Int32)) (u6_0 : Int32) (u6_1 : Int32) (u6_2 : Int32) (u6_3 : Int32) (u6_4 : Int32) (u6_5 : Int32) (u6_6 : Int32) (u6_7 : Int32) (u6_8 : Int32) (u6_9 : Int32) (u6_10 : Int32) (u6_11 : Int64) (u6_12 : (Nat → Int32)) (u6_13 : (Nat → Int32)) (u6_14 : (Nat → Int32)) (u6_15 : (Nat → Int32)) (u6_16 : (Nat → Int32)) (u6_17 : (Nat → Int32)) (H : Heap) (locs : List Loc) (ls : Array Slot), mX5_digest_L37 v_gain v_isThereA v_vA v_spotOfA v_inMiddleA v_tintsA fu v6_0 v6_1 v6_2 v6_3 v6_4 v6_5 v6_6 v6_7 v6_8 v6_9 v6_10 v6_11 v6_12 v6_13 v6_14 v6_15 v6_16 v6_17 = some (u6_0, u6_1, u6_2, u6_3, u6_4, u6_5, u6_6, u6_7, u6_8, u6_9, u6_10, u6_11, u6_12, u6_13, u6_14, u6_15, u6_16, u6_17) → lv_has ls 3 [(1, .int v6_0), (0, .ref v_q0)] → va_P G.1 vwCl (wdX5 G v_q0 v_q1 v_q2 v_q3 v_q4 v_q5 v_q6 v_q7 v_q8 v_q9 v_q10 v_q11 v_q12 v_q13 v_q14 v_q15 v_q16 0 v_gain v_size v6_1 v6_2 v6_3 v6_4 v_parts v_isMinus v_readSpot v_isStar v_wantsNumber v6_5 v6_6 v6_7 v6_8 v6_9 v6_10 v6_11 v_isThereA v_vA v_spotOfA v_inMiddleA v_tintsA v_bufferA v6_12 v6_13 v_oldRanksA v_partA v_allRanksA v_basesA v6_14 v6_15 v6_16 v6_17) H → va_D A (wdX5 G v_q0 v_q1 v_q2 v_q3 v_q4 v_q5 v_q6 v_q7 v_q8 v_q9 v_q10 v_q11 v_q12 v_q13 v_q14 v_q15 v_q16 0 v_gain v_size v6_1 v6_2 v6_3 v6_4 v_parts v_isMinus v_readSpot v_isStar v_wantsNumber v6_5 v6_6 v6_7 v6_8 v6_9 v6_10 v6_11 v_isThereA v_vA v_spotOfA v_inMiddleA v_tintsA v_bufferA v6_12 v6_13 v_oldRanksA v_partA v_allRanksA v_basesA v6_14 v6_15 v6_16 v6_17) → va_S A s.heap H locs → (∀ (H : Heap) (locs : List Loc) (ls : Array Slot), lv_has ls 3 [(1, .int u6_0), (0, .ref v_q0)] → va_P G.1 vwCl (wdX5 G v_q0 v_q1 v_q2 v_q3 v_q4 v_q5 v_q6 v_q7 v_q8 v_q9 v_q10 v_q11 v_q12 v_q13 v_q14 v_q15 v_q16 0 v_gain v_size u6_1 u6_2 u6_3 u6_4 v_parts v_isMinus v_readSpot v_isStar v_wantsNumber u6_5 u6_6 u6_7 u6_8 u6_9 u6_10 u6_11 v_isThereA v_vA v_spotOfA v_inMiddleA v_tintsA v_bufferA u6_12 u6_13 v_oldRanksA v_partA v_allRanksA v_basesA u6_14 u6_15 u6_16 u6_17) H → va_D A (wdX5 G v_q0 v_q1 v_q2 v_q3 v_q4 v_q5 v_q6 v_q7 v_q8 v_q9 v_q10 v_q11 v_q12 v_q13 v_q14 v_q15 v_q16 0 v_gain v_size u6_1 u6_2 u6_3 u6_4 v_parts v_isMinus v_readSpot v_isStar v_wantsNumber u6_5 u6_6 u6_7 u6_8 u6_9 u6_10 u6_11 v_isThereA v_vA v_spotOfA v_inMiddleA v_tintsA v_bufferA u6_12 u6_13 v_oldRanksA v_partA v_allRanksA v_basesA u6_14 u6_15 u6_16 u6_17) → va_S A s.heap H locs → W p l e rmX5_digest s m args below meth c H locs 0 0 Q (F0 m 70 ls [])) → W p l e rmX5_digest s m args below meth c H locs 0 0 Q (F0 m 37 ls []) := by
    intro fu
    induction fu with
    | zero => intro v6_0 v6_1 v6_2 v6_3 v6_4 v6_5 v6_6 v6_7 v6_8 v6_9 v6_10 v6_11 v6_12 v6_13 v6_14 v6_15 v6_16 v6_17 u6_0 u6_1 u6_2 u6_3 u6_4 u6_5 u6_6 u6_7 u6_8 u6_9 u6_10 u6_11 u6_12 u6_13 u6_14 u6_15 u6_16 u6_17 H locs ls h; exact nomatch h
    | succ fu ih =>
      intro v6_0 v6_1 v6_2 v6_3 v6_4 v6_5 v6_6 v6_7 v6_8 v6_9 v6_10 v6_11 v6_12 v6_13 v6_14 v6_15 v6_16 v6_17 u6_0 u6_1 u6_2 u6_3 u6_4 u6_5 u6_6 u6_7 u6_8 u6_9 u6_10 u6_11 u6_12 u6_13 u6_14 u6_15 u6_16 u6_17 H locs ls h hl hP hD hS kE
      rw [mX5_digest_L37] at h
      refine lv_iload_n hx hb dX5_digest_37 rfl (lv_at hl 0 rfl) ?_
      refine lv_iconst (v := 3) hx hb dX5_digest_38 (by decide) ?_
      refine lv_icmp_ge (tgt := 70) hx hb dX5_digest_39 (by decide) (fun c7 => ?_) (fun c7 => ?_)
      · replace h := ite_t c7 h
        obtain ⟨rfl, rfl, rfl, rfl, rfl, rfl, rfl, rfl, rfl, rfl, rfl, rfl, rfl, rfl, rfl, rfl, rfl, rfl⟩ := sm18 h
        exact kE H locs ls hl hP hD hS
      · replace h := ite_f c7 h
        refine lv_aload_n hx hb dX5_digest_42 rfl (lv_at hl 1 rfl) ?_
        refine va_get (D := G.1) (ci := 5) (v := .ref v_q1) (C := RX5) (T := TX5) (N := 35) hx hb hts fw_X5_digest_X5 hown hK.1 hP 0 rfl rfl 1 (by decide) (hts (.fieldLink RX5 7 "HalftoneScreensModel" "isThere" "[Z") lk_X5_digest_f7) (fun _ h9 => h9) rfl dX5_digest_43 ?_
        refine lv_iload_n hx hb dX5_digest_46 rfl (lv_at hl 0 rfl) ?_
        obtain ⟨i8, h⟩ := gd_e h
        refine va_zald hx hb hK.1 hP 1 1 rfl rfl i8 dX5_digest_47 ?_
        refine lv_if_eq (tgt := 59) hx hb dX5_digest_48 (by decide) (fun c9 => ?_) (fun c9 => ?_)
        · replace h := ite_t c9 h
          refine lv_aload_n hx hb dX5_digest_59 rfl (lv_at hl 1 rfl) ?_
          refine lv_lconst (v := 0) hx hb dX5_digest_60 (by decide) ?_
          obtain ⟨r10_0, g10, h⟩ := bnd1_e h
          refine rwV_same (rest := []) (As := [.long 0]) S (ctX5_mix l G v_q0 v_q1 v_q2 v_q3 v_q4 v_q5 v_q6 v_q7 v_q8 v_q9 v_q10 v_q11 v_q12 v_q13 v_q14 v_q15 v_q16 0 v_gain v_size v6_1 v6_2 v6_3 v6_4 v_parts v_isMinus v_readSpot v_isStar v_wantsNumber v6_5 v6_6 v6_7 v6_8 v6_9 v6_10 v6_11 v_isThereA v_vA v_spotOfA v_inMiddleA v_tintsA v_bufferA v6_12 v6_13 v_oldRanksA v_partA v_allRanksA v_basesA v6_14 v6_15 v6_16 v6_17 0 r10_0 g10) (cwV 1 hts gX5_digest_X5_mix rfl rfl rfl hvX5_mix ⟨Nat.le_of_ble_eq_true rfl, Nat.le_of_ble_eq_true rfl⟩) hK hP hD hS xb_triv (fun _ _ _ => trivial) 0 5 rfl rfl rfl rfl hl.1 rfl (Nat.le_of_ble_eq_true rfl) dX5_digest_61 ⟨Nat.le_refl _, Nat.le_refl _⟩ (fun _ H locs hP hD hS => ?_)
          have hP : va_P G.1 vwCl (wdX5 G v_q0 v_q1 v_q2 v_q3 v_q4 v_q5 v_q6 v_q7 v_q8 v_q9 v_q10 v_q11 v_q12 v_q13 v_q14 v_q15 v_q16 0 v_gain v_size v6_1 v6_2 v6_3 v6_4 v_parts v_isMinus v_readSpot v_isStar v_wantsNumber v6_5 v6_6 v6_7 v6_8 v6_9 v6_10 r10_0 v_isThereA v_vA v_spotOfA v_inMiddleA v_tintsA v_bufferA v6_12 v6_13 v_oldRanksA v_partA v_allRanksA v_basesA v6_14 v6_15 v6_16 v6_17) H := hP
          have hD : va_D A (wdX5 G v_q0 v_q1 v_q2 v_q3 v_q4 v_q5 v_q6 v_q7 v_q8 v_q9 v_q10 v_q11 v_q12 v_q13 v_q14 v_q15 v_q16 0 v_gain v_size v6_1 v6_2 v6_3 v6_4 v_parts v_isMinus v_readSpot v_isStar v_wantsNumber v6_5 v6_6 v6_7 v6_8 v6_9 v6_10 r10_0 v_isThereA v_vA v_spotOfA v_inMiddleA v_tintsA v_bufferA v6_12 v6_13 v_oldRanksA v_partA v_allRanksA v_basesA v6_14 v6_15 v6_16 v6_17) := hD
          obtain ⟨x11, e11⟩ : ∃ y : Int32, y = v6_0 + 1 := ⟨_, rfl⟩
          replace h := nmB_e e11 h
          refine lv_iinc (v := x11) (lv' := [(1, .int x11), (0, .ref v_q0)]) hx hb dX5_digest_64 hl (k := 0) rfl (by rw [e11]; rfl) (by decide) rfl (fun ls hl => ?_)
          refine lv_goto (tgt := 37) hx hb dX5_digest_67 (by decide) ?_
          exact ih x11 v6_1 v6_2 v6_3 v6_4 v6_5 v6_6 v6_7 v6_8 v6_9 v6_10 r10_0 v6_12 v6_13 v6_14 v6_15 v6_16 v6_17 u6_0 u6_1 u6_2 u6_3 u6_4 u6_5 u6_6 u6_7 u6_8 u6_9 u6_10 u6_11 u6_12 u6_13 u6_14 u6_15 u6_16 u6_17 H locs ls h hl hP hD hS kE
        · replace h := ite_f c9 h
          refine lv_aload_n hx hb dX5_digest_51 rfl (lv_at hl 1 rfl) ?_
          refine lv_iload_n hx hb dX5_digest_52 rfl (lv_at hl 0 rfl) ?_
          obtain ⟨r12_0, r12_1, r12_2, r12_3, r12_4, r12_5, r12_6, r12_7, r12_8, r12_9, r12_10, r12_11, r12_12, r12_13, r12_14, r12_15, r12_16, g12, h⟩ := bnd17_e h
          refine rwV_same (rest := []) (As := [.int v6_0]) S (ctX5_mixScreen l G v_q0 v_q1 v_q2 v_q3 v_q4 v_q5 v_q6 v_q7 v_q8 v_q9 v_q10 v_q11 v_q12 v_q13 v_q14 v_q15 v_q16 0 v_gain v_size v6_1 v6_2 v6_3 v6_4 v_parts v_isMinus v_readSpot v_isStar v_wantsNumber v6_5 v6_6 v6_7 v6_8 v6_9 v6_10 v6_11 v_isThereA v_vA v_spotOfA v_inMiddleA v_tintsA v_bufferA v6_12 v6_13 v_oldRanksA v_partA v_allRanksA v_basesA v6_14 v6_15 v6_16 v6_17 v6_0 r12_0 r12_1 r12_2 r12_3 r12_4 r12_5 r12_6 r12_7 r12_8 r12_9 r12_10 r12_11 r12_12 r12_13 r12_14 r12_15 r12_16 g12) (cwV 1 hts gX5_digest_X5_mixScreen rfl rfl rfl hvX5_mixScreen ⟨Nat.le_of_ble_eq_true rfl, Nat.le_of_ble_eq_true rfl⟩) hK hP hD hS xb_triv (fun _ _ _ => trivial) 0 5 rfl rfl rfl rfl hl.1 rfl (Nat.le_of_ble_eq_true rfl) dX5_digest_53 ⟨Nat.le_refl _, Nat.le_refl _⟩ (fun _ H locs hP hD hS => ?_)
          have hP : va_P G.1 vwCl (wdX5 G v_q0 v_q1 v_q2 v_q3 v_q4 v_q5 v_q6 v_q7 v_q8 v_q9 v_q10 v_q11 v_q12 v_q13 v_q14 v_q15 v_q16 0 v_gain v_size r12_0 r12_1 r12_2 r12_3 v_parts v_isMinus v_readSpot v_isStar v_wantsNumber r12_4 r12_5 r12_6 r12_7 r12_8 r12_9 r12_10 v_isThereA v_vA v_spotOfA v_inMiddleA v_tintsA v_bufferA r12_11 r12_12 v_oldRanksA v_partA v_allRanksA v_basesA r12_13 r12_14 r12_15 r12_16) H := hP
          have hD : va_D A (wdX5 G v_q0 v_q1 v_q2 v_q3 v_q4 v_q5 v_q6 v_q7 v_q8 v_q9 v_q10 v_q11 v_q12 v_q13 v_q14 v_q15 v_q16 0 v_gain v_size r12_0 r12_1 r12_2 r12_3 v_parts v_isMinus v_readSpot v_isStar v_wantsNumber r12_4 r12_5 r12_6 r12_7 r12_8 r12_9 r12_10 v_isThereA v_vA v_spotOfA v_inMiddleA v_tintsA v_bufferA r12_11 r12_12 v_oldRanksA v_partA v_allRanksA v_basesA r12_13 r12_14 r12_15 r12_16) := hD
          refine lv_goto (tgt := 64) hx hb dX5_digest_56 (by decide) ?_
          obtain ⟨x13, e13⟩ : ∃ y : Int32, y = v6_0 + 1 := ⟨_, rfl⟩
          replace h := nmB_e e13 h
          refine lv_iinc (v := x13) (lv' := [(1, .int x13), (0, .ref v_q0)]) hx hb dX5_digest_64 hl (k := 0) rfl (by rw [e13]; rfl) (by decide) rfl (fun ls hl => ?_)
          refine lv_goto (tgt := 37) hx hb dX5_digest_67 (by decide) ?_
          exact ih x13 r12_0 r12_1 r12_2 r12_3 r12_4 r12_5 r12_6 r12_7 r12_8 r12_9 r12_10 r12_11 r12_12 r12_13 r12_14 r12_15 r12_16 u6_0 u6_1 u6_2 u6_3 u6_4 u6_5 u6_6 u6_7 u6_8 u6_9 u6_10 u6_11 u6_12 u6_13 u6_14 u6_15 u6_16 u6_17 H locs ls h hl hP hD hS kE
  refine L6 FU 0 v_w v_s v_h v_laidArea v_waiting v_shiftX v_shiftY v_times v_dotsLaid v_joinedLaid u1_1 v_valuesA v_ranksA v_isMetA v_metXA v_metYA v_lineA u6_0 u6_1 u6_2 u6_3 u6_4 u6_5 u6_6 u6_7 u6_8 u6_9 u6_10 u6_11 u6_12 u6_13 u6_14 u6_15 u6_16 u6_17 H locs ls g6 hl hP hD hS (fun H locs ls hl hP hD hS => ?_)
  refine lv_iconst (v := 0) hx hb dX5_digest_70 (by decide) ?_
  refine lv_istore_n (lv' := [(1, .int 0), (0, .ref v_q0)]) hx hb dX5_digest_71 rfl hl (by decide) rfl (fun ls hl => ?_)
  obtain ⟨u14_0, u14_1, u14_2, u14_3, u14_4, g14, h⟩ := bnd5_e h
  have L14 : ∀ (fu : Nat) (v14_0 : Int32) (v14_1 : Int32) (v14_2 : Int32) (v14_3 : Int32) (v14_4 : Int64) (u14_0 : Int32) (u14_1 : Int32) (u14_2 : Int32) (u14_3 : Int32) (u14_4 : Int64) (H : Heap) (locs : List Loc) (ls : Array Slot), mX5_digest_L72 v_isThereA v_vA fu v14_0 v14_1 v14_2 v14_3 v14_4 = some (u14_0, u14_1, u14_2, u14_3, u14_4) → lv_has ls 3 [(1, .int v14_0), (0, .ref v_q0)] → va_P G.1 vwCl (wdX5 G v_q0 v_q1 v_q2 v_q3 v_q4 v_q5 v_q6 v_q7 v_q8 v_q9 v_q10 v_q11 v_q12 v_q13 v_q14 v_q15 v_q16 0 v_gain v_size v14_1 v14_2 v14_3 u6_4 v_parts v_isMinus v_readSpot v_isStar v_wantsNumber u6_5 u6_6 u6_7 u6_8 u6_9 u6_10 v14_4 v_isThereA v_vA v_spotOfA v_inMiddleA v_tintsA v_bufferA u6_12 u6_13 v_oldRanksA v_partA v_allRanksA v_basesA u6_14 u6_15 u6_16 u6_17) H → va_D A (wdX5 G v_q0 v_q1 v_q2 v_q3 v_q4 v_q5 v_q6 v_q7 v_q8 v_q9 v_q10 v_q11 v_q12 v_q13 v_q14 v_q15 v_q16 0 v_gain v_size v14_1 v14_2 v14_3 u6_4 v_parts v_isMinus v_readSpot v_isStar v_wantsNumber u6_5 u6_6 u6_7 u6_8 u6_9 u6_10 v14_4 v_isThereA v_vA v_spotOfA v_inMiddleA v_tintsA v_bufferA u6_12 u6_13 v_oldRanksA v_partA v_allRanksA v_basesA u6_14 u6_15 u6_16 u6_17) → va_S A s.heap H locs → (∀ (H : Heap) (locs : List Loc) (ls : Array Slot), lv_has ls 3 [(1, .int u14_0), (0, .ref v_q0)] → va_P G.1 vwCl (wdX5 G v_q0 v_q1 v_q2 v_q3 v_q4 v_q5 v_q6 v_q7 v_q8 v_q9 v_q10 v_q11 v_q12 v_q13 v_q14 v_q15 v_q16 0 v_gain v_size u14_1 u14_2 u14_3 u6_4 v_parts v_isMinus v_readSpot v_isStar v_wantsNumber u6_5 u6_6 u6_7 u6_8 u6_9 u6_10 u14_4 v_isThereA v_vA v_spotOfA v_inMiddleA v_tintsA v_bufferA u6_12 u6_13 v_oldRanksA v_partA v_allRanksA v_basesA u6_14 u6_15 u6_16 u6_17) H → va_D A (wdX5 G v_q0 v_q1 v_q2 v_q3 v_q4 v_q5 v_q6 v_q7 v_q8 v_q9 v_q10 v_q11 v_q12 v_q13 v_q14 v_q15 v_q16 0 v_gain v_size u14_1 u14_2 u14_3 u6_4 v_parts v_isMinus v_readSpot v_isStar v_wantsNumber u6_5 u6_6 u6_7 u6_8 u6_9 u6_10 u14_4 v_isThereA v_vA v_spotOfA v_inMiddleA v_tintsA v_bufferA u6_12 u6_13 v_oldRanksA v_partA v_allRanksA v_basesA u6_14 u6_15 u6_16 u6_17) → va_S A s.heap H locs → W p l e rmX5_digest s m args below meth c H locs 0 0 Q (F0 m 122 ls [])) → W p l e rmX5_digest s m args below meth c H locs 0 0 Q (F0 m 72 ls []) := by
    intro fu
    induction fu with
    | zero => intro v14_0 v14_1 v14_2 v14_3 v14_4 u14_0 u14_1 u14_2 u14_3 u14_4 H locs ls h; exact nomatch h
    | succ fu ih =>
      intro v14_0 v14_1 v14_2 v14_3 v14_4 u14_0 u14_1 u14_2 u14_3 u14_4 H locs ls h hl hP hD hS kE
      rw [mX5_digest_L72] at h
      refine lv_iload_n hx hb dX5_digest_72 rfl (lv_at hl 0 rfl) ?_
      refine lv_iconst (v := 3) hx hb dX5_digest_73 (by decide) ?_
      refine lv_icmp_ge (tgt := 122) hx hb dX5_digest_74 (by decide) (fun c15 => ?_) (fun c15 => ?_)
      · replace h := ite_t c15 h
        obtain ⟨rfl, rfl, rfl, rfl, rfl⟩ := sm5 h
        exact kE H locs ls hl hP hD hS
      · replace h := ite_f c15 h
        refine lv_iload_n hx hb dX5_digest_77 rfl (lv_at hl 0 rfl) ?_
        refine lv_iconst (v := 1) hx hb dX5_digest_78 (by decide) ?_
        refine lv_iadd hx hb dX5_digest_79 ?_
        refine lv_topi (fun x16 e16 => ?_)
        replace h := nmB_e e16 h
        refine lv_istore_n (lv' := [(2, .int x16), (1, .int v14_0), (0, .ref v_q0)]) hx hb dX5_digest_80 rfl hl (by decide) rfl (fun ls hl => ?_)
        obtain ⟨u17_0, u17_1, u17_2, u17_3, u17_4, g17, h⟩ := bnd5_e h
        have L17 : ∀ (fu : Nat) (v17_0 : Int32) (v17_1 : Int32) (v17_2 : Int32) (v17_3 : Int32) (v17_4 : Int64) (u17_0 : Int32) (u17_1 : Int32) (u17_2 : Int32) (u17_3 : Int32) (u17_4 : Int64) (H : Heap) (locs : List Loc) (ls : Array Slot), mX5_digest_L81 v_isThereA v_vA v14_0 fu v17_0 v17_1 v17_2 v17_3 v17_4 = some (u17_0, u17_1, u17_2, u17_3, u17_4) → lv_has ls 3 [(2, .int v17_0), (1, .int v14_0), (0, .ref v_q0)] → va_P G.1 vwCl (wdX5 G v_q0 v_q1 v_q2 v_q3 v_q4 v_q5 v_q6 v_q7 v_q8 v_q9 v_q10 v_q11 v_q12 v_q13 v_q14 v_q15 v_q16 0 v_gain v_size v17_1 v17_2 v17_3 u6_4 v_parts v_isMinus v_readSpot v_isStar v_wantsNumber u6_5 u6_6 u6_7 u6_8 u6_9 u6_10 v17_4 v_isThereA v_vA v_spotOfA v_inMiddleA v_tintsA v_bufferA u6_12 u6_13 v_oldRanksA v_partA v_allRanksA v_basesA u6_14 u6_15 u6_16 u6_17) H → va_D A (wdX5 G v_q0 v_q1 v_q2 v_q3 v_q4 v_q5 v_q6 v_q7 v_q8 v_q9 v_q10 v_q11 v_q12 v_q13 v_q14 v_q15 v_q16 0 v_gain v_size v17_1 v17_2 v17_3 u6_4 v_parts v_isMinus v_readSpot v_isStar v_wantsNumber u6_5 u6_6 u6_7 u6_8 u6_9 u6_10 v17_4 v_isThereA v_vA v_spotOfA v_inMiddleA v_tintsA v_bufferA u6_12 u6_13 v_oldRanksA v_partA v_allRanksA v_basesA u6_14 u6_15 u6_16 u6_17) → va_S A s.heap H locs → (∀ (H : Heap) (locs : List Loc) (ls : Array Slot), lv_has ls 3 [(2, .int u17_0), (1, .int v14_0), (0, .ref v_q0)] → va_P G.1 vwCl (wdX5 G v_q0 v_q1 v_q2 v_q3 v_q4 v_q5 v_q6 v_q7 v_q8 v_q9 v_q10 v_q11 v_q12 v_q13 v_q14 v_q15 v_q16 0 v_gain v_size u17_1 u17_2 u17_3 u6_4 v_parts v_isMinus v_readSpot v_isStar v_wantsNumber u6_5 u6_6 u6_7 u6_8 u6_9 u6_10 u17_4 v_isThereA v_vA v_spotOfA v_inMiddleA v_tintsA v_bufferA u6_12 u6_13 v_oldRanksA v_partA v_allRanksA v_basesA u6_14 u6_15 u6_16 u6_17) H → va_D A (wdX5 G v_q0 v_q1 v_q2 v_q3 v_q4 v_q5 v_q6 v_q7 v_q8 v_q9 v_q10 v_q11 v_q12 v_q13 v_q14 v_q15 v_q16 0 v_gain v_size u17_1 u17_2 u17_3 u6_4 v_parts v_isMinus v_readSpot v_isStar v_wantsNumber u6_5 u6_6 u6_7 u6_8 u6_9 u6_10 u17_4 v_isThereA v_vA v_spotOfA v_inMiddleA v_tintsA v_bufferA u6_12 u6_13 v_oldRanksA v_partA v_allRanksA v_basesA u6_14 u6_15 u6_16 u6_17) → va_S A s.heap H locs → W p l e rmX5_digest s m args below meth c H locs 0 0 Q (F0 m 116 ls [])) → W p l e rmX5_digest s m args below meth c H locs 0 0 Q (F0 m 81 ls []) := by
          intro fu
          induction fu with
          | zero => intro v17_0 v17_1 v17_2 v17_3 v17_4 u17_0 u17_1 u17_2 u17_3 u17_4 H locs ls h; exact nomatch h
          | succ fu ih =>
            intro v17_0 v17_1 v17_2 v17_3 v17_4 u17_0 u17_1 u17_2 u17_3 u17_4 H locs ls h hl hP hD hS kE
            rw [mX5_digest_L81] at h
            refine lv_iload_n hx hb dX5_digest_81 rfl (lv_at hl 0 rfl) ?_
            refine lv_iconst (v := 3) hx hb dX5_digest_82 (by decide) ?_
            refine lv_icmp_ge (tgt := 116) hx hb dX5_digest_83 (by decide) (fun c18 => ?_) (fun c18 => ?_)
            · replace h := ite_t c18 h
              obtain ⟨rfl, rfl, rfl, rfl, rfl⟩ := sm5 h
              exact kE H locs ls hl hP hD hS
            · replace h := ite_f c18 h
              refine lv_aload_n hx hb dX5_digest_86 rfl (lv_at hl 2 rfl) ?_
              refine va_get (D := G.1) (ci := 5) (v := .ref v_q1) (C := RX5) (T := TX5) (N := 35) hx hb hts fw_X5_digest_X5 hown hK.1 hP 0 rfl rfl 1 (by decide) (hts (.fieldLink RX5 7 "HalftoneScreensModel" "isThere" "[Z") lk_X5_digest_f7) (fun _ h9 => h9) rfl dX5_digest_87 ?_
              refine lv_iload_n hx hb dX5_digest_90 rfl (lv_at hl 1 rfl) ?_
              obtain ⟨i19, h⟩ := gd_e h
              refine va_zald hx hb hK.1 hP 1 1 rfl rfl i19 dX5_digest_91 ?_
              refine lv_if_eq (tgt := 110) hx hb dX5_digest_92 (by decide) (fun c20 => ?_) (fun c20 => ?_)
              · replace h := ite_t c20 h
                obtain ⟨x21, e21⟩ : ∃ y : Int32, y = v17_0 + 1 := ⟨_, rfl⟩
                replace h := nmB_e e21 h
                refine lv_iinc (v := x21) (lv' := [(2, .int x21), (1, .int v14_0), (0, .ref v_q0)]) hx hb dX5_digest_110 hl (k := 0) rfl (by rw [e21]; rfl) (by decide) rfl (fun ls hl => ?_)
                refine lv_goto (tgt := 81) hx hb dX5_digest_113 (by decide) ?_
                exact ih x21 v17_1 v17_2 v17_3 v17_4 u17_0 u17_1 u17_2 u17_3 u17_4 H locs ls h hl hP hD hS kE
              · replace h := ite_f c20 h
                refine lv_aload_n hx hb dX5_digest_95 rfl (lv_at hl 2 rfl) ?_
                refine va_get (D := G.1) (ci := 5) (v := .ref v_q1) (C := RX5) (T := TX5) (N := 35) hx hb hts fw_X5_digest_X5 hown hK.1 hP 0 rfl rfl 1 (by decide) (hts (.fieldLink RX5 7 "HalftoneScreensModel" "isThere" "[Z") lk_X5_digest_f7) (fun _ h9 => h9) rfl dX5_digest_96 ?_
                refine lv_iload_n hx hb dX5_digest_99 rfl (lv_at hl 0 rfl) ?_
                obtain ⟨i22, h⟩ := gd_e h
                refine va_zald hx hb hK.1 hP 1 1 rfl rfl i22 dX5_digest_100 ?_
                refine lv_if_eq (tgt := 110) hx hb dX5_digest_101 (by decide) (fun c23 => ?_) (fun c23 => ?_)
                · replace h := ite_t c23 h
                  obtain ⟨x24, e24⟩ : ∃ y : Int32, y = v17_0 + 1 := ⟨_, rfl⟩
                  replace h := nmB_e e24 h
                  refine lv_iinc (v := x24) (lv' := [(2, .int x24), (1, .int v14_0), (0, .ref v_q0)]) hx hb dX5_digest_110 hl (k := 0) rfl (by rw [e24]; rfl) (by decide) rfl (fun ls hl => ?_)
                  refine lv_goto (tgt := 81) hx hb dX5_digest_113 (by decide) ?_
                  exact ih x24 v17_1 v17_2 v17_3 v17_4 u17_0 u17_1 u17_2 u17_3 u17_4 H locs ls h hl hP hD hS kE
                · replace h := ite_f c23 h
                  refine lv_aload_n hx hb dX5_digest_104 rfl (lv_at hl 2 rfl) ?_
                  refine lv_iload_n hx hb dX5_digest_105 rfl (lv_at hl 1 rfl) ?_
                  refine lv_iload_n hx hb dX5_digest_106 rfl (lv_at hl 0 rfl) ?_
                  obtain ⟨r25_0, r25_1, r25_2, r25_3, g25, h⟩ := bnd4_e h
                  refine rwV_same (rest := []) (As := [.int v14_0, .int v17_0]) S (ctX5_mixPair l G v_q0 v_q1 v_q2 v_q3 v_q4 v_q5 v_q6 v_q7 v_q8 v_q9 v_q10 v_q11 v_q12 v_q13 v_q14 v_q15 v_q16 0 v_gain v_size v17_1 v17_2 v17_3 u6_4 v_parts v_isMinus v_readSpot v_isStar v_wantsNumber u6_5 u6_6 u6_7 u6_8 u6_9 u6_10 v17_4 v_isThereA v_vA v_spotOfA v_inMiddleA v_tintsA v_bufferA u6_12 u6_13 v_oldRanksA v_partA v_allRanksA v_basesA u6_14 u6_15 u6_16 u6_17 v14_0 v17_0 r25_0 r25_1 r25_2 r25_3 g25) (cwV 2 hts gX5_digest_X5_mixPair rfl rfl rfl hvX5_mixPair ⟨Nat.le_of_ble_eq_true rfl, Nat.le_of_ble_eq_true rfl⟩) hK hP hD hS xb_triv (fun _ _ _ => trivial) 0 5 rfl rfl rfl rfl hl.1 rfl (Nat.le_of_ble_eq_true rfl) dX5_digest_107 ⟨Nat.le_refl _, Nat.le_refl _⟩ (fun _ H locs hP hD hS => ?_)
                  have hP : va_P G.1 vwCl (wdX5 G v_q0 v_q1 v_q2 v_q3 v_q4 v_q5 v_q6 v_q7 v_q8 v_q9 v_q10 v_q11 v_q12 v_q13 v_q14 v_q15 v_q16 0 v_gain v_size r25_0 r25_1 r25_2 u6_4 v_parts v_isMinus v_readSpot v_isStar v_wantsNumber u6_5 u6_6 u6_7 u6_8 u6_9 u6_10 r25_3 v_isThereA v_vA v_spotOfA v_inMiddleA v_tintsA v_bufferA u6_12 u6_13 v_oldRanksA v_partA v_allRanksA v_basesA u6_14 u6_15 u6_16 u6_17) H := hP
                  have hD : va_D A (wdX5 G v_q0 v_q1 v_q2 v_q3 v_q4 v_q5 v_q6 v_q7 v_q8 v_q9 v_q10 v_q11 v_q12 v_q13 v_q14 v_q15 v_q16 0 v_gain v_size r25_0 r25_1 r25_2 u6_4 v_parts v_isMinus v_readSpot v_isStar v_wantsNumber u6_5 u6_6 u6_7 u6_8 u6_9 u6_10 r25_3 v_isThereA v_vA v_spotOfA v_inMiddleA v_tintsA v_bufferA u6_12 u6_13 v_oldRanksA v_partA v_allRanksA v_basesA u6_14 u6_15 u6_16 u6_17) := hD
                  obtain ⟨x26, e26⟩ : ∃ y : Int32, y = v17_0 + 1 := ⟨_, rfl⟩
                  replace h := nmB_e e26 h
                  refine lv_iinc (v := x26) (lv' := [(2, .int x26), (1, .int v14_0), (0, .ref v_q0)]) hx hb dX5_digest_110 hl (k := 0) rfl (by rw [e26]; rfl) (by decide) rfl (fun ls hl => ?_)
                  refine lv_goto (tgt := 81) hx hb dX5_digest_113 (by decide) ?_
                  exact ih x26 r25_0 r25_1 r25_2 r25_3 u17_0 u17_1 u17_2 u17_3 u17_4 H locs ls h hl hP hD hS kE
        refine L17 FU x16 v14_1 v14_2 v14_3 v14_4 u17_0 u17_1 u17_2 u17_3 u17_4 H locs ls g17 hl hP hD hS (fun H locs ls hl hP hD hS => ?_)
        obtain ⟨x27, e27⟩ : ∃ y : Int32, y = v14_0 + 1 := ⟨_, rfl⟩
        replace h := nmB_e e27 h
        refine lv_iinc (v := x27) (lv' := [(1, .int x27), (2, .int u17_0), (0, .ref v_q0)]) hx hb dX5_digest_116 hl (k := 1) rfl (by rw [e27]; rfl) (by decide) rfl (fun ls hl => ?_)
        refine lv_goto (tgt := 72) hx hb dX5_digest_119 (by decide) ?_
        exact ih x27 u17_1 u17_2 u17_3 u17_4 u14_0 u14_1 u14_2 u14_3 u14_4 H locs ls h (lv_sub hl [0, 2] rfl) hP hD hS kE
  refine L14 FU 0 u6_1 u6_2 u6_3 u6_11 u14_0 u14_1 u14_2 u14_3 u14_4 H locs ls g14 hl hP hD hS (fun H locs ls hl hP hD hS => ?_)
  refine lv_iconst (v := 0) hx hb dX5_digest_122 (by decide) ?_
  refine lv_istore_n (lv' := [(1, .int 0), (0, .ref v_q0)]) hx hb dX5_digest_123 rfl hl (by decide) rfl (fun ls hl => ?_)
  obtain ⟨u28_0, u28_1, g28, h⟩ := bnd2_e h
  have L28 : ∀ (fu : Nat) (v28_0 : Int32) (v28_1 : Int64) (u28_0 : Int32) (u28_1 : Int64) (H : Heap) (locs : List Loc) (ls : Array Slot), mX5_digest_L124 v_size v_bufferA fu v28_0 v28_1 = some (u28_0, u28_1) → lv_has ls 3 [(1, .int v28_0), (0, .ref v_q0)] → va_P G.1 vwCl (wdX5 G v_q0 v_q1 v_q2 v_q3 v_q4 v_q5 v_q6 v_q7 v_q8 v_q9 v_q10 v_q11 v_q12 v_q13 v_q14 v_q15 v_q16 0 v_gain v_size u14_1 u14_2 u14_3 u6_4 v_parts v_isMinus v_readSpot v_isStar v_wantsNumber u6_5 u6_6 u6_7 u6_8 u6_9 u6_10 v28_1 v_isThereA v_vA v_spotOfA v_inMiddleA v_tintsA v_bufferA u6_12 u6_13 v_oldRanksA v_partA v_allRanksA v_basesA u6_14 u6_15 u6_16 u6_17) H → va_D A (wdX5 G v_q0 v_q1 v_q2 v_q3 v_q4 v_q5 v_q6 v_q7 v_q8 v_q9 v_q10 v_q11 v_q12 v_q13 v_q14 v_q15 v_q16 0 v_gain v_size u14_1 u14_2 u14_3 u6_4 v_parts v_isMinus v_readSpot v_isStar v_wantsNumber u6_5 u6_6 u6_7 u6_8 u6_9 u6_10 v28_1 v_isThereA v_vA v_spotOfA v_inMiddleA v_tintsA v_bufferA u6_12 u6_13 v_oldRanksA v_partA v_allRanksA v_basesA u6_14 u6_15 u6_16 u6_17) → va_S A s.heap H locs → (∀ (H : Heap) (locs : List Loc) (ls : Array Slot), lv_has ls 3 [(1, .int u28_0), (0, .ref v_q0)] → va_P G.1 vwCl (wdX5 G v_q0 v_q1 v_q2 v_q3 v_q4 v_q5 v_q6 v_q7 v_q8 v_q9 v_q10 v_q11 v_q12 v_q13 v_q14 v_q15 v_q16 0 v_gain v_size u14_1 u14_2 u14_3 u6_4 v_parts v_isMinus v_readSpot v_isStar v_wantsNumber u6_5 u6_6 u6_7 u6_8 u6_9 u6_10 u28_1 v_isThereA v_vA v_spotOfA v_inMiddleA v_tintsA v_bufferA u6_12 u6_13 v_oldRanksA v_partA v_allRanksA v_basesA u6_14 u6_15 u6_16 u6_17) H → va_D A (wdX5 G v_q0 v_q1 v_q2 v_q3 v_q4 v_q5 v_q6 v_q7 v_q8 v_q9 v_q10 v_q11 v_q12 v_q13 v_q14 v_q15 v_q16 0 v_gain v_size u14_1 u14_2 u14_3 u6_4 v_parts v_isMinus v_readSpot v_isStar v_wantsNumber u6_5 u6_6 u6_7 u6_8 u6_9 u6_10 u28_1 v_isThereA v_vA v_spotOfA v_inMiddleA v_tintsA v_bufferA u6_12 u6_13 v_oldRanksA v_partA v_allRanksA v_basesA u6_14 u6_15 u6_16 u6_17) → va_S A s.heap H locs → W p l e rmX5_digest s m args below meth c H locs 0 0 Q (F0 m 149 ls [])) → W p l e rmX5_digest s m args below meth c H locs 0 0 Q (F0 m 124 ls []) := by
    intro fu
    induction fu with
    | zero => intro v28_0 v28_1 u28_0 u28_1 H locs ls h; exact nomatch h
    | succ fu ih =>
      intro v28_0 v28_1 u28_0 u28_1 H locs ls h hl hP hD hS kE
      rw [mX5_digest_L124] at h
      refine lv_iload_n hx hb dX5_digest_124 rfl (lv_at hl 0 rfl) ?_
      refine lv_aload_n hx hb dX5_digest_125 rfl (lv_at hl 1 rfl) ?_
      refine va_get (D := G.1) (ci := 5) (v := .int v_size) (C := RX5) (T := TX5) (N := 35) hx hb hts fw_X5_digest_X5 hown hK.1 hP 0 rfl rfl 7 (by decide) (hts (.fieldLink RX5 123 "HalftoneScreensModel" "size" "I") lk_X5_digest_f123) (fun _ h9 => h9) rfl dX5_digest_126 ?_
      refine lv_icmp_ge (tgt := 149) hx hb dX5_digest_129 (by decide) (fun c29 => ?_) (fun c29 => ?_)
      · replace h := ite_t c29 h
        obtain ⟨rfl, rfl⟩ := sm2 h
        exact kE H locs ls hl hP hD hS
      · replace h := ite_f c29 h
        refine lv_aload_n hx hb dX5_digest_132 rfl (lv_at hl 1 rfl) ?_
        refine lv_aload_n hx hb dX5_digest_133 rfl (lv_at hl 1 rfl) ?_
        refine va_get (D := G.1) (ci := 5) (v := .ref v_q6) (C := RX5) (T := TX5) (N := 35) hx hb hts fw_X5_digest_X5 hown hK.1 hP 0 rfl rfl 8 (by decide) (hts (.fieldLink RX5 26 "HalftoneScreensModel" "buffer" "[I") lk_X5_digest_f26) (fun _ h9 => h9) rfl dX5_digest_134 ?_
        refine lv_iload_n hx hb dX5_digest_137 rfl (lv_at hl 0 rfl) ?_
        obtain ⟨i30, h⟩ := gd_e h
        refine va_iald hx hb hK.1 hP 6 0 rfl rfl i30 dX5_digest_138 ?_
        refine lv_i2l hx hb dX5_digest_139 rfl ?_
        obtain ⟨r31_0, g31, h⟩ := bnd1_e h
        refine rwV_same (rest := []) (As := [.long (((v_bufferA v28_0.toNatClampNeg)).toInt64)]) S (ctX5_mix l G v_q0 v_q1 v_q2 v_q3 v_q4 v_q5 v_q6 v_q7 v_q8 v_q9 v_q10 v_q11 v_q12 v_q13 v_q14 v_q15 v_q16 0 v_gain v_size u14_1 u14_2 u14_3 u6_4 v_parts v_isMinus v_readSpot v_isStar v_wantsNumber u6_5 u6_6 u6_7 u6_8 u6_9 u6_10 v28_1 v_isThereA v_vA v_spotOfA v_inMiddleA v_tintsA v_bufferA u6_12 u6_13 v_oldRanksA v_partA v_allRanksA v_basesA u6_14 u6_15 u6_16 u6_17 (((v_bufferA v28_0.toNatClampNeg)).toInt64) r31_0 g31) (cwV 1 hts gX5_digest_X5_mix rfl rfl rfl hvX5_mix ⟨Nat.le_of_ble_eq_true rfl, Nat.le_of_ble_eq_true rfl⟩) hK hP hD hS xb_triv (fun _ _ _ => trivial) 0 5 rfl rfl rfl rfl hl.1 rfl (Nat.le_of_ble_eq_true rfl) dX5_digest_140 ⟨Nat.le_refl _, Nat.le_refl _⟩ (fun _ H locs hP hD hS => ?_)
        have hP : va_P G.1 vwCl (wdX5 G v_q0 v_q1 v_q2 v_q3 v_q4 v_q5 v_q6 v_q7 v_q8 v_q9 v_q10 v_q11 v_q12 v_q13 v_q14 v_q15 v_q16 0 v_gain v_size u14_1 u14_2 u14_3 u6_4 v_parts v_isMinus v_readSpot v_isStar v_wantsNumber u6_5 u6_6 u6_7 u6_8 u6_9 u6_10 r31_0 v_isThereA v_vA v_spotOfA v_inMiddleA v_tintsA v_bufferA u6_12 u6_13 v_oldRanksA v_partA v_allRanksA v_basesA u6_14 u6_15 u6_16 u6_17) H := hP
        have hD : va_D A (wdX5 G v_q0 v_q1 v_q2 v_q3 v_q4 v_q5 v_q6 v_q7 v_q8 v_q9 v_q10 v_q11 v_q12 v_q13 v_q14 v_q15 v_q16 0 v_gain v_size u14_1 u14_2 u14_3 u6_4 v_parts v_isMinus v_readSpot v_isStar v_wantsNumber u6_5 u6_6 u6_7 u6_8 u6_9 u6_10 r31_0 v_isThereA v_vA v_spotOfA v_inMiddleA v_tintsA v_bufferA u6_12 u6_13 v_oldRanksA v_partA v_allRanksA v_basesA u6_14 u6_15 u6_16 u6_17) := hD
        obtain ⟨x32, e32⟩ : ∃ y : Int32, y = v28_0 + 1 := ⟨_, rfl⟩
        replace h := nmB_e e32 h
        refine lv_iinc (v := x32) (lv' := [(1, .int x32), (0, .ref v_q0)]) hx hb dX5_digest_143 hl (k := 0) rfl (by rw [e32]; rfl) (by decide) rfl (fun ls hl => ?_)
        refine lv_goto (tgt := 124) hx hb dX5_digest_146 (by decide) ?_
        exact ih x32 r31_0 u28_0 u28_1 H locs ls h hl hP hD hS kE
  refine L28 FU 0 u14_4 u28_0 u28_1 H locs ls g28 hl hP hD hS (fun H locs ls hl hP hD hS => ?_)
  refine lv_aload_n hx hb dX5_digest_149 rfl (lv_at hl 1 rfl) ?_
  refine va_get (D := G.1) (ci := 5) (v := .long u28_1) (C := RX5) (T := TX5) (N := 35) hx hb hts fw_X5_digest_X5 hown hK.1 hP 0 rfl rfl 34 (by decide) (hts (.fieldLink RX5 277 "HalftoneScreensModel" "hash" "J") lk_X5_digest_f277) (fun _ h9 => h9) rfl dX5_digest_150 ?_
  obtain ⟨rfl, rfl, rfl, rfl, rfl, rfl, rfl, rfl, rfl, rfl, rfl, rfl, rfl, rfl, rfl, rfl, rfl, rfl, rfl⟩ := sm19 h
  exact hret _ _ _ _ _ rfl trivial hP hD hS dX5_digest_153
