theorem TT.blind {av : List Value} : FrameBlind (va_Pc av (fun U => TT (fun _ => False) U U.heap)) := fun a U g mk h => ⟨h.1, TT.same (u := U) (U := U.calling g mk a) rfl h.2⟩
-- pure pictures of what is thrown, and contracts (laid by program)
def mxX4_inSlotWithSteps (s_present : Int32) (s_w : Int32) (s_h : Int32) (a1 : Int32) : Option (Nat) :=
    if s_present = 0 then (some (2))
    else (if a1 < 0 then (some (1))
    else (bnd1 (mX3_area s_w s_h) fun r4_0 =>
    if r4_0 < a1 then (some (1))
    else (none)))
def mxX4_append (input_length : Int32) (a0 : Int32) : Option (Nat) :=
    jB (fun (j1_0 : Int32) =>
    if j1_0 = 0 then (some (1))
    else (if 20 ≤ input_length then (some (2))
    else (none))) fun K1 =>
    if a0 < 32 then (K1 0)
    else (if 126 < a0 then (K1 0)
    else (K1 1))
def mxX4_load (input_length : Int32) (input_codesA : (Nat → Int32)) (input_partsA : (Nat → Int32)) : Option (Nat × Int32 × Int32 × Int32 × Int32 × Int32 × (Nat → Int32)) :=
    bnd7 (mX1_isComplete input_length input_codesA input_partsA) fun r1_0 r1_1 r1_2 r1_3 r1_4 r1_5 r1_6 =>
    if r1_0 = 0 then (some (2, r1_1, r1_2, r1_3, r1_4, r1_5, r1_6))
    else (bnd1 (mX4_at 4 r1_6 0) fun r3_0 =>
    bnd1 (mX4_at 4 r1_6 1) fun r4_0 =>
    bnd1 (mX4_at 4 r1_6 2) fun r5_0 =>
    bnd1 (mX4_at 4 r1_6 3) fun r6_0 =>
    bnd1 (mX4_areaOf r3_0 r4_0 r5_0 r6_0) fun r7_0 =>
    bnd1 (mX4_isArea r7_0) fun r8_0 =>
    if r8_0 = 0 then (some (1, r1_1, r1_2, r1_3, r1_4, r1_5, r1_6))
    else (none))
def mxX4_setScreen (a1 : Int32) (a2 : Int32) (a3 : Int32) (a4 : Int32) (a5 : Int32) : Option (Nat) :=
    bnd1 (mX4_isComponent a1) fun r1_0 =>
    jB (fun (j2_0 : Int32) =>
    if j2_0 = 0 then (some (1))
    else (jB (fun (j11_0 : Int32) =>
    if j11_0 = 0 then (some (1))
    else (bnd1 (mX4_areaOf a1 a2 a3 a4) fun r15_0 =>
    bnd1 (mX4_isArea r15_0) fun r16_0 =>
    if r16_0 = 0 then (some (1))
    else (none))) fun K11 =>
    if a5 < 0 then (K11 0)
    else (if 4 < a5 then (K11 0)
    else (K11 1)))) fun K2 =>
    if r1_0 = 0 then (K2 0)
    else (bnd1 (mX4_isComponent a2) fun r4_0 =>
    if r4_0 = 0 then (K2 0)
    else (bnd1 (mX4_isComponent a3) fun r6_0 =>
    if r6_0 = 0 then (K2 0)
    else (bnd1 (mX4_isComponent a4) fun r8_0 =>
    if r8_0 = 0 then (K2 0)
    else (K2 1))))
def mxX4_remove (s_present : Int32) : Option (Nat) :=
    if s_present = 0 then (some (2))
    else (none)
def mxX4_setCenter (s_present : Int32) : Option (Nat) :=
    if s_present = 0 then (some (2))
    else (none)
def mxX4_turn (s_present : Int32) (a1 : Int32) : Option (Nat) :=
    jB (fun (j1_0 : Int32) =>
    if j1_0 = 0 then (some (1))
    else (if s_present = 0 then (some (2))
    else (none))) fun K1 =>
    if a1 < 0 then (K1 0)
    else (if 2 < a1 then (K1 0)
    else (K1 1))
def mxX4_shorten (s_present : Int32) : Option (Nat) :=
    if s_present = 0 then (some (2))
    else (none)
def mxX4_setTint (s_present : Int32) (s_w : Int32) (s_h : Int32) (a1 : Int32) : Option (Nat) :=
    bnd1 (mxX4_inSlotWithSteps s_present s_w s_h a1) fun r1 =>
    some (r1)
def mxX4_screen (s_present : Int32) (a1 : Int32) : Option (Nat) :=
    jB (fun (j1_0 : Int32) =>
    if j1_0 = 0 then (some (1))
    else (if s_present = 0 then (some (2))
    else (none))) fun K1 =>
    if a1 < 0 then (K1 0)
    else (if 10 < a1 then (K1 0)
    else (K1 1))
def mxX4_place (s_present : Int32) (a1 : Int32) (a2 : Int32) : Option (Nat) :=
    bnd1 (mX4_isPosition a1) fun r1_0 =>
    jB (fun (j2_0 : Int32) =>
    if j2_0 = 0 then (some (1))
    else (if s_present = 0 then (some (2))
    else (none))) fun K2 =>
    if r1_0 = 0 then (K2 0)
    else (bnd1 (mX4_isPosition a2) fun r4_0 =>
    if r4_0 = 0 then (K2 0)
    else (K2 1))
def mxX4_growth (s_present : Int32) (s_w : Int32) (s_h : Int32) (a1 : Int32) (a2 : Int32) : Option (Nat) :=
    jB (fun (j1_0 : Int32) =>
    if j1_0 = 0 then (some (1))
    else (bnd1 (mX3_hasPlace s_present s_w s_h a1) fun r5_0 =>
    if r5_0 = 0 then (some (2))
    else (none))) fun K1 =>
    if a2 = 0 then (K1 1)
    else (if a2 = 1 then (K1 1)
    else (K1 0))
def mxX4_placeOf (s_present : Int32) (s_w : Int32) (s_h : Int32) (a1 : Int32) : Option (Nat) :=
    bnd1 (mX3_hasPlace s_present s_w s_h a1) fun r1_0 =>
    if r1_0 = 0 then (some (2))
    else (none)
def mxX4_inked (s_present : Int32) (a1 : Int32) (a2 : Int32) (a3 : Int32) (a4 : Int32) : Option (Nat) :=
    bnd1 (mX4_isPosition a1) fun r1_0 =>
    jB (fun (j2_0 : Int32) =>
    if j2_0 = 0 then (some (1))
    else (if s_present = 0 then (some (2))
    else (none))) fun K2 =>
    if r1_0 = 0 then (K2 0)
    else (bnd1 (mX4_isPosition a2) fun r4_0 =>
    if r4_0 = 0 then (K2 0)
    else (bnd1 (mX4_isSide a3) fun r6_0 =>
    if r6_0 = 0 then (K2 0)
    else (bnd1 (mX4_isSide a4) fun r8_0 =>
    if r8_0 = 0 then (K2 0)
    else (K2 1))))
def mxX4_dots (s_present : Int32) (s_w : Int32) (s_h : Int32) (a1 : Int32) : Option (Nat) :=
    bnd1 (mxX4_inSlotWithSteps s_present s_w s_h a1) fun r1 =>
    some (r1)
def mxX4_joined (s_present : Int32) (s_w : Int32) (s_h : Int32) (a1 : Int32) : Option (Nat) :=
    bnd1 (mxX4_inSlotWithSteps s_present s_w s_h a1) fun r1 =>
    some (r1)
def mxX4_firstJoined (s_present : Int32) (a1 : Int32) : Option (Nat) :=
    jB (fun (j1_0 : Int32) =>
    if j1_0 = 0 then (some (1))
    else (if s_present = 0 then (some (2))
    else (none))) fun K1 =>
    if a1 = 1 then (K1 1)
    else (if a1 = 2 then (K1 1)
    else (K1 0))
def mxX4_strength (s_present : Int32) (s_w : Int32) (s_h : Int32) (a1 : Int32) : Option (Nat) :=
    bnd1 (mxX4_inSlotWithSteps s_present s_w s_h a1) fun r1 =>
    some (r1)
def mxX4_meanStrength (s_present : Int32) : Option (Nat) :=
    if s_present = 0 then (some (2))
    else (none)
def mxX4_compensated (s_present : Int32) (a1 : Int32) : Option (Nat) :=
    jB (fun (j1_0 : Int32) =>
    if j1_0 = 0 then (some (1))
    else (if s_present = 0 then (some (2))
    else (none))) fun K1 =>
    if a1 < 0 then (K1 0)
    else (if 100 < a1 then (K1 0)
    else (K1 1))
def mxX4_setGain (a0 : Int32) : Option (Nat) :=
    if a0 < 0 then (some (1))
    else (if 100 < a0 then (some (1))
    else (none))
def mxX4_pixel (a0 : Int32) (a1 : Int32) : Option (Nat) :=
    bnd1 (mX4_isPosition a0) fun r1_0 =>
    if r1_0 = 0 then (some (1))
    else (bnd1 (mX4_isPosition a1) fun r4_0 =>
    if r4_0 = 0 then (some (1))
    else (none))
def mxX4_count (a0 : Int32) : Option (Nat) :=
    jB (fun (j1_0 : Int32) =>
    if j1_0 = 0 then (some (1))
    else (none)) fun K1 =>
    if a0 < 0 then (K1 0)
    else (if 4 < a0 then (K1 0)
    else (K1 1))
def mxX4_period (s0_present : Int32) (s1_present : Int32) (s2_present : Int32) (a0 : Int32) (a1 : Int32) : Option (Nat) :=
    jB (fun (j1_0 : Int32) =>
    if j1_0 = 0 then (some (1))
    else (jB (fun (j5_0 : Int32) =>
    if j5_0 = 0 then (some (1))
    else (bnd1 (mX4_presentSlots s0_present s1_present s2_present) fun r9_0 =>
    jB (fun (j10_0 : Int32) =>
    if j10_0 = 0 then (some (2))
    else (none)) fun K10 =>
    if (a0 &&& r9_0) = a0 then (K10 1)
    else (K10 0))) fun K5 =>
    if a1 < 0 then (K5 0)
    else (if 3 < a1 then (K5 0)
    else (K5 1)))) fun K1 =>
    if a0 < 1 then (K1 0)
    else (if 8 ≤ a0 then (K1 0)
    else (K1 1))
def mxX4_beat (s_present : Int32) (t_present : Int32) (a2 : Int32) : Option (Nat) :=
    jB (fun (j1_0 : Int32) =>
    if j1_0 = 0 then (some (1))
    else (jB (fun (j5_0 : Int32) =>
    if j5_0 = 0 then (some (2))
    else (none)) fun K5 =>
    if s_present = 0 then (K5 0)
    else (if t_present = 0 then (K5 0)
    else (K5 1)))) fun K1 =>
    if a2 < 0 then (K1 0)
    else (if 3 < a2 then (K1 0)
    else (K1 1))
def mxX4_mixture (found_w : Int32) (found_s : Int32) (found_h : Int32) (s0_present : Int32) (s0_w : Int32) (s0_s : Int32) (s0_h : Int32) (s1_present : Int32) (s1_w : Int32) (s1_s : Int32) (s1_h : Int32) (s2_present : Int32) (s2_w : Int32) (s2_s : Int32) (s2_h : Int32) (a0 : Int32) : Option (Nat × Int32 × Int32 × Int32) :=
    jB (fun (j1_0 : Int32) =>
    if j1_0 = 0 then (some (1, found_w, found_s, found_h))
    else (bnd1 (mX4_presentSlots s0_present s1_present s2_present) fun r5_0 =>
    jB (fun (j6_0 : Int32) =>
    if j6_0 = 0 then (some (2, found_w, found_s, found_h))
    else (bnd3 (mX4_findPeriod s0_w s0_s s0_h s1_w s1_s s1_h s2_w s2_s s2_h r5_0) fun r9_0 r9_1 r9_2 =>
    bnd1 (mX2_area r9_0 r9_2) fun r10_0 =>
    jB (fun (j11_0 : Int32) =>
    if j11_0 = 0 then (some (2, r9_0, r9_1, r9_2))
    else (none)) fun K11 =>
    if 4096 < r10_0 then (K11 0)
    else (K11 1))) fun K6 =>
    if r5_0 = 0 then (K6 0)
    else (K6 1))) fun K1 =>
    if a0 < 0 then (K1 0)
    else (if 8 ≤ a0 then (K1 0)
    else (K1 1))
def mxX4_nearest (a0 : Int32) (a1 : Int32) (a2 : Int32) (a3 : Int32) : Option (Nat) :=
    jB (fun (j1_0 : Int32) =>
    if j1_0 = 0 then (some (1))
    else (jB (fun (j7_0 : Int32) =>
    if j7_0 = 0 then (some (1))
    else (none)) fun K7 =>
    if a2 < 1 then (K7 0)
    else (if 128 < a2 then (K7 0)
    else (if a3 < 0 then (K7 0)
    else (if 2 < a3 then (K7 0)
    else (K7 1)))))) fun K1 =>
    if a0 < 0 then (K1 0)
    else (if 1000 < a0 then (K1 0)
    else (if a1 < 1 then (K1 0)
    else (if 1000 < a1 then (K1 0)
    else (K1 1))))
abbrev rxX4_inSlotWithStepso : Room := { frames := 7, cells := 1, slots := 6, locals := 111 }
set_option maxHeartbeats 4000000 in
set_option maxRecDepth 100000 in
theorem cxX4_inSlotWithStepso (l : Launch) (hfl : l.stackTraces = false) (G : GG) (x_q0 : Nat) (x_q1 : Nat) (q_input : Nat) (q_spread : Nat) (q_found : Nat) (x_gain : Int32) (q_s0 : Nat) (q_s1 : Nat) (q_s2 : Nat) (a0 : Int32) (a1 : Int32)   (ho_a0 : a0 < 0 ∨ 3 ≤ a0) : vx_Met l yX4_inSlotWithSteps wsX4_inSlotWithSteps rxX4_inSlotWithStepso (va_Pc [.ref x_q0, .int a0, .int a1] (PreT G (wdX4 G x_q0 x_q1 q_input q_spread q_found q_s0 q_s1 q_s2 x_gain))) NoQ (XT0 3) 1 6 (fun _ => False) := by
  refine of_tr (cc := cX4_inSlotWithSteps) (maxL := 4) (ret := (some (.object "HalftoneScreens$Screen"))) (by decide) rfl (Nat.le_of_ble_eq_true rfl) ?_
  intro p e s m args below meth c ls Q S hl hP hK hT hthr
  have S : CallFix p m c cX4_inSlotWithSteps 4 s args wsX4_inSlotWithSteps RX4 := S
  obtain ⟨hx, hb, hml, hown, hts⟩ := id S
  have hl : lv_has ls 4 [(0, .ref x_q0), (1, .int a0), (2, .int a1)] := hl
  skip
  refine lv_aload_n hx hb dX4_inSlotWithSteps_0 rfl (lv_at hl 0 rfl) ?_
  refine lv_iload_n hx hb dX4_inSlotWithSteps_1 rfl (lv_at hl 1 rfl) ?_
  exact thrV (rest := []) (As := [.int a0]) S (cxX4_inSlot l hfl G x_q0 x_q1 q_input q_spread q_found q_s0 q_s1 q_s2 x_gain a0 ho_a0) (cwV 1 hts gX4_inSlotWithSteps_X4_inSlot rfl rfl rfl hvX4_inSlot ⟨Nat.le_of_ble_eq_true rfl, Nat.le_of_ble_eq_true rfl⟩) hK hT hP [0, 1] rfl 0 4 rfl rfl rfl rfl hl.1 rfl (Nat.le_of_ble_eq_true rfl) dX4_inSlotWithSteps_2 ⟨Nat.le_of_ble_eq_true rfl, Nat.le_of_ble_eq_true rfl⟩ (fun H1 locs1 q ce hk hz h1 h2 h3 => hthr _ _ _ _ H1 locs1 q ce rfl hk hz h1 h2 h3)
theorem fwx_X4_inSlotWithSteps_X3 : ∀ w ∈ wsX30, w ∈ wsX4_inSlotWithSteps := fun w h => List.mem_cons_of_mem _ (List.mem_append_left _ (List.mem_append_left _ (List.mem_append_left _ (List.mem_append_left _ (List.mem_append_left _ (List.mem_append_right _ h))))))
theorem lkx_X4_inSlotWithSteps_f100 : Cond.fieldLink RX4 100 "HalftoneScreens$Screen" "present" "Z" ∈ wsX4_inSlotWithSteps := List.mem_of_getElem? (i := 1) rfl
abbrev rxX4_inSlotWithSteps : Room := { frames := 7, cells := 1, slots := 6, locals := 111 }
set_option maxHeartbeats 4000000 in
set_option maxRecDepth 100000 in
theorem cxX4_inSlotWithSteps (l : Launch) (hfl : l.stackTraces = false) (G : GG) (x_q0 : Nat) (x_q1 : Nat) (s_q0 : Nat) (s_q1 : Nat) (s_q2 : Nat) (s_q3 : Nat) (s_q4 : Nat) (s_q5 : Nat) (s_q6 : Nat) (s_q7 : Nat) (q_input : Nat) (q_spread : Nat) (q_found : Nat) (x_gain : Int32) (q_s0 : Nat) (q_s1 : Nat) (q_s2 : Nat) (s_present : Int32) (s_a : Int32) (s_b : Int32) (s_c : Int32) (s_d : Int32) (s_spot : Int32) (s_middle : Int32) (s_tint : Int32) (s_w : Int32) (s_s : Int32) (s_h : Int32) (s_valuesA : (Nat → Int32)) (s_otherValuesA : (Nat → Int32)) (s_ranksA : (Nat → Int32)) (s_oldRanksA : (Nat → Int32)) (s_orderA : (Nat → Int32)) (s_neighborsA : (Nat → Int32)) (a0 : Int32) (a1 : Int32) (o0 : Nat) (h : mxX4_inSlotWithSteps s_present s_w s_h a1 = some (o0))  (k_s : Nat) (hk_s : k_s < 3) (hs_s : a0 = nI k_s) (he_s : scF q_s0 q_s1 q_s2 k_s = some s_q0) : vx_Met l yX4_inSlotWithSteps wsX4_inSlotWithSteps rxX4_inSlotWithSteps (va_Pc [.ref x_q0, .int a0, .int a1] (PreT G (wdX4 G x_q0 x_q1 q_input q_spread q_found q_s0 q_s1 q_s2 x_gain ++ wdX3 G s_q0 s_q1 s_q2 s_q3 s_q4 s_q5 s_q6 s_q7 s_present s_a s_b s_c s_d s_spot s_middle s_tint s_w s_s s_h s_valuesA s_otherValuesA s_ranksA s_oldRanksA s_orderA s_neighborsA))) NoQ (XT0 o0) 1 6 (fun _ => False) := by
  refine of_tr (cc := cX4_inSlotWithSteps) (maxL := 4) (ret := (some (.object "HalftoneScreens$Screen"))) (by decide) rfl (Nat.le_of_ble_eq_true rfl) ?_
  intro p e s m args below meth c ls Q S hl hP hK hT hthr
  have S : CallFix p m c cX4_inSlotWithSteps 4 s args wsX4_inSlotWithSteps RX4 := S
  obtain ⟨hx, hb, hml, hown, hts⟩ := id S
  have hl : lv_has ls 4 [(0, .ref x_q0), (1, .int a0), (2, .int a1)] := hl
  unfold mxX4_inSlotWithSteps at h
  refine lv_aload_n hx hb dX4_inSlotWithSteps_0 rfl (lv_at hl 0 rfl) ?_
  refine lv_iload_n hx hb dX4_inSlotWithSteps_1 rfl (lv_at hl 1 rfl) ?_
  refine roVq1 (rest := []) (As := [.int a0]) S (ctX4_inSlot l G x_q0 x_q1 q_input q_spread q_found q_s0 q_s1 q_s2 x_gain a0 s_q0 k_s hk_s hs_s he_s) (cwV 1 hts gX4_inSlotWithSteps_X4_inSlot rfl rfl rfl hvX4_inSlot ⟨Nat.le_of_ble_eq_true rfl, Nat.le_of_ble_eq_true rfl⟩) hK hP [0, 1] rfl 0 4 rfl rfl rfl rfl hl.1 rfl (Nat.le_of_ble_eq_true rfl) dX4_inSlotWithSteps_2 ⟨Nat.zero_le _, Nat.zero_le _⟩ ?_
  refine lv_astore_n (lv' := [(3, .ref s_q0), (0, .ref x_q0), (1, .int a0), (2, .int a1)]) hx hb dX4_inSlotWithSteps_5 rfl hl (by decide) rfl (fun ls hl => ?_)
  refine lv_aload_n hx hb dX4_inSlotWithSteps_6 rfl (lv_at hl 0 rfl) ?_
  refine va_get (D := G.1) (ci := 3) (v := .int s_present) (C := RX3) (T := TX3) (N := 15) hx hb hts fwx_X4_inSlotWithSteps_X3 hown hK.1 hP 2 rfl rfl 7 (by decide) (hts (.fieldLink RX4 100 "HalftoneScreens$Screen" "present" "Z") lkx_X4_inSlotWithSteps_f100) (fun _ h9 => h9) rfl dX4_inSlotWithSteps_7 ?_
  by_cases c1 : s_present = 0
  · replace h := ite_t c1 h
    obtain rfl := sm1 h
    subst c1
    exact thrS (rest := []) (As := [.int 0]) S (cxX4_needState l hfl) (va_cwS 1 hts gX4_inSlotWithSteps_X4_needState rfl rfl rfl hsX4_needState ⟨Nat.le_of_ble_eq_true rfl, Nat.le_of_ble_eq_true rfl⟩) TT.blind (fun U hU hW => by rw [hU]; exact TT.warm hW hT) rfl hl.1 rfl (Nat.le_of_ble_eq_true rfl) dX4_inSlotWithSteps_10 ⟨Nat.le_of_ble_eq_true rfl, Nat.le_of_ble_eq_true rfl⟩ (fun H1 locs1 q ce hk hz h1 h2 h3 => hthr _ _ _ _ H1 locs1 q ce rfl hk hz h1 h2 h3)
  · replace h := ite_f c1 h
    refine roSv1 (rest := []) (As := [.int s_present]) S (ctX4_needState l s_present c1) (va_cwS 1 hts gX4_inSlotWithSteps_X4_needState rfl rfl rfl hsX4_needState ⟨Nat.le_of_ble_eq_true rfl, Nat.le_of_ble_eq_true rfl⟩) rfl hl.1 rfl (Nat.le_of_ble_eq_true rfl) dX4_inSlotWithSteps_10 ⟨Nat.zero_le _, Nat.zero_le _⟩ ?_
    refine lv_iload_n hx hb dX4_inSlotWithSteps_13 rfl (lv_at hl 3 rfl) ?_
    refine lv_if_lt (tgt := 29) hx hb dX4_inSlotWithSteps_14 (by decide) (fun c2 => ?_) (fun c2 => ?_)
    · replace h := ite_t c2 h
      refine lv_iconst (v := 0) hx hb dX4_inSlotWithSteps_29 (by decide) ?_
      obtain rfl := sm1 h
      exact thrS (rest := []) (As := [.int 0]) S (cxX4_needArgument l hfl) (va_cwS 1 hts gX4_inSlotWithSteps_X4_needArgument rfl rfl rfl hsX4_needArgument ⟨Nat.le_of_ble_eq_true rfl, Nat.le_of_ble_eq_true rfl⟩) TT.blind (fun U hU hW => by rw [hU]; exact TT.warm hW hT) rfl hl.1 rfl (Nat.le_of_ble_eq_true rfl) dX4_inSlotWithSteps_30 ⟨Nat.le_of_ble_eq_true rfl, Nat.le_of_ble_eq_true rfl⟩ (fun H1 locs1 q ce hk hz h1 h2 h3 => hthr _ _ _ _ H1 locs1 q ce rfl hk hz h1 h2 h3)
    · replace h := ite_f c2 h
      refine lv_iload_n hx hb dX4_inSlotWithSteps_17 rfl (lv_at hl 3 rfl) ?_
      refine lv_aload_n hx hb dX4_inSlotWithSteps_18 rfl (lv_at hl 0 rfl) ?_
      obtain ⟨r4_0, g4, h⟩ := bnd1_e h
      refine roVi1 (rest := [.int a1]) (As := []) S (ctX3_area l G s_q0 s_q1 s_q2 s_q3 s_q4 s_q5 s_q6 s_q7 s_present s_a s_b s_c s_d s_spot s_middle s_tint s_w s_s s_h s_valuesA s_otherValuesA s_ranksA s_oldRanksA s_orderA s_neighborsA r4_0 g4) (cwV 0 hts gX4_inSlotWithSteps_X3_area rfl rfl rfl hvX3_area ⟨Nat.le_of_ble_eq_true rfl, Nat.le_of_ble_eq_true rfl⟩) hK hP [2, 3, 4, 5, 6, 7, 8, 9] rfl 2 3 rfl rfl rfl rfl hl.1 rfl (Nat.le_of_ble_eq_true rfl) dX4_inSlotWithSteps_19 ⟨Nat.zero_le _, Nat.zero_le _⟩ (fun _ => ?_)
      refine lv_icmp_gt (tgt := 29) hx hb dX4_inSlotWithSteps_22 (by decide) (fun c5 => ?_) (fun c5 => ?_)
      · replace h := ite_t c5 h
        refine lv_iconst (v := 0) hx hb dX4_inSlotWithSteps_29 (by decide) ?_
        obtain rfl := sm1 h
        exact thrS (rest := []) (As := [.int 0]) S (cxX4_needArgument l hfl) (va_cwS 1 hts gX4_inSlotWithSteps_X4_needArgument rfl rfl rfl hsX4_needArgument ⟨Nat.le_of_ble_eq_true rfl, Nat.le_of_ble_eq_true rfl⟩) TT.blind (fun U hU hW => by rw [hU]; exact TT.warm hW hT) rfl hl.1 rfl (Nat.le_of_ble_eq_true rfl) dX4_inSlotWithSteps_30 ⟨Nat.le_of_ble_eq_true rfl, Nat.le_of_ble_eq_true rfl⟩ (fun H1 locs1 q ce hk hz h1 h2 h3 => hthr _ _ _ _ H1 locs1 q ce rfl hk hz h1 h2 h3)
      · replace h := ite_f c5 h
        refine lv_iconst (v := 1) hx hb dX4_inSlotWithSteps_25 (by decide) ?_
        refine lv_goto (tgt := 30) hx hb dX4_inSlotWithSteps_26 (by decide) ?_
        refine roSv1 (rest := []) (As := [.int 1]) S (ctX4_needArgument l 1 (by decide)) (va_cwS 1 hts gX4_inSlotWithSteps_X4_needArgument rfl rfl rfl hsX4_needArgument ⟨Nat.le_of_ble_eq_true rfl, Nat.le_of_ble_eq_true rfl⟩) rfl hl.1 rfl (Nat.le_of_ble_eq_true rfl) dX4_inSlotWithSteps_30 ⟨Nat.zero_le _, Nat.zero_le _⟩ ?_
        exact nomatch h
theorem fwx_X4_append_X4 : ∀ w ∈ wsX40, w ∈ wsX4_append := fun w h => List.mem_cons_of_mem _ (List.mem_append_left _ (List.mem_append_left _ (List.mem_append_left _ (List.mem_append_right _ h))))
theorem lkx_X4_append_f18 : Cond.fieldLink RX4 18 "HalftoneScreens" "input" "LHalftoneScreens$Input;" ∈ wsX4_append := List.mem_of_getElem? (i := 1) rfl
theorem fwx_X4_append_X1 : ∀ w ∈ wsX10, w ∈ wsX4_append := fun w h => List.mem_cons_of_mem _ (List.mem_append_left _ (List.mem_append_left _ (List.mem_append_right _ h)))
theorem lkx_X4_append_f41 : Cond.fieldLink RX4 41 "HalftoneScreens$Input" "length" "I" ∈ wsX4_append := List.mem_of_getElem? (i := 2) rfl
abbrev rxX4_append : Room := { frames := 7, cells := 1, slots := 6, locals := 110 }
set_option maxHeartbeats 4000000 in
set_option maxRecDepth 100000 in
theorem cxX4_append (l : Launch) (hfl : l.stackTraces = false) (G : GG) (x_q0 : Nat) (x_q1 : Nat) (input_q0 : Nat) (input_q1 : Nat) (input_q2 : Nat) (q_spread : Nat) (q_found : Nat) (x_gain : Int32) (q_s0 : Nat) (q_s1 : Nat) (q_s2 : Nat) (input_length : Int32) (input_phase : Int32) (input_part : Int32) (input_negative : Int32) (input_spot : Int32) (input_middle : Int32) (input_codesA : (Nat → Int32)) (input_partsA : (Nat → Int32)) (a0 : Int32) (o0 : Nat) (h : mxX4_append input_length a0 = some (o0))  : vx_Met l yX4_append wsX4_append rxX4_append (va_Pc [.ref x_q0, .int a0] (PreT G (wdX4 G x_q0 x_q1 input_q0 q_spread q_found q_s0 q_s1 q_s2 x_gain ++ wdX1 G input_q0 input_q1 input_q2 input_length input_phase input_part input_negative input_spot input_middle input_codesA input_partsA))) NoQ (XT0 o0) 1 6 (fun _ => False) := by
  refine of_tr (cc := cX4_append) (maxL := 2) (ret := (some .int)) (by decide) rfl (Nat.le_of_ble_eq_true rfl) ?_
  intro p e s m args below meth c ls Q S hl hP hK hT hthr
  have S : CallFix p m c cX4_append 2 s args wsX4_append RX4 := S
  obtain ⟨hx, hb, hml, hown, hts⟩ := id S
  have hl : lv_has ls 2 [(0, .ref x_q0), (1, .int a0)] := hl
  unfold mxX4_append at h
  refine lv_iload_n hx hb dX4_append_0 rfl (lv_at hl 1 rfl) ?_
  refine lv_bipush (v := 32) hx hb dX4_append_1 (by decide) ?_
  obtain ⟨K1, hK1, h⟩ := jB1_e h
  have J1 : ∀ (j1_0 : Int32) (jz1_0 : isZ j1_0) (ls : Array Slot), K1 j1_0 = some (o0) → lv_has ls 2 [(0, .ref x_q0), (1, .int a0)] → W p l e rxX4_append s m args below meth c s.heap [] 0 0 Q (F0 m 17 ls [.int j1_0]) := by
    intro j1_0 jz1_0 ls h hl
    replace h := (hK1 j1_0).symm.trans h
    by_cases c4 : j1_0 = 0
    · replace h := ite_t c4 h
      obtain rfl := sm1 h
      subst c4
      exact thrS (rest := []) (As := [.int 0]) S (cxX4_needArgument l hfl) (va_cwS 1 hts gX4_append_X4_needArgument rfl rfl rfl hsX4_needArgument ⟨Nat.le_of_ble_eq_true rfl, Nat.le_of_ble_eq_true rfl⟩) TT.blind (fun U hU hW => by rw [hU]; exact TT.warm hW hT) rfl hl.1 rfl (Nat.le_of_ble_eq_true rfl) dX4_append_17 ⟨Nat.le_of_ble_eq_true rfl, Nat.le_of_ble_eq_true rfl⟩ (fun H1 locs1 q ce hk hz h1 h2 h3 => hthr _ _ _ _ H1 locs1 q ce rfl hk hz h1 h2 h3)
    · replace h := ite_f c4 h
      refine roSv1 (rest := []) (As := [.int j1_0]) S (ctX4_needArgument l j1_0 c4) (va_cwS 1 hts gX4_append_X4_needArgument rfl rfl rfl hsX4_needArgument ⟨Nat.le_of_ble_eq_true rfl, Nat.le_of_ble_eq_true rfl⟩) rfl hl.1 rfl (Nat.le_of_ble_eq_true rfl) dX4_append_17 ⟨Nat.zero_le _, Nat.zero_le _⟩ ?_
      refine lv_aload_n hx hb dX4_append_20 rfl (lv_at hl 0 rfl) ?_
      refine va_get (D := G.1) (ci := 4) (v := .ref input_q0) (C := RX4) (T := TX4) (N := 5) hx hb hts fwx_X4_append_X4 hown hK.1 hP 0 rfl rfl 1 (by decide) (hts (.fieldLink RX4 18 "HalftoneScreens" "input" "LHalftoneScreens$Input;") lkx_X4_append_f18) (fun _ h9 => h9) rfl dX4_append_21 ?_
      refine va_get (D := G.1) (ci := 1) (v := .int input_length) (C := RX1) (T := TX1) (N := 8) hx hb hts fwx_X4_append_X1 hown hK.1 hP 2 rfl rfl 2 (by decide) (hts (.fieldLink RX4 41 "HalftoneScreens$Input" "length" "I") lkx_X4_append_f41) (fun _ h9 => h9) rfl dX4_append_24 ?_
      refine lv_bipush (v := 20) hx hb dX4_append_27 (by decide) ?_
      refine lv_icmp_ge (tgt := 36) hx hb dX4_append_29 (by decide) (fun c5 => ?_) (fun c5 => ?_)
      · replace h := ite_t c5 h
        refine lv_iconst (v := 0) hx hb dX4_append_36 (by decide) ?_
        obtain rfl := sm1 h
        exact thrS (rest := []) (As := [.int 0]) S (cxX4_needState l hfl) (va_cwS 1 hts gX4_append_X4_needState rfl rfl rfl hsX4_needState ⟨Nat.le_of_ble_eq_true rfl, Nat.le_of_ble_eq_true rfl⟩) TT.blind (fun U hU hW => by rw [hU]; exact TT.warm hW hT) rfl hl.1 rfl (Nat.le_of_ble_eq_true rfl) dX4_append_37 ⟨Nat.le_of_ble_eq_true rfl, Nat.le_of_ble_eq_true rfl⟩ (fun H1 locs1 q ce hk hz h1 h2 h3 => hthr _ _ _ _ H1 locs1 q ce rfl hk hz h1 h2 h3)
      · replace h := ite_f c5 h
        refine lv_iconst (v := 1) hx hb dX4_append_32 (by decide) ?_
        refine lv_goto (tgt := 37) hx hb dX4_append_33 (by decide) ?_
        refine roSv1 (rest := []) (As := [.int 1]) S (ctX4_needState l 1 (by decide)) (va_cwS 1 hts gX4_append_X4_needState rfl rfl rfl hsX4_needState ⟨Nat.le_of_ble_eq_true rfl, Nat.le_of_ble_eq_true rfl⟩) rfl hl.1 rfl (Nat.le_of_ble_eq_true rfl) dX4_append_37 ⟨Nat.zero_le _, Nat.zero_le _⟩ ?_
        exact nomatch h
  refine lv_icmp_lt (tgt := 16) hx hb dX4_append_3 (by decide) (fun c2 => ?_) (fun c2 => ?_)
  · replace h := ite_t c2 h
    refine lv_iconst (v := 0) hx hb dX4_append_16 (by decide) ?_
    exact J1 0 isZ0 ls h hl
  · replace h := ite_f c2 h
    refine lv_iload_n hx hb dX4_append_6 rfl (lv_at hl 1 rfl) ?_
    refine lv_bipush (v := 126) hx hb dX4_append_7 (by decide) ?_
    refine lv_icmp_gt (tgt := 16) hx hb dX4_append_9 (by decide) (fun c3 => ?_) (fun c3 => ?_)
    · replace h := ite_t c3 h
      refine lv_iconst (v := 0) hx hb dX4_append_16 (by decide) ?_
      exact J1 0 isZ0 ls h hl
    · replace h := ite_f c3 h
      refine lv_iconst (v := 1) hx hb dX4_append_12 (by decide) ?_
      refine lv_goto (tgt := 17) hx hb dX4_append_13 (by decide) ?_
      exact J1 1 isZ1 ls h hl
abbrev rxX4_loado : Room := { frames := 7, cells := 1, slots := 6, locals := 111 }
set_option maxHeartbeats 4000000 in
set_option maxRecDepth 100000 in
theorem cxX4_loado (l : Launch) (hfl : l.stackTraces = false) (G : GG) (x_q0 : Nat) (x_q1 : Nat) (q_input : Nat) (q_spread : Nat) (q_found : Nat) (x_gain : Int32) (q_s0 : Nat) (q_s1 : Nat) (q_s2 : Nat) (a0 : Int32)   (ho_a0 : a0 < 0 ∨ 3 ≤ a0) : vx_Met l yX4_load wsX4_load rxX4_loado (va_Pc [.ref x_q0, .int a0] (PreT G (wdX4 G x_q0 x_q1 q_input q_spread q_found q_s0 q_s1 q_s2 x_gain))) NoQ (XT0 3) 1 6 (fun _ => False) := by
  refine of_tr (cc := cX4_load) (maxL := 7) (ret := (some .int)) (by decide) rfl (Nat.le_of_ble_eq_true rfl) ?_
  intro p e s m args below meth c ls Q S hl hP hK hT hthr
  have S : CallFix p m c cX4_load 7 s args wsX4_load RX4 := S
  obtain ⟨hx, hb, hml, hown, hts⟩ := id S
  have hl : lv_has ls 7 [(0, .ref x_q0), (1, .int a0)] := hl
  skip
  refine lv_aload_n hx hb dX4_load_0 rfl (lv_at hl 0 rfl) ?_
  refine lv_iload_n hx hb dX4_load_1 rfl (lv_at hl 1 rfl) ?_
  exact thrV (rest := []) (As := [.int a0]) S (cxX4_inSlot l hfl G x_q0 x_q1 q_input q_spread q_found q_s0 q_s1 q_s2 x_gain a0 ho_a0) (cwV 1 hts gX4_load_X4_inSlot rfl rfl rfl hvX4_inSlot ⟨Nat.le_of_ble_eq_true rfl, Nat.le_of_ble_eq_true rfl⟩) hK hT hP [0, 1] rfl 0 4 rfl rfl rfl rfl hl.1 rfl (Nat.le_of_ble_eq_true rfl) dX4_load_2 ⟨Nat.le_of_ble_eq_true rfl, Nat.le_of_ble_eq_true rfl⟩ (fun H1 locs1 q ce hk hz h1 h2 h3 => hthr _ _ _ _ H1 locs1 q ce rfl hk hz h1 h2 h3)
abbrev rxX4_setScreeno : Room := { frames := 7, cells := 1, slots := 6, locals := 111 }
set_option maxHeartbeats 4000000 in
set_option maxRecDepth 100000 in
theorem cxX4_setScreeno (l : Launch) (hfl : l.stackTraces = false) (G : GG) (x_q0 : Nat) (x_q1 : Nat) (q_input : Nat) (q_spread : Nat) (q_found : Nat) (x_gain : Int32) (q_s0 : Nat) (q_s1 : Nat) (q_s2 : Nat) (a0 : Int32) (a1 : Int32) (a2 : Int32) (a3 : Int32) (a4 : Int32) (a5 : Int32)   (ho_a0 : a0 < 0 ∨ 3 ≤ a0) : vx_Met l yX4_setScreen wsX4_setScreen rxX4_setScreeno (va_Pc [.ref x_q0, .int a0, .int a1, .int a2, .int a3, .int a4, .int a5] (PreT G (wdX4 G x_q0 x_q1 q_input q_spread q_found q_s0 q_s1 q_s2 x_gain))) NoQ (XT0 3) 1 6 (fun _ => False) := by
  refine of_tr (cc := cX4_setScreen) (maxL := 8) (ret := (some .int)) (by decide) rfl (Nat.le_of_ble_eq_true rfl) ?_
  intro p e s m args below meth c ls Q S hl hP hK hT hthr
  have S : CallFix p m c cX4_setScreen 8 s args wsX4_setScreen RX4 := S
  obtain ⟨hx, hb, hml, hown, hts⟩ := id S
  have hl : lv_has ls 8 [(0, .ref x_q0), (1, .int a0), (2, .int a1), (3, .int a2), (4, .int a3), (5, .int a4), (6, .int a5)] := hl
  skip
  refine lv_aload_n hx hb dX4_setScreen_0 rfl (lv_at hl 0 rfl) ?_
  refine lv_iload_n hx hb dX4_setScreen_1 rfl (lv_at hl 1 rfl) ?_
  exact thrV (rest := []) (As := [.int a0]) S (cxX4_inSlot l hfl G x_q0 x_q1 q_input q_spread q_found q_s0 q_s1 q_s2 x_gain a0 ho_a0) (cwV 1 hts gX4_setScreen_X4_inSlot rfl rfl rfl hvX4_inSlot ⟨Nat.le_of_ble_eq_true rfl, Nat.le_of_ble_eq_true rfl⟩) hK hT hP [0, 1] rfl 0 4 rfl rfl rfl rfl hl.1 rfl (Nat.le_of_ble_eq_true rfl) dX4_setScreen_2 ⟨Nat.le_of_ble_eq_true rfl, Nat.le_of_ble_eq_true rfl⟩ (fun H1 locs1 q ce hk hz h1 h2 h3 => hthr _ _ _ _ H1 locs1 q ce rfl hk hz h1 h2 h3)
abbrev rxX4_removeo : Room := { frames := 7, cells := 1, slots := 6, locals := 111 }
set_option maxHeartbeats 4000000 in
set_option maxRecDepth 100000 in
theorem cxX4_removeo (l : Launch) (hfl : l.stackTraces = false) (G : GG) (x_q0 : Nat) (x_q1 : Nat) (q_input : Nat) (q_spread : Nat) (q_found : Nat) (x_gain : Int32) (q_s0 : Nat) (q_s1 : Nat) (q_s2 : Nat) (a0 : Int32)   (ho_a0 : a0 < 0 ∨ 3 ≤ a0) : vx_Met l yX4_remove wsX4_remove rxX4_removeo (va_Pc [.ref x_q0, .int a0] (PreT G (wdX4 G x_q0 x_q1 q_input q_spread q_found q_s0 q_s1 q_s2 x_gain))) NoQ (XT0 3) 1 6 (fun _ => False) := by
  refine of_tr (cc := cX4_remove) (maxL := 3) (ret := (some .int)) (by decide) rfl (Nat.le_of_ble_eq_true rfl) ?_
  intro p e s m args below meth c ls Q S hl hP hK hT hthr
  have S : CallFix p m c cX4_remove 3 s args wsX4_remove RX4 := S
  obtain ⟨hx, hb, hml, hown, hts⟩ := id S
  have hl : lv_has ls 3 [(0, .ref x_q0), (1, .int a0)] := hl
  skip
  refine lv_aload_n hx hb dX4_remove_0 rfl (lv_at hl 0 rfl) ?_
  refine lv_iload_n hx hb dX4_remove_1 rfl (lv_at hl 1 rfl) ?_
  exact thrV (rest := []) (As := [.int a0]) S (cxX4_inSlot l hfl G x_q0 x_q1 q_input q_spread q_found q_s0 q_s1 q_s2 x_gain a0 ho_a0) (cwV 1 hts gX4_remove_X4_inSlot rfl rfl rfl hvX4_inSlot ⟨Nat.le_of_ble_eq_true rfl, Nat.le_of_ble_eq_true rfl⟩) hK hT hP [0, 1] rfl 0 4 rfl rfl rfl rfl hl.1 rfl (Nat.le_of_ble_eq_true rfl) dX4_remove_2 ⟨Nat.le_of_ble_eq_true rfl, Nat.le_of_ble_eq_true rfl⟩ (fun H1 locs1 q ce hk hz h1 h2 h3 => hthr _ _ _ _ H1 locs1 q ce rfl hk hz h1 h2 h3)
abbrev rxX4_setCentero : Room := { frames := 7, cells := 1, slots := 6, locals := 111 }
set_option maxHeartbeats 4000000 in
set_option maxRecDepth 100000 in
theorem cxX4_setCentero (l : Launch) (hfl : l.stackTraces = false) (G : GG) (x_q0 : Nat) (x_q1 : Nat) (q_input : Nat) (q_spread : Nat) (q_found : Nat) (x_gain : Int32) (q_s0 : Nat) (q_s1 : Nat) (q_s2 : Nat) (a0 : Int32) (a1 : Int32)   (ho_a0 : a0 < 0 ∨ 3 ≤ a0) : vx_Met l yX4_setCenter wsX4_setCenter rxX4_setCentero (va_Pc [.ref x_q0, .int a0, .int a1] (PreT G (wdX4 G x_q0 x_q1 q_input q_spread q_found q_s0 q_s1 q_s2 x_gain))) NoQ (XT0 3) 1 6 (fun _ => False) := by
  refine of_tr (cc := cX4_setCenter) (maxL := 4) (ret := (some .int)) (by decide) rfl (Nat.le_of_ble_eq_true rfl) ?_
  intro p e s m args below meth c ls Q S hl hP hK hT hthr
  have S : CallFix p m c cX4_setCenter 4 s args wsX4_setCenter RX4 := S
  obtain ⟨hx, hb, hml, hown, hts⟩ := id S
  have hl : lv_has ls 4 [(0, .ref x_q0), (1, .int a0), (2, .int a1)] := hl
  skip
  refine lv_aload_n hx hb dX4_setCenter_0 rfl (lv_at hl 0 rfl) ?_
  refine lv_iload_n hx hb dX4_setCenter_1 rfl (lv_at hl 1 rfl) ?_
  exact thrV (rest := []) (As := [.int a0]) S (cxX4_inSlot l hfl G x_q0 x_q1 q_input q_spread q_found q_s0 q_s1 q_s2 x_gain a0 ho_a0) (cwV 1 hts gX4_setCenter_X4_inSlot rfl rfl rfl hvX4_inSlot ⟨Nat.le_of_ble_eq_true rfl, Nat.le_of_ble_eq_true rfl⟩) hK hT hP [0, 1] rfl 0 4 rfl rfl rfl rfl hl.1 rfl (Nat.le_of_ble_eq_true rfl) dX4_setCenter_2 ⟨Nat.le_of_ble_eq_true rfl, Nat.le_of_ble_eq_true rfl⟩ (fun H1 locs1 q ce hk hz h1 h2 h3 => hthr _ _ _ _ H1 locs1 q ce rfl hk hz h1 h2 h3)
abbrev rxX4_turno : Room := { frames := 7, cells := 1, slots := 6, locals := 111 }
set_option maxHeartbeats 4000000 in
set_option maxRecDepth 100000 in
theorem cxX4_turno (l : Launch) (hfl : l.stackTraces = false) (G : GG) (x_q0 : Nat) (x_q1 : Nat) (q_input : Nat) (q_spread : Nat) (q_found : Nat) (x_gain : Int32) (q_s0 : Nat) (q_s1 : Nat) (q_s2 : Nat) (a0 : Int32) (a1 : Int32)   (ho_a0 : a0 < 0 ∨ 3 ≤ a0) : vx_Met l yX4_turn wsX4_turn rxX4_turno (va_Pc [.ref x_q0, .int a0, .int a1] (PreT G (wdX4 G x_q0 x_q1 q_input q_spread q_found q_s0 q_s1 q_s2 x_gain))) NoQ (XT0 3) 1 6 (fun _ => False) := by
  refine of_tr (cc := cX4_turn) (maxL := 4) (ret := (some .int)) (by decide) rfl (Nat.le_of_ble_eq_true rfl) ?_
  intro p e s m args below meth c ls Q S hl hP hK hT hthr
  have S : CallFix p m c cX4_turn 4 s args wsX4_turn RX4 := S
  obtain ⟨hx, hb, hml, hown, hts⟩ := id S
  have hl : lv_has ls 4 [(0, .ref x_q0), (1, .int a0), (2, .int a1)] := hl
  skip
  refine lv_aload_n hx hb dX4_turn_0 rfl (lv_at hl 0 rfl) ?_
  refine lv_iload_n hx hb dX4_turn_1 rfl (lv_at hl 1 rfl) ?_
  exact thrV (rest := []) (As := [.int a0]) S (cxX4_inSlot l hfl G x_q0 x_q1 q_input q_spread q_found q_s0 q_s1 q_s2 x_gain a0 ho_a0) (cwV 1 hts gX4_turn_X4_inSlot rfl rfl rfl hvX4_inSlot ⟨Nat.le_of_ble_eq_true rfl, Nat.le_of_ble_eq_true rfl⟩) hK hT hP [0, 1] rfl 0 4 rfl rfl rfl rfl hl.1 rfl (Nat.le_of_ble_eq_true rfl) dX4_turn_2 ⟨Nat.le_of_ble_eq_true rfl, Nat.le_of_ble_eq_true rfl⟩ (fun H1 locs1 q ce hk hz h1 h2 h3 => hthr _ _ _ _ H1 locs1 q ce rfl hk hz h1 h2 h3)
abbrev rxX4_shorteno : Room := { frames := 7, cells := 1, slots := 6, locals := 111 }
set_option maxHeartbeats 4000000 in
set_option maxRecDepth 100000 in
theorem cxX4_shorteno (l : Launch) (hfl : l.stackTraces = false) (G : GG) (x_q0 : Nat) (x_q1 : Nat) (q_input : Nat) (q_spread : Nat) (q_found : Nat) (x_gain : Int32) (q_s0 : Nat) (q_s1 : Nat) (q_s2 : Nat) (a0 : Int32)   (ho_a0 : a0 < 0 ∨ 3 ≤ a0) : vx_Met l yX4_shorten wsX4_shorten rxX4_shorteno (va_Pc [.ref x_q0, .int a0] (PreT G (wdX4 G x_q0 x_q1 q_input q_spread q_found q_s0 q_s1 q_s2 x_gain))) NoQ (XT0 3) 1 6 (fun _ => False) := by
  refine of_tr (cc := cX4_shorten) (maxL := 4) (ret := (some .int)) (by decide) rfl (Nat.le_of_ble_eq_true rfl) ?_
  intro p e s m args below meth c ls Q S hl hP hK hT hthr
  have S : CallFix p m c cX4_shorten 4 s args wsX4_shorten RX4 := S
  obtain ⟨hx, hb, hml, hown, hts⟩ := id S
  have hl : lv_has ls 4 [(0, .ref x_q0), (1, .int a0)] := hl
  skip
  refine lv_aload_n hx hb dX4_shorten_0 rfl (lv_at hl 0 rfl) ?_
  refine lv_iload_n hx hb dX4_shorten_1 rfl (lv_at hl 1 rfl) ?_
  exact thrV (rest := []) (As := [.int a0]) S (cxX4_inSlot l hfl G x_q0 x_q1 q_input q_spread q_found q_s0 q_s1 q_s2 x_gain a0 ho_a0) (cwV 1 hts gX4_shorten_X4_inSlot rfl rfl rfl hvX4_inSlot ⟨Nat.le_of_ble_eq_true rfl, Nat.le_of_ble_eq_true rfl⟩) hK hT hP [0, 1] rfl 0 4 rfl rfl rfl rfl hl.1 rfl (Nat.le_of_ble_eq_true rfl) dX4_shorten_2 ⟨Nat.le_of_ble_eq_true rfl, Nat.le_of_ble_eq_true rfl⟩ (fun H1 locs1 q ce hk hz h1 h2 h3 => hthr _ _ _ _ H1 locs1 q ce rfl hk hz h1 h2 h3)
abbrev rxX4_setTinto : Room := { frames := 8, cells := 1, slots := 6, locals := 134 }
set_option maxHeartbeats 4000000 in
set_option maxRecDepth 100000 in
theorem cxX4_setTinto (l : Launch) (hfl : l.stackTraces = false) (G : GG) (x_q0 : Nat) (x_q1 : Nat) (q_input : Nat) (q_spread : Nat) (q_found : Nat) (x_gain : Int32) (q_s0 : Nat) (q_s1 : Nat) (q_s2 : Nat) (a0 : Int32) (a1 : Int32)   (ho_a0 : a0 < 0 ∨ 3 ≤ a0) : vx_Met l yX4_setTint wsX4_setTint rxX4_setTinto (va_Pc [.ref x_q0, .int a0, .int a1] (PreT G (wdX4 G x_q0 x_q1 q_input q_spread q_found q_s0 q_s1 q_s2 x_gain))) NoQ (XT0 3) 1 6 (fun _ => False) := by
  refine of_tr (cc := cX4_setTint) (maxL := 5) (ret := (some .int)) (by decide) rfl (Nat.le_of_ble_eq_true rfl) ?_
  intro p e s m args below meth c ls Q S hl hP hK hT hthr
  have S : CallFix p m c cX4_setTint 5 s args wsX4_setTint RX4 := S
  obtain ⟨hx, hb, hml, hown, hts⟩ := id S
  have hl : lv_has ls 5 [(0, .ref x_q0), (1, .int a0), (2, .int a1)] := hl
  skip
  refine lv_aload_n hx hb dX4_setTint_0 rfl (lv_at hl 0 rfl) ?_
  refine lv_iload_n hx hb dX4_setTint_1 rfl (lv_at hl 1 rfl) ?_
  refine lv_iload_n hx hb dX4_setTint_2 rfl (lv_at hl 2 rfl) ?_
  exact thrV (rest := []) (As := [.int a0, .int a1]) S (cxX4_inSlotWithStepso l hfl G x_q0 x_q1 q_input q_spread q_found x_gain q_s0 q_s1 q_s2 a0 a1 ho_a0) (cwV 2 hts gX4_setTint_X4_inSlotWithSteps rfl rfl rfl hvX4_inSlotWithSteps ⟨Nat.le_of_ble_eq_true rfl, Nat.le_of_ble_eq_true rfl⟩) hK hT hP [0, 1] rfl 0 4 rfl rfl rfl rfl hl.1 rfl (Nat.le_of_ble_eq_true rfl) dX4_setTint_3 ⟨Nat.le_of_ble_eq_true rfl, Nat.le_of_ble_eq_true rfl⟩ (fun H1 locs1 q ce hk hz h1 h2 h3 => hthr _ _ _ _ H1 locs1 q ce rfl hk hz h1 h2 h3)
abbrev rxX4_screeno : Room := { frames := 7, cells := 1, slots := 6, locals := 111 }
set_option maxHeartbeats 4000000 in
set_option maxRecDepth 100000 in
theorem cxX4_screeno (l : Launch) (hfl : l.stackTraces = false) (G : GG) (x_q0 : Nat) (x_q1 : Nat) (q_input : Nat) (q_spread : Nat) (q_found : Nat) (x_gain : Int32) (q_s0 : Nat) (q_s1 : Nat) (q_s2 : Nat) (a0 : Int32) (a1 : Int32)   (ho_a0 : a0 < 0 ∨ 3 ≤ a0) : vx_Met l yX4_screen wsX4_screen rxX4_screeno (va_Pc [.ref x_q0, .int a0, .int a1] (PreT G (wdX4 G x_q0 x_q1 q_input q_spread q_found q_s0 q_s1 q_s2 x_gain))) NoQ (XT0 3) 1 6 (fun _ => False) := by
  refine of_tr (cc := cX4_screen) (maxL := 4) (ret := (some .int)) (by decide) rfl (Nat.le_of_ble_eq_true rfl) ?_
  intro p e s m args below meth c ls Q S hl hP hK hT hthr
  have S : CallFix p m c cX4_screen 4 s args wsX4_screen RX4 := S
  obtain ⟨hx, hb, hml, hown, hts⟩ := id S
  have hl : lv_has ls 4 [(0, .ref x_q0), (1, .int a0), (2, .int a1)] := hl
  skip
  refine lv_aload_n hx hb dX4_screen_0 rfl (lv_at hl 0 rfl) ?_
  refine lv_iload_n hx hb dX4_screen_1 rfl (lv_at hl 1 rfl) ?_
  exact thrV (rest := []) (As := [.int a0]) S (cxX4_inSlot l hfl G x_q0 x_q1 q_input q_spread q_found q_s0 q_s1 q_s2 x_gain a0 ho_a0) (cwV 1 hts gX4_screen_X4_inSlot rfl rfl rfl hvX4_inSlot ⟨Nat.le_of_ble_eq_true rfl, Nat.le_of_ble_eq_true rfl⟩) hK hT hP [0, 1] rfl 0 4 rfl rfl rfl rfl hl.1 rfl (Nat.le_of_ble_eq_true rfl) dX4_screen_2 ⟨Nat.le_of_ble_eq_true rfl, Nat.le_of_ble_eq_true rfl⟩ (fun H1 locs1 q ce hk hz h1 h2 h3 => hthr _ _ _ _ H1 locs1 q ce rfl hk hz h1 h2 h3)
abbrev rxX4_placeo : Room := { frames := 7, cells := 1, slots := 6, locals := 111 }
set_option maxHeartbeats 4000000 in
set_option maxRecDepth 100000 in
theorem cxX4_placeo (l : Launch) (hfl : l.stackTraces = false) (G : GG) (x_q0 : Nat) (x_q1 : Nat) (q_input : Nat) (q_spread : Nat) (q_found : Nat) (x_gain : Int32) (q_s0 : Nat) (q_s1 : Nat) (q_s2 : Nat) (a0 : Int32) (a1 : Int32) (a2 : Int32)   (ho_a0 : a0 < 0 ∨ 3 ≤ a0) : vx_Met l yX4_place wsX4_place rxX4_placeo (va_Pc [.ref x_q0, .int a0, .int a1, .int a2] (PreT G (wdX4 G x_q0 x_q1 q_input q_spread q_found q_s0 q_s1 q_s2 x_gain))) NoQ (XT0 3) 1 6 (fun _ => False) := by
  refine of_tr (cc := cX4_place) (maxL := 5) (ret := (some .int)) (by decide) rfl (Nat.le_of_ble_eq_true rfl) ?_
  intro p e s m args below meth c ls Q S hl hP hK hT hthr
  have S : CallFix p m c cX4_place 5 s args wsX4_place RX4 := S
  obtain ⟨hx, hb, hml, hown, hts⟩ := id S
  have hl : lv_has ls 5 [(0, .ref x_q0), (1, .int a0), (2, .int a1), (3, .int a2)] := hl
  skip
  refine lv_aload_n hx hb dX4_place_0 rfl (lv_at hl 0 rfl) ?_
  refine lv_iload_n hx hb dX4_place_1 rfl (lv_at hl 1 rfl) ?_
  exact thrV (rest := []) (As := [.int a0]) S (cxX4_inSlot l hfl G x_q0 x_q1 q_input q_spread q_found q_s0 q_s1 q_s2 x_gain a0 ho_a0) (cwV 1 hts gX4_place_X4_inSlot rfl rfl rfl hvX4_inSlot ⟨Nat.le_of_ble_eq_true rfl, Nat.le_of_ble_eq_true rfl⟩) hK hT hP [0, 1] rfl 0 4 rfl rfl rfl rfl hl.1 rfl (Nat.le_of_ble_eq_true rfl) dX4_place_2 ⟨Nat.le_of_ble_eq_true rfl, Nat.le_of_ble_eq_true rfl⟩ (fun H1 locs1 q ce hk hz h1 h2 h3 => hthr _ _ _ _ H1 locs1 q ce rfl hk hz h1 h2 h3)
abbrev rxX4_growtho : Room := { frames := 7, cells := 1, slots := 6, locals := 111 }
set_option maxHeartbeats 4000000 in
set_option maxRecDepth 100000 in
theorem cxX4_growtho (l : Launch) (hfl : l.stackTraces = false) (G : GG) (x_q0 : Nat) (x_q1 : Nat) (q_input : Nat) (q_spread : Nat) (q_found : Nat) (x_gain : Int32) (q_s0 : Nat) (q_s1 : Nat) (q_s2 : Nat) (a0 : Int32) (a1 : Int32) (a2 : Int32)   (ho_a0 : a0 < 0 ∨ 3 ≤ a0) : vx_Met l yX4_growth wsX4_growth rxX4_growtho (va_Pc [.ref x_q0, .int a0, .int a1, .int a2] (PreT G (wdX4 G x_q0 x_q1 q_input q_spread q_found q_s0 q_s1 q_s2 x_gain))) NoQ (XT0 3) 1 6 (fun _ => False) := by
  refine of_tr (cc := cX4_growth) (maxL := 5) (ret := (some .int)) (by decide) rfl (Nat.le_of_ble_eq_true rfl) ?_
  intro p e s m args below meth c ls Q S hl hP hK hT hthr
  have S : CallFix p m c cX4_growth 5 s args wsX4_growth RX4 := S
  obtain ⟨hx, hb, hml, hown, hts⟩ := id S
  have hl : lv_has ls 5 [(0, .ref x_q0), (1, .int a0), (2, .int a1), (3, .int a2)] := hl
  skip
  refine lv_aload_n hx hb dX4_growth_0 rfl (lv_at hl 0 rfl) ?_
  refine lv_iload_n hx hb dX4_growth_1 rfl (lv_at hl 1 rfl) ?_
  exact thrV (rest := []) (As := [.int a0]) S (cxX4_inSlot l hfl G x_q0 x_q1 q_input q_spread q_found q_s0 q_s1 q_s2 x_gain a0 ho_a0) (cwV 1 hts gX4_growth_X4_inSlot rfl rfl rfl hvX4_inSlot ⟨Nat.le_of_ble_eq_true rfl, Nat.le_of_ble_eq_true rfl⟩) hK hT hP [0, 1] rfl 0 4 rfl rfl rfl rfl hl.1 rfl (Nat.le_of_ble_eq_true rfl) dX4_growth_2 ⟨Nat.le_of_ble_eq_true rfl, Nat.le_of_ble_eq_true rfl⟩ (fun H1 locs1 q ce hk hz h1 h2 h3 => hthr _ _ _ _ H1 locs1 q ce rfl hk hz h1 h2 h3)
abbrev rxX4_placeOfo : Room := { frames := 7, cells := 1, slots := 6, locals := 111 }
set_option maxHeartbeats 4000000 in
set_option maxRecDepth 100000 in
theorem cxX4_placeOfo (l : Launch) (hfl : l.stackTraces = false) (G : GG) (x_q0 : Nat) (x_q1 : Nat) (q_input : Nat) (q_spread : Nat) (q_found : Nat) (x_gain : Int32) (q_s0 : Nat) (q_s1 : Nat) (q_s2 : Nat) (a0 : Int32) (a1 : Int32)   (ho_a0 : a0 < 0 ∨ 3 ≤ a0) : vx_Met l yX4_placeOf wsX4_placeOf rxX4_placeOfo (va_Pc [.ref x_q0, .int a0, .int a1] (PreT G (wdX4 G x_q0 x_q1 q_input q_spread q_found q_s0 q_s1 q_s2 x_gain))) NoQ (XT0 3) 1 6 (fun _ => False) := by
  refine of_tr (cc := cX4_placeOf) (maxL := 4) (ret := (some .int)) (by decide) rfl (Nat.le_of_ble_eq_true rfl) ?_
  intro p e s m args below meth c ls Q S hl hP hK hT hthr
  have S : CallFix p m c cX4_placeOf 4 s args wsX4_placeOf RX4 := S
  obtain ⟨hx, hb, hml, hown, hts⟩ := id S
  have hl : lv_has ls 4 [(0, .ref x_q0), (1, .int a0), (2, .int a1)] := hl
  skip
  refine lv_aload_n hx hb dX4_placeOf_0 rfl (lv_at hl 0 rfl) ?_
  refine lv_iload_n hx hb dX4_placeOf_1 rfl (lv_at hl 1 rfl) ?_
  exact thrV (rest := []) (As := [.int a0]) S (cxX4_inSlot l hfl G x_q0 x_q1 q_input q_spread q_found q_s0 q_s1 q_s2 x_gain a0 ho_a0) (cwV 1 hts gX4_placeOf_X4_inSlot rfl rfl rfl hvX4_inSlot ⟨Nat.le_of_ble_eq_true rfl, Nat.le_of_ble_eq_true rfl⟩) hK hT hP [0, 1] rfl 0 4 rfl rfl rfl rfl hl.1 rfl (Nat.le_of_ble_eq_true rfl) dX4_placeOf_2 ⟨Nat.le_of_ble_eq_true rfl, Nat.le_of_ble_eq_true rfl⟩ (fun H1 locs1 q ce hk hz h1 h2 h3 => hthr _ _ _ _ H1 locs1 q ce rfl hk hz h1 h2 h3)
abbrev rxX4_inkedo : Room := { frames := 7, cells := 1, slots := 6, locals := 111 }
set_option maxHeartbeats 4000000 in
set_option maxRecDepth 100000 in
theorem cxX4_inkedo (l : Launch) (hfl : l.stackTraces = false) (G : GG) (x_q0 : Nat) (x_q1 : Nat) (q_input : Nat) (q_spread : Nat) (q_found : Nat) (x_gain : Int32) (q_s0 : Nat) (q_s1 : Nat) (q_s2 : Nat) (a0 : Int32) (a1 : Int32) (a2 : Int32) (a3 : Int32) (a4 : Int32)   (ho_a0 : a0 < 0 ∨ 3 ≤ a0) : vx_Met l yX4_inked wsX4_inked rxX4_inkedo (va_Pc [.ref x_q0, .int a0, .int a1, .int a2, .int a3, .int a4] (PreT G (wdX4 G x_q0 x_q1 q_input q_spread q_found q_s0 q_s1 q_s2 x_gain))) NoQ (XT0 3) 1 6 (fun _ => False) := by
  refine of_tr (cc := cX4_inked) (maxL := 10) (ret := (some .int)) (by decide) rfl (Nat.le_of_ble_eq_true rfl) ?_
  intro p e s m args below meth c ls Q S hl hP hK hT hthr
  have S : CallFix p m c cX4_inked 10 s args wsX4_inked RX4 := S
  obtain ⟨hx, hb, hml, hown, hts⟩ := id S
  have hl : lv_has ls 10 [(0, .ref x_q0), (1, .int a0), (2, .int a1), (3, .int a2), (4, .int a3), (5, .int a4)] := hl
  skip
  refine lv_aload_n hx hb dX4_inked_0 rfl (lv_at hl 0 rfl) ?_
  refine lv_iload_n hx hb dX4_inked_1 rfl (lv_at hl 1 rfl) ?_
  exact thrV (rest := []) (As := [.int a0]) S (cxX4_inSlot l hfl G x_q0 x_q1 q_input q_spread q_found q_s0 q_s1 q_s2 x_gain a0 ho_a0) (cwV 1 hts gX4_inked_X4_inSlot rfl rfl rfl hvX4_inSlot ⟨Nat.le_of_ble_eq_true rfl, Nat.le_of_ble_eq_true rfl⟩) hK hT hP [0, 1] rfl 0 4 rfl rfl rfl rfl hl.1 rfl (Nat.le_of_ble_eq_true rfl) dX4_inked_2 ⟨Nat.le_of_ble_eq_true rfl, Nat.le_of_ble_eq_true rfl⟩ (fun H1 locs1 q ce hk hz h1 h2 h3 => hthr _ _ _ _ H1 locs1 q ce rfl hk hz h1 h2 h3)
theorem fwx_X4_dotso_X4 : ∀ w ∈ wsX40, w ∈ wsX4_dots := fun w h => List.mem_cons_of_mem _ (List.mem_append_left _ (List.mem_append_left _ (List.mem_append_left _ (List.mem_append_left _ (List.mem_append_left _ (List.mem_append_left _ (List.mem_append_right _ h)))))))
theorem lkx_X4_dotso_f25 : Cond.fieldLink RX4 25 "HalftoneScreens" "spread" "LHalftoneScreens$Dots;" ∈ wsX4_dots := List.mem_of_getElem? (i := 1) rfl
abbrev rxX4_dotso : Room := { frames := 8, cells := 1, slots := 6, locals := 134 }
set_option maxHeartbeats 4000000 in
set_option maxRecDepth 100000 in
theorem cxX4_dotso (l : Launch) (hfl : l.stackTraces = false) (G : GG) (x_q0 : Nat) (x_q1 : Nat) (q_input : Nat) (q_spread : Nat) (q_found : Nat) (x_gain : Int32) (q_s0 : Nat) (q_s1 : Nat) (q_s2 : Nat) (a0 : Int32) (a1 : Int32)   (ho_a0 : a0 < 0 ∨ 3 ≤ a0) : vx_Met l yX4_dots wsX4_dots rxX4_dotso (va_Pc [.ref x_q0, .int a0, .int a1] (PreT G (wdX4 G x_q0 x_q1 q_input q_spread q_found q_s0 q_s1 q_s2 x_gain))) NoQ (XT0 3) 1 6 (fun _ => False) := by
  refine of_tr (cc := cX4_dots) (maxL := 3) (ret := (some .int)) (by decide) rfl (Nat.le_of_ble_eq_true rfl) ?_
  intro p e s m args below meth c ls Q S hl hP hK hT hthr
  have S : CallFix p m c cX4_dots 3 s args wsX4_dots RX4 := S
  obtain ⟨hx, hb, hml, hown, hts⟩ := id S
  have hl : lv_has ls 3 [(0, .ref x_q0), (1, .int a0), (2, .int a1)] := hl
  skip
  refine lv_aload_n hx hb dX4_dots_0 rfl (lv_at hl 0 rfl) ?_
  refine va_get (D := G.1) (ci := 4) (v := .ref q_spread) (C := RX4) (T := TX4) (N := 5) hx hb hts fwx_X4_dotso_X4 hown hK.1 hP 0 rfl rfl 2 (by decide) (hts (.fieldLink RX4 25 "HalftoneScreens" "spread" "LHalftoneScreens$Dots;") lkx_X4_dotso_f25) (fun _ h9 => h9) rfl dX4_dots_1 ?_
  refine lv_aload_n hx hb dX4_dots_4 rfl (lv_at hl 0 rfl) ?_
  refine lv_iload_n hx hb dX4_dots_5 rfl (lv_at hl 1 rfl) ?_
  refine lv_iload_n hx hb dX4_dots_6 rfl (lv_at hl 2 rfl) ?_
  exact thrV (rest := [.ref q_spread]) (As := [.int a0, .int a1]) S (cxX4_inSlotWithStepso l hfl G x_q0 x_q1 q_input q_spread q_found x_gain q_s0 q_s1 q_s2 a0 a1 ho_a0) (cwV 2 hts gX4_dots_X4_inSlotWithSteps rfl rfl rfl hvX4_inSlotWithSteps ⟨Nat.le_of_ble_eq_true rfl, Nat.le_of_ble_eq_true rfl⟩) hK hT hP [0, 1] rfl 0 4 rfl rfl rfl rfl hl.1 rfl (Nat.le_of_ble_eq_true rfl) dX4_dots_7 ⟨Nat.le_of_ble_eq_true rfl, Nat.le_of_ble_eq_true rfl⟩ (fun H1 locs1 q ce hk hz h1 h2 h3 => hthr _ _ _ _ H1 locs1 q ce rfl hk hz h1 h2 h3)
theorem fwx_X4_joinedo_X4 : ∀ w ∈ wsX40, w ∈ wsX4_joined := fun w h => List.mem_cons_of_mem _ (List.mem_append_left _ (List.mem_append_left _ (List.mem_append_left _ (List.mem_append_left _ (List.mem_append_left _ (List.mem_append_left _ (List.mem_append_right _ h)))))))
theorem lkx_X4_joinedo_f25 : Cond.fieldLink RX4 25 "HalftoneScreens" "spread" "LHalftoneScreens$Dots;" ∈ wsX4_joined := List.mem_of_getElem? (i := 1) rfl
abbrev rxX4_joinedo : Room := { frames := 8, cells := 1, slots := 6, locals := 134 }
set_option maxHeartbeats 4000000 in
set_option maxRecDepth 100000 in
theorem cxX4_joinedo (l : Launch) (hfl : l.stackTraces = false) (G : GG) (x_q0 : Nat) (x_q1 : Nat) (q_input : Nat) (q_spread : Nat) (q_found : Nat) (x_gain : Int32) (q_s0 : Nat) (q_s1 : Nat) (q_s2 : Nat) (a0 : Int32) (a1 : Int32)   (ho_a0 : a0 < 0 ∨ 3 ≤ a0) : vx_Met l yX4_joined wsX4_joined rxX4_joinedo (va_Pc [.ref x_q0, .int a0, .int a1] (PreT G (wdX4 G x_q0 x_q1 q_input q_spread q_found q_s0 q_s1 q_s2 x_gain))) NoQ (XT0 3) 1 6 (fun _ => False) := by
  refine of_tr (cc := cX4_joined) (maxL := 3) (ret := (some .int)) (by decide) rfl (Nat.le_of_ble_eq_true rfl) ?_
  intro p e s m args below meth c ls Q S hl hP hK hT hthr
  have S : CallFix p m c cX4_joined 3 s args wsX4_joined RX4 := S
  obtain ⟨hx, hb, hml, hown, hts⟩ := id S
  have hl : lv_has ls 3 [(0, .ref x_q0), (1, .int a0), (2, .int a1)] := hl
  skip
  refine lv_aload_n hx hb dX4_joined_0 rfl (lv_at hl 0 rfl) ?_
  refine va_get (D := G.1) (ci := 4) (v := .ref q_spread) (C := RX4) (T := TX4) (N := 5) hx hb hts fwx_X4_joinedo_X4 hown hK.1 hP 0 rfl rfl 2 (by decide) (hts (.fieldLink RX4 25 "HalftoneScreens" "spread" "LHalftoneScreens$Dots;") lkx_X4_joinedo_f25) (fun _ h9 => h9) rfl dX4_joined_1 ?_
  refine lv_aload_n hx hb dX4_joined_4 rfl (lv_at hl 0 rfl) ?_
  refine lv_iload_n hx hb dX4_joined_5 rfl (lv_at hl 1 rfl) ?_
  refine lv_iload_n hx hb dX4_joined_6 rfl (lv_at hl 2 rfl) ?_
  exact thrV (rest := [.ref q_spread]) (As := [.int a0, .int a1]) S (cxX4_inSlotWithStepso l hfl G x_q0 x_q1 q_input q_spread q_found x_gain q_s0 q_s1 q_s2 a0 a1 ho_a0) (cwV 2 hts gX4_joined_X4_inSlotWithSteps rfl rfl rfl hvX4_inSlotWithSteps ⟨Nat.le_of_ble_eq_true rfl, Nat.le_of_ble_eq_true rfl⟩) hK hT hP [0, 1] rfl 0 4 rfl rfl rfl rfl hl.1 rfl (Nat.le_of_ble_eq_true rfl) dX4_joined_7 ⟨Nat.le_of_ble_eq_true rfl, Nat.le_of_ble_eq_true rfl⟩ (fun H1 locs1 q ce hk hz h1 h2 h3 => hthr _ _ _ _ H1 locs1 q ce rfl hk hz h1 h2 h3)
abbrev rxX4_firstJoinedo : Room := { frames := 7, cells := 1, slots := 6, locals := 111 }
set_option maxHeartbeats 4000000 in
set_option maxRecDepth 100000 in
theorem cxX4_firstJoinedo (l : Launch) (hfl : l.stackTraces = false) (G : GG) (x_q0 : Nat) (x_q1 : Nat) (q_input : Nat) (q_spread : Nat) (q_found : Nat) (x_gain : Int32) (q_s0 : Nat) (q_s1 : Nat) (q_s2 : Nat) (a0 : Int32) (a1 : Int32)   (ho_a0 : a0 < 0 ∨ 3 ≤ a0) : vx_Met l yX4_firstJoined wsX4_firstJoined rxX4_firstJoinedo (va_Pc [.ref x_q0, .int a0, .int a1] (PreT G (wdX4 G x_q0 x_q1 q_input q_spread q_found q_s0 q_s1 q_s2 x_gain))) NoQ (XT0 3) 1 6 (fun _ => False) := by
  refine of_tr (cc := cX4_firstJoined) (maxL := 6) (ret := (some .int)) (by decide) rfl (Nat.le_of_ble_eq_true rfl) ?_
  intro p e s m args below meth c ls Q S hl hP hK hT hthr
  have S : CallFix p m c cX4_firstJoined 6 s args wsX4_firstJoined RX4 := S
  obtain ⟨hx, hb, hml, hown, hts⟩ := id S
  have hl : lv_has ls 6 [(0, .ref x_q0), (1, .int a0), (2, .int a1)] := hl
  skip
  refine lv_aload_n hx hb dX4_firstJoined_0 rfl (lv_at hl 0 rfl) ?_
  refine lv_iload_n hx hb dX4_firstJoined_1 rfl (lv_at hl 1 rfl) ?_
  exact thrV (rest := []) (As := [.int a0]) S (cxX4_inSlot l hfl G x_q0 x_q1 q_input q_spread q_found q_s0 q_s1 q_s2 x_gain a0 ho_a0) (cwV 1 hts gX4_firstJoined_X4_inSlot rfl rfl rfl hvX4_inSlot ⟨Nat.le_of_ble_eq_true rfl, Nat.le_of_ble_eq_true rfl⟩) hK hT hP [0, 1] rfl 0 4 rfl rfl rfl rfl hl.1 rfl (Nat.le_of_ble_eq_true rfl) dX4_firstJoined_2 ⟨Nat.le_of_ble_eq_true rfl, Nat.le_of_ble_eq_true rfl⟩ (fun H1 locs1 q ce hk hz h1 h2 h3 => hthr _ _ _ _ H1 locs1 q ce rfl hk hz h1 h2 h3)
abbrev rxX4_strengtho : Room := { frames := 8, cells := 1, slots := 6, locals := 134 }
set_option maxHeartbeats 4000000 in
set_option maxRecDepth 100000 in
theorem cxX4_strengtho (l : Launch) (hfl : l.stackTraces = false) (G : GG) (x_q0 : Nat) (x_q1 : Nat) (q_input : Nat) (q_spread : Nat) (q_found : Nat) (x_gain : Int32) (q_s0 : Nat) (q_s1 : Nat) (q_s2 : Nat) (a0 : Int32) (a1 : Int32)   (ho_a0 : a0 < 0 ∨ 3 ≤ a0) : vx_Met l yX4_strength wsX4_strength rxX4_strengtho (va_Pc [.ref x_q0, .int a0, .int a1] (PreT G (wdX4 G x_q0 x_q1 q_input q_spread q_found q_s0 q_s1 q_s2 x_gain))) NoQ (XT0 3) 1 6 (fun _ => False) := by
  refine of_tr (cc := cX4_strength) (maxL := 3) (ret := (some .int)) (by decide) rfl (Nat.le_of_ble_eq_true rfl) ?_
  intro p e s m args below meth c ls Q S hl hP hK hT hthr
  have S : CallFix p m c cX4_strength 3 s args wsX4_strength RX4 := S
  obtain ⟨hx, hb, hml, hown, hts⟩ := id S
  have hl : lv_has ls 3 [(0, .ref x_q0), (1, .int a0), (2, .int a1)] := hl
  skip
  refine lv_aload_n hx hb dX4_strength_0 rfl (lv_at hl 0 rfl) ?_
  refine lv_iload_n hx hb dX4_strength_1 rfl (lv_at hl 1 rfl) ?_
  refine lv_iload_n hx hb dX4_strength_2 rfl (lv_at hl 2 rfl) ?_
  exact thrV (rest := []) (As := [.int a0, .int a1]) S (cxX4_inSlotWithStepso l hfl G x_q0 x_q1 q_input q_spread q_found x_gain q_s0 q_s1 q_s2 a0 a1 ho_a0) (cwV 2 hts gX4_strength_X4_inSlotWithSteps rfl rfl rfl hvX4_inSlotWithSteps ⟨Nat.le_of_ble_eq_true rfl, Nat.le_of_ble_eq_true rfl⟩) hK hT hP [0, 1] rfl 0 4 rfl rfl rfl rfl hl.1 rfl (Nat.le_of_ble_eq_true rfl) dX4_strength_3 ⟨Nat.le_of_ble_eq_true rfl, Nat.le_of_ble_eq_true rfl⟩ (fun H1 locs1 q ce hk hz h1 h2 h3 => hthr _ _ _ _ H1 locs1 q ce rfl hk hz h1 h2 h3)
abbrev rxX4_meanStrengtho : Room := { frames := 7, cells := 1, slots := 6, locals := 111 }
set_option maxHeartbeats 4000000 in
set_option maxRecDepth 100000 in
theorem cxX4_meanStrengtho (l : Launch) (hfl : l.stackTraces = false) (G : GG) (x_q0 : Nat) (x_q1 : Nat) (q_input : Nat) (q_spread : Nat) (q_found : Nat) (x_gain : Int32) (q_s0 : Nat) (q_s1 : Nat) (q_s2 : Nat) (a0 : Int32)   (ho_a0 : a0 < 0 ∨ 3 ≤ a0) : vx_Met l yX4_meanStrength wsX4_meanStrength rxX4_meanStrengtho (va_Pc [.ref x_q0, .int a0] (PreT G (wdX4 G x_q0 x_q1 q_input q_spread q_found q_s0 q_s1 q_s2 x_gain))) NoQ (XT0 3) 1 6 (fun _ => False) := by
  refine of_tr (cc := cX4_meanStrength) (maxL := 4) (ret := (some .double)) (by decide) rfl (Nat.le_of_ble_eq_true rfl) ?_
  intro p e s m args below meth c ls Q S hl hP hK hT hthr
  have S : CallFix p m c cX4_meanStrength 4 s args wsX4_meanStrength RX4 := S
  obtain ⟨hx, hb, hml, hown, hts⟩ := id S
  have hl : lv_has ls 4 [(0, .ref x_q0), (1, .int a0)] := hl
  skip
  refine lv_aload_n hx hb dX4_meanStrength_0 rfl (lv_at hl 0 rfl) ?_
  refine lv_iload_n hx hb dX4_meanStrength_1 rfl (lv_at hl 1 rfl) ?_
  exact thrV (rest := []) (As := [.int a0]) S (cxX4_inSlot l hfl G x_q0 x_q1 q_input q_spread q_found q_s0 q_s1 q_s2 x_gain a0 ho_a0) (cwV 1 hts gX4_meanStrength_X4_inSlot rfl rfl rfl hvX4_inSlot ⟨Nat.le_of_ble_eq_true rfl, Nat.le_of_ble_eq_true rfl⟩) hK hT hP [0, 1] rfl 0 4 rfl rfl rfl rfl hl.1 rfl (Nat.le_of_ble_eq_true rfl) dX4_meanStrength_2 ⟨Nat.le_of_ble_eq_true rfl, Nat.le_of_ble_eq_true rfl⟩ (fun H1 locs1 q ce hk hz h1 h2 h3 => hthr _ _ _ _ H1 locs1 q ce rfl hk hz h1 h2 h3)
abbrev rxX4_compensatedo : Room := { frames := 7, cells := 1, slots := 6, locals := 111 }
set_option maxHeartbeats 4000000 in
set_option maxRecDepth 100000 in
theorem cxX4_compensatedo (l : Launch) (hfl : l.stackTraces = false) (G : GG) (x_q0 : Nat) (x_q1 : Nat) (q_input : Nat) (q_spread : Nat) (q_found : Nat) (x_gain : Int32) (q_s0 : Nat) (q_s1 : Nat) (q_s2 : Nat) (a0 : Int32) (a1 : Int32)   (ho_a0 : a0 < 0 ∨ 3 ≤ a0) : vx_Met l yX4_compensated wsX4_compensated rxX4_compensatedo (va_Pc [.ref x_q0, .int a0, .int a1] (PreT G (wdX4 G x_q0 x_q1 q_input q_spread q_found q_s0 q_s1 q_s2 x_gain))) NoQ (XT0 3) 1 6 (fun _ => False) := by
  refine of_tr (cc := cX4_compensated) (maxL := 9) (ret := (some .int)) (by decide) rfl (Nat.le_of_ble_eq_true rfl) ?_
  intro p e s m args below meth c ls Q S hl hP hK hT hthr
  have S : CallFix p m c cX4_compensated 9 s args wsX4_compensated RX4 := S
  obtain ⟨hx, hb, hml, hown, hts⟩ := id S
  have hl : lv_has ls 9 [(0, .ref x_q0), (1, .int a0), (2, .int a1)] := hl
  skip
  refine lv_aload_n hx hb dX4_compensated_0 rfl (lv_at hl 0 rfl) ?_
  refine lv_iload_n hx hb dX4_compensated_1 rfl (lv_at hl 1 rfl) ?_
  exact thrV (rest := []) (As := [.int a0]) S (cxX4_inSlot l hfl G x_q0 x_q1 q_input q_spread q_found q_s0 q_s1 q_s2 x_gain a0 ho_a0) (cwV 1 hts gX4_compensated_X4_inSlot rfl rfl rfl hvX4_inSlot ⟨Nat.le_of_ble_eq_true rfl, Nat.le_of_ble_eq_true rfl⟩) hK hT hP [0, 1] rfl 0 4 rfl rfl rfl rfl hl.1 rfl (Nat.le_of_ble_eq_true rfl) dX4_compensated_2 ⟨Nat.le_of_ble_eq_true rfl, Nat.le_of_ble_eq_true rfl⟩ (fun H1 locs1 q ce hk hz h1 h2 h3 => hthr _ _ _ _ H1 locs1 q ce rfl hk hz h1 h2 h3)
theorem fwx_X4_load_X4 : ∀ w ∈ wsX40, w ∈ wsX4_load := fun w h => List.mem_cons_of_mem _ (List.mem_append_left _ (List.mem_append_left _ (List.mem_append_left _ (List.mem_append_left _ (List.mem_append_left _ (List.mem_append_left _ (List.mem_append_right _ h)))))))
theorem lkx_X4_load_f18 : Cond.fieldLink RX4 18 "HalftoneScreens" "input" "LHalftoneScreens$Input;" ∈ wsX4_load := List.mem_of_getElem? (i := 1) rfl
theorem fwx_X4_load_X1 : ∀ w ∈ wsX10, w ∈ wsX4_load := fun w h => List.mem_cons_of_mem _ (List.mem_append_left _ (List.mem_append_left _ (List.mem_append_left _ (List.mem_append_left _ (List.mem_append_left _ (List.mem_append_right _ h))))))
theorem lkx_X4_load_f64 : Cond.fieldLink RX4 64 "HalftoneScreens$Input" "parts" "[I" ∈ wsX4_load := List.mem_of_getElem? (i := 2) rfl
abbrev rxX4_load : Room := { frames := 7, cells := 1, slots := 6, locals := 111 }
set_option maxHeartbeats 4000000 in
set_option maxRecDepth 100000 in
theorem cxX4_load (l : Launch) (hfl : l.stackTraces = false) (G : GG) (x_q0 : Nat) (x_q1 : Nat) (input_q0 : Nat) (input_q1 : Nat) (input_q2 : Nat) (s_q0 : Nat) (s_q1 : Nat) (s_q2 : Nat) (s_q3 : Nat) (s_q4 : Nat) (s_q5 : Nat) (s_q6 : Nat) (s_q7 : Nat) (q_spread : Nat) (q_found : Nat) (x_gain : Int32) (q_s0 : Nat) (q_s1 : Nat) (q_s2 : Nat) (input_length : Int32) (input_phase : Int32) (input_part : Int32) (input_negative : Int32) (input_spot : Int32) (input_middle : Int32) (input_codesA : (Nat → Int32)) (input_partsA : (Nat → Int32)) (s_present : Int32) (s_a : Int32) (s_b : Int32) (s_c : Int32) (s_d : Int32) (s_spot : Int32) (s_middle : Int32) (s_tint : Int32) (s_w : Int32) (s_s : Int32) (s_h : Int32) (s_valuesA : (Nat → Int32)) (s_otherValuesA : (Nat → Int32)) (s_ranksA : (Nat → Int32)) (s_oldRanksA : (Nat → Int32)) (s_orderA : (Nat → Int32)) (s_neighborsA : (Nat → Int32)) (a0 : Int32) (o0 : Nat) (o1 : Int32) (o2 : Int32) (o3 : Int32) (o4 : Int32) (o5 : Int32) (o6 : (Nat → Int32)) (h : mxX4_load input_length input_codesA input_partsA = some (o0, o1, o2, o3, o4, o5, o6)) (zA : ∀ (p0 : Int32) (p1 : Int32) (p2 : Int32) (p3 : Int32) (p4 : Int32) (p5 : Int32) (p6 : (Nat → Int32)), mX1_isComplete input_length input_codesA input_partsA = some (p0, p1, p2, p3, p4, p5, p6) → isZ p5) (k_s : Nat) (hk_s : k_s < 3) (hs_s : a0 = nI k_s) (he_s : scF q_s0 q_s1 q_s2 k_s = some s_q0) : vx_Met l yX4_load wsX4_load rxX4_load (va_Pc [.ref x_q0, .int a0] (PreX G (wdX4 G x_q0 x_q1 input_q0 q_spread q_found q_s0 q_s1 q_s2 x_gain ++ wdX1 G input_q0 input_q1 input_q2 input_length input_phase input_part input_negative input_spot input_middle input_codesA input_partsA ++ wdX3 G s_q0 s_q1 s_q2 s_q3 s_q4 s_q5 s_q6 s_q7 s_present s_a s_b s_c s_d s_spot s_middle s_tint s_w s_s s_h s_valuesA s_otherValuesA s_ranksA s_oldRanksA s_orderA s_neighborsA))) NoQ (XTw G (va_A0 (wdX4 G x_q0 x_q1 input_q0 q_spread q_found q_s0 q_s1 q_s2 x_gain ++ wdX1 G input_q0 input_q1 input_q2 input_length input_phase input_part input_negative input_spot input_middle input_codesA input_partsA ++ wdX3 G s_q0 s_q1 s_q2 s_q3 s_q4 s_q5 s_q6 s_q7 s_present s_a s_b s_c s_d s_spot s_middle s_tint s_w s_s s_h s_valuesA s_otherValuesA s_ranksA s_oldRanksA s_orderA s_neighborsA)) (wdX4 G x_q0 x_q1 input_q0 q_spread q_found q_s0 q_s1 q_s2 x_gain ++ wdX1 G input_q0 input_q1 input_q2 input_length o1 o2 o3 o4 o5 input_codesA o6 ++ wdX3 G s_q0 s_q1 s_q2 s_q3 s_q4 s_q5 s_q6 s_q7 s_present s_a s_b s_c s_d s_spot s_middle s_tint s_w s_s s_h s_valuesA s_otherValuesA s_ranksA s_oldRanksA s_orderA s_neighborsA) o0) 1 6 (va_A0 (wdX4 G x_q0 x_q1 input_q0 q_spread q_found q_s0 q_s1 q_s2 x_gain ++ wdX1 G input_q0 input_q1 input_q2 input_length input_phase input_part input_negative input_spot input_middle input_codesA input_partsA ++ wdX3 G s_q0 s_q1 s_q2 s_q3 s_q4 s_q5 s_q6 s_q7 s_present s_a s_b s_c s_d s_spot s_middle s_tint s_w s_s s_h s_valuesA s_otherValuesA s_ranksA s_oldRanksA s_orderA s_neighborsA)) := by
  refine of_tw (cc := cX4_load) (maxL := 7) (ret := (some .int)) (by decide) rfl (Nat.le_of_ble_eq_true rfl) ?_
  intro p e s m args below meth c ls Q A S hl hP hD hS hK hT hA hthr
  obtain ⟨H, hH⟩ : ∃ H, H = s.heap := ⟨_, rfl⟩
  obtain ⟨locs, hlocs⟩ : ∃ L : List Loc, L = [] := ⟨_, rfl⟩
  rw [← hlocs]
  rw [← hlocs] at hS
  have hP : va_P G.1 vwCl (wdX4 G x_q0 x_q1 input_q0 q_spread q_found q_s0 q_s1 q_s2 x_gain ++ wdX1 G input_q0 input_q1 input_q2 input_length input_phase input_part input_negative input_spot input_middle input_codesA input_partsA ++ wdX3 G s_q0 s_q1 s_q2 s_q3 s_q4 s_q5 s_q6 s_q7 s_present s_a s_b s_c s_d s_spot s_middle s_tint s_w s_s s_h s_valuesA s_otherValuesA s_ranksA s_oldRanksA s_orderA s_neighborsA) H := by rw [hH]; exact hP
  have hS : va_S A s.heap H locs := by rw [hH]; exact hS
  suffices hgo : W p l e rxX4_load s m args below meth c H locs 0 0 Q (F0 m 0 ls []) by rw [hH] at hgo; exact hgo
  have S : CallFix p m c cX4_load 7 s args wsX4_load RX4 := S
  obtain ⟨hx, hb, hml, hown, hts⟩ := id S
  have hl : lv_has ls 7 [(0, .ref x_q0), (1, .int a0)] := hl
  unfold mxX4_load at h
  refine lv_aload_n hx hb dX4_load_0 rfl (lv_at hl 0 rfl) ?_
  refine lv_iload_n hx hb dX4_load_1 rfl (lv_at hl 1 rfl) ?_
  refine roVq1 (rest := []) (As := [.int a0]) S (ctX4_inSlot l G x_q0 x_q1 input_q0 q_spread q_found q_s0 q_s1 q_s2 x_gain a0 s_q0 k_s hk_s hs_s he_s) (cwV 1 hts gX4_load_X4_inSlot rfl rfl rfl hvX4_inSlot ⟨Nat.le_of_ble_eq_true rfl, Nat.le_of_ble_eq_true rfl⟩) hK hP [0, 1] rfl 0 4 rfl rfl rfl rfl hl.1 rfl (Nat.le_of_ble_eq_true rfl) dX4_load_2 ⟨Nat.zero_le _, Nat.zero_le _⟩ ?_
  refine lv_astore_n (lv' := [(2, .ref s_q0), (0, .ref x_q0), (1, .int a0)]) hx hb dX4_load_5 rfl hl (by decide) rfl (fun ls hl => ?_)
  refine lv_aload_n hx hb dX4_load_6 rfl (lv_at hl 1 rfl) ?_
  refine va_get (D := G.1) (ci := 4) (v := .ref input_q0) (C := RX4) (T := TX4) (N := 5) hx hb hts fwx_X4_load_X4 hown hK.1 hP 0 rfl rfl 1 (by decide) (hts (.fieldLink RX4 18 "HalftoneScreens" "input" "LHalftoneScreens$Input;") lkx_X4_load_f18) (fun _ h9 => h9) rfl dX4_load_7 ?_
  obtain ⟨r1_0, r1_1, r1_2, r1_3, r1_4, r1_5, r1_6, g1, h⟩ := bnd7_e h
  refine rwV_back (rest := []) (As := []) (wr := [(x_q0, .inr (4, [.ref x_q1, .ref input_q0, .ref q_spread, .ref q_found, .int x_gain])), (x_q1, .inl (G.2 2, 3, .inr (.inr (.inr (.inr (scF q_s0 q_s1 q_s2)))))), (s_q0, .inr (3, [.ref s_q1, .ref s_q2, .ref s_q3, .ref s_q4, .ref s_q5, .ref s_q6, .ref s_q7, .int s_present, .int s_a, .int s_b, .int s_c, .int s_d, .int s_spot, .int s_middle, .int s_tint])), (s_q1, .inr (2, [.int s_w, .int s_s, .int s_h])), (s_q2, .inl (G.2 0, 64, .inl s_valuesA)), (s_q3, .inl (G.2 0, 64, .inl s_otherValuesA)), (s_q4, .inl (G.2 0, 64, .inl s_ranksA)), (s_q5, .inl (G.2 0, 64, .inl s_oldRanksA)), (s_q6, .inl (G.2 0, 64, .inl s_orderA)), (s_q7, .inl (G.2 0, 256, .inl s_neighborsA))]) (wf := wdX4 G x_q0 x_q1 input_q0 q_spread q_found q_s0 q_s1 q_s2 x_gain ++ wdX1 G input_q0 input_q1 input_q2 input_length r1_1 r1_2 r1_3 r1_4 r1_5 input_codesA r1_6 ++ wdX3 G s_q0 s_q1 s_q2 s_q3 s_q4 s_q5 s_q6 s_q7 s_present s_a s_b s_c s_d s_spot s_middle s_tint s_w s_s s_h s_valuesA s_otherValuesA s_ranksA s_oldRanksA s_orderA s_neighborsA) S (ctX1_isComplete l G input_q0 input_q1 input_q2 input_length input_phase input_part input_negative input_spot input_middle input_codesA input_partsA r1_0 r1_1 r1_2 r1_3 r1_4 r1_5 r1_6 g1) (cwV 0 hts gX4_load_X1_isComplete rfl rfl rfl hvX1_isComplete ⟨Nat.le_of_ble_eq_true rfl, Nat.le_of_ble_eq_true rfl⟩) hK hP hD hS xb_triv (fun _ _ _ => trivial) [2, 3, 4] [0, 1, 5, 6, 7, 8, 9, 10, 11, 12] [0, 1, 10, 11, 12, 2, 3, 4, 5, 6, 7, 8, 9] rfl rfl rfl rfl rfl rfl rfl 2 1 rfl rfl rfl rfl hl.1 rfl (Nat.le_of_ble_eq_true rfl) dX4_load_10 ⟨Nat.zero_le _, Nat.zero_le _⟩ (fun hz1 H locs hP hD hS => ?_)
  have hP : va_P G.1 vwCl (wdX4 G x_q0 x_q1 input_q0 q_spread q_found q_s0 q_s1 q_s2 x_gain ++ wdX1 G input_q0 input_q1 input_q2 input_length r1_1 r1_2 r1_3 r1_4 r1_5 input_codesA r1_6 ++ wdX3 G s_q0 s_q1 s_q2 s_q3 s_q4 s_q5 s_q6 s_q7 s_present s_a s_b s_c s_d s_spot s_middle s_tint s_w s_s s_h s_valuesA s_otherValuesA s_ranksA s_oldRanksA s_orderA s_neighborsA) H := hP
  have hD : va_D A (wdX4 G x_q0 x_q1 input_q0 q_spread q_found q_s0 q_s1 q_s2 x_gain ++ wdX1 G input_q0 input_q1 input_q2 input_length r1_1 r1_2 r1_3 r1_4 r1_5 input_codesA r1_6 ++ wdX3 G s_q0 s_q1 s_q2 s_q3 s_q4 s_q5 s_q6 s_q7 s_present s_a s_b s_c s_d s_spot s_middle s_tint s_w s_s s_h s_valuesA s_otherValuesA s_ranksA s_oldRanksA s_orderA s_neighborsA) := hD
  by_cases c2 : r1_0 = 0
  · replace h := ite_t c2 h
    obtain ⟨rfl, rfl, rfl, rfl, rfl, rfl, rfl⟩ := sm7 h
    subst c2
    exact thrS (rest := []) (As := [.int 0]) S (cxX4_needState l hfl) (va_cwS 1 hts gX4_load_X4_needState rfl rfl rfl hsX4_needState ⟨Nat.le_of_ble_eq_true rfl, Nat.le_of_ble_eq_true rfl⟩) TT.blind (fun U hU hW => by rw [hU]; exact TT.warm hW ((hT.kept hS.2.1).narrow (fun _ h => h.elim))) rfl hl.1 rfl (Nat.le_of_ble_eq_true rfl) dX4_load_13 ⟨Nat.le_of_ble_eq_true rfl, Nat.le_of_ble_eq_true rfl⟩ (fun H1 locs1 q ce hk hz h1 h2 h3 => hthr _ _ _ _ H1 locs1 q ce rfl (hk.P hP) hD (hk.S hS hz) h1 h2 h3)
  · replace h := ite_f c2 h
    refine roSv1 (rest := []) (As := [.int r1_0]) S (ctX4_needState l r1_0 c2) (va_cwS 1 hts gX4_load_X4_needState rfl rfl rfl hsX4_needState ⟨Nat.le_of_ble_eq_true rfl, Nat.le_of_ble_eq_true rfl⟩) rfl hl.1 rfl (Nat.le_of_ble_eq_true rfl) dX4_load_13 ⟨Nat.zero_le _, Nat.zero_le _⟩ ?_
    refine lv_aload_n hx hb dX4_load_16 rfl (lv_at hl 1 rfl) ?_
    refine va_get (D := G.1) (ci := 4) (v := .ref input_q0) (C := RX4) (T := TX4) (N := 5) hx hb hts fwx_X4_load_X4 hown hK.1 hP 0 rfl rfl 1 (by decide) (hts (.fieldLink RX4 18 "HalftoneScreens" "input" "LHalftoneScreens$Input;") lkx_X4_load_f18) (fun _ h9 => h9) rfl dX4_load_17 ?_
    refine va_get (D := G.1) (ci := 1) (v := .ref input_q2) (C := RX1) (T := TX1) (N := 8) hx hb hts fwx_X4_load_X1 hown hK.1 hP 2 rfl rfl 1 (by decide) (hts (.fieldLink RX4 64 "HalftoneScreens$Input" "parts" "[I") lkx_X4_load_f64) (fun _ h9 => h9) rfl dX4_load_20 ?_
    refine lv_iconst (v := 0) hx hb dX4_load_23 (by decide) ?_
    obtain ⟨r3_0, g3, h⟩ := bnd1_e h
    refine roSi1 (rest := []) (As := [.ref input_q2, .int 0]) S (ctX4_at l G input_q2 4 r1_6 0 r3_0 g3) (va_cwS 2 hts gX4_load_X4_at rfl rfl rfl hsX4_at ⟨Nat.le_of_ble_eq_true rfl, Nat.le_of_ble_eq_true rfl⟩) hK hP [4] rfl rfl hl.1 rfl (Nat.le_of_ble_eq_true rfl) dX4_load_24 ⟨Nat.zero_le _, Nat.zero_le _⟩ (fun _ => ?_)
    refine lv_istore_n (lv' := [(3, .int r3_0), (2, .ref s_q0), (0, .ref x_q0), (1, .int a0)]) hx hb dX4_load_27 rfl hl (by decide) rfl (fun ls hl => ?_)
    refine lv_aload_n hx hb dX4_load_28 rfl (lv_at hl 2 rfl) ?_
    refine va_get (D := G.1) (ci := 4) (v := .ref input_q0) (C := RX4) (T := TX4) (N := 5) hx hb hts fwx_X4_load_X4 hown hK.1 hP 0 rfl rfl 1 (by decide) (hts (.fieldLink RX4 18 "HalftoneScreens" "input" "LHalftoneScreens$Input;") lkx_X4_load_f18) (fun _ h9 => h9) rfl dX4_load_29 ?_
    refine va_get (D := G.1) (ci := 1) (v := .ref input_q2) (C := RX1) (T := TX1) (N := 8) hx hb hts fwx_X4_load_X1 hown hK.1 hP 2 rfl rfl 1 (by decide) (hts (.fieldLink RX4 64 "HalftoneScreens$Input" "parts" "[I") lkx_X4_load_f64) (fun _ h9 => h9) rfl dX4_load_32 ?_
    refine lv_iconst (v := 1) hx hb dX4_load_35 (by decide) ?_
    obtain ⟨r4_0, g4, h⟩ := bnd1_e h
    refine roSi1 (rest := []) (As := [.ref input_q2, .int 1]) S (ctX4_at l G input_q2 4 r1_6 1 r4_0 g4) (va_cwS 2 hts gX4_load_X4_at rfl rfl rfl hsX4_at ⟨Nat.le_of_ble_eq_true rfl, Nat.le_of_ble_eq_true rfl⟩) hK hP [4] rfl rfl hl.1 rfl (Nat.le_of_ble_eq_true rfl) dX4_load_36 ⟨Nat.zero_le _, Nat.zero_le _⟩ (fun _ => ?_)
    refine lv_istore (lv' := [(4, .int r4_0), (3, .int r3_0), (2, .ref s_q0), (0, .ref x_q0), (1, .int a0)]) hx hb dX4_load_39 hl (by decide) rfl (fun ls hl => ?_)
    refine lv_aload_n hx hb dX4_load_41 rfl (lv_at hl 3 rfl) ?_
    refine va_get (D := G.1) (ci := 4) (v := .ref input_q0) (C := RX4) (T := TX4) (N := 5) hx hb hts fwx_X4_load_X4 hown hK.1 hP 0 rfl rfl 1 (by decide) (hts (.fieldLink RX4 18 "HalftoneScreens" "input" "LHalftoneScreens$Input;") lkx_X4_load_f18) (fun _ h9 => h9) rfl dX4_load_42 ?_
    refine va_get (D := G.1) (ci := 1) (v := .ref input_q2) (C := RX1) (T := TX1) (N := 8) hx hb hts fwx_X4_load_X1 hown hK.1 hP 2 rfl rfl 1 (by decide) (hts (.fieldLink RX4 64 "HalftoneScreens$Input" "parts" "[I") lkx_X4_load_f64) (fun _ h9 => h9) rfl dX4_load_45 ?_
    refine lv_iconst (v := 2) hx hb dX4_load_48 (by decide) ?_
    obtain ⟨r5_0, g5, h⟩ := bnd1_e h
    refine roSi1 (rest := []) (As := [.ref input_q2, .int 2]) S (ctX4_at l G input_q2 4 r1_6 2 r5_0 g5) (va_cwS 2 hts gX4_load_X4_at rfl rfl rfl hsX4_at ⟨Nat.le_of_ble_eq_true rfl, Nat.le_of_ble_eq_true rfl⟩) hK hP [4] rfl rfl hl.1 rfl (Nat.le_of_ble_eq_true rfl) dX4_load_49 ⟨Nat.zero_le _, Nat.zero_le _⟩ (fun _ => ?_)
    refine lv_istore (lv' := [(5, .int r5_0), (4, .int r4_0), (3, .int r3_0), (2, .ref s_q0), (0, .ref x_q0), (1, .int a0)]) hx hb dX4_load_52 hl (by decide) rfl (fun ls hl => ?_)
    refine lv_aload_n hx hb dX4_load_54 rfl (lv_at hl 4 rfl) ?_
    refine va_get (D := G.1) (ci := 4) (v := .ref input_q0) (C := RX4) (T := TX4) (N := 5) hx hb hts fwx_X4_load_X4 hown hK.1 hP 0 rfl rfl 1 (by decide) (hts (.fieldLink RX4 18 "HalftoneScreens" "input" "LHalftoneScreens$Input;") lkx_X4_load_f18) (fun _ h9 => h9) rfl dX4_load_55 ?_
    refine va_get (D := G.1) (ci := 1) (v := .ref input_q2) (C := RX1) (T := TX1) (N := 8) hx hb hts fwx_X4_load_X1 hown hK.1 hP 2 rfl rfl 1 (by decide) (hts (.fieldLink RX4 64 "HalftoneScreens$Input" "parts" "[I") lkx_X4_load_f64) (fun _ h9 => h9) rfl dX4_load_58 ?_
    refine lv_iconst (v := 3) hx hb dX4_load_61 (by decide) ?_
    obtain ⟨r6_0, g6, h⟩ := bnd1_e h
    refine roSi1 (rest := []) (As := [.ref input_q2, .int 3]) S (ctX4_at l G input_q2 4 r1_6 3 r6_0 g6) (va_cwS 2 hts gX4_load_X4_at rfl rfl rfl hsX4_at ⟨Nat.le_of_ble_eq_true rfl, Nat.le_of_ble_eq_true rfl⟩) hK hP [4] rfl rfl hl.1 rfl (Nat.le_of_ble_eq_true rfl) dX4_load_62 ⟨Nat.zero_le _, Nat.zero_le _⟩ (fun _ => ?_)
    refine lv_istore (lv' := [(6, .int r6_0), (5, .int r5_0), (4, .int r4_0), (3, .int r3_0), (2, .ref s_q0), (0, .ref x_q0), (1, .int a0)]) hx hb dX4_load_65 hl (by decide) rfl (fun ls hl => ?_)
    refine lv_iload_n hx hb dX4_load_67 rfl (lv_at hl 3 rfl) ?_
    refine lv_iload hx hb dX4_load_68 (lv_at hl 2 rfl) ?_
    refine lv_iload hx hb dX4_load_70 (lv_at hl 1 rfl) ?_
    refine lv_iload hx hb dX4_load_72 (lv_at hl 0 rfl) ?_
    obtain ⟨r7_0, g7, h⟩ := bnd1_e h
    refine roSi1 (rest := []) (As := [.int r3_0, .int r4_0, .int r5_0, .int r6_0]) S (ctX4_areaOf l G r3_0 r4_0 r5_0 r6_0 r7_0 g7) (va_cwS 4 hts gX4_load_X4_areaOf rfl rfl rfl hsX4_areaOf ⟨Nat.le_of_ble_eq_true rfl, Nat.le_of_ble_eq_true rfl⟩) hK hP [] rfl rfl hl.1 rfl (Nat.le_of_ble_eq_true rfl) dX4_load_74 ⟨Nat.zero_le _, Nat.zero_le _⟩ (fun _ => ?_)
    obtain ⟨r8_0, g8, h⟩ := bnd1_e h
    refine roSi1 (rest := []) (As := [.int r7_0]) S (ctX4_isArea l G r7_0 r8_0 g8) (va_cwS 1 hts gX4_load_X4_isArea rfl rfl rfl hsX4_isArea ⟨Nat.le_of_ble_eq_true rfl, Nat.le_of_ble_eq_true rfl⟩) hK hP [] rfl rfl hl.1 rfl (Nat.le_of_ble_eq_true rfl) dX4_load_77 ⟨Nat.zero_le _, Nat.zero_le _⟩ (fun hz8 => ?_)
    by_cases c9 : r8_0 = 0
    · replace h := ite_t c9 h
      obtain ⟨rfl, rfl, rfl, rfl, rfl, rfl, rfl⟩ := sm7 h
      subst c9
      exact thrS (rest := []) (As := [.int 0]) S (cxX4_needArgument l hfl) (va_cwS 1 hts gX4_load_X4_needArgument rfl rfl rfl hsX4_needArgument ⟨Nat.le_of_ble_eq_true rfl, Nat.le_of_ble_eq_true rfl⟩) TT.blind (fun U hU hW => by rw [hU]; exact TT.warm hW ((hT.kept hS.2.1).narrow (fun _ h => h.elim))) rfl hl.1 rfl (Nat.le_of_ble_eq_true rfl) dX4_load_80 ⟨Nat.le_of_ble_eq_true rfl, Nat.le_of_ble_eq_true rfl⟩ (fun H1 locs1 q ce hk hz h1 h2 h3 => hthr _ _ _ _ H1 locs1 q ce rfl (hk.P hP) hD (hk.S hS hz) h1 h2 h3)
    · replace h := ite_f c9 h
      refine roSv1 (rest := []) (As := [.int r8_0]) S (ctX4_needArgument l r8_0 c9) (va_cwS 1 hts gX4_load_X4_needArgument rfl rfl rfl hsX4_needArgument ⟨Nat.le_of_ble_eq_true rfl, Nat.le_of_ble_eq_true rfl⟩) rfl hl.1 rfl (Nat.le_of_ble_eq_true rfl) dX4_load_80 ⟨Nat.zero_le _, Nat.zero_le _⟩ ?_
      exact nomatch h
abbrev rxX4_setScreen : Room := { frames := 7, cells := 1, slots := 6, locals := 111 }
set_option maxHeartbeats 4000000 in
set_option maxRecDepth 100000 in
theorem cxX4_setScreen (l : Launch) (hfl : l.stackTraces = false) (G : GG) (x_q0 : Nat) (x_q1 : Nat) (s_q0 : Nat) (s_q1 : Nat) (s_q2 : Nat) (s_q3 : Nat) (s_q4 : Nat) (s_q5 : Nat) (s_q6 : Nat) (s_q7 : Nat) (q_input : Nat) (q_spread : Nat) (q_found : Nat) (x_gain : Int32) (q_s0 : Nat) (q_s1 : Nat) (q_s2 : Nat) (s_present : Int32) (s_a : Int32) (s_b : Int32) (s_c : Int32) (s_d : Int32) (s_spot : Int32) (s_middle : Int32) (s_tint : Int32) (s_w : Int32) (s_s : Int32) (s_h : Int32) (s_valuesA : (Nat → Int32)) (s_otherValuesA : (Nat → Int32)) (s_ranksA : (Nat → Int32)) (s_oldRanksA : (Nat → Int32)) (s_orderA : (Nat → Int32)) (s_neighborsA : (Nat → Int32)) (a0 : Int32) (a1 : Int32) (a2 : Int32) (a3 : Int32) (a4 : Int32) (a5 : Int32) (o0 : Nat) (h : mxX4_setScreen a1 a2 a3 a4 a5 = some (o0))  (k_s : Nat) (hk_s : k_s < 3) (hs_s : a0 = nI k_s) (he_s : scF q_s0 q_s1 q_s2 k_s = some s_q0) : vx_Met l yX4_setScreen wsX4_setScreen rxX4_setScreen (va_Pc [.ref x_q0, .int a0, .int a1, .int a2, .int a3, .int a4, .int a5] (PreT G (wdX4 G x_q0 x_q1 q_input q_spread q_found q_s0 q_s1 q_s2 x_gain ++ wdX3 G s_q0 s_q1 s_q2 s_q3 s_q4 s_q5 s_q6 s_q7 s_present s_a s_b s_c s_d s_spot s_middle s_tint s_w s_s s_h s_valuesA s_otherValuesA s_ranksA s_oldRanksA s_orderA s_neighborsA))) NoQ (XT0 o0) 1 6 (fun _ => False) := by
  refine of_tr (cc := cX4_setScreen) (maxL := 8) (ret := (some .int)) (by decide) rfl (Nat.le_of_ble_eq_true rfl) ?_
  intro p e s m args below meth c ls Q S hl hP hK hT hthr
  have S : CallFix p m c cX4_setScreen 8 s args wsX4_setScreen RX4 := S
  obtain ⟨hx, hb, hml, hown, hts⟩ := id S
  have hl : lv_has ls 8 [(0, .ref x_q0), (1, .int a0), (2, .int a1), (3, .int a2), (4, .int a3), (5, .int a4), (6, .int a5)] := hl
  unfold mxX4_setScreen at h
  refine lv_aload_n hx hb dX4_setScreen_0 rfl (lv_at hl 0 rfl) ?_
  refine lv_iload_n hx hb dX4_setScreen_1 rfl (lv_at hl 1 rfl) ?_
  refine roVq1 (rest := []) (As := [.int a0]) S (ctX4_inSlot l G x_q0 x_q1 q_input q_spread q_found q_s0 q_s1 q_s2 x_gain a0 s_q0 k_s hk_s hs_s he_s) (cwV 1 hts gX4_setScreen_X4_inSlot rfl rfl rfl hvX4_inSlot ⟨Nat.le_of_ble_eq_true rfl, Nat.le_of_ble_eq_true rfl⟩) hK hP [0, 1] rfl 0 4 rfl rfl rfl rfl hl.1 rfl (Nat.le_of_ble_eq_true rfl) dX4_setScreen_2 ⟨Nat.zero_le _, Nat.zero_le _⟩ ?_
  refine lv_astore (lv' := [(7, .ref s_q0), (0, .ref x_q0), (1, .int a0), (2, .int a1), (3, .int a2), (4, .int a3), (5, .int a4), (6, .int a5)]) hx hb dX4_setScreen_5 hl (by decide) rfl (fun ls hl => ?_)
  refine lv_iload_n hx hb dX4_setScreen_7 rfl (lv_at hl 3 rfl) ?_
  obtain ⟨r1_0, g1, h⟩ := bnd1_e h
  refine roSi1 (rest := []) (As := [.int a1]) S (ctX4_isComponent l G a1 r1_0 g1) (va_cwS 1 hts gX4_setScreen_X4_isComponent rfl rfl rfl hsX4_isComponent ⟨Nat.le_of_ble_eq_true rfl, Nat.le_of_ble_eq_true rfl⟩) hK hP [] rfl rfl hl.1 rfl (Nat.le_of_ble_eq_true rfl) dX4_setScreen_8 ⟨Nat.zero_le _, Nat.zero_le _⟩ (fun hz1 => ?_)
  obtain ⟨K2, hK2, h⟩ := jB1_e h
  have J2 : ∀ (j2_0 : Int32) (jz2_0 : isZ j2_0) (ls : Array Slot), K2 j2_0 = some (o0) → lv_has ls 8 [(7, .ref s_q0), (0, .ref x_q0), (1, .int a0), (2, .int a1), (3, .int a2), (4, .int a3), (5, .int a4), (6, .int a5)] → W p l e rxX4_setScreen s m args below meth c s.heap [] 0 0 Q (F0 m 42 ls [.int j2_0]) := by
    intro j2_0 jz2_0 ls h hl
    replace h := (hK2 j2_0).symm.trans h
    by_cases c10 : j2_0 = 0
    · replace h := ite_t c10 h
      obtain rfl := sm1 h
      subst c10
      exact thrS (rest := []) (As := [.int 0]) S (cxX4_needArgument l hfl) (va_cwS 1 hts gX4_setScreen_X4_needArgument rfl rfl rfl hsX4_needArgument ⟨Nat.le_of_ble_eq_true rfl, Nat.le_of_ble_eq_true rfl⟩) TT.blind (fun U hU hW => by rw [hU]; exact TT.warm hW hT) rfl hl.1 rfl (Nat.le_of_ble_eq_true rfl) dX4_setScreen_42 ⟨Nat.le_of_ble_eq_true rfl, Nat.le_of_ble_eq_true rfl⟩ (fun H1 locs1 q ce hk hz h1 h2 h3 => hthr _ _ _ _ H1 locs1 q ce rfl hk hz h1 h2 h3)
    · replace h := ite_f c10 h
      refine roSv1 (rest := []) (As := [.int j2_0]) S (ctX4_needArgument l j2_0 c10) (va_cwS 1 hts gX4_setScreen_X4_needArgument rfl rfl rfl hsX4_needArgument ⟨Nat.le_of_ble_eq_true rfl, Nat.le_of_ble_eq_true rfl⟩) rfl hl.1 rfl (Nat.le_of_ble_eq_true rfl) dX4_setScreen_42 ⟨Nat.zero_le _, Nat.zero_le _⟩ ?_
      refine lv_iload hx hb dX4_setScreen_45 (lv_at hl 7 rfl) ?_
      obtain ⟨K11, hK11, h⟩ := jB1_e h
      have J11 : ∀ (j11_0 : Int32) (jz11_0 : isZ j11_0) (ls : Array Slot), K11 j11_0 = some (o0) → lv_has ls 8 [(7, .ref s_q0), (0, .ref x_q0), (1, .int a0), (2, .int a1), (3, .int a2), (4, .int a3), (5, .int a4), (6, .int a5)] → W p l e rxX4_setScreen s m args below meth c s.heap [] 0 0 Q (F0 m 61 ls [.int j11_0]) := by
        intro j11_0 jz11_0 ls h hl
        replace h := (hK11 j11_0).symm.trans h
        by_cases c14 : j11_0 = 0
        · replace h := ite_t c14 h
          obtain rfl := sm1 h
          subst c14
          exact thrS (rest := []) (As := [.int 0]) S (cxX4_needArgument l hfl) (va_cwS 1 hts gX4_setScreen_X4_needArgument rfl rfl rfl hsX4_needArgument ⟨Nat.le_of_ble_eq_true rfl, Nat.le_of_ble_eq_true rfl⟩) TT.blind (fun U hU hW => by rw [hU]; exact TT.warm hW hT) rfl hl.1 rfl (Nat.le_of_ble_eq_true rfl) dX4_setScreen_61 ⟨Nat.le_of_ble_eq_true rfl, Nat.le_of_ble_eq_true rfl⟩ (fun H1 locs1 q ce hk hz h1 h2 h3 => hthr _ _ _ _ H1 locs1 q ce rfl hk hz h1 h2 h3)
        · replace h := ite_f c14 h
          refine roSv1 (rest := []) (As := [.int j11_0]) S (ctX4_needArgument l j11_0 c14) (va_cwS 1 hts gX4_setScreen_X4_needArgument rfl rfl rfl hsX4_needArgument ⟨Nat.le_of_ble_eq_true rfl, Nat.le_of_ble_eq_true rfl⟩) rfl hl.1 rfl (Nat.le_of_ble_eq_true rfl) dX4_setScreen_61 ⟨Nat.zero_le _, Nat.zero_le _⟩ ?_
          refine lv_iload_n hx hb dX4_setScreen_64 rfl (lv_at hl 3 rfl) ?_
          refine lv_iload_n hx hb dX4_setScreen_65 rfl (lv_at hl 4 rfl) ?_
          refine lv_iload hx hb dX4_setScreen_66 (lv_at hl 5 rfl) ?_
          refine lv_iload hx hb dX4_setScreen_68 (lv_at hl 6 rfl) ?_
          obtain ⟨r15_0, g15, h⟩ := bnd1_e h
          refine roSi1 (rest := []) (As := [.int a1, .int a2, .int a3, .int a4]) S (ctX4_areaOf l G a1 a2 a3 a4 r15_0 g15) (va_cwS 4 hts gX4_setScreen_X4_areaOf rfl rfl rfl hsX4_areaOf ⟨Nat.le_of_ble_eq_true rfl, Nat.le_of_ble_eq_true rfl⟩) hK hP [] rfl rfl hl.1 rfl (Nat.le_of_ble_eq_true rfl) dX4_setScreen_70 ⟨Nat.zero_le _, Nat.zero_le _⟩ (fun _ => ?_)
          obtain ⟨r16_0, g16, h⟩ := bnd1_e h
          refine roSi1 (rest := []) (As := [.int r15_0]) S (ctX4_isArea l G r15_0 r16_0 g16) (va_cwS 1 hts gX4_setScreen_X4_isArea rfl rfl rfl hsX4_isArea ⟨Nat.le_of_ble_eq_true rfl, Nat.le_of_ble_eq_true rfl⟩) hK hP [] rfl rfl hl.1 rfl (Nat.le_of_ble_eq_true rfl) dX4_setScreen_73 ⟨Nat.zero_le _, Nat.zero_le _⟩ (fun hz16 => ?_)
          by_cases c17 : r16_0 = 0
          · replace h := ite_t c17 h
            obtain rfl := sm1 h
            subst c17
            exact thrS (rest := []) (As := [.int 0]) S (cxX4_needArgument l hfl) (va_cwS 1 hts gX4_setScreen_X4_needArgument rfl rfl rfl hsX4_needArgument ⟨Nat.le_of_ble_eq_true rfl, Nat.le_of_ble_eq_true rfl⟩) TT.blind (fun U hU hW => by rw [hU]; exact TT.warm hW hT) rfl hl.1 rfl (Nat.le_of_ble_eq_true rfl) dX4_setScreen_76 ⟨Nat.le_of_ble_eq_true rfl, Nat.le_of_ble_eq_true rfl⟩ (fun H1 locs1 q ce hk hz h1 h2 h3 => hthr _ _ _ _ H1 locs1 q ce rfl hk hz h1 h2 h3)
          · replace h := ite_f c17 h
            refine roSv1 (rest := []) (As := [.int r16_0]) S (ctX4_needArgument l r16_0 c17) (va_cwS 1 hts gX4_setScreen_X4_needArgument rfl rfl rfl hsX4_needArgument ⟨Nat.le_of_ble_eq_true rfl, Nat.le_of_ble_eq_true rfl⟩) rfl hl.1 rfl (Nat.le_of_ble_eq_true rfl) dX4_setScreen_76 ⟨Nat.zero_le _, Nat.zero_le _⟩ ?_
            exact nomatch h
      refine lv_if_lt (tgt := 60) hx hb dX4_setScreen_47 (by decide) (fun c12 => ?_) (fun c12 => ?_)
      · replace h := ite_t c12 h
        refine lv_iconst (v := 0) hx hb dX4_setScreen_60 (by decide) ?_
        exact J11 0 isZ0 ls h hl
      · replace h := ite_f c12 h
        refine lv_iload hx hb dX4_setScreen_50 (lv_at hl 7 rfl) ?_
        refine lv_iconst (v := 4) hx hb dX4_setScreen_52 (by decide) ?_
        refine lv_icmp_gt (tgt := 60) hx hb dX4_setScreen_53 (by decide) (fun c13 => ?_) (fun c13 => ?_)
        · replace h := ite_t c13 h
          refine lv_iconst (v := 0) hx hb dX4_setScreen_60 (by decide) ?_
          exact J11 0 isZ0 ls h hl
        · replace h := ite_f c13 h
          refine lv_iconst (v := 1) hx hb dX4_setScreen_56 (by decide) ?_
          refine lv_goto (tgt := 61) hx hb dX4_setScreen_57 (by decide) ?_
          exact J11 1 isZ1 ls h hl
  refine lv_if_eq (tgt := 41) hx hb dX4_setScreen_11 (by decide) (fun c3 => ?_) (fun c3 => ?_)
  · replace h := ite_t c3 h
    refine lv_iconst (v := 0) hx hb dX4_setScreen_41 (by decide) ?_
    exact J2 0 isZ0 ls h hl
  · replace h := ite_f c3 h
    refine lv_iload_n hx hb dX4_setScreen_14 rfl (lv_at hl 4 rfl) ?_
    obtain ⟨r4_0, g4, h⟩ := bnd1_e h
    refine roSi1 (rest := []) (As := [.int a2]) S (ctX4_isComponent l G a2 r4_0 g4) (va_cwS 1 hts gX4_setScreen_X4_isComponent rfl rfl rfl hsX4_isComponent ⟨Nat.le_of_ble_eq_true rfl, Nat.le_of_ble_eq_true rfl⟩) hK hP [] rfl rfl hl.1 rfl (Nat.le_of_ble_eq_true rfl) dX4_setScreen_15 ⟨Nat.zero_le _, Nat.zero_le _⟩ (fun hz4 => ?_)
    refine lv_if_eq (tgt := 41) hx hb dX4_setScreen_18 (by decide) (fun c5 => ?_) (fun c5 => ?_)
    · replace h := ite_t c5 h
      refine lv_iconst (v := 0) hx hb dX4_setScreen_41 (by decide) ?_
      exact J2 0 isZ0 ls h hl
    · replace h := ite_f c5 h
      refine lv_iload hx hb dX4_setScreen_21 (lv_at hl 5 rfl) ?_
      obtain ⟨r6_0, g6, h⟩ := bnd1_e h
      refine roSi1 (rest := []) (As := [.int a3]) S (ctX4_isComponent l G a3 r6_0 g6) (va_cwS 1 hts gX4_setScreen_X4_isComponent rfl rfl rfl hsX4_isComponent ⟨Nat.le_of_ble_eq_true rfl, Nat.le_of_ble_eq_true rfl⟩) hK hP [] rfl rfl hl.1 rfl (Nat.le_of_ble_eq_true rfl) dX4_setScreen_23 ⟨Nat.zero_le _, Nat.zero_le _⟩ (fun hz6 => ?_)
      refine lv_if_eq (tgt := 41) hx hb dX4_setScreen_26 (by decide) (fun c7 => ?_) (fun c7 => ?_)
      · replace h := ite_t c7 h
        refine lv_iconst (v := 0) hx hb dX4_setScreen_41 (by decide) ?_
        exact J2 0 isZ0 ls h hl
      · replace h := ite_f c7 h
        refine lv_iload hx hb dX4_setScreen_29 (lv_at hl 6 rfl) ?_
        obtain ⟨r8_0, g8, h⟩ := bnd1_e h
        refine roSi1 (rest := []) (As := [.int a4]) S (ctX4_isComponent l G a4 r8_0 g8) (va_cwS 1 hts gX4_setScreen_X4_isComponent rfl rfl rfl hsX4_isComponent ⟨Nat.le_of_ble_eq_true rfl, Nat.le_of_ble_eq_true rfl⟩) hK hP [] rfl rfl hl.1 rfl (Nat.le_of_ble_eq_true rfl) dX4_setScreen_31 ⟨Nat.zero_le _, Nat.zero_le _⟩ (fun hz8 => ?_)
        refine lv_if_eq (tgt := 41) hx hb dX4_setScreen_34 (by decide) (fun c9 => ?_) (fun c9 => ?_)
        · replace h := ite_t c9 h
          refine lv_iconst (v := 0) hx hb dX4_setScreen_41 (by decide) ?_
          exact J2 0 isZ0 ls h hl
        · replace h := ite_f c9 h
          refine lv_iconst (v := 1) hx hb dX4_setScreen_37 (by decide) ?_
          refine lv_goto (tgt := 42) hx hb dX4_setScreen_38 (by decide) ?_
          exact J2 1 isZ1 ls h hl
theorem fwx_X4_remove_X3 : ∀ w ∈ wsX30, w ∈ wsX4_remove := fun w h => List.mem_cons_of_mem _ (List.mem_append_left _ (List.mem_append_left _ (List.mem_append_left _ (List.mem_append_left _ (List.mem_append_left _ (List.mem_append_left _ (List.mem_append_right _ h)))))))
theorem lkx_X4_remove_f100 : Cond.fieldLink RX4 100 "HalftoneScreens$Screen" "present" "Z" ∈ wsX4_remove := List.mem_of_getElem? (i := 1) rfl
abbrev rxX4_remove : Room := { frames := 7, cells := 1, slots := 6, locals := 111 }
set_option maxHeartbeats 4000000 in
set_option maxRecDepth 100000 in
theorem cxX4_remove (l : Launch) (hfl : l.stackTraces = false) (G : GG) (x_q0 : Nat) (x_q1 : Nat) (s_q0 : Nat) (s_q1 : Nat) (s_q2 : Nat) (s_q3 : Nat) (s_q4 : Nat) (s_q5 : Nat) (s_q6 : Nat) (s_q7 : Nat) (q_input : Nat) (q_spread : Nat) (q_found : Nat) (x_gain : Int32) (q_s0 : Nat) (q_s1 : Nat) (q_s2 : Nat) (s_present : Int32) (s_a : Int32) (s_b : Int32) (s_c : Int32) (s_d : Int32) (s_spot : Int32) (s_middle : Int32) (s_tint : Int32) (s_w : Int32) (s_s : Int32) (s_h : Int32) (s_valuesA : (Nat → Int32)) (s_otherValuesA : (Nat → Int32)) (s_ranksA : (Nat → Int32)) (s_oldRanksA : (Nat → Int32)) (s_orderA : (Nat → Int32)) (s_neighborsA : (Nat → Int32)) (a0 : Int32) (o0 : Nat) (h : mxX4_remove s_present = some (o0))  (k_s : Nat) (hk_s : k_s < 3) (hs_s : a0 = nI k_s) (he_s : scF q_s0 q_s1 q_s2 k_s = some s_q0) : vx_Met l yX4_remove wsX4_remove rxX4_remove (va_Pc [.ref x_q0, .int a0] (PreT G (wdX4 G x_q0 x_q1 q_input q_spread q_found q_s0 q_s1 q_s2 x_gain ++ wdX3 G s_q0 s_q1 s_q2 s_q3 s_q4 s_q5 s_q6 s_q7 s_present s_a s_b s_c s_d s_spot s_middle s_tint s_w s_s s_h s_valuesA s_otherValuesA s_ranksA s_oldRanksA s_orderA s_neighborsA))) NoQ (XT0 o0) 1 6 (fun _ => False) := by
  refine of_tr (cc := cX4_remove) (maxL := 3) (ret := (some .int)) (by decide) rfl (Nat.le_of_ble_eq_true rfl) ?_
  intro p e s m args below meth c ls Q S hl hP hK hT hthr
  have S : CallFix p m c cX4_remove 3 s args wsX4_remove RX4 := S
  obtain ⟨hx, hb, hml, hown, hts⟩ := id S
  have hl : lv_has ls 3 [(0, .ref x_q0), (1, .int a0)] := hl
  unfold mxX4_remove at h
  refine lv_aload_n hx hb dX4_remove_0 rfl (lv_at hl 0 rfl) ?_
  refine lv_iload_n hx hb dX4_remove_1 rfl (lv_at hl 1 rfl) ?_
  refine roVq1 (rest := []) (As := [.int a0]) S (ctX4_inSlot l G x_q0 x_q1 q_input q_spread q_found q_s0 q_s1 q_s2 x_gain a0 s_q0 k_s hk_s hs_s he_s) (cwV 1 hts gX4_remove_X4_inSlot rfl rfl rfl hvX4_inSlot ⟨Nat.le_of_ble_eq_true rfl, Nat.le_of_ble_eq_true rfl⟩) hK hP [0, 1] rfl 0 4 rfl rfl rfl rfl hl.1 rfl (Nat.le_of_ble_eq_true rfl) dX4_remove_2 ⟨Nat.zero_le _, Nat.zero_le _⟩ ?_
  refine lv_astore_n (lv' := [(2, .ref s_q0), (0, .ref x_q0), (1, .int a0)]) hx hb dX4_remove_5 rfl hl (by decide) rfl (fun ls hl => ?_)
  refine lv_aload_n hx hb dX4_remove_6 rfl (lv_at hl 0 rfl) ?_
  refine va_get (D := G.1) (ci := 3) (v := .int s_present) (C := RX3) (T := TX3) (N := 15) hx hb hts fwx_X4_remove_X3 hown hK.1 hP 2 rfl rfl 7 (by decide) (hts (.fieldLink RX4 100 "HalftoneScreens$Screen" "present" "Z") lkx_X4_remove_f100) (fun _ h9 => h9) rfl dX4_remove_7 ?_
  by_cases c1 : s_present = 0
  · replace h := ite_t c1 h
    obtain rfl := sm1 h
    subst c1
    exact thrS (rest := []) (As := [.int 0]) S (cxX4_needState l hfl) (va_cwS 1 hts gX4_remove_X4_needState rfl rfl rfl hsX4_needState ⟨Nat.le_of_ble_eq_true rfl, Nat.le_of_ble_eq_true rfl⟩) TT.blind (fun U hU hW => by rw [hU]; exact TT.warm hW hT) rfl hl.1 rfl (Nat.le_of_ble_eq_true rfl) dX4_remove_10 ⟨Nat.le_of_ble_eq_true rfl, Nat.le_of_ble_eq_true rfl⟩ (fun H1 locs1 q ce hk hz h1 h2 h3 => hthr _ _ _ _ H1 locs1 q ce rfl hk hz h1 h2 h3)
  · replace h := ite_f c1 h
    refine roSv1 (rest := []) (As := [.int s_present]) S (ctX4_needState l s_present c1) (va_cwS 1 hts gX4_remove_X4_needState rfl rfl rfl hsX4_needState ⟨Nat.le_of_ble_eq_true rfl, Nat.le_of_ble_eq_true rfl⟩) rfl hl.1 rfl (Nat.le_of_ble_eq_true rfl) dX4_remove_10 ⟨Nat.zero_le _, Nat.zero_le _⟩ ?_
    exact nomatch h
theorem fwx_X4_setCenter_X3 : ∀ w ∈ wsX30, w ∈ wsX4_setCenter := fun w h => List.mem_cons_of_mem _ (List.mem_append_left _ (List.mem_append_left _ (List.mem_append_left _ (List.mem_append_left _ (List.mem_append_right _ h)))))
theorem lkx_X4_setCenter_f100 : Cond.fieldLink RX4 100 "HalftoneScreens$Screen" "present" "Z" ∈ wsX4_setCenter := List.mem_of_getElem? (i := 1) rfl
abbrev rxX4_setCenter : Room := { frames := 7, cells := 1, slots := 6, locals := 111 }
set_option maxHeartbeats 4000000 in
set_option maxRecDepth 100000 in
theorem cxX4_setCenter (l : Launch) (hfl : l.stackTraces = false) (G : GG) (x_q0 : Nat) (x_q1 : Nat) (s_q0 : Nat) (s_q1 : Nat) (s_q2 : Nat) (s_q3 : Nat) (s_q4 : Nat) (s_q5 : Nat) (s_q6 : Nat) (s_q7 : Nat) (q_input : Nat) (q_spread : Nat) (q_found : Nat) (x_gain : Int32) (q_s0 : Nat) (q_s1 : Nat) (q_s2 : Nat) (s_present : Int32) (s_a : Int32) (s_b : Int32) (s_c : Int32) (s_d : Int32) (s_spot : Int32) (s_middle : Int32) (s_tint : Int32) (s_w : Int32) (s_s : Int32) (s_h : Int32) (s_valuesA : (Nat → Int32)) (s_otherValuesA : (Nat → Int32)) (s_ranksA : (Nat → Int32)) (s_oldRanksA : (Nat → Int32)) (s_orderA : (Nat → Int32)) (s_neighborsA : (Nat → Int32)) (a0 : Int32) (a1 : Int32) (o0 : Nat) (h : mxX4_setCenter s_present = some (o0))  (k_s : Nat) (hk_s : k_s < 3) (hs_s : a0 = nI k_s) (he_s : scF q_s0 q_s1 q_s2 k_s = some s_q0) : vx_Met l yX4_setCenter wsX4_setCenter rxX4_setCenter (va_Pc [.ref x_q0, .int a0, .int a1] (PreT G (wdX4 G x_q0 x_q1 q_input q_spread q_found q_s0 q_s1 q_s2 x_gain ++ wdX3 G s_q0 s_q1 s_q2 s_q3 s_q4 s_q5 s_q6 s_q7 s_present s_a s_b s_c s_d s_spot s_middle s_tint s_w s_s s_h s_valuesA s_otherValuesA s_ranksA s_oldRanksA s_orderA s_neighborsA))) NoQ (XT0 o0) 1 6 (fun _ => False) := by
  refine of_tr (cc := cX4_setCenter) (maxL := 4) (ret := (some .int)) (by decide) rfl (Nat.le_of_ble_eq_true rfl) ?_
  intro p e s m args below meth c ls Q S hl hP hK hT hthr
  have S : CallFix p m c cX4_setCenter 4 s args wsX4_setCenter RX4 := S
  obtain ⟨hx, hb, hml, hown, hts⟩ := id S
  have hl : lv_has ls 4 [(0, .ref x_q0), (1, .int a0), (2, .int a1)] := hl
  unfold mxX4_setCenter at h
  refine lv_aload_n hx hb dX4_setCenter_0 rfl (lv_at hl 0 rfl) ?_
  refine lv_iload_n hx hb dX4_setCenter_1 rfl (lv_at hl 1 rfl) ?_
  refine roVq1 (rest := []) (As := [.int a0]) S (ctX4_inSlot l G x_q0 x_q1 q_input q_spread q_found q_s0 q_s1 q_s2 x_gain a0 s_q0 k_s hk_s hs_s he_s) (cwV 1 hts gX4_setCenter_X4_inSlot rfl rfl rfl hvX4_inSlot ⟨Nat.le_of_ble_eq_true rfl, Nat.le_of_ble_eq_true rfl⟩) hK hP [0, 1] rfl 0 4 rfl rfl rfl rfl hl.1 rfl (Nat.le_of_ble_eq_true rfl) dX4_setCenter_2 ⟨Nat.zero_le _, Nat.zero_le _⟩ ?_
  refine lv_astore_n (lv' := [(3, .ref s_q0), (0, .ref x_q0), (1, .int a0), (2, .int a1)]) hx hb dX4_setCenter_5 rfl hl (by decide) rfl (fun ls hl => ?_)
  refine lv_aload_n hx hb dX4_setCenter_6 rfl (lv_at hl 0 rfl) ?_
  refine va_get (D := G.1) (ci := 3) (v := .int s_present) (C := RX3) (T := TX3) (N := 15) hx hb hts fwx_X4_setCenter_X3 hown hK.1 hP 2 rfl rfl 7 (by decide) (hts (.fieldLink RX4 100 "HalftoneScreens$Screen" "present" "Z") lkx_X4_setCenter_f100) (fun _ h9 => h9) rfl dX4_setCenter_7 ?_
  by_cases c1 : s_present = 0
  · replace h := ite_t c1 h
    obtain rfl := sm1 h
    subst c1
    exact thrS (rest := []) (As := [.int 0]) S (cxX4_needState l hfl) (va_cwS 1 hts gX4_setCenter_X4_needState rfl rfl rfl hsX4_needState ⟨Nat.le_of_ble_eq_true rfl, Nat.le_of_ble_eq_true rfl⟩) TT.blind (fun U hU hW => by rw [hU]; exact TT.warm hW hT) rfl hl.1 rfl (Nat.le_of_ble_eq_true rfl) dX4_setCenter_10 ⟨Nat.le_of_ble_eq_true rfl, Nat.le_of_ble_eq_true rfl⟩ (fun H1 locs1 q ce hk hz h1 h2 h3 => hthr _ _ _ _ H1 locs1 q ce rfl hk hz h1 h2 h3)
  · replace h := ite_f c1 h
    refine roSv1 (rest := []) (As := [.int s_present]) S (ctX4_needState l s_present c1) (va_cwS 1 hts gX4_setCenter_X4_needState rfl rfl rfl hsX4_needState ⟨Nat.le_of_ble_eq_true rfl, Nat.le_of_ble_eq_true rfl⟩) rfl hl.1 rfl (Nat.le_of_ble_eq_true rfl) dX4_setCenter_10 ⟨Nat.zero_le _, Nat.zero_le _⟩ ?_
    exact nomatch h
theorem fwx_X4_turn_X3 : ∀ w ∈ wsX30, w ∈ wsX4_turn := fun w h => List.mem_cons_of_mem _ (List.mem_append_left _ (List.mem_append_left _ (List.mem_append_left _ (List.mem_append_left _ (List.mem_append_left _ (List.mem_append_right _ h))))))
theorem lkx_X4_turn_f100 : Cond.fieldLink RX4 100 "HalftoneScreens$Screen" "present" "Z" ∈ wsX4_turn := List.mem_of_getElem? (i := 1) rfl
abbrev rxX4_turn : Room := { frames := 7, cells := 1, slots := 6, locals := 111 }
set_option maxHeartbeats 4000000 in
set_option maxRecDepth 100000 in
theorem cxX4_turn (l : Launch) (hfl : l.stackTraces = false) (G : GG) (x_q0 : Nat) (x_q1 : Nat) (s_q0 : Nat) (s_q1 : Nat) (s_q2 : Nat) (s_q3 : Nat) (s_q4 : Nat) (s_q5 : Nat) (s_q6 : Nat) (s_q7 : Nat) (q_input : Nat) (q_spread : Nat) (q_found : Nat) (x_gain : Int32) (q_s0 : Nat) (q_s1 : Nat) (q_s2 : Nat) (s_present : Int32) (s_a : Int32) (s_b : Int32) (s_c : Int32) (s_d : Int32) (s_spot : Int32) (s_middle : Int32) (s_tint : Int32) (s_w : Int32) (s_s : Int32) (s_h : Int32) (s_valuesA : (Nat → Int32)) (s_otherValuesA : (Nat → Int32)) (s_ranksA : (Nat → Int32)) (s_oldRanksA : (Nat → Int32)) (s_orderA : (Nat → Int32)) (s_neighborsA : (Nat → Int32)) (a0 : Int32) (a1 : Int32) (o0 : Nat) (h : mxX4_turn s_present a1 = some (o0))  (k_s : Nat) (hk_s : k_s < 3) (hs_s : a0 = nI k_s) (he_s : scF q_s0 q_s1 q_s2 k_s = some s_q0) : vx_Met l yX4_turn wsX4_turn rxX4_turn (va_Pc [.ref x_q0, .int a0, .int a1] (PreT G (wdX4 G x_q0 x_q1 q_input q_spread q_found q_s0 q_s1 q_s2 x_gain ++ wdX3 G s_q0 s_q1 s_q2 s_q3 s_q4 s_q5 s_q6 s_q7 s_present s_a s_b s_c s_d s_spot s_middle s_tint s_w s_s s_h s_valuesA s_otherValuesA s_ranksA s_oldRanksA s_orderA s_neighborsA))) NoQ (XT0 o0) 1 6 (fun _ => False) := by
  refine of_tr (cc := cX4_turn) (maxL := 4) (ret := (some .int)) (by decide) rfl (Nat.le_of_ble_eq_true rfl) ?_
  intro p e s m args below meth c ls Q S hl hP hK hT hthr
  have S : CallFix p m c cX4_turn 4 s args wsX4_turn RX4 := S
  obtain ⟨hx, hb, hml, hown, hts⟩ := id S
  have hl : lv_has ls 4 [(0, .ref x_q0), (1, .int a0), (2, .int a1)] := hl
  unfold mxX4_turn at h
  refine lv_aload_n hx hb dX4_turn_0 rfl (lv_at hl 0 rfl) ?_
  refine lv_iload_n hx hb dX4_turn_1 rfl (lv_at hl 1 rfl) ?_
  refine roVq1 (rest := []) (As := [.int a0]) S (ctX4_inSlot l G x_q0 x_q1 q_input q_spread q_found q_s0 q_s1 q_s2 x_gain a0 s_q0 k_s hk_s hs_s he_s) (cwV 1 hts gX4_turn_X4_inSlot rfl rfl rfl hvX4_inSlot ⟨Nat.le_of_ble_eq_true rfl, Nat.le_of_ble_eq_true rfl⟩) hK hP [0, 1] rfl 0 4 rfl rfl rfl rfl hl.1 rfl (Nat.le_of_ble_eq_true rfl) dX4_turn_2 ⟨Nat.zero_le _, Nat.zero_le _⟩ ?_
  refine lv_astore_n (lv' := [(3, .ref s_q0), (0, .ref x_q0), (1, .int a0), (2, .int a1)]) hx hb dX4_turn_5 rfl hl (by decide) rfl (fun ls hl => ?_)
  refine lv_iload_n hx hb dX4_turn_6 rfl (lv_at hl 3 rfl) ?_
  obtain ⟨K1, hK1, h⟩ := jB1_e h
  have J1 : ∀ (j1_0 : Int32) (jz1_0 : isZ j1_0) (ls : Array Slot), K1 j1_0 = some (o0) → lv_has ls 4 [(3, .ref s_q0), (0, .ref x_q0), (1, .int a0), (2, .int a1)] → W p l e rxX4_turn s m args below meth c s.heap [] 0 0 Q (F0 m 20 ls [.int j1_0]) := by
    intro j1_0 jz1_0 ls h hl
    replace h := (hK1 j1_0).symm.trans h
    by_cases c4 : j1_0 = 0
    · replace h := ite_t c4 h
      obtain rfl := sm1 h
      subst c4
      exact thrS (rest := []) (As := [.int 0]) S (cxX4_needArgument l hfl) (va_cwS 1 hts gX4_turn_X4_needArgument rfl rfl rfl hsX4_needArgument ⟨Nat.le_of_ble_eq_true rfl, Nat.le_of_ble_eq_true rfl⟩) TT.blind (fun U hU hW => by rw [hU]; exact TT.warm hW hT) rfl hl.1 rfl (Nat.le_of_ble_eq_true rfl) dX4_turn_20 ⟨Nat.le_of_ble_eq_true rfl, Nat.le_of_ble_eq_true rfl⟩ (fun H1 locs1 q ce hk hz h1 h2 h3 => hthr _ _ _ _ H1 locs1 q ce rfl hk hz h1 h2 h3)
    · replace h := ite_f c4 h
      refine roSv1 (rest := []) (As := [.int j1_0]) S (ctX4_needArgument l j1_0 c4) (va_cwS 1 hts gX4_turn_X4_needArgument rfl rfl rfl hsX4_needArgument ⟨Nat.le_of_ble_eq_true rfl, Nat.le_of_ble_eq_true rfl⟩) rfl hl.1 rfl (Nat.le_of_ble_eq_true rfl) dX4_turn_20 ⟨Nat.zero_le _, Nat.zero_le _⟩ ?_
      refine lv_aload_n hx hb dX4_turn_23 rfl (lv_at hl 0 rfl) ?_
      refine va_get (D := G.1) (ci := 3) (v := .int s_present) (C := RX3) (T := TX3) (N := 15) hx hb hts fwx_X4_turn_X3 hown hK.1 hP 2 rfl rfl 7 (by decide) (hts (.fieldLink RX4 100 "HalftoneScreens$Screen" "present" "Z") lkx_X4_turn_f100) (fun _ h9 => h9) rfl dX4_turn_24 ?_
      by_cases c5 : s_present = 0
      · replace h := ite_t c5 h
        obtain rfl := sm1 h
        subst c5
        exact thrS (rest := []) (As := [.int 0]) S (cxX4_needState l hfl) (va_cwS 1 hts gX4_turn_X4_needState rfl rfl rfl hsX4_needState ⟨Nat.le_of_ble_eq_true rfl, Nat.le_of_ble_eq_true rfl⟩) TT.blind (fun U hU hW => by rw [hU]; exact TT.warm hW hT) rfl hl.1 rfl (Nat.le_of_ble_eq_true rfl) dX4_turn_27 ⟨Nat.le_of_ble_eq_true rfl, Nat.le_of_ble_eq_true rfl⟩ (fun H1 locs1 q ce hk hz h1 h2 h3 => hthr _ _ _ _ H1 locs1 q ce rfl hk hz h1 h2 h3)
      · replace h := ite_f c5 h
        refine roSv1 (rest := []) (As := [.int s_present]) S (ctX4_needState l s_present c5) (va_cwS 1 hts gX4_turn_X4_needState rfl rfl rfl hsX4_needState ⟨Nat.le_of_ble_eq_true rfl, Nat.le_of_ble_eq_true rfl⟩) rfl hl.1 rfl (Nat.le_of_ble_eq_true rfl) dX4_turn_27 ⟨Nat.zero_le _, Nat.zero_le _⟩ ?_
        exact nomatch h
  refine lv_if_lt (tgt := 19) hx hb dX4_turn_7 (by decide) (fun c2 => ?_) (fun c2 => ?_)
  · replace h := ite_t c2 h
    refine lv_iconst (v := 0) hx hb dX4_turn_19 (by decide) ?_
    exact J1 0 isZ0 ls h hl
  · replace h := ite_f c2 h
    refine lv_iload_n hx hb dX4_turn_10 rfl (lv_at hl 3 rfl) ?_
    refine lv_iconst (v := 2) hx hb dX4_turn_11 (by decide) ?_
    refine lv_icmp_gt (tgt := 19) hx hb dX4_turn_12 (by decide) (fun c3 => ?_) (fun c3 => ?_)
    · replace h := ite_t c3 h
      refine lv_iconst (v := 0) hx hb dX4_turn_19 (by decide) ?_
      exact J1 0 isZ0 ls h hl
    · replace h := ite_f c3 h
      refine lv_iconst (v := 1) hx hb dX4_turn_15 (by decide) ?_
      refine lv_goto (tgt := 20) hx hb dX4_turn_16 (by decide) ?_
      exact J1 1 isZ1 ls h hl
theorem fwx_X4_shorten_X3 : ∀ w ∈ wsX30, w ∈ wsX4_shorten := fun w h => List.mem_cons_of_mem _ (List.mem_append_left _ (List.mem_append_left _ (List.mem_append_left _ (List.mem_append_left _ (List.mem_append_right _ h)))))
theorem lkx_X4_shorten_f100 : Cond.fieldLink RX4 100 "HalftoneScreens$Screen" "present" "Z" ∈ wsX4_shorten := List.mem_of_getElem? (i := 1) rfl
abbrev rxX4_shorten : Room := { frames := 7, cells := 1, slots := 6, locals := 111 }
set_option maxHeartbeats 4000000 in
set_option maxRecDepth 100000 in
theorem cxX4_shorten (l : Launch) (hfl : l.stackTraces = false) (G : GG) (x_q0 : Nat) (x_q1 : Nat) (s_q0 : Nat) (s_q1 : Nat) (s_q2 : Nat) (s_q3 : Nat) (s_q4 : Nat) (s_q5 : Nat) (s_q6 : Nat) (s_q7 : Nat) (q_input : Nat) (q_spread : Nat) (q_found : Nat) (x_gain : Int32) (q_s0 : Nat) (q_s1 : Nat) (q_s2 : Nat) (s_present : Int32) (s_a : Int32) (s_b : Int32) (s_c : Int32) (s_d : Int32) (s_spot : Int32) (s_middle : Int32) (s_tint : Int32) (s_w : Int32) (s_s : Int32) (s_h : Int32) (s_valuesA : (Nat → Int32)) (s_otherValuesA : (Nat → Int32)) (s_ranksA : (Nat → Int32)) (s_oldRanksA : (Nat → Int32)) (s_orderA : (Nat → Int32)) (s_neighborsA : (Nat → Int32)) (a0 : Int32) (o0 : Nat) (h : mxX4_shorten s_present = some (o0))  (k_s : Nat) (hk_s : k_s < 3) (hs_s : a0 = nI k_s) (he_s : scF q_s0 q_s1 q_s2 k_s = some s_q0) : vx_Met l yX4_shorten wsX4_shorten rxX4_shorten (va_Pc [.ref x_q0, .int a0] (PreT G (wdX4 G x_q0 x_q1 q_input q_spread q_found q_s0 q_s1 q_s2 x_gain ++ wdX3 G s_q0 s_q1 s_q2 s_q3 s_q4 s_q5 s_q6 s_q7 s_present s_a s_b s_c s_d s_spot s_middle s_tint s_w s_s s_h s_valuesA s_otherValuesA s_ranksA s_oldRanksA s_orderA s_neighborsA))) NoQ (XT0 o0) 1 6 (fun _ => False) := by
  refine of_tr (cc := cX4_shorten) (maxL := 4) (ret := (some .int)) (by decide) rfl (Nat.le_of_ble_eq_true rfl) ?_
  intro p e s m args below meth c ls Q S hl hP hK hT hthr
  have S : CallFix p m c cX4_shorten 4 s args wsX4_shorten RX4 := S
  obtain ⟨hx, hb, hml, hown, hts⟩ := id S
  have hl : lv_has ls 4 [(0, .ref x_q0), (1, .int a0)] := hl
  unfold mxX4_shorten at h
  refine lv_aload_n hx hb dX4_shorten_0 rfl (lv_at hl 0 rfl) ?_
  refine lv_iload_n hx hb dX4_shorten_1 rfl (lv_at hl 1 rfl) ?_
  refine roVq1 (rest := []) (As := [.int a0]) S (ctX4_inSlot l G x_q0 x_q1 q_input q_spread q_found q_s0 q_s1 q_s2 x_gain a0 s_q0 k_s hk_s hs_s he_s) (cwV 1 hts gX4_shorten_X4_inSlot rfl rfl rfl hvX4_inSlot ⟨Nat.le_of_ble_eq_true rfl, Nat.le_of_ble_eq_true rfl⟩) hK hP [0, 1] rfl 0 4 rfl rfl rfl rfl hl.1 rfl (Nat.le_of_ble_eq_true rfl) dX4_shorten_2 ⟨Nat.zero_le _, Nat.zero_le _⟩ ?_
  refine lv_astore_n (lv' := [(2, .ref s_q0), (0, .ref x_q0), (1, .int a0)]) hx hb dX4_shorten_5 rfl hl (by decide) rfl (fun ls hl => ?_)
  refine lv_aload_n hx hb dX4_shorten_6 rfl (lv_at hl 0 rfl) ?_
  refine va_get (D := G.1) (ci := 3) (v := .int s_present) (C := RX3) (T := TX3) (N := 15) hx hb hts fwx_X4_shorten_X3 hown hK.1 hP 2 rfl rfl 7 (by decide) (hts (.fieldLink RX4 100 "HalftoneScreens$Screen" "present" "Z") lkx_X4_shorten_f100) (fun _ h9 => h9) rfl dX4_shorten_7 ?_
  by_cases c1 : s_present = 0
  · replace h := ite_t c1 h
    obtain rfl := sm1 h
    subst c1
    exact thrS (rest := []) (As := [.int 0]) S (cxX4_needState l hfl) (va_cwS 1 hts gX4_shorten_X4_needState rfl rfl rfl hsX4_needState ⟨Nat.le_of_ble_eq_true rfl, Nat.le_of_ble_eq_true rfl⟩) TT.blind (fun U hU hW => by rw [hU]; exact TT.warm hW hT) rfl hl.1 rfl (Nat.le_of_ble_eq_true rfl) dX4_shorten_10 ⟨Nat.le_of_ble_eq_true rfl, Nat.le_of_ble_eq_true rfl⟩ (fun H1 locs1 q ce hk hz h1 h2 h3 => hthr _ _ _ _ H1 locs1 q ce rfl hk hz h1 h2 h3)
  · replace h := ite_f c1 h
    refine roSv1 (rest := []) (As := [.int s_present]) S (ctX4_needState l s_present c1) (va_cwS 1 hts gX4_shorten_X4_needState rfl rfl rfl hsX4_needState ⟨Nat.le_of_ble_eq_true rfl, Nat.le_of_ble_eq_true rfl⟩) rfl hl.1 rfl (Nat.le_of_ble_eq_true rfl) dX4_shorten_10 ⟨Nat.zero_le _, Nat.zero_le _⟩ ?_
    exact nomatch h
abbrev rxX4_setTint : Room := { frames := 8, cells := 1, slots := 6, locals := 134 }
set_option maxHeartbeats 4000000 in
set_option maxRecDepth 100000 in
theorem cxX4_setTint (l : Launch) (hfl : l.stackTraces = false) (G : GG) (x_q0 : Nat) (x_q1 : Nat) (s_q0 : Nat) (s_q1 : Nat) (s_q2 : Nat) (s_q3 : Nat) (s_q4 : Nat) (s_q5 : Nat) (s_q6 : Nat) (s_q7 : Nat) (q_input : Nat) (q_spread : Nat) (q_found : Nat) (x_gain : Int32) (q_s0 : Nat) (q_s1 : Nat) (q_s2 : Nat) (s_present : Int32) (s_a : Int32) (s_b : Int32) (s_c : Int32) (s_d : Int32) (s_spot : Int32) (s_middle : Int32) (s_tint : Int32) (s_w : Int32) (s_s : Int32) (s_h : Int32) (s_valuesA : (Nat → Int32)) (s_otherValuesA : (Nat → Int32)) (s_ranksA : (Nat → Int32)) (s_oldRanksA : (Nat → Int32)) (s_orderA : (Nat → Int32)) (s_neighborsA : (Nat → Int32)) (a0 : Int32) (a1 : Int32) (o0 : Nat) (h : mxX4_setTint s_present s_w s_h a1 = some (o0))  (k_s : Nat) (hk_s : k_s < 3) (hs_s : a0 = nI k_s) (he_s : scF q_s0 q_s1 q_s2 k_s = some s_q0) : vx_Met l yX4_setTint wsX4_setTint rxX4_setTint (va_Pc [.ref x_q0, .int a0, .int a1] (PreT G (wdX4 G x_q0 x_q1 q_input q_spread q_found q_s0 q_s1 q_s2 x_gain ++ wdX3 G s_q0 s_q1 s_q2 s_q3 s_q4 s_q5 s_q6 s_q7 s_present s_a s_b s_c s_d s_spot s_middle s_tint s_w s_s s_h s_valuesA s_otherValuesA s_ranksA s_oldRanksA s_orderA s_neighborsA))) NoQ (XT0 o0) 1 6 (fun _ => False) := by
  refine of_tr (cc := cX4_setTint) (maxL := 5) (ret := (some .int)) (by decide) rfl (Nat.le_of_ble_eq_true rfl) ?_
  intro p e s m args below meth c ls Q S hl hP hK hT hthr
  have S : CallFix p m c cX4_setTint 5 s args wsX4_setTint RX4 := S
  obtain ⟨hx, hb, hml, hown, hts⟩ := id S
  have hl : lv_has ls 5 [(0, .ref x_q0), (1, .int a0), (2, .int a1)] := hl
  unfold mxX4_setTint at h
  refine lv_aload_n hx hb dX4_setTint_0 rfl (lv_at hl 0 rfl) ?_
  refine lv_iload_n hx hb dX4_setTint_1 rfl (lv_at hl 1 rfl) ?_
  refine lv_iload_n hx hb dX4_setTint_2 rfl (lv_at hl 2 rfl) ?_
  obtain ⟨r1, g1, h⟩ := bnd1_e h
  obtain rfl := sm1 h
  exact thrV (rest := []) (As := [.int a0, .int a1]) S (cxX4_inSlotWithSteps l hfl G x_q0 x_q1 s_q0 s_q1 s_q2 s_q3 s_q4 s_q5 s_q6 s_q7 q_input q_spread q_found x_gain q_s0 q_s1 q_s2 s_present s_a s_b s_c s_d s_spot s_middle s_tint s_w s_s s_h s_valuesA s_otherValuesA s_ranksA s_oldRanksA s_orderA s_neighborsA a0 a1 o0 g1 k_s hk_s hs_s he_s) (cwV 2 hts gX4_setTint_X4_inSlotWithSteps rfl rfl rfl hvX4_inSlotWithSteps ⟨Nat.le_of_ble_eq_true rfl, Nat.le_of_ble_eq_true rfl⟩) hK hT hP [0, 1, 2, 3, 4, 5, 6, 7, 8, 9] rfl 0 4 rfl rfl rfl rfl hl.1 rfl (Nat.le_of_ble_eq_true rfl) dX4_setTint_3 ⟨Nat.le_of_ble_eq_true rfl, Nat.le_of_ble_eq_true rfl⟩ (fun H1 locs1 q ce hk hz h1 h2 h3 => hthr _ _ _ _ H1 locs1 q ce rfl hk hz h1 h2 h3)
theorem fwx_X4_screen_X3 : ∀ w ∈ wsX30, w ∈ wsX4_screen := fun w h => List.mem_cons_of_mem _ (List.mem_append_left _ (List.mem_append_left _ (List.mem_append_left _ (List.mem_append_left _ (List.mem_append_left _ (List.mem_append_right _ h))))))
theorem lkx_X4_screen_f100 : Cond.fieldLink RX4 100 "HalftoneScreens$Screen" "present" "Z" ∈ wsX4_screen := List.mem_of_getElem? (i := 1) rfl
abbrev rxX4_screen : Room := { frames := 7, cells := 1, slots := 6, locals := 111 }
set_option maxHeartbeats 4000000 in
set_option maxRecDepth 100000 in
theorem cxX4_screen (l : Launch) (hfl : l.stackTraces = false) (G : GG) (x_q0 : Nat) (x_q1 : Nat) (s_q0 : Nat) (s_q1 : Nat) (s_q2 : Nat) (s_q3 : Nat) (s_q4 : Nat) (s_q5 : Nat) (s_q6 : Nat) (s_q7 : Nat) (q_input : Nat) (q_spread : Nat) (q_found : Nat) (x_gain : Int32) (q_s0 : Nat) (q_s1 : Nat) (q_s2 : Nat) (s_present : Int32) (s_a : Int32) (s_b : Int32) (s_c : Int32) (s_d : Int32) (s_spot : Int32) (s_middle : Int32) (s_tint : Int32) (s_w : Int32) (s_s : Int32) (s_h : Int32) (s_valuesA : (Nat → Int32)) (s_otherValuesA : (Nat → Int32)) (s_ranksA : (Nat → Int32)) (s_oldRanksA : (Nat → Int32)) (s_orderA : (Nat → Int32)) (s_neighborsA : (Nat → Int32)) (a0 : Int32) (a1 : Int32) (o0 : Nat) (h : mxX4_screen s_present a1 = some (o0))  (k_s : Nat) (hk_s : k_s < 3) (hs_s : a0 = nI k_s) (he_s : scF q_s0 q_s1 q_s2 k_s = some s_q0) : vx_Met l yX4_screen wsX4_screen rxX4_screen (va_Pc [.ref x_q0, .int a0, .int a1] (PreT G (wdX4 G x_q0 x_q1 q_input q_spread q_found q_s0 q_s1 q_s2 x_gain ++ wdX3 G s_q0 s_q1 s_q2 s_q3 s_q4 s_q5 s_q6 s_q7 s_present s_a s_b s_c s_d s_spot s_middle s_tint s_w s_s s_h s_valuesA s_otherValuesA s_ranksA s_oldRanksA s_orderA s_neighborsA))) NoQ (XT0 o0) 1 6 (fun _ => False) := by
  refine of_tr (cc := cX4_screen) (maxL := 4) (ret := (some .int)) (by decide) rfl (Nat.le_of_ble_eq_true rfl) ?_
  intro p e s m args below meth c ls Q S hl hP hK hT hthr
  have S : CallFix p m c cX4_screen 4 s args wsX4_screen RX4 := S
  obtain ⟨hx, hb, hml, hown, hts⟩ := id S
  have hl : lv_has ls 4 [(0, .ref x_q0), (1, .int a0), (2, .int a1)] := hl
  unfold mxX4_screen at h
  refine lv_aload_n hx hb dX4_screen_0 rfl (lv_at hl 0 rfl) ?_
  refine lv_iload_n hx hb dX4_screen_1 rfl (lv_at hl 1 rfl) ?_
  refine roVq1 (rest := []) (As := [.int a0]) S (ctX4_inSlot l G x_q0 x_q1 q_input q_spread q_found q_s0 q_s1 q_s2 x_gain a0 s_q0 k_s hk_s hs_s he_s) (cwV 1 hts gX4_screen_X4_inSlot rfl rfl rfl hvX4_inSlot ⟨Nat.le_of_ble_eq_true rfl, Nat.le_of_ble_eq_true rfl⟩) hK hP [0, 1] rfl 0 4 rfl rfl rfl rfl hl.1 rfl (Nat.le_of_ble_eq_true rfl) dX4_screen_2 ⟨Nat.zero_le _, Nat.zero_le _⟩ ?_
  refine lv_astore_n (lv' := [(3, .ref s_q0), (0, .ref x_q0), (1, .int a0), (2, .int a1)]) hx hb dX4_screen_5 rfl hl (by decide) rfl (fun ls hl => ?_)
  refine lv_iload_n hx hb dX4_screen_6 rfl (lv_at hl 3 rfl) ?_
  obtain ⟨K1, hK1, h⟩ := jB1_e h
  have J1 : ∀ (j1_0 : Int32) (jz1_0 : isZ j1_0) (ls : Array Slot), K1 j1_0 = some (o0) → lv_has ls 4 [(3, .ref s_q0), (0, .ref x_q0), (1, .int a0), (2, .int a1)] → W p l e rxX4_screen s m args below meth c s.heap [] 0 0 Q (F0 m 21 ls [.int j1_0]) := by
    intro j1_0 jz1_0 ls h hl
    replace h := (hK1 j1_0).symm.trans h
    by_cases c4 : j1_0 = 0
    · replace h := ite_t c4 h
      obtain rfl := sm1 h
      subst c4
      exact thrS (rest := []) (As := [.int 0]) S (cxX4_needArgument l hfl) (va_cwS 1 hts gX4_screen_X4_needArgument rfl rfl rfl hsX4_needArgument ⟨Nat.le_of_ble_eq_true rfl, Nat.le_of_ble_eq_true rfl⟩) TT.blind (fun U hU hW => by rw [hU]; exact TT.warm hW hT) rfl hl.1 rfl (Nat.le_of_ble_eq_true rfl) dX4_screen_21 ⟨Nat.le_of_ble_eq_true rfl, Nat.le_of_ble_eq_true rfl⟩ (fun H1 locs1 q ce hk hz h1 h2 h3 => hthr _ _ _ _ H1 locs1 q ce rfl hk hz h1 h2 h3)
    · replace h := ite_f c4 h
      refine roSv1 (rest := []) (As := [.int j1_0]) S (ctX4_needArgument l j1_0 c4) (va_cwS 1 hts gX4_screen_X4_needArgument rfl rfl rfl hsX4_needArgument ⟨Nat.le_of_ble_eq_true rfl, Nat.le_of_ble_eq_true rfl⟩) rfl hl.1 rfl (Nat.le_of_ble_eq_true rfl) dX4_screen_21 ⟨Nat.zero_le _, Nat.zero_le _⟩ ?_
      refine lv_aload_n hx hb dX4_screen_24 rfl (lv_at hl 0 rfl) ?_
      refine va_get (D := G.1) (ci := 3) (v := .int s_present) (C := RX3) (T := TX3) (N := 15) hx hb hts fwx_X4_screen_X3 hown hK.1 hP 2 rfl rfl 7 (by decide) (hts (.fieldLink RX4 100 "HalftoneScreens$Screen" "present" "Z") lkx_X4_screen_f100) (fun _ h9 => h9) rfl dX4_screen_25 ?_
      by_cases c5 : s_present = 0
      · replace h := ite_t c5 h
        obtain rfl := sm1 h
        subst c5
        exact thrS (rest := []) (As := [.int 0]) S (cxX4_needState l hfl) (va_cwS 1 hts gX4_screen_X4_needState rfl rfl rfl hsX4_needState ⟨Nat.le_of_ble_eq_true rfl, Nat.le_of_ble_eq_true rfl⟩) TT.blind (fun U hU hW => by rw [hU]; exact TT.warm hW hT) rfl hl.1 rfl (Nat.le_of_ble_eq_true rfl) dX4_screen_28 ⟨Nat.le_of_ble_eq_true rfl, Nat.le_of_ble_eq_true rfl⟩ (fun H1 locs1 q ce hk hz h1 h2 h3 => hthr _ _ _ _ H1 locs1 q ce rfl hk hz h1 h2 h3)
      · replace h := ite_f c5 h
        refine roSv1 (rest := []) (As := [.int s_present]) S (ctX4_needState l s_present c5) (va_cwS 1 hts gX4_screen_X4_needState rfl rfl rfl hsX4_needState ⟨Nat.le_of_ble_eq_true rfl, Nat.le_of_ble_eq_true rfl⟩) rfl hl.1 rfl (Nat.le_of_ble_eq_true rfl) dX4_screen_28 ⟨Nat.zero_le _, Nat.zero_le _⟩ ?_
        exact nomatch h
  refine lv_if_lt (tgt := 20) hx hb dX4_screen_7 (by decide) (fun c2 => ?_) (fun c2 => ?_)
  · replace h := ite_t c2 h
    refine lv_iconst (v := 0) hx hb dX4_screen_20 (by decide) ?_
    exact J1 0 isZ0 ls h hl
  · replace h := ite_f c2 h
    refine lv_iload_n hx hb dX4_screen_10 rfl (lv_at hl 3 rfl) ?_
    refine lv_bipush (v := 10) hx hb dX4_screen_11 (by decide) ?_
    refine lv_icmp_gt (tgt := 20) hx hb dX4_screen_13 (by decide) (fun c3 => ?_) (fun c3 => ?_)
    · replace h := ite_t c3 h
      refine lv_iconst (v := 0) hx hb dX4_screen_20 (by decide) ?_
      exact J1 0 isZ0 ls h hl
    · replace h := ite_f c3 h
      refine lv_iconst (v := 1) hx hb dX4_screen_16 (by decide) ?_
      refine lv_goto (tgt := 21) hx hb dX4_screen_17 (by decide) ?_
      exact J1 1 isZ1 ls h hl
theorem fwx_X4_place_X3 : ∀ w ∈ wsX30, w ∈ wsX4_place := fun w h => List.mem_cons_of_mem _ (List.mem_append_left _ (List.mem_append_left _ (List.mem_append_left _ (List.mem_append_left _ (List.mem_append_left _ (List.mem_append_right _ h))))))
theorem lkx_X4_place_f100 : Cond.fieldLink RX4 100 "HalftoneScreens$Screen" "present" "Z" ∈ wsX4_place := List.mem_of_getElem? (i := 1) rfl
abbrev rxX4_place : Room := { frames := 7, cells := 1, slots := 6, locals := 111 }
set_option maxHeartbeats 4000000 in
set_option maxRecDepth 100000 in
theorem cxX4_place (l : Launch) (hfl : l.stackTraces = false) (G : GG) (x_q0 : Nat) (x_q1 : Nat) (s_q0 : Nat) (s_q1 : Nat) (s_q2 : Nat) (s_q3 : Nat) (s_q4 : Nat) (s_q5 : Nat) (s_q6 : Nat) (s_q7 : Nat) (q_input : Nat) (q_spread : Nat) (q_found : Nat) (x_gain : Int32) (q_s0 : Nat) (q_s1 : Nat) (q_s2 : Nat) (s_present : Int32) (s_a : Int32) (s_b : Int32) (s_c : Int32) (s_d : Int32) (s_spot : Int32) (s_middle : Int32) (s_tint : Int32) (s_w : Int32) (s_s : Int32) (s_h : Int32) (s_valuesA : (Nat → Int32)) (s_otherValuesA : (Nat → Int32)) (s_ranksA : (Nat → Int32)) (s_oldRanksA : (Nat → Int32)) (s_orderA : (Nat → Int32)) (s_neighborsA : (Nat → Int32)) (a0 : Int32) (a1 : Int32) (a2 : Int32) (o0 : Nat) (h : mxX4_place s_present a1 a2 = some (o0))  (k_s : Nat) (hk_s : k_s < 3) (hs_s : a0 = nI k_s) (he_s : scF q_s0 q_s1 q_s2 k_s = some s_q0) : vx_Met l yX4_place wsX4_place rxX4_place (va_Pc [.ref x_q0, .int a0, .int a1, .int a2] (PreT G (wdX4 G x_q0 x_q1 q_input q_spread q_found q_s0 q_s1 q_s2 x_gain ++ wdX3 G s_q0 s_q1 s_q2 s_q3 s_q4 s_q5 s_q6 s_q7 s_present s_a s_b s_c s_d s_spot s_middle s_tint s_w s_s s_h s_valuesA s_otherValuesA s_ranksA s_oldRanksA s_orderA s_neighborsA))) NoQ (XT0 o0) 1 6 (fun _ => False) := by
  refine of_tr (cc := cX4_place) (maxL := 5) (ret := (some .int)) (by decide) rfl (Nat.le_of_ble_eq_true rfl) ?_
  intro p e s m args below meth c ls Q S hl hP hK hT hthr
  have S : CallFix p m c cX4_place 5 s args wsX4_place RX4 := S
  obtain ⟨hx, hb, hml, hown, hts⟩ := id S
  have hl : lv_has ls 5 [(0, .ref x_q0), (1, .int a0), (2, .int a1), (3, .int a2)] := hl
  unfold mxX4_place at h
  refine lv_aload_n hx hb dX4_place_0 rfl (lv_at hl 0 rfl) ?_
  refine lv_iload_n hx hb dX4_place_1 rfl (lv_at hl 1 rfl) ?_
  refine roVq1 (rest := []) (As := [.int a0]) S (ctX4_inSlot l G x_q0 x_q1 q_input q_spread q_found q_s0 q_s1 q_s2 x_gain a0 s_q0 k_s hk_s hs_s he_s) (cwV 1 hts gX4_place_X4_inSlot rfl rfl rfl hvX4_inSlot ⟨Nat.le_of_ble_eq_true rfl, Nat.le_of_ble_eq_true rfl⟩) hK hP [0, 1] rfl 0 4 rfl rfl rfl rfl hl.1 rfl (Nat.le_of_ble_eq_true rfl) dX4_place_2 ⟨Nat.zero_le _, Nat.zero_le _⟩ ?_
  refine lv_astore (lv' := [(4, .ref s_q0), (0, .ref x_q0), (1, .int a0), (2, .int a1), (3, .int a2)]) hx hb dX4_place_5 hl (by decide) rfl (fun ls hl => ?_)
  refine lv_iload_n hx hb dX4_place_7 rfl (lv_at hl 3 rfl) ?_
  obtain ⟨r1_0, g1, h⟩ := bnd1_e h
  refine roSi1 (rest := []) (As := [.int a1]) S (ctX4_isPosition l G a1 r1_0 g1) (va_cwS 1 hts gX4_place_X4_isPosition rfl rfl rfl hsX4_isPosition ⟨Nat.le_of_ble_eq_true rfl, Nat.le_of_ble_eq_true rfl⟩) hK hP [] rfl rfl hl.1 rfl (Nat.le_of_ble_eq_true rfl) dX4_place_8 ⟨Nat.zero_le _, Nat.zero_le _⟩ (fun hz1 => ?_)
  obtain ⟨K2, hK2, h⟩ := jB1_e h
  have J2 : ∀ (j2_0 : Int32) (jz2_0 : isZ j2_0) (ls : Array Slot), K2 j2_0 = some (o0) → lv_has ls 5 [(4, .ref s_q0), (0, .ref x_q0), (1, .int a0), (2, .int a1), (3, .int a2)] → W p l e rxX4_place s m args below meth c s.heap [] 0 0 Q (F0 m 26 ls [.int j2_0]) := by
    intro j2_0 jz2_0 ls h hl
    replace h := (hK2 j2_0).symm.trans h
    by_cases c6 : j2_0 = 0
    · replace h := ite_t c6 h
      obtain rfl := sm1 h
      subst c6
      exact thrS (rest := []) (As := [.int 0]) S (cxX4_needArgument l hfl) (va_cwS 1 hts gX4_place_X4_needArgument rfl rfl rfl hsX4_needArgument ⟨Nat.le_of_ble_eq_true rfl, Nat.le_of_ble_eq_true rfl⟩) TT.blind (fun U hU hW => by rw [hU]; exact TT.warm hW hT) rfl hl.1 rfl (Nat.le_of_ble_eq_true rfl) dX4_place_26 ⟨Nat.le_of_ble_eq_true rfl, Nat.le_of_ble_eq_true rfl⟩ (fun H1 locs1 q ce hk hz h1 h2 h3 => hthr _ _ _ _ H1 locs1 q ce rfl hk hz h1 h2 h3)
    · replace h := ite_f c6 h
      refine roSv1 (rest := []) (As := [.int j2_0]) S (ctX4_needArgument l j2_0 c6) (va_cwS 1 hts gX4_place_X4_needArgument rfl rfl rfl hsX4_needArgument ⟨Nat.le_of_ble_eq_true rfl, Nat.le_of_ble_eq_true rfl⟩) rfl hl.1 rfl (Nat.le_of_ble_eq_true rfl) dX4_place_26 ⟨Nat.zero_le _, Nat.zero_le _⟩ ?_
      refine lv_aload hx hb dX4_place_29 (lv_at hl 0 rfl) ?_
      refine va_get (D := G.1) (ci := 3) (v := .int s_present) (C := RX3) (T := TX3) (N := 15) hx hb hts fwx_X4_place_X3 hown hK.1 hP 2 rfl rfl 7 (by decide) (hts (.fieldLink RX4 100 "HalftoneScreens$Screen" "present" "Z") lkx_X4_place_f100) (fun _ h9 => h9) rfl dX4_place_31 ?_
      by_cases c7 : s_present = 0
      · replace h := ite_t c7 h
        obtain rfl := sm1 h
        subst c7
        exact thrS (rest := []) (As := [.int 0]) S (cxX4_needState l hfl) (va_cwS 1 hts gX4_place_X4_needState rfl rfl rfl hsX4_needState ⟨Nat.le_of_ble_eq_true rfl, Nat.le_of_ble_eq_true rfl⟩) TT.blind (fun U hU hW => by rw [hU]; exact TT.warm hW hT) rfl hl.1 rfl (Nat.le_of_ble_eq_true rfl) dX4_place_34 ⟨Nat.le_of_ble_eq_true rfl, Nat.le_of_ble_eq_true rfl⟩ (fun H1 locs1 q ce hk hz h1 h2 h3 => hthr _ _ _ _ H1 locs1 q ce rfl hk hz h1 h2 h3)
      · replace h := ite_f c7 h
        refine roSv1 (rest := []) (As := [.int s_present]) S (ctX4_needState l s_present c7) (va_cwS 1 hts gX4_place_X4_needState rfl rfl rfl hsX4_needState ⟨Nat.le_of_ble_eq_true rfl, Nat.le_of_ble_eq_true rfl⟩) rfl hl.1 rfl (Nat.le_of_ble_eq_true rfl) dX4_place_34 ⟨Nat.zero_le _, Nat.zero_le _⟩ ?_
        exact nomatch h
  refine lv_if_eq (tgt := 25) hx hb dX4_place_11 (by decide) (fun c3 => ?_) (fun c3 => ?_)
  · replace h := ite_t c3 h
    refine lv_iconst (v := 0) hx hb dX4_place_25 (by decide) ?_
    exact J2 0 isZ0 ls h hl
  · replace h := ite_f c3 h
    refine lv_iload_n hx hb dX4_place_14 rfl (lv_at hl 4 rfl) ?_
    obtain ⟨r4_0, g4, h⟩ := bnd1_e h
    refine roSi1 (rest := []) (As := [.int a2]) S (ctX4_isPosition l G a2 r4_0 g4) (va_cwS 1 hts gX4_place_X4_isPosition rfl rfl rfl hsX4_isPosition ⟨Nat.le_of_ble_eq_true rfl, Nat.le_of_ble_eq_true rfl⟩) hK hP [] rfl rfl hl.1 rfl (Nat.le_of_ble_eq_true rfl) dX4_place_15 ⟨Nat.zero_le _, Nat.zero_le _⟩ (fun hz4 => ?_)
    refine lv_if_eq (tgt := 25) hx hb dX4_place_18 (by decide) (fun c5 => ?_) (fun c5 => ?_)
    · replace h := ite_t c5 h
      refine lv_iconst (v := 0) hx hb dX4_place_25 (by decide) ?_
      exact J2 0 isZ0 ls h hl
    · replace h := ite_f c5 h
      refine lv_iconst (v := 1) hx hb dX4_place_21 (by decide) ?_
      refine lv_goto (tgt := 26) hx hb dX4_place_22 (by decide) ?_
      exact J2 1 isZ1 ls h hl
abbrev rxX4_growth : Room := { frames := 7, cells := 1, slots := 6, locals := 111 }
set_option maxHeartbeats 4000000 in
set_option maxRecDepth 100000 in
theorem cxX4_growth (l : Launch) (hfl : l.stackTraces = false) (G : GG) (x_q0 : Nat) (x_q1 : Nat) (s_q0 : Nat) (s_q1 : Nat) (s_q2 : Nat) (s_q3 : Nat) (s_q4 : Nat) (s_q5 : Nat) (s_q6 : Nat) (s_q7 : Nat) (q_input : Nat) (q_spread : Nat) (q_found : Nat) (x_gain : Int32) (q_s0 : Nat) (q_s1 : Nat) (q_s2 : Nat) (s_present : Int32) (s_a : Int32) (s_b : Int32) (s_c : Int32) (s_d : Int32) (s_spot : Int32) (s_middle : Int32) (s_tint : Int32) (s_w : Int32) (s_s : Int32) (s_h : Int32) (s_valuesA : (Nat → Int32)) (s_otherValuesA : (Nat → Int32)) (s_ranksA : (Nat → Int32)) (s_oldRanksA : (Nat → Int32)) (s_orderA : (Nat → Int32)) (s_neighborsA : (Nat → Int32)) (a0 : Int32) (a1 : Int32) (a2 : Int32) (o0 : Nat) (h : mxX4_growth s_present s_w s_h a1 a2 = some (o0))  (k_s : Nat) (hk_s : k_s < 3) (hs_s : a0 = nI k_s) (he_s : scF q_s0 q_s1 q_s2 k_s = some s_q0) : vx_Met l yX4_growth wsX4_growth rxX4_growth (va_Pc [.ref x_q0, .int a0, .int a1, .int a2] (PreT G (wdX4 G x_q0 x_q1 q_input q_spread q_found q_s0 q_s1 q_s2 x_gain ++ wdX3 G s_q0 s_q1 s_q2 s_q3 s_q4 s_q5 s_q6 s_q7 s_present s_a s_b s_c s_d s_spot s_middle s_tint s_w s_s s_h s_valuesA s_otherValuesA s_ranksA s_oldRanksA s_orderA s_neighborsA))) NoQ (XT0 o0) 1 6 (fun _ => False) := by
  refine of_tr (cc := cX4_growth) (maxL := 5) (ret := (some .int)) (by decide) rfl (Nat.le_of_ble_eq_true rfl) ?_
  intro p e s m args below meth c ls Q S hl hP hK hT hthr
  have S : CallFix p m c cX4_growth 5 s args wsX4_growth RX4 := S
  obtain ⟨hx, hb, hml, hown, hts⟩ := id S
  have hl : lv_has ls 5 [(0, .ref x_q0), (1, .int a0), (2, .int a1), (3, .int a2)] := hl
  unfold mxX4_growth at h
  refine lv_aload_n hx hb dX4_growth_0 rfl (lv_at hl 0 rfl) ?_
  refine lv_iload_n hx hb dX4_growth_1 rfl (lv_at hl 1 rfl) ?_
  refine roVq1 (rest := []) (As := [.int a0]) S (ctX4_inSlot l G x_q0 x_q1 q_input q_spread q_found q_s0 q_s1 q_s2 x_gain a0 s_q0 k_s hk_s hs_s he_s) (cwV 1 hts gX4_growth_X4_inSlot rfl rfl rfl hvX4_inSlot ⟨Nat.le_of_ble_eq_true rfl, Nat.le_of_ble_eq_true rfl⟩) hK hP [0, 1] rfl 0 4 rfl rfl rfl rfl hl.1 rfl (Nat.le_of_ble_eq_true rfl) dX4_growth_2 ⟨Nat.zero_le _, Nat.zero_le _⟩ ?_
  refine lv_astore (lv' := [(4, .ref s_q0), (0, .ref x_q0), (1, .int a0), (2, .int a1), (3, .int a2)]) hx hb dX4_growth_5 hl (by decide) rfl (fun ls hl => ?_)
  refine lv_iload_n hx hb dX4_growth_7 rfl (lv_at hl 4 rfl) ?_
  obtain ⟨K1, hK1, h⟩ := jB1_e h
  have J1 : ∀ (j1_0 : Int32) (jz1_0 : isZ j1_0) (ls : Array Slot), K1 j1_0 = some (o0) → lv_has ls 5 [(4, .ref s_q0), (0, .ref x_q0), (1, .int a0), (2, .int a1), (3, .int a2)] → W p l e rxX4_growth s m args below meth c s.heap [] 0 0 Q (F0 m 21 ls [.int j1_0]) := by
    intro j1_0 jz1_0 ls h hl
    replace h := (hK1 j1_0).symm.trans h
    by_cases c4 : j1_0 = 0
    · replace h := ite_t c4 h
      obtain rfl := sm1 h
      subst c4
      exact thrS (rest := []) (As := [.int 0]) S (cxX4_needArgument l hfl) (va_cwS 1 hts gX4_growth_X4_needArgument rfl rfl rfl hsX4_needArgument ⟨Nat.le_of_ble_eq_true rfl, Nat.le_of_ble_eq_true rfl⟩) TT.blind (fun U hU hW => by rw [hU]; exact TT.warm hW hT) rfl hl.1 rfl (Nat.le_of_ble_eq_true rfl) dX4_growth_21 ⟨Nat.le_of_ble_eq_true rfl, Nat.le_of_ble_eq_true rfl⟩ (fun H1 locs1 q ce hk hz h1 h2 h3 => hthr _ _ _ _ H1 locs1 q ce rfl hk hz h1 h2 h3)
    · replace h := ite_f c4 h
      refine roSv1 (rest := []) (As := [.int j1_0]) S (ctX4_needArgument l j1_0 c4) (va_cwS 1 hts gX4_growth_X4_needArgument rfl rfl rfl hsX4_needArgument ⟨Nat.le_of_ble_eq_true rfl, Nat.le_of_ble_eq_true rfl⟩) rfl hl.1 rfl (Nat.le_of_ble_eq_true rfl) dX4_growth_21 ⟨Nat.zero_le _, Nat.zero_le _⟩ ?_
      refine lv_aload hx hb dX4_growth_24 (lv_at hl 0 rfl) ?_
      refine lv_iload_n hx hb dX4_growth_26 rfl (lv_at hl 3 rfl) ?_
      obtain ⟨r5_0, g5, h⟩ := bnd1_e h
      refine roVi1 (rest := []) (As := [.int a1]) S (ctX3_hasPlace l G s_q0 s_q1 s_q2 s_q3 s_q4 s_q5 s_q6 s_q7 s_present s_a s_b s_c s_d s_spot s_middle s_tint s_w s_s s_h s_valuesA s_otherValuesA s_ranksA s_oldRanksA s_orderA s_neighborsA a1 r5_0 g5) (cwV 1 hts gX4_growth_X3_hasPlace rfl rfl rfl hvX3_hasPlace ⟨Nat.le_of_ble_eq_true rfl, Nat.le_of_ble_eq_true rfl⟩) hK hP [2, 3, 4, 5, 6, 7, 8, 9] rfl 2 3 rfl rfl rfl rfl hl.1 rfl (Nat.le_of_ble_eq_true rfl) dX4_growth_27 ⟨Nat.zero_le _, Nat.zero_le _⟩ (fun hz5 => ?_)
      by_cases c6 : r5_0 = 0
      · replace h := ite_t c6 h
        obtain rfl := sm1 h
        subst c6
        exact thrS (rest := []) (As := [.int 0]) S (cxX4_needState l hfl) (va_cwS 1 hts gX4_growth_X4_needState rfl rfl rfl hsX4_needState ⟨Nat.le_of_ble_eq_true rfl, Nat.le_of_ble_eq_true rfl⟩) TT.blind (fun U hU hW => by rw [hU]; exact TT.warm hW hT) rfl hl.1 rfl (Nat.le_of_ble_eq_true rfl) dX4_growth_30 ⟨Nat.le_of_ble_eq_true rfl, Nat.le_of_ble_eq_true rfl⟩ (fun H1 locs1 q ce hk hz h1 h2 h3 => hthr _ _ _ _ H1 locs1 q ce rfl hk hz h1 h2 h3)
      · replace h := ite_f c6 h
        refine roSv1 (rest := []) (As := [.int r5_0]) S (ctX4_needState l r5_0 c6) (va_cwS 1 hts gX4_growth_X4_needState rfl rfl rfl hsX4_needState ⟨Nat.le_of_ble_eq_true rfl, Nat.le_of_ble_eq_true rfl⟩) rfl hl.1 rfl (Nat.le_of_ble_eq_true rfl) dX4_growth_30 ⟨Nat.zero_le _, Nat.zero_le _⟩ ?_
        exact nomatch h
  refine lv_if_eq (tgt := 16) hx hb dX4_growth_8 (by decide) (fun c2 => ?_) (fun c2 => ?_)
  · replace h := ite_t c2 h
    refine lv_iconst (v := 1) hx hb dX4_growth_16 (by decide) ?_
    refine lv_goto (tgt := 21) hx hb dX4_growth_17 (by decide) ?_
    exact J1 1 isZ1 ls h hl
  · replace h := ite_f c2 h
    refine lv_iload_n hx hb dX4_growth_11 rfl (lv_at hl 4 rfl) ?_
    refine lv_iconst (v := 1) hx hb dX4_growth_12 (by decide) ?_
    refine lv_icmp_ne (tgt := 20) hx hb dX4_growth_13 (by decide) (fun c3 => ?_) (fun c3 => ?_)
    · replace h := ite_f c3 h
      refine lv_iconst (v := 0) hx hb dX4_growth_20 (by decide) ?_
      exact J1 0 isZ0 ls h hl
    · replace h := ite_t c3 h
      refine lv_iconst (v := 1) hx hb dX4_growth_16 (by decide) ?_
      refine lv_goto (tgt := 21) hx hb dX4_growth_17 (by decide) ?_
      exact J1 1 isZ1 ls h hl
abbrev rxX4_placeOf : Room := { frames := 7, cells := 1, slots := 6, locals := 111 }
set_option maxHeartbeats 4000000 in
set_option maxRecDepth 100000 in
theorem cxX4_placeOf (l : Launch) (hfl : l.stackTraces = false) (G : GG) (x_q0 : Nat) (x_q1 : Nat) (s_q0 : Nat) (s_q1 : Nat) (s_q2 : Nat) (s_q3 : Nat) (s_q4 : Nat) (s_q5 : Nat) (s_q6 : Nat) (s_q7 : Nat) (q_input : Nat) (q_spread : Nat) (q_found : Nat) (x_gain : Int32) (q_s0 : Nat) (q_s1 : Nat) (q_s2 : Nat) (s_present : Int32) (s_a : Int32) (s_b : Int32) (s_c : Int32) (s_d : Int32) (s_spot : Int32) (s_middle : Int32) (s_tint : Int32) (s_w : Int32) (s_s : Int32) (s_h : Int32) (s_valuesA : (Nat → Int32)) (s_otherValuesA : (Nat → Int32)) (s_ranksA : (Nat → Int32)) (s_oldRanksA : (Nat → Int32)) (s_orderA : (Nat → Int32)) (s_neighborsA : (Nat → Int32)) (a0 : Int32) (a1 : Int32) (o0 : Nat) (h : mxX4_placeOf s_present s_w s_h a1 = some (o0))  (k_s : Nat) (hk_s : k_s < 3) (hs_s : a0 = nI k_s) (he_s : scF q_s0 q_s1 q_s2 k_s = some s_q0) : vx_Met l yX4_placeOf wsX4_placeOf rxX4_placeOf (va_Pc [.ref x_q0, .int a0, .int a1] (PreT G (wdX4 G x_q0 x_q1 q_input q_spread q_found q_s0 q_s1 q_s2 x_gain ++ wdX3 G s_q0 s_q1 s_q2 s_q3 s_q4 s_q5 s_q6 s_q7 s_present s_a s_b s_c s_d s_spot s_middle s_tint s_w s_s s_h s_valuesA s_otherValuesA s_ranksA s_oldRanksA s_orderA s_neighborsA))) NoQ (XT0 o0) 1 6 (fun _ => False) := by
  refine of_tr (cc := cX4_placeOf) (maxL := 4) (ret := (some .int)) (by decide) rfl (Nat.le_of_ble_eq_true rfl) ?_
  intro p e s m args below meth c ls Q S hl hP hK hT hthr
  have S : CallFix p m c cX4_placeOf 4 s args wsX4_placeOf RX4 := S
  obtain ⟨hx, hb, hml, hown, hts⟩ := id S
  have hl : lv_has ls 4 [(0, .ref x_q0), (1, .int a0), (2, .int a1)] := hl
  unfold mxX4_placeOf at h
  refine lv_aload_n hx hb dX4_placeOf_0 rfl (lv_at hl 0 rfl) ?_
  refine lv_iload_n hx hb dX4_placeOf_1 rfl (lv_at hl 1 rfl) ?_
  refine roVq1 (rest := []) (As := [.int a0]) S (ctX4_inSlot l G x_q0 x_q1 q_input q_spread q_found q_s0 q_s1 q_s2 x_gain a0 s_q0 k_s hk_s hs_s he_s) (cwV 1 hts gX4_placeOf_X4_inSlot rfl rfl rfl hvX4_inSlot ⟨Nat.le_of_ble_eq_true rfl, Nat.le_of_ble_eq_true rfl⟩) hK hP [0, 1] rfl 0 4 rfl rfl rfl rfl hl.1 rfl (Nat.le_of_ble_eq_true rfl) dX4_placeOf_2 ⟨Nat.zero_le _, Nat.zero_le _⟩ ?_
  refine lv_astore_n (lv' := [(3, .ref s_q0), (0, .ref x_q0), (1, .int a0), (2, .int a1)]) hx hb dX4_placeOf_5 rfl hl (by decide) rfl (fun ls hl => ?_)
  refine lv_aload_n hx hb dX4_placeOf_6 rfl (lv_at hl 0 rfl) ?_
  refine lv_iload_n hx hb dX4_placeOf_7 rfl (lv_at hl 3 rfl) ?_
  obtain ⟨r1_0, g1, h⟩ := bnd1_e h
  refine roVi1 (rest := []) (As := [.int a1]) S (ctX3_hasPlace l G s_q0 s_q1 s_q2 s_q3 s_q4 s_q5 s_q6 s_q7 s_present s_a s_b s_c s_d s_spot s_middle s_tint s_w s_s s_h s_valuesA s_otherValuesA s_ranksA s_oldRanksA s_orderA s_neighborsA a1 r1_0 g1) (cwV 1 hts gX4_placeOf_X3_hasPlace rfl rfl rfl hvX3_hasPlace ⟨Nat.le_of_ble_eq_true rfl, Nat.le_of_ble_eq_true rfl⟩) hK hP [2, 3, 4, 5, 6, 7, 8, 9] rfl 2 3 rfl rfl rfl rfl hl.1 rfl (Nat.le_of_ble_eq_true rfl) dX4_placeOf_8 ⟨Nat.zero_le _, Nat.zero_le _⟩ (fun hz1 => ?_)
  by_cases c2 : r1_0 = 0
  · replace h := ite_t c2 h
    obtain rfl := sm1 h
    subst c2
    exact thrS (rest := []) (As := [.int 0]) S (cxX4_needState l hfl) (va_cwS 1 hts gX4_placeOf_X4_needState rfl rfl rfl hsX4_needState ⟨Nat.le_of_ble_eq_true rfl, Nat.le_of_ble_eq_true rfl⟩) TT.blind (fun U hU hW => by rw [hU]; exact TT.warm hW hT) rfl hl.1 rfl (Nat.le_of_ble_eq_true rfl) dX4_placeOf_11 ⟨Nat.le_of_ble_eq_true rfl, Nat.le_of_ble_eq_true rfl⟩ (fun H1 locs1 q ce hk hz h1 h2 h3 => hthr _ _ _ _ H1 locs1 q ce rfl hk hz h1 h2 h3)
  · replace h := ite_f c2 h
    refine roSv1 (rest := []) (As := [.int r1_0]) S (ctX4_needState l r1_0 c2) (va_cwS 1 hts gX4_placeOf_X4_needState rfl rfl rfl hsX4_needState ⟨Nat.le_of_ble_eq_true rfl, Nat.le_of_ble_eq_true rfl⟩) rfl hl.1 rfl (Nat.le_of_ble_eq_true rfl) dX4_placeOf_11 ⟨Nat.zero_le _, Nat.zero_le _⟩ ?_
    exact nomatch h
theorem fwx_X4_inked_X3 : ∀ w ∈ wsX30, w ∈ wsX4_inked := fun w h => List.mem_cons_of_mem _ (List.mem_append_left _ (List.mem_append_left _ (List.mem_append_left _ (List.mem_append_left _ (List.mem_append_left _ (List.mem_append_right _ h))))))
theorem lkx_X4_inked_f100 : Cond.fieldLink RX4 100 "HalftoneScreens$Screen" "present" "Z" ∈ wsX4_inked := List.mem_of_getElem? (i := 1) rfl
abbrev rxX4_inked : Room := { frames := 7, cells := 1, slots := 6, locals := 111 }
set_option maxHeartbeats 4000000 in
set_option maxRecDepth 100000 in
theorem cxX4_inked (l : Launch) (hfl : l.stackTraces = false) (G : GG) (x_q0 : Nat) (x_q1 : Nat) (s_q0 : Nat) (s_q1 : Nat) (s_q2 : Nat) (s_q3 : Nat) (s_q4 : Nat) (s_q5 : Nat) (s_q6 : Nat) (s_q7 : Nat) (q_input : Nat) (q_spread : Nat) (q_found : Nat) (x_gain : Int32) (q_s0 : Nat) (q_s1 : Nat) (q_s2 : Nat) (s_present : Int32) (s_a : Int32) (s_b : Int32) (s_c : Int32) (s_d : Int32) (s_spot : Int32) (s_middle : Int32) (s_tint : Int32) (s_w : Int32) (s_s : Int32) (s_h : Int32) (s_valuesA : (Nat → Int32)) (s_otherValuesA : (Nat → Int32)) (s_ranksA : (Nat → Int32)) (s_oldRanksA : (Nat → Int32)) (s_orderA : (Nat → Int32)) (s_neighborsA : (Nat → Int32)) (a0 : Int32) (a1 : Int32) (a2 : Int32) (a3 : Int32) (a4 : Int32) (o0 : Nat) (h : mxX4_inked s_present a1 a2 a3 a4 = some (o0))  (k_s : Nat) (hk_s : k_s < 3) (hs_s : a0 = nI k_s) (he_s : scF q_s0 q_s1 q_s2 k_s = some s_q0) : vx_Met l yX4_inked wsX4_inked rxX4_inked (va_Pc [.ref x_q0, .int a0, .int a1, .int a2, .int a3, .int a4] (PreT G (wdX4 G x_q0 x_q1 q_input q_spread q_found q_s0 q_s1 q_s2 x_gain ++ wdX3 G s_q0 s_q1 s_q2 s_q3 s_q4 s_q5 s_q6 s_q7 s_present s_a s_b s_c s_d s_spot s_middle s_tint s_w s_s s_h s_valuesA s_otherValuesA s_ranksA s_oldRanksA s_orderA s_neighborsA))) NoQ (XT0 o0) 1 6 (fun _ => False) := by
  refine of_tr (cc := cX4_inked) (maxL := 10) (ret := (some .int)) (by decide) rfl (Nat.le_of_ble_eq_true rfl) ?_
  intro p e s m args below meth c ls Q S hl hP hK hT hthr
  have S : CallFix p m c cX4_inked 10 s args wsX4_inked RX4 := S
  obtain ⟨hx, hb, hml, hown, hts⟩ := id S
  have hl : lv_has ls 10 [(0, .ref x_q0), (1, .int a0), (2, .int a1), (3, .int a2), (4, .int a3), (5, .int a4)] := hl
  unfold mxX4_inked at h
  refine lv_aload_n hx hb dX4_inked_0 rfl (lv_at hl 0 rfl) ?_
  refine lv_iload_n hx hb dX4_inked_1 rfl (lv_at hl 1 rfl) ?_
  refine roVq1 (rest := []) (As := [.int a0]) S (ctX4_inSlot l G x_q0 x_q1 q_input q_spread q_found q_s0 q_s1 q_s2 x_gain a0 s_q0 k_s hk_s hs_s he_s) (cwV 1 hts gX4_inked_X4_inSlot rfl rfl rfl hvX4_inSlot ⟨Nat.le_of_ble_eq_true rfl, Nat.le_of_ble_eq_true rfl⟩) hK hP [0, 1] rfl 0 4 rfl rfl rfl rfl hl.1 rfl (Nat.le_of_ble_eq_true rfl) dX4_inked_2 ⟨Nat.zero_le _, Nat.zero_le _⟩ ?_
  refine lv_astore (lv' := [(6, .ref s_q0), (0, .ref x_q0), (1, .int a0), (2, .int a1), (3, .int a2), (4, .int a3), (5, .int a4)]) hx hb dX4_inked_5 hl (by decide) rfl (fun ls hl => ?_)
  refine lv_iload_n hx hb dX4_inked_7 rfl (lv_at hl 3 rfl) ?_
  obtain ⟨r1_0, g1, h⟩ := bnd1_e h
  refine roSi1 (rest := []) (As := [.int a1]) S (ctX4_isPosition l G a1 r1_0 g1) (va_cwS 1 hts gX4_inked_X4_isPosition rfl rfl rfl hsX4_isPosition ⟨Nat.le_of_ble_eq_true rfl, Nat.le_of_ble_eq_true rfl⟩) hK hP [] rfl rfl hl.1 rfl (Nat.le_of_ble_eq_true rfl) dX4_inked_8 ⟨Nat.zero_le _, Nat.zero_le _⟩ (fun hz1 => ?_)
  obtain ⟨K2, hK2, h⟩ := jB1_e h
  have J2 : ∀ (j2_0 : Int32) (jz2_0 : isZ j2_0) (ls : Array Slot), K2 j2_0 = some (o0) → lv_has ls 10 [(6, .ref s_q0), (0, .ref x_q0), (1, .int a0), (2, .int a1), (3, .int a2), (4, .int a3), (5, .int a4)] → W p l e rxX4_inked s m args below meth c s.heap [] 0 0 Q (F0 m 42 ls [.int j2_0]) := by
    intro j2_0 jz2_0 ls h hl
    replace h := (hK2 j2_0).symm.trans h
    by_cases c10 : j2_0 = 0
    · replace h := ite_t c10 h
      obtain rfl := sm1 h
      subst c10
      exact thrS (rest := []) (As := [.int 0]) S (cxX4_needArgument l hfl) (va_cwS 1 hts gX4_inked_X4_needArgument rfl rfl rfl hsX4_needArgument ⟨Nat.le_of_ble_eq_true rfl, Nat.le_of_ble_eq_true rfl⟩) TT.blind (fun U hU hW => by rw [hU]; exact TT.warm hW hT) rfl hl.1 rfl (Nat.le_of_ble_eq_true rfl) dX4_inked_42 ⟨Nat.le_of_ble_eq_true rfl, Nat.le_of_ble_eq_true rfl⟩ (fun H1 locs1 q ce hk hz h1 h2 h3 => hthr _ _ _ _ H1 locs1 q ce rfl hk hz h1 h2 h3)
    · replace h := ite_f c10 h
      refine roSv1 (rest := []) (As := [.int j2_0]) S (ctX4_needArgument l j2_0 c10) (va_cwS 1 hts gX4_inked_X4_needArgument rfl rfl rfl hsX4_needArgument ⟨Nat.le_of_ble_eq_true rfl, Nat.le_of_ble_eq_true rfl⟩) rfl hl.1 rfl (Nat.le_of_ble_eq_true rfl) dX4_inked_42 ⟨Nat.zero_le _, Nat.zero_le _⟩ ?_
      refine lv_aload hx hb dX4_inked_45 (lv_at hl 0 rfl) ?_
      refine va_get (D := G.1) (ci := 3) (v := .int s_present) (C := RX3) (T := TX3) (N := 15) hx hb hts fwx_X4_inked_X3 hown hK.1 hP 2 rfl rfl 7 (by decide) (hts (.fieldLink RX4 100 "HalftoneScreens$Screen" "present" "Z") lkx_X4_inked_f100) (fun _ h9 => h9) rfl dX4_inked_47 ?_
      by_cases c11 : s_present = 0
      · replace h := ite_t c11 h
        obtain rfl := sm1 h
        subst c11
        exact thrS (rest := []) (As := [.int 0]) S (cxX4_needState l hfl) (va_cwS 1 hts gX4_inked_X4_needState rfl rfl rfl hsX4_needState ⟨Nat.le_of_ble_eq_true rfl, Nat.le_of_ble_eq_true rfl⟩) TT.blind (fun U hU hW => by rw [hU]; exact TT.warm hW hT) rfl hl.1 rfl (Nat.le_of_ble_eq_true rfl) dX4_inked_50 ⟨Nat.le_of_ble_eq_true rfl, Nat.le_of_ble_eq_true rfl⟩ (fun H1 locs1 q ce hk hz h1 h2 h3 => hthr _ _ _ _ H1 locs1 q ce rfl hk hz h1 h2 h3)
      · replace h := ite_f c11 h
        refine roSv1 (rest := []) (As := [.int s_present]) S (ctX4_needState l s_present c11) (va_cwS 1 hts gX4_inked_X4_needState rfl rfl rfl hsX4_needState ⟨Nat.le_of_ble_eq_true rfl, Nat.le_of_ble_eq_true rfl⟩) rfl hl.1 rfl (Nat.le_of_ble_eq_true rfl) dX4_inked_50 ⟨Nat.zero_le _, Nat.zero_le _⟩ ?_
        exact nomatch h
  refine lv_if_eq (tgt := 41) hx hb dX4_inked_11 (by decide) (fun c3 => ?_) (fun c3 => ?_)
  · replace h := ite_t c3 h
    refine lv_iconst (v := 0) hx hb dX4_inked_41 (by decide) ?_
    exact J2 0 isZ0 ls h hl
  · replace h := ite_f c3 h
    refine lv_iload_n hx hb dX4_inked_14 rfl (lv_at hl 4 rfl) ?_
    obtain ⟨r4_0, g4, h⟩ := bnd1_e h
    refine roSi1 (rest := []) (As := [.int a2]) S (ctX4_isPosition l G a2 r4_0 g4) (va_cwS 1 hts gX4_inked_X4_isPosition rfl rfl rfl hsX4_isPosition ⟨Nat.le_of_ble_eq_true rfl, Nat.le_of_ble_eq_true rfl⟩) hK hP [] rfl rfl hl.1 rfl (Nat.le_of_ble_eq_true rfl) dX4_inked_15 ⟨Nat.zero_le _, Nat.zero_le _⟩ (fun hz4 => ?_)
    refine lv_if_eq (tgt := 41) hx hb dX4_inked_18 (by decide) (fun c5 => ?_) (fun c5 => ?_)
    · replace h := ite_t c5 h
      refine lv_iconst (v := 0) hx hb dX4_inked_41 (by decide) ?_
      exact J2 0 isZ0 ls h hl
    · replace h := ite_f c5 h
      refine lv_iload hx hb dX4_inked_21 (lv_at hl 5 rfl) ?_
      obtain ⟨r6_0, g6, h⟩ := bnd1_e h
      refine roSi1 (rest := []) (As := [.int a3]) S (ctX4_isSide l G a3 r6_0 g6) (va_cwS 1 hts gX4_inked_X4_isSide rfl rfl rfl hsX4_isSide ⟨Nat.le_of_ble_eq_true rfl, Nat.le_of_ble_eq_true rfl⟩) hK hP [] rfl rfl hl.1 rfl (Nat.le_of_ble_eq_true rfl) dX4_inked_23 ⟨Nat.zero_le _, Nat.zero_le _⟩ (fun hz6 => ?_)
      refine lv_if_eq (tgt := 41) hx hb dX4_inked_26 (by decide) (fun c7 => ?_) (fun c7 => ?_)
      · replace h := ite_t c7 h
        refine lv_iconst (v := 0) hx hb dX4_inked_41 (by decide) ?_
        exact J2 0 isZ0 ls h hl
      · replace h := ite_f c7 h
        refine lv_iload hx hb dX4_inked_29 (lv_at hl 6 rfl) ?_
        obtain ⟨r8_0, g8, h⟩ := bnd1_e h
        refine roSi1 (rest := []) (As := [.int a4]) S (ctX4_isSide l G a4 r8_0 g8) (va_cwS 1 hts gX4_inked_X4_isSide rfl rfl rfl hsX4_isSide ⟨Nat.le_of_ble_eq_true rfl, Nat.le_of_ble_eq_true rfl⟩) hK hP [] rfl rfl hl.1 rfl (Nat.le_of_ble_eq_true rfl) dX4_inked_31 ⟨Nat.zero_le _, Nat.zero_le _⟩ (fun hz8 => ?_)
        refine lv_if_eq (tgt := 41) hx hb dX4_inked_34 (by decide) (fun c9 => ?_) (fun c9 => ?_)
        · replace h := ite_t c9 h
          refine lv_iconst (v := 0) hx hb dX4_inked_41 (by decide) ?_
          exact J2 0 isZ0 ls h hl
        · replace h := ite_f c9 h
          refine lv_iconst (v := 1) hx hb dX4_inked_37 (by decide) ?_
          refine lv_goto (tgt := 42) hx hb dX4_inked_38 (by decide) ?_
          exact J2 1 isZ1 ls h hl
theorem fwx_X4_dots_X4 : ∀ w ∈ wsX40, w ∈ wsX4_dots := fun w h => List.mem_cons_of_mem _ (List.mem_append_left _ (List.mem_append_left _ (List.mem_append_left _ (List.mem_append_left _ (List.mem_append_left _ (List.mem_append_left _ (List.mem_append_right _ h)))))))
theorem lkx_X4_dots_f25 : Cond.fieldLink RX4 25 "HalftoneScreens" "spread" "LHalftoneScreens$Dots;" ∈ wsX4_dots := List.mem_of_getElem? (i := 1) rfl
abbrev rxX4_dots : Room := { frames := 8, cells := 1, slots := 6, locals := 134 }
set_option maxHeartbeats 4000000 in
set_option maxRecDepth 100000 in
theorem cxX4_dots (l : Launch) (hfl : l.stackTraces = false) (G : GG) (x_q0 : Nat) (x_q1 : Nat) (s_q0 : Nat) (s_q1 : Nat) (s_q2 : Nat) (s_q3 : Nat) (s_q4 : Nat) (s_q5 : Nat) (s_q6 : Nat) (s_q7 : Nat) (q_input : Nat) (q_spread : Nat) (q_found : Nat) (x_gain : Int32) (q_s0 : Nat) (q_s1 : Nat) (q_s2 : Nat) (s_present : Int32) (s_a : Int32) (s_b : Int32) (s_c : Int32) (s_d : Int32) (s_spot : Int32) (s_middle : Int32) (s_tint : Int32) (s_w : Int32) (s_s : Int32) (s_h : Int32) (s_valuesA : (Nat → Int32)) (s_otherValuesA : (Nat → Int32)) (s_ranksA : (Nat → Int32)) (s_oldRanksA : (Nat → Int32)) (s_orderA : (Nat → Int32)) (s_neighborsA : (Nat → Int32)) (a0 : Int32) (a1 : Int32) (o0 : Nat) (h : mxX4_dots s_present s_w s_h a1 = some (o0))  (k_s : Nat) (hk_s : k_s < 3) (hs_s : a0 = nI k_s) (he_s : scF q_s0 q_s1 q_s2 k_s = some s_q0) : vx_Met l yX4_dots wsX4_dots rxX4_dots (va_Pc [.ref x_q0, .int a0, .int a1] (PreT G (wdX4 G x_q0 x_q1 q_input q_spread q_found q_s0 q_s1 q_s2 x_gain ++ wdX3 G s_q0 s_q1 s_q2 s_q3 s_q4 s_q5 s_q6 s_q7 s_present s_a s_b s_c s_d s_spot s_middle s_tint s_w s_s s_h s_valuesA s_otherValuesA s_ranksA s_oldRanksA s_orderA s_neighborsA))) NoQ (XT0 o0) 1 6 (fun _ => False) := by
  refine of_tr (cc := cX4_dots) (maxL := 3) (ret := (some .int)) (by decide) rfl (Nat.le_of_ble_eq_true rfl) ?_
  intro p e s m args below meth c ls Q S hl hP hK hT hthr
  have S : CallFix p m c cX4_dots 3 s args wsX4_dots RX4 := S
  obtain ⟨hx, hb, hml, hown, hts⟩ := id S
  have hl : lv_has ls 3 [(0, .ref x_q0), (1, .int a0), (2, .int a1)] := hl
  unfold mxX4_dots at h
  refine lv_aload_n hx hb dX4_dots_0 rfl (lv_at hl 0 rfl) ?_
  refine va_get (D := G.1) (ci := 4) (v := .ref q_spread) (C := RX4) (T := TX4) (N := 5) hx hb hts fwx_X4_dots_X4 hown hK.1 hP 0 rfl rfl 2 (by decide) (hts (.fieldLink RX4 25 "HalftoneScreens" "spread" "LHalftoneScreens$Dots;") lkx_X4_dots_f25) (fun _ h9 => h9) rfl dX4_dots_1 ?_
  refine lv_aload_n hx hb dX4_dots_4 rfl (lv_at hl 0 rfl) ?_
  refine lv_iload_n hx hb dX4_dots_5 rfl (lv_at hl 1 rfl) ?_
  refine lv_iload_n hx hb dX4_dots_6 rfl (lv_at hl 2 rfl) ?_
  obtain ⟨r1, g1, h⟩ := bnd1_e h
  obtain rfl := sm1 h
  exact thrV (rest := [.ref q_spread]) (As := [.int a0, .int a1]) S (cxX4_inSlotWithSteps l hfl G x_q0 x_q1 s_q0 s_q1 s_q2 s_q3 s_q4 s_q5 s_q6 s_q7 q_input q_spread q_found x_gain q_s0 q_s1 q_s2 s_present s_a s_b s_c s_d s_spot s_middle s_tint s_w s_s s_h s_valuesA s_otherValuesA s_ranksA s_oldRanksA s_orderA s_neighborsA a0 a1 o0 g1 k_s hk_s hs_s he_s) (cwV 2 hts gX4_dots_X4_inSlotWithSteps rfl rfl rfl hvX4_inSlotWithSteps ⟨Nat.le_of_ble_eq_true rfl, Nat.le_of_ble_eq_true rfl⟩) hK hT hP [0, 1, 2, 3, 4, 5, 6, 7, 8, 9] rfl 0 4 rfl rfl rfl rfl hl.1 rfl (Nat.le_of_ble_eq_true rfl) dX4_dots_7 ⟨Nat.le_of_ble_eq_true rfl, Nat.le_of_ble_eq_true rfl⟩ (fun H1 locs1 q ce hk hz h1 h2 h3 => hthr _ _ _ _ H1 locs1 q ce rfl hk hz h1 h2 h3)
theorem fwx_X4_joined_X4 : ∀ w ∈ wsX40, w ∈ wsX4_joined := fun w h => List.mem_cons_of_mem _ (List.mem_append_left _ (List.mem_append_left _ (List.mem_append_left _ (List.mem_append_left _ (List.mem_append_left _ (List.mem_append_left _ (List.mem_append_right _ h)))))))
theorem lkx_X4_joined_f25 : Cond.fieldLink RX4 25 "HalftoneScreens" "spread" "LHalftoneScreens$Dots;" ∈ wsX4_joined := List.mem_of_getElem? (i := 1) rfl
abbrev rxX4_joined : Room := { frames := 8, cells := 1, slots := 6, locals := 134 }
set_option maxHeartbeats 4000000 in
set_option maxRecDepth 100000 in
theorem cxX4_joined (l : Launch) (hfl : l.stackTraces = false) (G : GG) (x_q0 : Nat) (x_q1 : Nat) (s_q0 : Nat) (s_q1 : Nat) (s_q2 : Nat) (s_q3 : Nat) (s_q4 : Nat) (s_q5 : Nat) (s_q6 : Nat) (s_q7 : Nat) (q_input : Nat) (q_spread : Nat) (q_found : Nat) (x_gain : Int32) (q_s0 : Nat) (q_s1 : Nat) (q_s2 : Nat) (s_present : Int32) (s_a : Int32) (s_b : Int32) (s_c : Int32) (s_d : Int32) (s_spot : Int32) (s_middle : Int32) (s_tint : Int32) (s_w : Int32) (s_s : Int32) (s_h : Int32) (s_valuesA : (Nat → Int32)) (s_otherValuesA : (Nat → Int32)) (s_ranksA : (Nat → Int32)) (s_oldRanksA : (Nat → Int32)) (s_orderA : (Nat → Int32)) (s_neighborsA : (Nat → Int32)) (a0 : Int32) (a1 : Int32) (o0 : Nat) (h : mxX4_joined s_present s_w s_h a1 = some (o0))  (k_s : Nat) (hk_s : k_s < 3) (hs_s : a0 = nI k_s) (he_s : scF q_s0 q_s1 q_s2 k_s = some s_q0) : vx_Met l yX4_joined wsX4_joined rxX4_joined (va_Pc [.ref x_q0, .int a0, .int a1] (PreT G (wdX4 G x_q0 x_q1 q_input q_spread q_found q_s0 q_s1 q_s2 x_gain ++ wdX3 G s_q0 s_q1 s_q2 s_q3 s_q4 s_q5 s_q6 s_q7 s_present s_a s_b s_c s_d s_spot s_middle s_tint s_w s_s s_h s_valuesA s_otherValuesA s_ranksA s_oldRanksA s_orderA s_neighborsA))) NoQ (XT0 o0) 1 6 (fun _ => False) := by
  refine of_tr (cc := cX4_joined) (maxL := 3) (ret := (some .int)) (by decide) rfl (Nat.le_of_ble_eq_true rfl) ?_
  intro p e s m args below meth c ls Q S hl hP hK hT hthr
  have S : CallFix p m c cX4_joined 3 s args wsX4_joined RX4 := S
  obtain ⟨hx, hb, hml, hown, hts⟩ := id S
  have hl : lv_has ls 3 [(0, .ref x_q0), (1, .int a0), (2, .int a1)] := hl
  unfold mxX4_joined at h
  refine lv_aload_n hx hb dX4_joined_0 rfl (lv_at hl 0 rfl) ?_
  refine va_get (D := G.1) (ci := 4) (v := .ref q_spread) (C := RX4) (T := TX4) (N := 5) hx hb hts fwx_X4_joined_X4 hown hK.1 hP 0 rfl rfl 2 (by decide) (hts (.fieldLink RX4 25 "HalftoneScreens" "spread" "LHalftoneScreens$Dots;") lkx_X4_joined_f25) (fun _ h9 => h9) rfl dX4_joined_1 ?_
  refine lv_aload_n hx hb dX4_joined_4 rfl (lv_at hl 0 rfl) ?_
  refine lv_iload_n hx hb dX4_joined_5 rfl (lv_at hl 1 rfl) ?_
  refine lv_iload_n hx hb dX4_joined_6 rfl (lv_at hl 2 rfl) ?_
  obtain ⟨r1, g1, h⟩ := bnd1_e h
  obtain rfl := sm1 h
  exact thrV (rest := [.ref q_spread]) (As := [.int a0, .int a1]) S (cxX4_inSlotWithSteps l hfl G x_q0 x_q1 s_q0 s_q1 s_q2 s_q3 s_q4 s_q5 s_q6 s_q7 q_input q_spread q_found x_gain q_s0 q_s1 q_s2 s_present s_a s_b s_c s_d s_spot s_middle s_tint s_w s_s s_h s_valuesA s_otherValuesA s_ranksA s_oldRanksA s_orderA s_neighborsA a0 a1 o0 g1 k_s hk_s hs_s he_s) (cwV 2 hts gX4_joined_X4_inSlotWithSteps rfl rfl rfl hvX4_inSlotWithSteps ⟨Nat.le_of_ble_eq_true rfl, Nat.le_of_ble_eq_true rfl⟩) hK hT hP [0, 1, 2, 3, 4, 5, 6, 7, 8, 9] rfl 0 4 rfl rfl rfl rfl hl.1 rfl (Nat.le_of_ble_eq_true rfl) dX4_joined_7 ⟨Nat.le_of_ble_eq_true rfl, Nat.le_of_ble_eq_true rfl⟩ (fun H1 locs1 q ce hk hz h1 h2 h3 => hthr _ _ _ _ H1 locs1 q ce rfl hk hz h1 h2 h3)
theorem fwx_X4_firstJoined_X3 : ∀ w ∈ wsX30, w ∈ wsX4_firstJoined := fun w h => List.mem_cons_of_mem _ (List.mem_append_left _ (List.mem_append_left _ (List.mem_append_left _ (List.mem_append_left _ (List.mem_append_left _ (List.mem_append_left _ (List.mem_append_right _ h)))))))
theorem lkx_X4_firstJoined_f100 : Cond.fieldLink RX4 100 "HalftoneScreens$Screen" "present" "Z" ∈ wsX4_firstJoined := List.mem_of_getElem? (i := 1) rfl
abbrev rxX4_firstJoined : Room := { frames := 7, cells := 1, slots := 6, locals := 111 }
set_option maxHeartbeats 4000000 in
set_option maxRecDepth 100000 in
theorem cxX4_firstJoined (l : Launch) (hfl : l.stackTraces = false) (G : GG) (x_q0 : Nat) (x_q1 : Nat) (s_q0 : Nat) (s_q1 : Nat) (s_q2 : Nat) (s_q3 : Nat) (s_q4 : Nat) (s_q5 : Nat) (s_q6 : Nat) (s_q7 : Nat) (q_input : Nat) (q_spread : Nat) (q_found : Nat) (x_gain : Int32) (q_s0 : Nat) (q_s1 : Nat) (q_s2 : Nat) (s_present : Int32) (s_a : Int32) (s_b : Int32) (s_c : Int32) (s_d : Int32) (s_spot : Int32) (s_middle : Int32) (s_tint : Int32) (s_w : Int32) (s_s : Int32) (s_h : Int32) (s_valuesA : (Nat → Int32)) (s_otherValuesA : (Nat → Int32)) (s_ranksA : (Nat → Int32)) (s_oldRanksA : (Nat → Int32)) (s_orderA : (Nat → Int32)) (s_neighborsA : (Nat → Int32)) (a0 : Int32) (a1 : Int32) (o0 : Nat) (h : mxX4_firstJoined s_present a1 = some (o0))  (k_s : Nat) (hk_s : k_s < 3) (hs_s : a0 = nI k_s) (he_s : scF q_s0 q_s1 q_s2 k_s = some s_q0) : vx_Met l yX4_firstJoined wsX4_firstJoined rxX4_firstJoined (va_Pc [.ref x_q0, .int a0, .int a1] (PreT G (wdX4 G x_q0 x_q1 q_input q_spread q_found q_s0 q_s1 q_s2 x_gain ++ wdX3 G s_q0 s_q1 s_q2 s_q3 s_q4 s_q5 s_q6 s_q7 s_present s_a s_b s_c s_d s_spot s_middle s_tint s_w s_s s_h s_valuesA s_otherValuesA s_ranksA s_oldRanksA s_orderA s_neighborsA))) NoQ (XT0 o0) 1 6 (fun _ => False) := by
  refine of_tr (cc := cX4_firstJoined) (maxL := 6) (ret := (some .int)) (by decide) rfl (Nat.le_of_ble_eq_true rfl) ?_
  intro p e s m args below meth c ls Q S hl hP hK hT hthr
  have S : CallFix p m c cX4_firstJoined 6 s args wsX4_firstJoined RX4 := S
  obtain ⟨hx, hb, hml, hown, hts⟩ := id S
  have hl : lv_has ls 6 [(0, .ref x_q0), (1, .int a0), (2, .int a1)] := hl
  unfold mxX4_firstJoined at h
  refine lv_aload_n hx hb dX4_firstJoined_0 rfl (lv_at hl 0 rfl) ?_
  refine lv_iload_n hx hb dX4_firstJoined_1 rfl (lv_at hl 1 rfl) ?_
  refine roVq1 (rest := []) (As := [.int a0]) S (ctX4_inSlot l G x_q0 x_q1 q_input q_spread q_found q_s0 q_s1 q_s2 x_gain a0 s_q0 k_s hk_s hs_s he_s) (cwV 1 hts gX4_firstJoined_X4_inSlot rfl rfl rfl hvX4_inSlot ⟨Nat.le_of_ble_eq_true rfl, Nat.le_of_ble_eq_true rfl⟩) hK hP [0, 1] rfl 0 4 rfl rfl rfl rfl hl.1 rfl (Nat.le_of_ble_eq_true rfl) dX4_firstJoined_2 ⟨Nat.zero_le _, Nat.zero_le _⟩ ?_
  refine lv_astore_n (lv' := [(3, .ref s_q0), (0, .ref x_q0), (1, .int a0), (2, .int a1)]) hx hb dX4_firstJoined_5 rfl hl (by decide) rfl (fun ls hl => ?_)
  refine lv_iload_n hx hb dX4_firstJoined_6 rfl (lv_at hl 3 rfl) ?_
  refine lv_iconst (v := 1) hx hb dX4_firstJoined_7 (by decide) ?_
  obtain ⟨K1, hK1, h⟩ := jB1_e h
  have J1 : ∀ (j1_0 : Int32) (jz1_0 : isZ j1_0) (ls : Array Slot), K1 j1_0 = some (o0) → lv_has ls 6 [(3, .ref s_q0), (0, .ref x_q0), (1, .int a0), (2, .int a1)] → W p l e rxX4_firstJoined s m args below meth c s.heap [] 0 0 Q (F0 m 21 ls [.int j1_0]) := by
    intro j1_0 jz1_0 ls h hl
    replace h := (hK1 j1_0).symm.trans h
    by_cases c4 : j1_0 = 0
    · replace h := ite_t c4 h
      obtain rfl := sm1 h
      subst c4
      exact thrS (rest := []) (As := [.int 0]) S (cxX4_needArgument l hfl) (va_cwS 1 hts gX4_firstJoined_X4_needArgument rfl rfl rfl hsX4_needArgument ⟨Nat.le_of_ble_eq_true rfl, Nat.le_of_ble_eq_true rfl⟩) TT.blind (fun U hU hW => by rw [hU]; exact TT.warm hW hT) rfl hl.1 rfl (Nat.le_of_ble_eq_true rfl) dX4_firstJoined_21 ⟨Nat.le_of_ble_eq_true rfl, Nat.le_of_ble_eq_true rfl⟩ (fun H1 locs1 q ce hk hz h1 h2 h3 => hthr _ _ _ _ H1 locs1 q ce rfl hk hz h1 h2 h3)
    · replace h := ite_f c4 h
      refine roSv1 (rest := []) (As := [.int j1_0]) S (ctX4_needArgument l j1_0 c4) (va_cwS 1 hts gX4_firstJoined_X4_needArgument rfl rfl rfl hsX4_needArgument ⟨Nat.le_of_ble_eq_true rfl, Nat.le_of_ble_eq_true rfl⟩) rfl hl.1 rfl (Nat.le_of_ble_eq_true rfl) dX4_firstJoined_21 ⟨Nat.zero_le _, Nat.zero_le _⟩ ?_
      refine lv_aload_n hx hb dX4_firstJoined_24 rfl (lv_at hl 0 rfl) ?_
      refine va_get (D := G.1) (ci := 3) (v := .int s_present) (C := RX3) (T := TX3) (N := 15) hx hb hts fwx_X4_firstJoined_X3 hown hK.1 hP 2 rfl rfl 7 (by decide) (hts (.fieldLink RX4 100 "HalftoneScreens$Screen" "present" "Z") lkx_X4_firstJoined_f100) (fun _ h9 => h9) rfl dX4_firstJoined_25 ?_
      by_cases c5 : s_present = 0
      · replace h := ite_t c5 h
        obtain rfl := sm1 h
        subst c5
        exact thrS (rest := []) (As := [.int 0]) S (cxX4_needState l hfl) (va_cwS 1 hts gX4_firstJoined_X4_needState rfl rfl rfl hsX4_needState ⟨Nat.le_of_ble_eq_true rfl, Nat.le_of_ble_eq_true rfl⟩) TT.blind (fun U hU hW => by rw [hU]; exact TT.warm hW hT) rfl hl.1 rfl (Nat.le_of_ble_eq_true rfl) dX4_firstJoined_28 ⟨Nat.le_of_ble_eq_true rfl, Nat.le_of_ble_eq_true rfl⟩ (fun H1 locs1 q ce hk hz h1 h2 h3 => hthr _ _ _ _ H1 locs1 q ce rfl hk hz h1 h2 h3)
      · replace h := ite_f c5 h
        refine roSv1 (rest := []) (As := [.int s_present]) S (ctX4_needState l s_present c5) (va_cwS 1 hts gX4_firstJoined_X4_needState rfl rfl rfl hsX4_needState ⟨Nat.le_of_ble_eq_true rfl, Nat.le_of_ble_eq_true rfl⟩) rfl hl.1 rfl (Nat.le_of_ble_eq_true rfl) dX4_firstJoined_28 ⟨Nat.zero_le _, Nat.zero_le _⟩ ?_
        exact nomatch h
  refine lv_icmp_eq (tgt := 16) hx hb dX4_firstJoined_8 (by decide) (fun c2 => ?_) (fun c2 => ?_)
  · replace h := ite_t c2 h
    refine lv_iconst (v := 1) hx hb dX4_firstJoined_16 (by decide) ?_
    refine lv_goto (tgt := 21) hx hb dX4_firstJoined_17 (by decide) ?_
    exact J1 1 isZ1 ls h hl
  · replace h := ite_f c2 h
    refine lv_iload_n hx hb dX4_firstJoined_11 rfl (lv_at hl 3 rfl) ?_
    refine lv_iconst (v := 2) hx hb dX4_firstJoined_12 (by decide) ?_
    refine lv_icmp_ne (tgt := 20) hx hb dX4_firstJoined_13 (by decide) (fun c3 => ?_) (fun c3 => ?_)
    · replace h := ite_f c3 h
      refine lv_iconst (v := 0) hx hb dX4_firstJoined_20 (by decide) ?_
      exact J1 0 isZ0 ls h hl
    · replace h := ite_t c3 h
      refine lv_iconst (v := 1) hx hb dX4_firstJoined_16 (by decide) ?_
      refine lv_goto (tgt := 21) hx hb dX4_firstJoined_17 (by decide) ?_
      exact J1 1 isZ1 ls h hl
abbrev rxX4_strength : Room := { frames := 8, cells := 1, slots := 6, locals := 134 }
set_option maxHeartbeats 4000000 in
set_option maxRecDepth 100000 in
theorem cxX4_strength (l : Launch) (hfl : l.stackTraces = false) (G : GG) (x_q0 : Nat) (x_q1 : Nat) (s_q0 : Nat) (s_q1 : Nat) (s_q2 : Nat) (s_q3 : Nat) (s_q4 : Nat) (s_q5 : Nat) (s_q6 : Nat) (s_q7 : Nat) (q_input : Nat) (q_spread : Nat) (q_found : Nat) (x_gain : Int32) (q_s0 : Nat) (q_s1 : Nat) (q_s2 : Nat) (s_present : Int32) (s_a : Int32) (s_b : Int32) (s_c : Int32) (s_d : Int32) (s_spot : Int32) (s_middle : Int32) (s_tint : Int32) (s_w : Int32) (s_s : Int32) (s_h : Int32) (s_valuesA : (Nat → Int32)) (s_otherValuesA : (Nat → Int32)) (s_ranksA : (Nat → Int32)) (s_oldRanksA : (Nat → Int32)) (s_orderA : (Nat → Int32)) (s_neighborsA : (Nat → Int32)) (a0 : Int32) (a1 : Int32) (o0 : Nat) (h : mxX4_strength s_present s_w s_h a1 = some (o0))  (k_s : Nat) (hk_s : k_s < 3) (hs_s : a0 = nI k_s) (he_s : scF q_s0 q_s1 q_s2 k_s = some s_q0) : vx_Met l yX4_strength wsX4_strength rxX4_strength (va_Pc [.ref x_q0, .int a0, .int a1] (PreT G (wdX4 G x_q0 x_q1 q_input q_spread q_found q_s0 q_s1 q_s2 x_gain ++ wdX3 G s_q0 s_q1 s_q2 s_q3 s_q4 s_q5 s_q6 s_q7 s_present s_a s_b s_c s_d s_spot s_middle s_tint s_w s_s s_h s_valuesA s_otherValuesA s_ranksA s_oldRanksA s_orderA s_neighborsA))) NoQ (XT0 o0) 1 6 (fun _ => False) := by
  refine of_tr (cc := cX4_strength) (maxL := 3) (ret := (some .int)) (by decide) rfl (Nat.le_of_ble_eq_true rfl) ?_
  intro p e s m args below meth c ls Q S hl hP hK hT hthr
  have S : CallFix p m c cX4_strength 3 s args wsX4_strength RX4 := S
  obtain ⟨hx, hb, hml, hown, hts⟩ := id S
  have hl : lv_has ls 3 [(0, .ref x_q0), (1, .int a0), (2, .int a1)] := hl
  unfold mxX4_strength at h
  refine lv_aload_n hx hb dX4_strength_0 rfl (lv_at hl 0 rfl) ?_
  refine lv_iload_n hx hb dX4_strength_1 rfl (lv_at hl 1 rfl) ?_
  refine lv_iload_n hx hb dX4_strength_2 rfl (lv_at hl 2 rfl) ?_
  obtain ⟨r1, g1, h⟩ := bnd1_e h
  obtain rfl := sm1 h
  exact thrV (rest := []) (As := [.int a0, .int a1]) S (cxX4_inSlotWithSteps l hfl G x_q0 x_q1 s_q0 s_q1 s_q2 s_q3 s_q4 s_q5 s_q6 s_q7 q_input q_spread q_found x_gain q_s0 q_s1 q_s2 s_present s_a s_b s_c s_d s_spot s_middle s_tint s_w s_s s_h s_valuesA s_otherValuesA s_ranksA s_oldRanksA s_orderA s_neighborsA a0 a1 o0 g1 k_s hk_s hs_s he_s) (cwV 2 hts gX4_strength_X4_inSlotWithSteps rfl rfl rfl hvX4_inSlotWithSteps ⟨Nat.le_of_ble_eq_true rfl, Nat.le_of_ble_eq_true rfl⟩) hK hT hP [0, 1, 2, 3, 4, 5, 6, 7, 8, 9] rfl 0 4 rfl rfl rfl rfl hl.1 rfl (Nat.le_of_ble_eq_true rfl) dX4_strength_3 ⟨Nat.le_of_ble_eq_true rfl, Nat.le_of_ble_eq_true rfl⟩ (fun H1 locs1 q ce hk hz h1 h2 h3 => hthr _ _ _ _ H1 locs1 q ce rfl hk hz h1 h2 h3)
theorem fwx_X4_meanStrength_X3 : ∀ w ∈ wsX30, w ∈ wsX4_meanStrength := fun w h => List.mem_cons_of_mem _ (List.mem_append_left _ (List.mem_append_left _ (List.mem_append_left _ (List.mem_append_left _ (List.mem_append_right _ h)))))
theorem lkx_X4_meanStrength_f100 : Cond.fieldLink RX4 100 "HalftoneScreens$Screen" "present" "Z" ∈ wsX4_meanStrength := List.mem_of_getElem? (i := 1) rfl
abbrev rxX4_meanStrength : Room := { frames := 7, cells := 1, slots := 6, locals := 111 }
set_option maxHeartbeats 4000000 in
set_option maxRecDepth 100000 in
theorem cxX4_meanStrength (l : Launch) (hfl : l.stackTraces = false) (G : GG) (x_q0 : Nat) (x_q1 : Nat) (s_q0 : Nat) (s_q1 : Nat) (s_q2 : Nat) (s_q3 : Nat) (s_q4 : Nat) (s_q5 : Nat) (s_q6 : Nat) (s_q7 : Nat) (q_input : Nat) (q_spread : Nat) (q_found : Nat) (x_gain : Int32) (q_s0 : Nat) (q_s1 : Nat) (q_s2 : Nat) (s_present : Int32) (s_a : Int32) (s_b : Int32) (s_c : Int32) (s_d : Int32) (s_spot : Int32) (s_middle : Int32) (s_tint : Int32) (s_w : Int32) (s_s : Int32) (s_h : Int32) (s_valuesA : (Nat → Int32)) (s_otherValuesA : (Nat → Int32)) (s_ranksA : (Nat → Int32)) (s_oldRanksA : (Nat → Int32)) (s_orderA : (Nat → Int32)) (s_neighborsA : (Nat → Int32)) (a0 : Int32) (o0 : Nat) (h : mxX4_meanStrength s_present = some (o0))  (k_s : Nat) (hk_s : k_s < 3) (hs_s : a0 = nI k_s) (he_s : scF q_s0 q_s1 q_s2 k_s = some s_q0) : vx_Met l yX4_meanStrength wsX4_meanStrength rxX4_meanStrength (va_Pc [.ref x_q0, .int a0] (PreT G (wdX4 G x_q0 x_q1 q_input q_spread q_found q_s0 q_s1 q_s2 x_gain ++ wdX3 G s_q0 s_q1 s_q2 s_q3 s_q4 s_q5 s_q6 s_q7 s_present s_a s_b s_c s_d s_spot s_middle s_tint s_w s_s s_h s_valuesA s_otherValuesA s_ranksA s_oldRanksA s_orderA s_neighborsA))) NoQ (XT0 o0) 1 6 (fun _ => False) := by
  refine of_tr (cc := cX4_meanStrength) (maxL := 4) (ret := (some .double)) (by decide) rfl (Nat.le_of_ble_eq_true rfl) ?_
  intro p e s m args below meth c ls Q S hl hP hK hT hthr
  have S : CallFix p m c cX4_meanStrength 4 s args wsX4_meanStrength RX4 := S
  obtain ⟨hx, hb, hml, hown, hts⟩ := id S
  have hl : lv_has ls 4 [(0, .ref x_q0), (1, .int a0)] := hl
  unfold mxX4_meanStrength at h
  refine lv_aload_n hx hb dX4_meanStrength_0 rfl (lv_at hl 0 rfl) ?_
  refine lv_iload_n hx hb dX4_meanStrength_1 rfl (lv_at hl 1 rfl) ?_
  refine roVq1 (rest := []) (As := [.int a0]) S (ctX4_inSlot l G x_q0 x_q1 q_input q_spread q_found q_s0 q_s1 q_s2 x_gain a0 s_q0 k_s hk_s hs_s he_s) (cwV 1 hts gX4_meanStrength_X4_inSlot rfl rfl rfl hvX4_inSlot ⟨Nat.le_of_ble_eq_true rfl, Nat.le_of_ble_eq_true rfl⟩) hK hP [0, 1] rfl 0 4 rfl rfl rfl rfl hl.1 rfl (Nat.le_of_ble_eq_true rfl) dX4_meanStrength_2 ⟨Nat.zero_le _, Nat.zero_le _⟩ ?_
  refine lv_astore_n (lv' := [(2, .ref s_q0), (0, .ref x_q0), (1, .int a0)]) hx hb dX4_meanStrength_5 rfl hl (by decide) rfl (fun ls hl => ?_)
  refine lv_aload_n hx hb dX4_meanStrength_6 rfl (lv_at hl 0 rfl) ?_
  refine va_get (D := G.1) (ci := 3) (v := .int s_present) (C := RX3) (T := TX3) (N := 15) hx hb hts fwx_X4_meanStrength_X3 hown hK.1 hP 2 rfl rfl 7 (by decide) (hts (.fieldLink RX4 100 "HalftoneScreens$Screen" "present" "Z") lkx_X4_meanStrength_f100) (fun _ h9 => h9) rfl dX4_meanStrength_7 ?_
  by_cases c1 : s_present = 0
  · replace h := ite_t c1 h
    obtain rfl := sm1 h
    subst c1
    exact thrS (rest := []) (As := [.int 0]) S (cxX4_needState l hfl) (va_cwS 1 hts gX4_meanStrength_X4_needState rfl rfl rfl hsX4_needState ⟨Nat.le_of_ble_eq_true rfl, Nat.le_of_ble_eq_true rfl⟩) TT.blind (fun U hU hW => by rw [hU]; exact TT.warm hW hT) rfl hl.1 rfl (Nat.le_of_ble_eq_true rfl) dX4_meanStrength_10 ⟨Nat.le_of_ble_eq_true rfl, Nat.le_of_ble_eq_true rfl⟩ (fun H1 locs1 q ce hk hz h1 h2 h3 => hthr _ _ _ _ H1 locs1 q ce rfl hk hz h1 h2 h3)
  · replace h := ite_f c1 h
    refine roSv1 (rest := []) (As := [.int s_present]) S (ctX4_needState l s_present c1) (va_cwS 1 hts gX4_meanStrength_X4_needState rfl rfl rfl hsX4_needState ⟨Nat.le_of_ble_eq_true rfl, Nat.le_of_ble_eq_true rfl⟩) rfl hl.1 rfl (Nat.le_of_ble_eq_true rfl) dX4_meanStrength_10 ⟨Nat.zero_le _, Nat.zero_le _⟩ ?_
    exact nomatch h
theorem fwx_X4_compensated_X3 : ∀ w ∈ wsX30, w ∈ wsX4_compensated := fun w h => List.mem_cons_of_mem _ (List.mem_append_left _ (List.mem_append_left _ (List.mem_append_left _ (List.mem_append_left _ (List.mem_append_left _ (List.mem_append_right _ h))))))
theorem lkx_X4_compensated_f100 : Cond.fieldLink RX4 100 "HalftoneScreens$Screen" "present" "Z" ∈ wsX4_compensated := List.mem_of_getElem? (i := 1) rfl
abbrev rxX4_compensated : Room := { frames := 7, cells := 1, slots := 6, locals := 111 }
set_option maxHeartbeats 4000000 in
set_option maxRecDepth 100000 in
theorem cxX4_compensated (l : Launch) (hfl : l.stackTraces = false) (G : GG) (x_q0 : Nat) (x_q1 : Nat) (s_q0 : Nat) (s_q1 : Nat) (s_q2 : Nat) (s_q3 : Nat) (s_q4 : Nat) (s_q5 : Nat) (s_q6 : Nat) (s_q7 : Nat) (q_input : Nat) (q_spread : Nat) (q_found : Nat) (x_gain : Int32) (q_s0 : Nat) (q_s1 : Nat) (q_s2 : Nat) (s_present : Int32) (s_a : Int32) (s_b : Int32) (s_c : Int32) (s_d : Int32) (s_spot : Int32) (s_middle : Int32) (s_tint : Int32) (s_w : Int32) (s_s : Int32) (s_h : Int32) (s_valuesA : (Nat → Int32)) (s_otherValuesA : (Nat → Int32)) (s_ranksA : (Nat → Int32)) (s_oldRanksA : (Nat → Int32)) (s_orderA : (Nat → Int32)) (s_neighborsA : (Nat → Int32)) (a0 : Int32) (a1 : Int32) (o0 : Nat) (h : mxX4_compensated s_present a1 = some (o0))  (k_s : Nat) (hk_s : k_s < 3) (hs_s : a0 = nI k_s) (he_s : scF q_s0 q_s1 q_s2 k_s = some s_q0) : vx_Met l yX4_compensated wsX4_compensated rxX4_compensated (va_Pc [.ref x_q0, .int a0, .int a1] (PreT G (wdX4 G x_q0 x_q1 q_input q_spread q_found q_s0 q_s1 q_s2 x_gain ++ wdX3 G s_q0 s_q1 s_q2 s_q3 s_q4 s_q5 s_q6 s_q7 s_present s_a s_b s_c s_d s_spot s_middle s_tint s_w s_s s_h s_valuesA s_otherValuesA s_ranksA s_oldRanksA s_orderA s_neighborsA))) NoQ (XT0 o0) 1 6 (fun _ => False) := by
  refine of_tr (cc := cX4_compensated) (maxL := 9) (ret := (some .int)) (by decide) rfl (Nat.le_of_ble_eq_true rfl) ?_
  intro p e s m args below meth c ls Q S hl hP hK hT hthr
  have S : CallFix p m c cX4_compensated 9 s args wsX4_compensated RX4 := S
  obtain ⟨hx, hb, hml, hown, hts⟩ := id S
  have hl : lv_has ls 9 [(0, .ref x_q0), (1, .int a0), (2, .int a1)] := hl
  unfold mxX4_compensated at h
  refine lv_aload_n hx hb dX4_compensated_0 rfl (lv_at hl 0 rfl) ?_
  refine lv_iload_n hx hb dX4_compensated_1 rfl (lv_at hl 1 rfl) ?_
  refine roVq1 (rest := []) (As := [.int a0]) S (ctX4_inSlot l G x_q0 x_q1 q_input q_spread q_found q_s0 q_s1 q_s2 x_gain a0 s_q0 k_s hk_s hs_s he_s) (cwV 1 hts gX4_compensated_X4_inSlot rfl rfl rfl hvX4_inSlot ⟨Nat.le_of_ble_eq_true rfl, Nat.le_of_ble_eq_true rfl⟩) hK hP [0, 1] rfl 0 4 rfl rfl rfl rfl hl.1 rfl (Nat.le_of_ble_eq_true rfl) dX4_compensated_2 ⟨Nat.zero_le _, Nat.zero_le _⟩ ?_
  refine lv_astore_n (lv' := [(3, .ref s_q0), (0, .ref x_q0), (1, .int a0), (2, .int a1)]) hx hb dX4_compensated_5 rfl hl (by decide) rfl (fun ls hl => ?_)
  refine lv_iload_n hx hb dX4_compensated_6 rfl (lv_at hl 3 rfl) ?_
  obtain ⟨K1, hK1, h⟩ := jB1_e h
  have J1 : ∀ (j1_0 : Int32) (jz1_0 : isZ j1_0) (ls : Array Slot), K1 j1_0 = some (o0) → lv_has ls 9 [(3, .ref s_q0), (0, .ref x_q0), (1, .int a0), (2, .int a1)] → W p l e rxX4_compensated s m args below meth c s.heap [] 0 0 Q (F0 m 21 ls [.int j1_0]) := by
    intro j1_0 jz1_0 ls h hl
    replace h := (hK1 j1_0).symm.trans h
    by_cases c4 : j1_0 = 0
    · replace h := ite_t c4 h
      obtain rfl := sm1 h
      subst c4
      exact thrS (rest := []) (As := [.int 0]) S (cxX4_needArgument l hfl) (va_cwS 1 hts gX4_compensated_X4_needArgument rfl rfl rfl hsX4_needArgument ⟨Nat.le_of_ble_eq_true rfl, Nat.le_of_ble_eq_true rfl⟩) TT.blind (fun U hU hW => by rw [hU]; exact TT.warm hW hT) rfl hl.1 rfl (Nat.le_of_ble_eq_true rfl) dX4_compensated_21 ⟨Nat.le_of_ble_eq_true rfl, Nat.le_of_ble_eq_true rfl⟩ (fun H1 locs1 q ce hk hz h1 h2 h3 => hthr _ _ _ _ H1 locs1 q ce rfl hk hz h1 h2 h3)
    · replace h := ite_f c4 h
      refine roSv1 (rest := []) (As := [.int j1_0]) S (ctX4_needArgument l j1_0 c4) (va_cwS 1 hts gX4_compensated_X4_needArgument rfl rfl rfl hsX4_needArgument ⟨Nat.le_of_ble_eq_true rfl, Nat.le_of_ble_eq_true rfl⟩) rfl hl.1 rfl (Nat.le_of_ble_eq_true rfl) dX4_compensated_21 ⟨Nat.zero_le _, Nat.zero_le _⟩ ?_
      refine lv_aload_n hx hb dX4_compensated_24 rfl (lv_at hl 0 rfl) ?_
      refine va_get (D := G.1) (ci := 3) (v := .int s_present) (C := RX3) (T := TX3) (N := 15) hx hb hts fwx_X4_compensated_X3 hown hK.1 hP 2 rfl rfl 7 (by decide) (hts (.fieldLink RX4 100 "HalftoneScreens$Screen" "present" "Z") lkx_X4_compensated_f100) (fun _ h9 => h9) rfl dX4_compensated_25 ?_
      by_cases c5 : s_present = 0
      · replace h := ite_t c5 h
        obtain rfl := sm1 h
        subst c5
        exact thrS (rest := []) (As := [.int 0]) S (cxX4_needState l hfl) (va_cwS 1 hts gX4_compensated_X4_needState rfl rfl rfl hsX4_needState ⟨Nat.le_of_ble_eq_true rfl, Nat.le_of_ble_eq_true rfl⟩) TT.blind (fun U hU hW => by rw [hU]; exact TT.warm hW hT) rfl hl.1 rfl (Nat.le_of_ble_eq_true rfl) dX4_compensated_28 ⟨Nat.le_of_ble_eq_true rfl, Nat.le_of_ble_eq_true rfl⟩ (fun H1 locs1 q ce hk hz h1 h2 h3 => hthr _ _ _ _ H1 locs1 q ce rfl hk hz h1 h2 h3)
      · replace h := ite_f c5 h
        refine roSv1 (rest := []) (As := [.int s_present]) S (ctX4_needState l s_present c5) (va_cwS 1 hts gX4_compensated_X4_needState rfl rfl rfl hsX4_needState ⟨Nat.le_of_ble_eq_true rfl, Nat.le_of_ble_eq_true rfl⟩) rfl hl.1 rfl (Nat.le_of_ble_eq_true rfl) dX4_compensated_28 ⟨Nat.zero_le _, Nat.zero_le _⟩ ?_
        exact nomatch h
  refine lv_if_lt (tgt := 20) hx hb dX4_compensated_7 (by decide) (fun c2 => ?_) (fun c2 => ?_)
  · replace h := ite_t c2 h
    refine lv_iconst (v := 0) hx hb dX4_compensated_20 (by decide) ?_
    exact J1 0 isZ0 ls h hl
  · replace h := ite_f c2 h
    refine lv_iload_n hx hb dX4_compensated_10 rfl (lv_at hl 3 rfl) ?_
    refine lv_bipush (v := 100) hx hb dX4_compensated_11 (by decide) ?_
    refine lv_icmp_gt (tgt := 20) hx hb dX4_compensated_13 (by decide) (fun c3 => ?_) (fun c3 => ?_)
    · replace h := ite_t c3 h
      refine lv_iconst (v := 0) hx hb dX4_compensated_20 (by decide) ?_
      exact J1 0 isZ0 ls h hl
    · replace h := ite_f c3 h
      refine lv_iconst (v := 1) hx hb dX4_compensated_16 (by decide) ?_
      refine lv_goto (tgt := 21) hx hb dX4_compensated_17 (by decide) ?_
      exact J1 1 isZ1 ls h hl
abbrev rxX4_setGain : Room := { frames := 7, cells := 1, slots := 6, locals := 110 }
set_option maxHeartbeats 4000000 in
set_option maxRecDepth 100000 in
theorem cxX4_setGain (l : Launch) (hfl : l.stackTraces = false) (G : GG) (x_q0 : Nat) (x_q1 : Nat) (q_input : Nat) (q_spread : Nat) (q_found : Nat) (x_gain : Int32) (q_s0 : Nat) (q_s1 : Nat) (q_s2 : Nat) (a0 : Int32) (o0 : Nat) (h : mxX4_setGain a0 = some (o0))  : vx_Met l yX4_setGain wsX4_setGain rxX4_setGain (va_Pc [.ref x_q0, .int a0] (PreT G (wdX4 G x_q0 x_q1 q_input q_spread q_found q_s0 q_s1 q_s2 x_gain))) NoQ (XT0 o0) 1 6 (fun _ => False) := by
  refine of_tr (cc := cX4_setGain) (maxL := 3) (ret := (some .int)) (by decide) rfl (Nat.le_of_ble_eq_true rfl) ?_
  intro p e s m args below meth c ls Q S hl hP hK hT hthr
  have S : CallFix p m c cX4_setGain 3 s args wsX4_setGain RX4 := S
  obtain ⟨hx, hb, hml, hown, hts⟩ := id S
  have hl : lv_has ls 3 [(0, .ref x_q0), (1, .int a0)] := hl
  unfold mxX4_setGain at h
  refine lv_iload_n hx hb dX4_setGain_0 rfl (lv_at hl 1 rfl) ?_
  refine lv_if_lt (tgt := 14) hx hb dX4_setGain_1 (by decide) (fun c1 => ?_) (fun c1 => ?_)
  · replace h := ite_t c1 h
    refine lv_iconst (v := 0) hx hb dX4_setGain_14 (by decide) ?_
    obtain rfl := sm1 h
    exact thrS (rest := []) (As := [.int 0]) S (cxX4_needArgument l hfl) (va_cwS 1 hts gX4_setGain_X4_needArgument rfl rfl rfl hsX4_needArgument ⟨Nat.le_of_ble_eq_true rfl, Nat.le_of_ble_eq_true rfl⟩) TT.blind (fun U hU hW => by rw [hU]; exact TT.warm hW hT) rfl hl.1 rfl (Nat.le_of_ble_eq_true rfl) dX4_setGain_15 ⟨Nat.le_of_ble_eq_true rfl, Nat.le_of_ble_eq_true rfl⟩ (fun H1 locs1 q ce hk hz h1 h2 h3 => hthr _ _ _ _ H1 locs1 q ce rfl hk hz h1 h2 h3)
  · replace h := ite_f c1 h
    refine lv_iload_n hx hb dX4_setGain_4 rfl (lv_at hl 1 rfl) ?_
    refine lv_bipush (v := 100) hx hb dX4_setGain_5 (by decide) ?_
    refine lv_icmp_gt (tgt := 14) hx hb dX4_setGain_7 (by decide) (fun c3 => ?_) (fun c3 => ?_)
    · replace h := ite_t c3 h
      refine lv_iconst (v := 0) hx hb dX4_setGain_14 (by decide) ?_
      obtain rfl := sm1 h
      exact thrS (rest := []) (As := [.int 0]) S (cxX4_needArgument l hfl) (va_cwS 1 hts gX4_setGain_X4_needArgument rfl rfl rfl hsX4_needArgument ⟨Nat.le_of_ble_eq_true rfl, Nat.le_of_ble_eq_true rfl⟩) TT.blind (fun U hU hW => by rw [hU]; exact TT.warm hW hT) rfl hl.1 rfl (Nat.le_of_ble_eq_true rfl) dX4_setGain_15 ⟨Nat.le_of_ble_eq_true rfl, Nat.le_of_ble_eq_true rfl⟩ (fun H1 locs1 q ce hk hz h1 h2 h3 => hthr _ _ _ _ H1 locs1 q ce rfl hk hz h1 h2 h3)
    · replace h := ite_f c3 h
      refine lv_iconst (v := 1) hx hb dX4_setGain_10 (by decide) ?_
      refine lv_goto (tgt := 15) hx hb dX4_setGain_11 (by decide) ?_
      refine roSv1 (rest := []) (As := [.int 1]) S (ctX4_needArgument l 1 (by decide)) (va_cwS 1 hts gX4_setGain_X4_needArgument rfl rfl rfl hsX4_needArgument ⟨Nat.le_of_ble_eq_true rfl, Nat.le_of_ble_eq_true rfl⟩) rfl hl.1 rfl (Nat.le_of_ble_eq_true rfl) dX4_setGain_15 ⟨Nat.zero_le _, Nat.zero_le _⟩ ?_
      exact nomatch h
abbrev rxX4_pixel : Room := { frames := 7, cells := 1, slots := 6, locals := 110 }
set_option maxHeartbeats 4000000 in
set_option maxRecDepth 100000 in
theorem cxX4_pixel (l : Launch) (hfl : l.stackTraces = false) (G : GG) (x_q0 : Nat) (x_q1 : Nat) (q_input : Nat) (q_spread : Nat) (q_found : Nat) (x_gain : Int32) (q_s0 : Nat) (q_s1 : Nat) (q_s2 : Nat) (a0 : Int32) (a1 : Int32) (o0 : Nat) (h : mxX4_pixel a0 a1 = some (o0))  : vx_Met l yX4_pixel wsX4_pixel rxX4_pixel (va_Pc [.ref x_q0, .int a0, .int a1] (PreT G (wdX4 G x_q0 x_q1 q_input q_spread q_found q_s0 q_s1 q_s2 x_gain))) NoQ (XT0 o0) 1 6 (fun _ => False) := by
  refine of_tr (cc := cX4_pixel) (maxL := 3) (ret := (some .int)) (by decide) rfl (Nat.le_of_ble_eq_true rfl) ?_
  intro p e s m args below meth c ls Q S hl hP hK hT hthr
  have S : CallFix p m c cX4_pixel 3 s args wsX4_pixel RX4 := S
  obtain ⟨hx, hb, hml, hown, hts⟩ := id S
  have hl : lv_has ls 3 [(0, .ref x_q0), (1, .int a0), (2, .int a1)] := hl
  unfold mxX4_pixel at h
  refine lv_iload_n hx hb dX4_pixel_0 rfl (lv_at hl 1 rfl) ?_
  obtain ⟨r1_0, g1, h⟩ := bnd1_e h
  refine roSi1 (rest := []) (As := [.int a0]) S (ctX4_isPosition l G a0 r1_0 g1) (va_cwS 1 hts gX4_pixel_X4_isPosition rfl rfl rfl hsX4_isPosition ⟨Nat.le_of_ble_eq_true rfl, Nat.le_of_ble_eq_true rfl⟩) hK hP [] rfl rfl hl.1 rfl (Nat.le_of_ble_eq_true rfl) dX4_pixel_1 ⟨Nat.zero_le _, Nat.zero_le _⟩ (fun hz1 => ?_)
  refine lv_if_eq (tgt := 18) hx hb dX4_pixel_4 (by decide) (fun c2 => ?_) (fun c2 => ?_)
  · replace h := ite_t c2 h
    refine lv_iconst (v := 0) hx hb dX4_pixel_18 (by decide) ?_
    obtain rfl := sm1 h
    exact thrS (rest := []) (As := [.int 0]) S (cxX4_needArgument l hfl) (va_cwS 1 hts gX4_pixel_X4_needArgument rfl rfl rfl hsX4_needArgument ⟨Nat.le_of_ble_eq_true rfl, Nat.le_of_ble_eq_true rfl⟩) TT.blind (fun U hU hW => by rw [hU]; exact TT.warm hW hT) rfl hl.1 rfl (Nat.le_of_ble_eq_true rfl) dX4_pixel_19 ⟨Nat.le_of_ble_eq_true rfl, Nat.le_of_ble_eq_true rfl⟩ (fun H1 locs1 q ce hk hz h1 h2 h3 => hthr _ _ _ _ H1 locs1 q ce rfl hk hz h1 h2 h3)
  · replace h := ite_f c2 h
    refine lv_iload_n hx hb dX4_pixel_7 rfl (lv_at hl 2 rfl) ?_
    obtain ⟨r4_0, g4, h⟩ := bnd1_e h
    refine roSi1 (rest := []) (As := [.int a1]) S (ctX4_isPosition l G a1 r4_0 g4) (va_cwS 1 hts gX4_pixel_X4_isPosition rfl rfl rfl hsX4_isPosition ⟨Nat.le_of_ble_eq_true rfl, Nat.le_of_ble_eq_true rfl⟩) hK hP [] rfl rfl hl.1 rfl (Nat.le_of_ble_eq_true rfl) dX4_pixel_8 ⟨Nat.zero_le _, Nat.zero_le _⟩ (fun hz4 => ?_)
    refine lv_if_eq (tgt := 18) hx hb dX4_pixel_11 (by decide) (fun c5 => ?_) (fun c5 => ?_)
    · replace h := ite_t c5 h
      refine lv_iconst (v := 0) hx hb dX4_pixel_18 (by decide) ?_
      obtain rfl := sm1 h
      exact thrS (rest := []) (As := [.int 0]) S (cxX4_needArgument l hfl) (va_cwS 1 hts gX4_pixel_X4_needArgument rfl rfl rfl hsX4_needArgument ⟨Nat.le_of_ble_eq_true rfl, Nat.le_of_ble_eq_true rfl⟩) TT.blind (fun U hU hW => by rw [hU]; exact TT.warm hW hT) rfl hl.1 rfl (Nat.le_of_ble_eq_true rfl) dX4_pixel_19 ⟨Nat.le_of_ble_eq_true rfl, Nat.le_of_ble_eq_true rfl⟩ (fun H1 locs1 q ce hk hz h1 h2 h3 => hthr _ _ _ _ H1 locs1 q ce rfl hk hz h1 h2 h3)
    · replace h := ite_f c5 h
      refine lv_iconst (v := 1) hx hb dX4_pixel_14 (by decide) ?_
      refine lv_goto (tgt := 19) hx hb dX4_pixel_15 (by decide) ?_
      refine roSv1 (rest := []) (As := [.int 1]) S (ctX4_needArgument l 1 (by decide)) (va_cwS 1 hts gX4_pixel_X4_needArgument rfl rfl rfl hsX4_needArgument ⟨Nat.le_of_ble_eq_true rfl, Nat.le_of_ble_eq_true rfl⟩) rfl hl.1 rfl (Nat.le_of_ble_eq_true rfl) dX4_pixel_19 ⟨Nat.zero_le _, Nat.zero_le _⟩ ?_
      exact nomatch h
abbrev rxX4_count : Room := { frames := 7, cells := 1, slots := 6, locals := 110 }
set_option maxHeartbeats 4000000 in
set_option maxRecDepth 100000 in
theorem cxX4_count (l : Launch) (hfl : l.stackTraces = false) (G : GG) (x_q0 : Nat) (x_q1 : Nat) (q_input : Nat) (q_spread : Nat) (q_found : Nat) (x_gain : Int32) (q_s0 : Nat) (q_s1 : Nat) (q_s2 : Nat) (a0 : Int32) (o0 : Nat) (h : mxX4_count a0 = some (o0))  : vx_Met l yX4_count wsX4_count rxX4_count (va_Pc [.ref x_q0, .int a0] (PreT G (wdX4 G x_q0 x_q1 q_input q_spread q_found q_s0 q_s1 q_s2 x_gain))) NoQ (XT0 o0) 1 6 (fun _ => False) := by
  refine of_tr (cc := cX4_count) (maxL := 7) (ret := (some .int)) (by decide) rfl (Nat.le_of_ble_eq_true rfl) ?_
  intro p e s m args below meth c ls Q S hl hP hK hT hthr
  have S : CallFix p m c cX4_count 7 s args wsX4_count RX4 := S
  obtain ⟨hx, hb, hml, hown, hts⟩ := id S
  have hl : lv_has ls 7 [(0, .ref x_q0), (1, .int a0)] := hl
  unfold mxX4_count at h
  refine lv_iload_n hx hb dX4_count_0 rfl (lv_at hl 1 rfl) ?_
  obtain ⟨K1, hK1, h⟩ := jB1_e h
  have J1 : ∀ (j1_0 : Int32) (jz1_0 : isZ j1_0) (ls : Array Slot), K1 j1_0 = some (o0) → lv_has ls 7 [(0, .ref x_q0), (1, .int a0)] → W p l e rxX4_count s m args below meth c s.heap [] 0 0 Q (F0 m 14 ls [.int j1_0]) := by
    intro j1_0 jz1_0 ls h hl
    replace h := (hK1 j1_0).symm.trans h
    by_cases c4 : j1_0 = 0
    · replace h := ite_t c4 h
      obtain rfl := sm1 h
      subst c4
      exact thrS (rest := []) (As := [.int 0]) S (cxX4_needArgument l hfl) (va_cwS 1 hts gX4_count_X4_needArgument rfl rfl rfl hsX4_needArgument ⟨Nat.le_of_ble_eq_true rfl, Nat.le_of_ble_eq_true rfl⟩) TT.blind (fun U hU hW => by rw [hU]; exact TT.warm hW hT) rfl hl.1 rfl (Nat.le_of_ble_eq_true rfl) dX4_count_14 ⟨Nat.le_of_ble_eq_true rfl, Nat.le_of_ble_eq_true rfl⟩ (fun H1 locs1 q ce hk hz h1 h2 h3 => hthr _ _ _ _ H1 locs1 q ce rfl hk hz h1 h2 h3)
    · replace h := ite_f c4 h
      refine roSv1 (rest := []) (As := [.int j1_0]) S (ctX4_needArgument l j1_0 c4) (va_cwS 1 hts gX4_count_X4_needArgument rfl rfl rfl hsX4_needArgument ⟨Nat.le_of_ble_eq_true rfl, Nat.le_of_ble_eq_true rfl⟩) rfl hl.1 rfl (Nat.le_of_ble_eq_true rfl) dX4_count_14 ⟨Nat.zero_le _, Nat.zero_le _⟩ ?_
      exact nomatch h
  refine lv_if_lt (tgt := 13) hx hb dX4_count_1 (by decide) (fun c2 => ?_) (fun c2 => ?_)
  · replace h := ite_t c2 h
    refine lv_iconst (v := 0) hx hb dX4_count_13 (by decide) ?_
    exact J1 0 isZ0 ls h hl
  · replace h := ite_f c2 h
    refine lv_iload_n hx hb dX4_count_4 rfl (lv_at hl 1 rfl) ?_
    refine lv_iconst (v := 4) hx hb dX4_count_5 (by decide) ?_
    refine lv_icmp_gt (tgt := 13) hx hb dX4_count_6 (by decide) (fun c3 => ?_) (fun c3 => ?_)
    · replace h := ite_t c3 h
      refine lv_iconst (v := 0) hx hb dX4_count_13 (by decide) ?_
      exact J1 0 isZ0 ls h hl
    · replace h := ite_f c3 h
      refine lv_iconst (v := 1) hx hb dX4_count_9 (by decide) ?_
      refine lv_goto (tgt := 14) hx hb dX4_count_10 (by decide) ?_
      exact J1 1 isZ1 ls h hl
abbrev rxX4_period : Room := { frames := 7, cells := 1, slots := 6, locals := 110 }
set_option maxHeartbeats 4000000 in
set_option maxRecDepth 100000 in
theorem cxX4_period (l : Launch) (hfl : l.stackTraces = false) (G : GG) (x_q0 : Nat) (x_q1 : Nat) (s0_q0 : Nat) (s0_q1 : Nat) (s0_q2 : Nat) (s0_q3 : Nat) (s0_q4 : Nat) (s0_q5 : Nat) (s0_q6 : Nat) (s0_q7 : Nat) (s1_q0 : Nat) (s1_q1 : Nat) (s1_q2 : Nat) (s1_q3 : Nat) (s1_q4 : Nat) (s1_q5 : Nat) (s1_q6 : Nat) (s1_q7 : Nat) (s2_q0 : Nat) (s2_q1 : Nat) (s2_q2 : Nat) (s2_q3 : Nat) (s2_q4 : Nat) (s2_q5 : Nat) (s2_q6 : Nat) (s2_q7 : Nat) (q_input : Nat) (q_spread : Nat) (q_found : Nat) (x_gain : Int32) (s0_present : Int32) (s0_a : Int32) (s0_b : Int32) (s0_c : Int32) (s0_d : Int32) (s0_spot : Int32) (s0_middle : Int32) (s0_tint : Int32) (s0_w : Int32) (s0_s : Int32) (s0_h : Int32) (s0_valuesA : (Nat → Int32)) (s0_otherValuesA : (Nat → Int32)) (s0_ranksA : (Nat → Int32)) (s0_oldRanksA : (Nat → Int32)) (s0_orderA : (Nat → Int32)) (s0_neighborsA : (Nat → Int32)) (s1_present : Int32) (s1_a : Int32) (s1_b : Int32) (s1_c : Int32) (s1_d : Int32) (s1_spot : Int32) (s1_middle : Int32) (s1_tint : Int32) (s1_w : Int32) (s1_s : Int32) (s1_h : Int32) (s1_valuesA : (Nat → Int32)) (s1_otherValuesA : (Nat → Int32)) (s1_ranksA : (Nat → Int32)) (s1_oldRanksA : (Nat → Int32)) (s1_orderA : (Nat → Int32)) (s1_neighborsA : (Nat → Int32)) (s2_present : Int32) (s2_a : Int32) (s2_b : Int32) (s2_c : Int32) (s2_d : Int32) (s2_spot : Int32) (s2_middle : Int32) (s2_tint : Int32) (s2_w : Int32) (s2_s : Int32) (s2_h : Int32) (s2_valuesA : (Nat → Int32)) (s2_otherValuesA : (Nat → Int32)) (s2_ranksA : (Nat → Int32)) (s2_oldRanksA : (Nat → Int32)) (s2_orderA : (Nat → Int32)) (s2_neighborsA : (Nat → Int32)) (a0 : Int32) (a1 : Int32) (o0 : Nat) (h : mxX4_period s0_present s1_present s2_present a0 a1 = some (o0))  : vx_Met l yX4_period wsX4_period rxX4_period (va_Pc [.ref x_q0, .int a0, .int a1] (PreT G (wdX4 G x_q0 x_q1 q_input q_spread q_found s0_q0 s1_q0 s2_q0 x_gain ++ wdX3 G s0_q0 s0_q1 s0_q2 s0_q3 s0_q4 s0_q5 s0_q6 s0_q7 s0_present s0_a s0_b s0_c s0_d s0_spot s0_middle s0_tint s0_w s0_s s0_h s0_valuesA s0_otherValuesA s0_ranksA s0_oldRanksA s0_orderA s0_neighborsA ++ wdX3 G s1_q0 s1_q1 s1_q2 s1_q3 s1_q4 s1_q5 s1_q6 s1_q7 s1_present s1_a s1_b s1_c s1_d s1_spot s1_middle s1_tint s1_w s1_s s1_h s1_valuesA s1_otherValuesA s1_ranksA s1_oldRanksA s1_orderA s1_neighborsA ++ wdX3 G s2_q0 s2_q1 s2_q2 s2_q3 s2_q4 s2_q5 s2_q6 s2_q7 s2_present s2_a s2_b s2_c s2_d s2_spot s2_middle s2_tint s2_w s2_s s2_h s2_valuesA s2_otherValuesA s2_ranksA s2_oldRanksA s2_orderA s2_neighborsA))) NoQ (XT0 o0) 1 6 (fun _ => False) := by
  refine of_tr (cc := cX4_period) (maxL := 3) (ret := (some .int)) (by decide) rfl (Nat.le_of_ble_eq_true rfl) ?_
  intro p e s m args below meth c ls Q S hl hP hK hT hthr
  have S : CallFix p m c cX4_period 3 s args wsX4_period RX4 := S
  obtain ⟨hx, hb, hml, hown, hts⟩ := id S
  have hl : lv_has ls 3 [(0, .ref x_q0), (1, .int a0), (2, .int a1)] := hl
  unfold mxX4_period at h
  refine lv_iload_n hx hb dX4_period_0 rfl (lv_at hl 1 rfl) ?_
  refine lv_iconst (v := 1) hx hb dX4_period_1 (by decide) ?_
  obtain ⟨K1, hK1, h⟩ := jB1_e h
  have J1 : ∀ (j1_0 : Int32) (jz1_0 : isZ j1_0) (ls : Array Slot), K1 j1_0 = some (o0) → lv_has ls 3 [(0, .ref x_q0), (1, .int a0), (2, .int a1)] → W p l e rxX4_period s m args below meth c s.heap [] 0 0 Q (F0 m 16 ls [.int j1_0]) := by
    intro j1_0 jz1_0 ls h hl
    replace h := (hK1 j1_0).symm.trans h
    by_cases c4 : j1_0 = 0
    · replace h := ite_t c4 h
      obtain rfl := sm1 h
      subst c4
      exact thrS (rest := []) (As := [.int 0]) S (cxX4_needArgument l hfl) (va_cwS 1 hts gX4_period_X4_needArgument rfl rfl rfl hsX4_needArgument ⟨Nat.le_of_ble_eq_true rfl, Nat.le_of_ble_eq_true rfl⟩) TT.blind (fun U hU hW => by rw [hU]; exact TT.warm hW hT) rfl hl.1 rfl (Nat.le_of_ble_eq_true rfl) dX4_period_16 ⟨Nat.le_of_ble_eq_true rfl, Nat.le_of_ble_eq_true rfl⟩ (fun H1 locs1 q ce hk hz h1 h2 h3 => hthr _ _ _ _ H1 locs1 q ce rfl hk hz h1 h2 h3)
    · replace h := ite_f c4 h
      refine roSv1 (rest := []) (As := [.int j1_0]) S (ctX4_needArgument l j1_0 c4) (va_cwS 1 hts gX4_period_X4_needArgument rfl rfl rfl hsX4_needArgument ⟨Nat.le_of_ble_eq_true rfl, Nat.le_of_ble_eq_true rfl⟩) rfl hl.1 rfl (Nat.le_of_ble_eq_true rfl) dX4_period_16 ⟨Nat.zero_le _, Nat.zero_le _⟩ ?_
      refine lv_iload_n hx hb dX4_period_19 rfl (lv_at hl 2 rfl) ?_
      obtain ⟨K5, hK5, h⟩ := jB1_e h
      have J5 : ∀ (j5_0 : Int32) (jz5_0 : isZ j5_0) (ls : Array Slot), K5 j5_0 = some (o0) → lv_has ls 3 [(0, .ref x_q0), (1, .int a0), (2, .int a1)] → W p l e rxX4_period s m args below meth c s.heap [] 0 0 Q (F0 m 33 ls [.int j5_0]) := by
        intro j5_0 jz5_0 ls h hl
        replace h := (hK5 j5_0).symm.trans h
        by_cases c8 : j5_0 = 0
        · replace h := ite_t c8 h
          obtain rfl := sm1 h
          subst c8
          exact thrS (rest := []) (As := [.int 0]) S (cxX4_needArgument l hfl) (va_cwS 1 hts gX4_period_X4_needArgument rfl rfl rfl hsX4_needArgument ⟨Nat.le_of_ble_eq_true rfl, Nat.le_of_ble_eq_true rfl⟩) TT.blind (fun U hU hW => by rw [hU]; exact TT.warm hW hT) rfl hl.1 rfl (Nat.le_of_ble_eq_true rfl) dX4_period_33 ⟨Nat.le_of_ble_eq_true rfl, Nat.le_of_ble_eq_true rfl⟩ (fun H1 locs1 q ce hk hz h1 h2 h3 => hthr _ _ _ _ H1 locs1 q ce rfl hk hz h1 h2 h3)
        · replace h := ite_f c8 h
          refine roSv1 (rest := []) (As := [.int j5_0]) S (ctX4_needArgument l j5_0 c8) (va_cwS 1 hts gX4_period_X4_needArgument rfl rfl rfl hsX4_needArgument ⟨Nat.le_of_ble_eq_true rfl, Nat.le_of_ble_eq_true rfl⟩) rfl hl.1 rfl (Nat.le_of_ble_eq_true rfl) dX4_period_33 ⟨Nat.zero_le _, Nat.zero_le _⟩ ?_
          refine lv_iload_n hx hb dX4_period_36 rfl (lv_at hl 1 rfl) ?_
          refine lv_aload_n hx hb dX4_period_37 rfl (lv_at hl 0 rfl) ?_
          obtain ⟨r9_0, g9, h⟩ := bnd1_e h
          refine roVi1 (rest := [.int a0]) (As := []) S (ctX4_presentSlots l G x_q0 x_q1 s0_q0 s0_q1 s0_q2 s0_q3 s0_q4 s0_q5 s0_q6 s0_q7 s1_q0 s1_q1 s1_q2 s1_q3 s1_q4 s1_q5 s1_q6 s1_q7 s2_q0 s2_q1 s2_q2 s2_q3 s2_q4 s2_q5 s2_q6 s2_q7 q_input q_spread q_found x_gain s0_present s0_a s0_b s0_c s0_d s0_spot s0_middle s0_tint s0_w s0_s s0_h s0_valuesA s0_otherValuesA s0_ranksA s0_oldRanksA s0_orderA s0_neighborsA s1_present s1_a s1_b s1_c s1_d s1_spot s1_middle s1_tint s1_w s1_s s1_h s1_valuesA s1_otherValuesA s1_ranksA s1_oldRanksA s1_orderA s1_neighborsA s2_present s2_a s2_b s2_c s2_d s2_spot s2_middle s2_tint s2_w s2_s s2_h s2_valuesA s2_otherValuesA s2_ranksA s2_oldRanksA s2_orderA s2_neighborsA r9_0 g9) (cwV 0 hts gX4_period_X4_presentSlots rfl rfl rfl hvX4_presentSlots ⟨Nat.le_of_ble_eq_true rfl, Nat.le_of_ble_eq_true rfl⟩) hK hP [0, 1, 2, 3, 4, 5, 6, 7, 8, 9, 10, 11, 12, 13, 14, 15, 16, 17, 18, 19, 20, 21, 22, 23, 24, 25] rfl 0 4 rfl rfl rfl rfl hl.1 rfl (Nat.le_of_ble_eq_true rfl) dX4_period_38 ⟨Nat.zero_le _, Nat.zero_le _⟩ (fun _ => ?_)
          refine lv_iand hx hb dX4_period_41 ?_
          refine lv_iload_n hx hb dX4_period_42 rfl (lv_at hl 1 rfl) ?_
          obtain ⟨K10, hK10, h⟩ := jB1_e h
          have J10 : ∀ (j10_0 : Int32) (jz10_0 : isZ j10_0) (ls : Array Slot), K10 j10_0 = some (o0) → lv_has ls 3 [(0, .ref x_q0), (1, .int a0), (2, .int a1)] → W p l e rxX4_period s m args below meth c s.heap [] 0 0 Q (F0 m 51 ls [.int j10_0]) := by
            intro j10_0 jz10_0 ls h hl
            replace h := (hK10 j10_0).symm.trans h
            by_cases c12 : j10_0 = 0
            · replace h := ite_t c12 h
              obtain rfl := sm1 h
              subst c12
              exact thrS (rest := []) (As := [.int 0]) S (cxX4_needState l hfl) (va_cwS 1 hts gX4_period_X4_needState rfl rfl rfl hsX4_needState ⟨Nat.le_of_ble_eq_true rfl, Nat.le_of_ble_eq_true rfl⟩) TT.blind (fun U hU hW => by rw [hU]; exact TT.warm hW hT) rfl hl.1 rfl (Nat.le_of_ble_eq_true rfl) dX4_period_51 ⟨Nat.le_of_ble_eq_true rfl, Nat.le_of_ble_eq_true rfl⟩ (fun H1 locs1 q ce hk hz h1 h2 h3 => hthr _ _ _ _ H1 locs1 q ce rfl hk hz h1 h2 h3)
            · replace h := ite_f c12 h
              refine roSv1 (rest := []) (As := [.int j10_0]) S (ctX4_needState l j10_0 c12) (va_cwS 1 hts gX4_period_X4_needState rfl rfl rfl hsX4_needState ⟨Nat.le_of_ble_eq_true rfl, Nat.le_of_ble_eq_true rfl⟩) rfl hl.1 rfl (Nat.le_of_ble_eq_true rfl) dX4_period_51 ⟨Nat.zero_le _, Nat.zero_le _⟩ ?_
              exact nomatch h
          refine lv_icmp_ne (tgt := 50) hx hb dX4_period_43 (by decide) (fun c11 => ?_) (fun c11 => ?_)
          · replace h := ite_f c11 h
            refine lv_iconst (v := 0) hx hb dX4_period_50 (by decide) ?_
            exact J10 0 isZ0 ls h hl
          · replace h := ite_t c11 h
            refine lv_iconst (v := 1) hx hb dX4_period_46 (by decide) ?_
            refine lv_goto (tgt := 51) hx hb dX4_period_47 (by decide) ?_
            exact J10 1 isZ1 ls h hl
      refine lv_if_lt (tgt := 32) hx hb dX4_period_20 (by decide) (fun c6 => ?_) (fun c6 => ?_)
      · replace h := ite_t c6 h
        refine lv_iconst (v := 0) hx hb dX4_period_32 (by decide) ?_
        exact J5 0 isZ0 ls h hl
      · replace h := ite_f c6 h
        refine lv_iload_n hx hb dX4_period_23 rfl (lv_at hl 2 rfl) ?_
        refine lv_iconst (v := 3) hx hb dX4_period_24 (by decide) ?_
        refine lv_icmp_gt (tgt := 32) hx hb dX4_period_25 (by decide) (fun c7 => ?_) (fun c7 => ?_)
        · replace h := ite_t c7 h
          refine lv_iconst (v := 0) hx hb dX4_period_32 (by decide) ?_
          exact J5 0 isZ0 ls h hl
        · replace h := ite_f c7 h
          refine lv_iconst (v := 1) hx hb dX4_period_28 (by decide) ?_
          refine lv_goto (tgt := 33) hx hb dX4_period_29 (by decide) ?_
          exact J5 1 isZ1 ls h hl
  refine lv_icmp_lt (tgt := 15) hx hb dX4_period_2 (by decide) (fun c2 => ?_) (fun c2 => ?_)
  · replace h := ite_t c2 h
    refine lv_iconst (v := 0) hx hb dX4_period_15 (by decide) ?_
    exact J1 0 isZ0 ls h hl
  · replace h := ite_f c2 h
    refine lv_iload_n hx hb dX4_period_5 rfl (lv_at hl 1 rfl) ?_
    refine lv_bipush (v := 8) hx hb dX4_period_6 (by decide) ?_
    refine lv_icmp_ge (tgt := 15) hx hb dX4_period_8 (by decide) (fun c3 => ?_) (fun c3 => ?_)
    · replace h := ite_t c3 h
      refine lv_iconst (v := 0) hx hb dX4_period_15 (by decide) ?_
      exact J1 0 isZ0 ls h hl
    · replace h := ite_f c3 h
      refine lv_iconst (v := 1) hx hb dX4_period_11 (by decide) ?_
      refine lv_goto (tgt := 16) hx hb dX4_period_12 (by decide) ?_
      exact J1 1 isZ1 ls h hl
abbrev rxX4_beato : Room := { frames := 7, cells := 1, slots := 6, locals := 111 }
set_option maxHeartbeats 4000000 in
set_option maxRecDepth 100000 in
theorem cxX4_beato (l : Launch) (hfl : l.stackTraces = false) (G : GG) (x_q0 : Nat) (x_q1 : Nat) (q_input : Nat) (q_spread : Nat) (q_found : Nat) (x_gain : Int32) (q_s0 : Nat) (q_s1 : Nat) (q_s2 : Nat) (a0 : Int32) (a1 : Int32) (a2 : Int32)   (ho_a0 : a0 < 0 ∨ 3 ≤ a0) : vx_Met l yX4_beat wsX4_beat rxX4_beato (va_Pc [.ref x_q0, .int a0, .int a1, .int a2] (PreT G (wdX4 G x_q0 x_q1 q_input q_spread q_found q_s0 q_s1 q_s2 x_gain))) NoQ (XT0 3) 1 6 (fun _ => False) := by
  refine of_tr (cc := cX4_beat) (maxL := 6) (ret := (some .int)) (by decide) rfl (Nat.le_of_ble_eq_true rfl) ?_
  intro p e s m args below meth c ls Q S hl hP hK hT hthr
  have S : CallFix p m c cX4_beat 6 s args wsX4_beat RX4 := S
  obtain ⟨hx, hb, hml, hown, hts⟩ := id S
  have hl : lv_has ls 6 [(0, .ref x_q0), (1, .int a0), (2, .int a1), (3, .int a2)] := hl
  skip
  refine lv_aload_n hx hb dX4_beat_0 rfl (lv_at hl 0 rfl) ?_
  refine lv_iload_n hx hb dX4_beat_1 rfl (lv_at hl 1 rfl) ?_
  exact thrV (rest := []) (As := [.int a0]) S (cxX4_inSlot l hfl G x_q0 x_q1 q_input q_spread q_found q_s0 q_s1 q_s2 x_gain a0 ho_a0) (cwV 1 hts gX4_beat_X4_inSlot rfl rfl rfl hvX4_inSlot ⟨Nat.le_of_ble_eq_true rfl, Nat.le_of_ble_eq_true rfl⟩) hK hT hP [0, 1] rfl 0 4 rfl rfl rfl rfl hl.1 rfl (Nat.le_of_ble_eq_true rfl) dX4_beat_2 ⟨Nat.le_of_ble_eq_true rfl, Nat.le_of_ble_eq_true rfl⟩ (fun H1 locs1 q ce hk hz h1 h2 h3 => hthr _ _ _ _ H1 locs1 q ce rfl hk hz h1 h2 h3)
abbrev rxX4_beatp : Room := { frames := 7, cells := 1, slots := 6, locals := 111 }
set_option maxHeartbeats 4000000 in
set_option maxRecDepth 100000 in
theorem cxX4_beatp (l : Launch) (hfl : l.stackTraces = false) (G : GG) (x_q0 : Nat) (x_q1 : Nat) (q_input : Nat) (q_spread : Nat) (q_found : Nat) (x_gain : Int32) (q_s0 : Nat) (q_s1 : Nat) (q_s2 : Nat) (s_q0 : Nat) (a0 : Int32) (a1 : Int32) (a2 : Int32)   (k_s : Nat) (hk_s : k_s < 3) (hs_s : a0 = nI k_s) (he_s : scF q_s0 q_s1 q_s2 k_s = some s_q0) (ho_a1 : a1 < 0 ∨ 3 ≤ a1) : vx_Met l yX4_beat wsX4_beat rxX4_beatp (va_Pc [.ref x_q0, .int a0, .int a1, .int a2] (PreT G (wdX4 G x_q0 x_q1 q_input q_spread q_found q_s0 q_s1 q_s2 x_gain))) NoQ (XT0 3) 1 6 (fun _ => False) := by
  refine of_tr (cc := cX4_beat) (maxL := 6) (ret := (some .int)) (by decide) rfl (Nat.le_of_ble_eq_true rfl) ?_
  intro p e s m args below meth c ls Q S hl hP hK hT hthr
  have S : CallFix p m c cX4_beat 6 s args wsX4_beat RX4 := S
  obtain ⟨hx, hb, hml, hown, hts⟩ := id S
  have hl : lv_has ls 6 [(0, .ref x_q0), (1, .int a0), (2, .int a1), (3, .int a2)] := hl
  skip
  refine lv_aload_n hx hb dX4_beat_0 rfl (lv_at hl 0 rfl) ?_
  refine lv_iload_n hx hb dX4_beat_1 rfl (lv_at hl 1 rfl) ?_
  refine roVq1 (rest := []) (As := [.int a0]) S (ctX4_inSlot l G x_q0 x_q1 q_input q_spread q_found q_s0 q_s1 q_s2 x_gain a0 s_q0 k_s hk_s hs_s he_s) (cwV 1 hts gX4_beat_X4_inSlot rfl rfl rfl hvX4_inSlot ⟨Nat.le_of_ble_eq_true rfl, Nat.le_of_ble_eq_true rfl⟩) hK hP [0, 1] rfl 0 4 rfl rfl rfl rfl hl.1 rfl (Nat.le_of_ble_eq_true rfl) dX4_beat_2 ⟨Nat.zero_le _, Nat.zero_le _⟩ ?_
  refine lv_astore (lv' := [(4, .ref s_q0), (0, .ref x_q0), (1, .int a0), (2, .int a1), (3, .int a2)]) hx hb dX4_beat_5 hl (by decide) rfl (fun ls hl => ?_)
  refine lv_aload_n hx hb dX4_beat_7 rfl (lv_at hl 1 rfl) ?_
  refine lv_iload_n hx hb dX4_beat_8 rfl (lv_at hl 3 rfl) ?_
  exact thrV (rest := []) (As := [.int a1]) S (cxX4_inSlot l hfl G x_q0 x_q1 q_input q_spread q_found q_s0 q_s1 q_s2 x_gain a1 ho_a1) (cwV 1 hts gX4_beat_X4_inSlot rfl rfl rfl hvX4_inSlot ⟨Nat.le_of_ble_eq_true rfl, Nat.le_of_ble_eq_true rfl⟩) hK hT hP [0, 1] rfl 0 4 rfl rfl rfl rfl hl.1 rfl (Nat.le_of_ble_eq_true rfl) dX4_beat_9 ⟨Nat.le_of_ble_eq_true rfl, Nat.le_of_ble_eq_true rfl⟩ (fun H1 locs1 q ce hk hz h1 h2 h3 => hthr _ _ _ _ H1 locs1 q ce rfl hk hz h1 h2 h3)
theorem fwx_X4_beat_X3 : ∀ w ∈ wsX30, w ∈ wsX4_beat := fun w h => List.mem_cons_of_mem _ (List.mem_append_left _ (List.mem_append_left _ (List.mem_append_left _ (List.mem_append_left _ (List.mem_append_left _ (List.mem_append_right _ h))))))
theorem lkx_X4_beat_f100 : Cond.fieldLink RX4 100 "HalftoneScreens$Screen" "present" "Z" ∈ wsX4_beat := List.mem_of_getElem? (i := 1) rfl
abbrev rxX4_beat : Room := { frames := 7, cells := 1, slots := 6, locals := 111 }
set_option maxHeartbeats 4000000 in
set_option maxRecDepth 100000 in
theorem cxX4_beat (l : Launch) (hfl : l.stackTraces = false) (G : GG) (x_q0 : Nat) (x_q1 : Nat) (s_q0 : Nat) (s_q1 : Nat) (s_q2 : Nat) (s_q3 : Nat) (s_q4 : Nat) (s_q5 : Nat) (s_q6 : Nat) (s_q7 : Nat) (t_q0 : Nat) (t_q1 : Nat) (t_q2 : Nat) (t_q3 : Nat) (t_q4 : Nat) (t_q5 : Nat) (t_q6 : Nat) (t_q7 : Nat) (q_input : Nat) (q_spread : Nat) (q_found : Nat) (x_gain : Int32) (q_s0 : Nat) (q_s1 : Nat) (q_s2 : Nat) (s_present : Int32) (s_a : Int32) (s_b : Int32) (s_c : Int32) (s_d : Int32) (s_spot : Int32) (s_middle : Int32) (s_tint : Int32) (s_w : Int32) (s_s : Int32) (s_h : Int32) (s_valuesA : (Nat → Int32)) (s_otherValuesA : (Nat → Int32)) (s_ranksA : (Nat → Int32)) (s_oldRanksA : (Nat → Int32)) (s_orderA : (Nat → Int32)) (s_neighborsA : (Nat → Int32)) (t_present : Int32) (t_a : Int32) (t_b : Int32) (t_c : Int32) (t_d : Int32) (t_spot : Int32) (t_middle : Int32) (t_tint : Int32) (t_w : Int32) (t_s : Int32) (t_h : Int32) (t_valuesA : (Nat → Int32)) (t_otherValuesA : (Nat → Int32)) (t_ranksA : (Nat → Int32)) (t_oldRanksA : (Nat → Int32)) (t_orderA : (Nat → Int32)) (t_neighborsA : (Nat → Int32)) (a0 : Int32) (a1 : Int32) (a2 : Int32) (o0 : Nat) (h : mxX4_beat s_present t_present a2 = some (o0))  (k_s : Nat) (hk_s : k_s < 3) (hs_s : a0 = nI k_s) (he_s : scF q_s0 q_s1 q_s2 k_s = some s_q0) (k_t : Nat) (hk_t : k_t < 3) (hs_t : a1 = nI k_t) (he_t : scF q_s0 q_s1 q_s2 k_t = some t_q0) : vx_Met l yX4_beat wsX4_beat rxX4_beat (va_Pc [.ref x_q0, .int a0, .int a1, .int a2] (PreT G (wdX4 G x_q0 x_q1 q_input q_spread q_found q_s0 q_s1 q_s2 x_gain ++ wdX3 G s_q0 s_q1 s_q2 s_q3 s_q4 s_q5 s_q6 s_q7 s_present s_a s_b s_c s_d s_spot s_middle s_tint s_w s_s s_h s_valuesA s_otherValuesA s_ranksA s_oldRanksA s_orderA s_neighborsA ++ wdX3 G t_q0 t_q1 t_q2 t_q3 t_q4 t_q5 t_q6 t_q7 t_present t_a t_b t_c t_d t_spot t_middle t_tint t_w t_s t_h t_valuesA t_otherValuesA t_ranksA t_oldRanksA t_orderA t_neighborsA))) NoQ (XT0 o0) 1 6 (fun _ => False) := by
  refine of_tr (cc := cX4_beat) (maxL := 6) (ret := (some .int)) (by decide) rfl (Nat.le_of_ble_eq_true rfl) ?_
  intro p e s m args below meth c ls Q S hl hP hK hT hthr
  have S : CallFix p m c cX4_beat 6 s args wsX4_beat RX4 := S
  obtain ⟨hx, hb, hml, hown, hts⟩ := id S
  have hl : lv_has ls 6 [(0, .ref x_q0), (1, .int a0), (2, .int a1), (3, .int a2)] := hl
  unfold mxX4_beat at h
  refine lv_aload_n hx hb dX4_beat_0 rfl (lv_at hl 0 rfl) ?_
  refine lv_iload_n hx hb dX4_beat_1 rfl (lv_at hl 1 rfl) ?_
  refine roVq1 (rest := []) (As := [.int a0]) S (ctX4_inSlot l G x_q0 x_q1 q_input q_spread q_found q_s0 q_s1 q_s2 x_gain a0 s_q0 k_s hk_s hs_s he_s) (cwV 1 hts gX4_beat_X4_inSlot rfl rfl rfl hvX4_inSlot ⟨Nat.le_of_ble_eq_true rfl, Nat.le_of_ble_eq_true rfl⟩) hK hP [0, 1] rfl 0 4 rfl rfl rfl rfl hl.1 rfl (Nat.le_of_ble_eq_true rfl) dX4_beat_2 ⟨Nat.zero_le _, Nat.zero_le _⟩ ?_
  refine lv_astore (lv' := [(4, .ref s_q0), (0, .ref x_q0), (1, .int a0), (2, .int a1), (3, .int a2)]) hx hb dX4_beat_5 hl (by decide) rfl (fun ls hl => ?_)
  refine lv_aload_n hx hb dX4_beat_7 rfl (lv_at hl 1 rfl) ?_
  refine lv_iload_n hx hb dX4_beat_8 rfl (lv_at hl 3 rfl) ?_
  refine roVq1 (rest := []) (As := [.int a1]) S (ctX4_inSlot l G x_q0 x_q1 q_input q_spread q_found q_s0 q_s1 q_s2 x_gain a1 t_q0 k_t hk_t hs_t he_t) (cwV 1 hts gX4_beat_X4_inSlot rfl rfl rfl hvX4_inSlot ⟨Nat.le_of_ble_eq_true rfl, Nat.le_of_ble_eq_true rfl⟩) hK hP [0, 1] rfl 0 4 rfl rfl rfl rfl hl.1 rfl (Nat.le_of_ble_eq_true rfl) dX4_beat_9 ⟨Nat.zero_le _, Nat.zero_le _⟩ ?_
  refine lv_astore (lv' := [(5, .ref t_q0), (4, .ref s_q0), (0, .ref x_q0), (1, .int a0), (2, .int a1), (3, .int a2)]) hx hb dX4_beat_12 hl (by decide) rfl (fun ls hl => ?_)
  refine lv_iload_n hx hb dX4_beat_14 rfl (lv_at hl 5 rfl) ?_
  obtain ⟨K1, hK1, h⟩ := jB1_e h
  have J1 : ∀ (j1_0 : Int32) (jz1_0 : isZ j1_0) (ls : Array Slot), K1 j1_0 = some (o0) → lv_has ls 6 [(5, .ref t_q0), (4, .ref s_q0), (0, .ref x_q0), (1, .int a0), (2, .int a1), (3, .int a2)] → W p l e rxX4_beat s m args below meth c s.heap [] 0 0 Q (F0 m 28 ls [.int j1_0]) := by
    intro j1_0 jz1_0 ls h hl
    replace h := (hK1 j1_0).symm.trans h
    by_cases c4 : j1_0 = 0
    · replace h := ite_t c4 h
      obtain rfl := sm1 h
      subst c4
      exact thrS (rest := []) (As := [.int 0]) S (cxX4_needArgument l hfl) (va_cwS 1 hts gX4_beat_X4_needArgument rfl rfl rfl hsX4_needArgument ⟨Nat.le_of_ble_eq_true rfl, Nat.le_of_ble_eq_true rfl⟩) TT.blind (fun U hU hW => by rw [hU]; exact TT.warm hW hT) rfl hl.1 rfl (Nat.le_of_ble_eq_true rfl) dX4_beat_28 ⟨Nat.le_of_ble_eq_true rfl, Nat.le_of_ble_eq_true rfl⟩ (fun H1 locs1 q ce hk hz h1 h2 h3 => hthr _ _ _ _ H1 locs1 q ce rfl hk hz h1 h2 h3)
    · replace h := ite_f c4 h
      refine roSv1 (rest := []) (As := [.int j1_0]) S (ctX4_needArgument l j1_0 c4) (va_cwS 1 hts gX4_beat_X4_needArgument rfl rfl rfl hsX4_needArgument ⟨Nat.le_of_ble_eq_true rfl, Nat.le_of_ble_eq_true rfl⟩) rfl hl.1 rfl (Nat.le_of_ble_eq_true rfl) dX4_beat_28 ⟨Nat.zero_le _, Nat.zero_le _⟩ ?_
      refine lv_aload hx hb dX4_beat_31 (lv_at hl 1 rfl) ?_
      refine va_get (D := G.1) (ci := 3) (v := .int s_present) (C := RX3) (T := TX3) (N := 15) hx hb hts fwx_X4_beat_X3 hown hK.1 hP 2 rfl rfl 7 (by decide) (hts (.fieldLink RX4 100 "HalftoneScreens$Screen" "present" "Z") lkx_X4_beat_f100) (fun _ h9 => h9) rfl dX4_beat_33 ?_
      obtain ⟨K5, hK5, h⟩ := jB1_e h
      have J5 : ∀ (j5_0 : Int32) (jz5_0 : isZ j5_0) (ls : Array Slot), K5 j5_0 = some (o0) → lv_has ls 6 [(5, .ref t_q0), (4, .ref s_q0), (0, .ref x_q0), (1, .int a0), (2, .int a1), (3, .int a2)] → W p l e rxX4_beat s m args below meth c s.heap [] 0 0 Q (F0 m 52 ls [.int j5_0]) := by
        intro j5_0 jz5_0 ls h hl
        replace h := (hK5 j5_0).symm.trans h
        by_cases c8 : j5_0 = 0
        · replace h := ite_t c8 h
          obtain rfl := sm1 h
          subst c8
          exact thrS (rest := []) (As := [.int 0]) S (cxX4_needState l hfl) (va_cwS 1 hts gX4_beat_X4_needState rfl rfl rfl hsX4_needState ⟨Nat.le_of_ble_eq_true rfl, Nat.le_of_ble_eq_true rfl⟩) TT.blind (fun U hU hW => by rw [hU]; exact TT.warm hW hT) rfl hl.1 rfl (Nat.le_of_ble_eq_true rfl) dX4_beat_52 ⟨Nat.le_of_ble_eq_true rfl, Nat.le_of_ble_eq_true rfl⟩ (fun H1 locs1 q ce hk hz h1 h2 h3 => hthr _ _ _ _ H1 locs1 q ce rfl hk hz h1 h2 h3)
        · replace h := ite_f c8 h
          refine roSv1 (rest := []) (As := [.int j5_0]) S (ctX4_needState l j5_0 c8) (va_cwS 1 hts gX4_beat_X4_needState rfl rfl rfl hsX4_needState ⟨Nat.le_of_ble_eq_true rfl, Nat.le_of_ble_eq_true rfl⟩) rfl hl.1 rfl (Nat.le_of_ble_eq_true rfl) dX4_beat_52 ⟨Nat.zero_le _, Nat.zero_le _⟩ ?_
          exact nomatch h
      refine lv_if_eq (tgt := 51) hx hb dX4_beat_36 (by decide) (fun c6 => ?_) (fun c6 => ?_)
      · replace h := ite_t c6 h
        refine lv_iconst (v := 0) hx hb dX4_beat_51 (by decide) ?_
        exact J5 0 isZ0 ls h hl
      · replace h := ite_f c6 h
        refine lv_aload hx hb dX4_beat_39 (lv_at hl 0 rfl) ?_
        refine va_get (D := G.1) (ci := 3) (v := .int t_present) (C := RX3) (T := TX3) (N := 15) hx hb hts fwx_X4_beat_X3 hown hK.1 hP 10 rfl rfl 7 (by decide) (hts (.fieldLink RX4 100 "HalftoneScreens$Screen" "present" "Z") lkx_X4_beat_f100) (fun _ h9 => h9) rfl dX4_beat_41 ?_
        refine lv_if_eq (tgt := 51) hx hb dX4_beat_44 (by decide) (fun c7 => ?_) (fun c7 => ?_)
        · replace h := ite_t c7 h
          refine lv_iconst (v := 0) hx hb dX4_beat_51 (by decide) ?_
          exact J5 0 isZ0 ls h hl
        · replace h := ite_f c7 h
          refine lv_iconst (v := 1) hx hb dX4_beat_47 (by decide) ?_
          refine lv_goto (tgt := 52) hx hb dX4_beat_48 (by decide) ?_
          exact J5 1 isZ1 ls h hl
  refine lv_if_lt (tgt := 27) hx hb dX4_beat_15 (by decide) (fun c2 => ?_) (fun c2 => ?_)
  · replace h := ite_t c2 h
    refine lv_iconst (v := 0) hx hb dX4_beat_27 (by decide) ?_
    exact J1 0 isZ0 ls h hl
  · replace h := ite_f c2 h
    refine lv_iload_n hx hb dX4_beat_18 rfl (lv_at hl 5 rfl) ?_
    refine lv_iconst (v := 3) hx hb dX4_beat_19 (by decide) ?_
    refine lv_icmp_gt (tgt := 27) hx hb dX4_beat_20 (by decide) (fun c3 => ?_) (fun c3 => ?_)
    · replace h := ite_t c3 h
      refine lv_iconst (v := 0) hx hb dX4_beat_27 (by decide) ?_
      exact J1 0 isZ0 ls h hl
    · replace h := ite_f c3 h
      refine lv_iconst (v := 1) hx hb dX4_beat_23 (by decide) ?_
      refine lv_goto (tgt := 28) hx hb dX4_beat_24 (by decide) ?_
      exact J1 1 isZ1 ls h hl
theorem fwx_X4_mixture_X4 : ∀ w ∈ wsX40, w ∈ wsX4_mixture := fun w h => List.mem_cons_of_mem _ (List.mem_append_left _ (List.mem_append_left _ (List.mem_append_left _ (List.mem_append_left _ (List.mem_append_right _ h)))))
theorem lkx_X4_mixture_f32 : Cond.fieldLink RX4 32 "HalftoneScreens" "found" "LHalftoneScreens$Lattice;" ∈ wsX4_mixture := List.mem_of_getElem? (i := 1) rfl
abbrev rxX4_mixture : Room := { frames := 7, cells := 1, slots := 6, locals := 110 }
set_option maxHeartbeats 4000000 in
set_option maxRecDepth 100000 in
theorem cxX4_mixture (l : Launch) (hfl : l.stackTraces = false) (G : GG) (x_q0 : Nat) (x_q1 : Nat) (found_q0 : Nat) (s0_q0 : Nat) (s0_q1 : Nat) (s0_q2 : Nat) (s0_q3 : Nat) (s0_q4 : Nat) (s0_q5 : Nat) (s0_q6 : Nat) (s0_q7 : Nat) (s1_q0 : Nat) (s1_q1 : Nat) (s1_q2 : Nat) (s1_q3 : Nat) (s1_q4 : Nat) (s1_q5 : Nat) (s1_q6 : Nat) (s1_q7 : Nat) (s2_q0 : Nat) (s2_q1 : Nat) (s2_q2 : Nat) (s2_q3 : Nat) (s2_q4 : Nat) (s2_q5 : Nat) (s2_q6 : Nat) (s2_q7 : Nat) (q_input : Nat) (q_spread : Nat) (x_gain : Int32) (found_w : Int32) (found_s : Int32) (found_h : Int32) (s0_present : Int32) (s0_a : Int32) (s0_b : Int32) (s0_c : Int32) (s0_d : Int32) (s0_spot : Int32) (s0_middle : Int32) (s0_tint : Int32) (s0_w : Int32) (s0_s : Int32) (s0_h : Int32) (s0_valuesA : (Nat → Int32)) (s0_otherValuesA : (Nat → Int32)) (s0_ranksA : (Nat → Int32)) (s0_oldRanksA : (Nat → Int32)) (s0_orderA : (Nat → Int32)) (s0_neighborsA : (Nat → Int32)) (s1_present : Int32) (s1_a : Int32) (s1_b : Int32) (s1_c : Int32) (s1_d : Int32) (s1_spot : Int32) (s1_middle : Int32) (s1_tint : Int32) (s1_w : Int32) (s1_s : Int32) (s1_h : Int32) (s1_valuesA : (Nat → Int32)) (s1_otherValuesA : (Nat → Int32)) (s1_ranksA : (Nat → Int32)) (s1_oldRanksA : (Nat → Int32)) (s1_orderA : (Nat → Int32)) (s1_neighborsA : (Nat → Int32)) (s2_present : Int32) (s2_a : Int32) (s2_b : Int32) (s2_c : Int32) (s2_d : Int32) (s2_spot : Int32) (s2_middle : Int32) (s2_tint : Int32) (s2_w : Int32) (s2_s : Int32) (s2_h : Int32) (s2_valuesA : (Nat → Int32)) (s2_otherValuesA : (Nat → Int32)) (s2_ranksA : (Nat → Int32)) (s2_oldRanksA : (Nat → Int32)) (s2_orderA : (Nat → Int32)) (s2_neighborsA : (Nat → Int32)) (a0 : Int32) (o0 : Nat) (o1 : Int32) (o2 : Int32) (o3 : Int32) (h : mxX4_mixture found_w found_s found_h s0_present s0_w s0_s s0_h s1_present s1_w s1_s s1_h s2_present s2_w s2_s s2_h a0 = some (o0, o1, o2, o3))  : vx_Met l yX4_mixture wsX4_mixture rxX4_mixture (va_Pc [.ref x_q0, .int a0] (PreX G (wdX4 G x_q0 x_q1 q_input q_spread found_q0 s0_q0 s1_q0 s2_q0 x_gain ++ wdX2 G found_q0 found_w found_s found_h ++ wdX3 G s0_q0 s0_q1 s0_q2 s0_q3 s0_q4 s0_q5 s0_q6 s0_q7 s0_present s0_a s0_b s0_c s0_d s0_spot s0_middle s0_tint s0_w s0_s s0_h s0_valuesA s0_otherValuesA s0_ranksA s0_oldRanksA s0_orderA s0_neighborsA ++ wdX3 G s1_q0 s1_q1 s1_q2 s1_q3 s1_q4 s1_q5 s1_q6 s1_q7 s1_present s1_a s1_b s1_c s1_d s1_spot s1_middle s1_tint s1_w s1_s s1_h s1_valuesA s1_otherValuesA s1_ranksA s1_oldRanksA s1_orderA s1_neighborsA ++ wdX3 G s2_q0 s2_q1 s2_q2 s2_q3 s2_q4 s2_q5 s2_q6 s2_q7 s2_present s2_a s2_b s2_c s2_d s2_spot s2_middle s2_tint s2_w s2_s s2_h s2_valuesA s2_otherValuesA s2_ranksA s2_oldRanksA s2_orderA s2_neighborsA))) NoQ (XTw G (va_A0 (wdX4 G x_q0 x_q1 q_input q_spread found_q0 s0_q0 s1_q0 s2_q0 x_gain ++ wdX2 G found_q0 found_w found_s found_h ++ wdX3 G s0_q0 s0_q1 s0_q2 s0_q3 s0_q4 s0_q5 s0_q6 s0_q7 s0_present s0_a s0_b s0_c s0_d s0_spot s0_middle s0_tint s0_w s0_s s0_h s0_valuesA s0_otherValuesA s0_ranksA s0_oldRanksA s0_orderA s0_neighborsA ++ wdX3 G s1_q0 s1_q1 s1_q2 s1_q3 s1_q4 s1_q5 s1_q6 s1_q7 s1_present s1_a s1_b s1_c s1_d s1_spot s1_middle s1_tint s1_w s1_s s1_h s1_valuesA s1_otherValuesA s1_ranksA s1_oldRanksA s1_orderA s1_neighborsA ++ wdX3 G s2_q0 s2_q1 s2_q2 s2_q3 s2_q4 s2_q5 s2_q6 s2_q7 s2_present s2_a s2_b s2_c s2_d s2_spot s2_middle s2_tint s2_w s2_s s2_h s2_valuesA s2_otherValuesA s2_ranksA s2_oldRanksA s2_orderA s2_neighborsA)) (wdX4 G x_q0 x_q1 q_input q_spread found_q0 s0_q0 s1_q0 s2_q0 x_gain ++ wdX2 G found_q0 o1 o2 o3 ++ wdX3 G s0_q0 s0_q1 s0_q2 s0_q3 s0_q4 s0_q5 s0_q6 s0_q7 s0_present s0_a s0_b s0_c s0_d s0_spot s0_middle s0_tint s0_w s0_s s0_h s0_valuesA s0_otherValuesA s0_ranksA s0_oldRanksA s0_orderA s0_neighborsA ++ wdX3 G s1_q0 s1_q1 s1_q2 s1_q3 s1_q4 s1_q5 s1_q6 s1_q7 s1_present s1_a s1_b s1_c s1_d s1_spot s1_middle s1_tint s1_w s1_s s1_h s1_valuesA s1_otherValuesA s1_ranksA s1_oldRanksA s1_orderA s1_neighborsA ++ wdX3 G s2_q0 s2_q1 s2_q2 s2_q3 s2_q4 s2_q5 s2_q6 s2_q7 s2_present s2_a s2_b s2_c s2_d s2_spot s2_middle s2_tint s2_w s2_s s2_h s2_valuesA s2_otherValuesA s2_ranksA s2_oldRanksA s2_orderA s2_neighborsA) o0) 1 6 (va_A0 (wdX4 G x_q0 x_q1 q_input q_spread found_q0 s0_q0 s1_q0 s2_q0 x_gain ++ wdX2 G found_q0 found_w found_s found_h ++ wdX3 G s0_q0 s0_q1 s0_q2 s0_q3 s0_q4 s0_q5 s0_q6 s0_q7 s0_present s0_a s0_b s0_c s0_d s0_spot s0_middle s0_tint s0_w s0_s s0_h s0_valuesA s0_otherValuesA s0_ranksA s0_oldRanksA s0_orderA s0_neighborsA ++ wdX3 G s1_q0 s1_q1 s1_q2 s1_q3 s1_q4 s1_q5 s1_q6 s1_q7 s1_present s1_a s1_b s1_c s1_d s1_spot s1_middle s1_tint s1_w s1_s s1_h s1_valuesA s1_otherValuesA s1_ranksA s1_oldRanksA s1_orderA s1_neighborsA ++ wdX3 G s2_q0 s2_q1 s2_q2 s2_q3 s2_q4 s2_q5 s2_q6 s2_q7 s2_present s2_a s2_b s2_c s2_d s2_spot s2_middle s2_tint s2_w s2_s s2_h s2_valuesA s2_otherValuesA s2_ranksA s2_oldRanksA s2_orderA s2_neighborsA)) := by
  refine of_tw (cc := cX4_mixture) (maxL := 6) (ret := (some .int)) (by decide) rfl (Nat.le_of_ble_eq_true rfl) ?_
  intro p e s m args below meth c ls Q A S hl hP hD hS hK hT hA hthr
  obtain ⟨H, hH⟩ : ∃ H, H = s.heap := ⟨_, rfl⟩
  obtain ⟨locs, hlocs⟩ : ∃ L : List Loc, L = [] := ⟨_, rfl⟩
  rw [← hlocs]
  rw [← hlocs] at hS
  have hP : va_P G.1 vwCl (wdX4 G x_q0 x_q1 q_input q_spread found_q0 s0_q0 s1_q0 s2_q0 x_gain ++ wdX2 G found_q0 found_w found_s found_h ++ wdX3 G s0_q0 s0_q1 s0_q2 s0_q3 s0_q4 s0_q5 s0_q6 s0_q7 s0_present s0_a s0_b s0_c s0_d s0_spot s0_middle s0_tint s0_w s0_s s0_h s0_valuesA s0_otherValuesA s0_ranksA s0_oldRanksA s0_orderA s0_neighborsA ++ wdX3 G s1_q0 s1_q1 s1_q2 s1_q3 s1_q4 s1_q5 s1_q6 s1_q7 s1_present s1_a s1_b s1_c s1_d s1_spot s1_middle s1_tint s1_w s1_s s1_h s1_valuesA s1_otherValuesA s1_ranksA s1_oldRanksA s1_orderA s1_neighborsA ++ wdX3 G s2_q0 s2_q1 s2_q2 s2_q3 s2_q4 s2_q5 s2_q6 s2_q7 s2_present s2_a s2_b s2_c s2_d s2_spot s2_middle s2_tint s2_w s2_s s2_h s2_valuesA s2_otherValuesA s2_ranksA s2_oldRanksA s2_orderA s2_neighborsA) H := by rw [hH]; exact hP
  have hS : va_S A s.heap H locs := by rw [hH]; exact hS
  suffices hgo : W p l e rxX4_mixture s m args below meth c H locs 0 0 Q (F0 m 0 ls []) by rw [hH] at hgo; exact hgo
  have S : CallFix p m c cX4_mixture 6 s args wsX4_mixture RX4 := S
  obtain ⟨hx, hb, hml, hown, hts⟩ := id S
  have hl : lv_has ls 6 [(0, .ref x_q0), (1, .int a0)] := hl
  unfold mxX4_mixture at h
  refine lv_iload_n hx hb dX4_mixture_0 rfl (lv_at hl 1 rfl) ?_
  obtain ⟨K1, hK1, h⟩ := jB1_e h
  have J1 : ∀ (j1_0 : Int32) (jz1_0 : isZ j1_0) (H : Heap) (locs : List Loc) (ls : Array Slot), K1 j1_0 = some (o0, o1, o2, o3) → lv_has ls 6 [(0, .ref x_q0), (1, .int a0)] → va_P G.1 vwCl (wdX4 G x_q0 x_q1 q_input q_spread found_q0 s0_q0 s1_q0 s2_q0 x_gain ++ wdX2 G found_q0 found_w found_s found_h ++ wdX3 G s0_q0 s0_q1 s0_q2 s0_q3 s0_q4 s0_q5 s0_q6 s0_q7 s0_present s0_a s0_b s0_c s0_d s0_spot s0_middle s0_tint s0_w s0_s s0_h s0_valuesA s0_otherValuesA s0_ranksA s0_oldRanksA s0_orderA s0_neighborsA ++ wdX3 G s1_q0 s1_q1 s1_q2 s1_q3 s1_q4 s1_q5 s1_q6 s1_q7 s1_present s1_a s1_b s1_c s1_d s1_spot s1_middle s1_tint s1_w s1_s s1_h s1_valuesA s1_otherValuesA s1_ranksA s1_oldRanksA s1_orderA s1_neighborsA ++ wdX3 G s2_q0 s2_q1 s2_q2 s2_q3 s2_q4 s2_q5 s2_q6 s2_q7 s2_present s2_a s2_b s2_c s2_d s2_spot s2_middle s2_tint s2_w s2_s s2_h s2_valuesA s2_otherValuesA s2_ranksA s2_oldRanksA s2_orderA s2_neighborsA) H → va_D A (wdX4 G x_q0 x_q1 q_input q_spread found_q0 s0_q0 s1_q0 s2_q0 x_gain ++ wdX2 G found_q0 found_w found_s found_h ++ wdX3 G s0_q0 s0_q1 s0_q2 s0_q3 s0_q4 s0_q5 s0_q6 s0_q7 s0_present s0_a s0_b s0_c s0_d s0_spot s0_middle s0_tint s0_w s0_s s0_h s0_valuesA s0_otherValuesA s0_ranksA s0_oldRanksA s0_orderA s0_neighborsA ++ wdX3 G s1_q0 s1_q1 s1_q2 s1_q3 s1_q4 s1_q5 s1_q6 s1_q7 s1_present s1_a s1_b s1_c s1_d s1_spot s1_middle s1_tint s1_w s1_s s1_h s1_valuesA s1_otherValuesA s1_ranksA s1_oldRanksA s1_orderA s1_neighborsA ++ wdX3 G s2_q0 s2_q1 s2_q2 s2_q3 s2_q4 s2_q5 s2_q6 s2_q7 s2_present s2_a s2_b s2_c s2_d s2_spot s2_middle s2_tint s2_w s2_s s2_h s2_valuesA s2_otherValuesA s2_ranksA s2_oldRanksA s2_orderA s2_neighborsA) → va_S A s.heap H locs → W p l e rxX4_mixture s m args below meth c H locs 0 0 Q (F0 m 15 ls [.int j1_0]) := by
    intro j1_0 jz1_0 H locs ls h hl hP hD hS
    replace h := (hK1 j1_0).symm.trans h
    by_cases c4 : j1_0 = 0
    · replace h := ite_t c4 h
      obtain ⟨rfl, rfl, rfl, rfl⟩ := sm4 h
      subst c4
      exact thrS (rest := []) (As := [.int 0]) S (cxX4_needArgument l hfl) (va_cwS 1 hts gX4_mixture_X4_needArgument rfl rfl rfl hsX4_needArgument ⟨Nat.le_of_ble_eq_true rfl, Nat.le_of_ble_eq_true rfl⟩) TT.blind (fun U hU hW => by rw [hU]; exact TT.warm hW ((hT.kept hS.2.1).narrow (fun _ h => h.elim))) rfl hl.1 rfl (Nat.le_of_ble_eq_true rfl) dX4_mixture_15 ⟨Nat.le_of_ble_eq_true rfl, Nat.le_of_ble_eq_true rfl⟩ (fun H1 locs1 q ce hk hz h1 h2 h3 => hthr _ _ _ _ H1 locs1 q ce rfl (hk.P hP) hD (hk.S hS hz) h1 h2 h3)
    · replace h := ite_f c4 h
      refine roSv1 (rest := []) (As := [.int j1_0]) S (ctX4_needArgument l j1_0 c4) (va_cwS 1 hts gX4_mixture_X4_needArgument rfl rfl rfl hsX4_needArgument ⟨Nat.le_of_ble_eq_true rfl, Nat.le_of_ble_eq_true rfl⟩) rfl hl.1 rfl (Nat.le_of_ble_eq_true rfl) dX4_mixture_15 ⟨Nat.zero_le _, Nat.zero_le _⟩ ?_
      refine lv_aload_n hx hb dX4_mixture_18 rfl (lv_at hl 0 rfl) ?_
      obtain ⟨r5_0, g5, h⟩ := bnd1_e h
      refine roVi1 (rest := []) (As := []) S (ctX4_presentSlots l G x_q0 x_q1 s0_q0 s0_q1 s0_q2 s0_q3 s0_q4 s0_q5 s0_q6 s0_q7 s1_q0 s1_q1 s1_q2 s1_q3 s1_q4 s1_q5 s1_q6 s1_q7 s2_q0 s2_q1 s2_q2 s2_q3 s2_q4 s2_q5 s2_q6 s2_q7 q_input q_spread found_q0 x_gain s0_present s0_a s0_b s0_c s0_d s0_spot s0_middle s0_tint s0_w s0_s s0_h s0_valuesA s0_otherValuesA s0_ranksA s0_oldRanksA s0_orderA s0_neighborsA s1_present s1_a s1_b s1_c s1_d s1_spot s1_middle s1_tint s1_w s1_s s1_h s1_valuesA s1_otherValuesA s1_ranksA s1_oldRanksA s1_orderA s1_neighborsA s2_present s2_a s2_b s2_c s2_d s2_spot s2_middle s2_tint s2_w s2_s s2_h s2_valuesA s2_otherValuesA s2_ranksA s2_oldRanksA s2_orderA s2_neighborsA r5_0 g5) (cwV 0 hts gX4_mixture_X4_presentSlots rfl rfl rfl hvX4_presentSlots ⟨Nat.le_of_ble_eq_true rfl, Nat.le_of_ble_eq_true rfl⟩) hK hP [0, 1, 3, 4, 5, 6, 7, 8, 9, 10, 11, 12, 13, 14, 15, 16, 17, 18, 19, 20, 21, 22, 23, 24, 25, 26] rfl 0 4 rfl rfl rfl rfl hl.1 rfl (Nat.le_of_ble_eq_true rfl) dX4_mixture_19 ⟨Nat.zero_le _, Nat.zero_le _⟩ (fun _ => ?_)
      refine lv_istore_n (lv' := [(2, .int r5_0), (0, .ref x_q0), (1, .int a0)]) hx hb dX4_mixture_22 rfl hl (by decide) rfl (fun ls hl => ?_)
      refine lv_iload_n hx hb dX4_mixture_23 rfl (lv_at hl 0 rfl) ?_
      obtain ⟨K6, hK6, h⟩ := jB1_e h
      have J6 : ∀ (j6_0 : Int32) (jz6_0 : isZ j6_0) (H : Heap) (locs : List Loc) (ls : Array Slot), K6 j6_0 = some (o0, o1, o2, o3) → lv_has ls 6 [(2, .int r5_0), (0, .ref x_q0), (1, .int a0)] → va_P G.1 vwCl (wdX4 G x_q0 x_q1 q_input q_spread found_q0 s0_q0 s1_q0 s2_q0 x_gain ++ wdX2 G found_q0 found_w found_s found_h ++ wdX3 G s0_q0 s0_q1 s0_q2 s0_q3 s0_q4 s0_q5 s0_q6 s0_q7 s0_present s0_a s0_b s0_c s0_d s0_spot s0_middle s0_tint s0_w s0_s s0_h s0_valuesA s0_otherValuesA s0_ranksA s0_oldRanksA s0_orderA s0_neighborsA ++ wdX3 G s1_q0 s1_q1 s1_q2 s1_q3 s1_q4 s1_q5 s1_q6 s1_q7 s1_present s1_a s1_b s1_c s1_d s1_spot s1_middle s1_tint s1_w s1_s s1_h s1_valuesA s1_otherValuesA s1_ranksA s1_oldRanksA s1_orderA s1_neighborsA ++ wdX3 G s2_q0 s2_q1 s2_q2 s2_q3 s2_q4 s2_q5 s2_q6 s2_q7 s2_present s2_a s2_b s2_c s2_d s2_spot s2_middle s2_tint s2_w s2_s s2_h s2_valuesA s2_otherValuesA s2_ranksA s2_oldRanksA s2_orderA s2_neighborsA) H → va_D A (wdX4 G x_q0 x_q1 q_input q_spread found_q0 s0_q0 s1_q0 s2_q0 x_gain ++ wdX2 G found_q0 found_w found_s found_h ++ wdX3 G s0_q0 s0_q1 s0_q2 s0_q3 s0_q4 s0_q5 s0_q6 s0_q7 s0_present s0_a s0_b s0_c s0_d s0_spot s0_middle s0_tint s0_w s0_s s0_h s0_valuesA s0_otherValuesA s0_ranksA s0_oldRanksA s0_orderA s0_neighborsA ++ wdX3 G s1_q0 s1_q1 s1_q2 s1_q3 s1_q4 s1_q5 s1_q6 s1_q7 s1_present s1_a s1_b s1_c s1_d s1_spot s1_middle s1_tint s1_w s1_s s1_h s1_valuesA s1_otherValuesA s1_ranksA s1_oldRanksA s1_orderA s1_neighborsA ++ wdX3 G s2_q0 s2_q1 s2_q2 s2_q3 s2_q4 s2_q5 s2_q6 s2_q7 s2_present s2_a s2_b s2_c s2_d s2_spot s2_middle s2_tint s2_w s2_s s2_h s2_valuesA s2_otherValuesA s2_ranksA s2_oldRanksA s2_orderA s2_neighborsA) → va_S A s.heap H locs → W p l e rxX4_mixture s m args below meth c H locs 0 0 Q (F0 m 32 ls [.int j6_0]) := by
        intro j6_0 jz6_0 H locs ls h hl hP hD hS
        replace h := (hK6 j6_0).symm.trans h
        by_cases c8 : j6_0 = 0
        · replace h := ite_t c8 h
          obtain ⟨rfl, rfl, rfl, rfl⟩ := sm4 h
          subst c8
          exact thrS (rest := []) (As := [.int 0]) S (cxX4_needState l hfl) (va_cwS 1 hts gX4_mixture_X4_needState rfl rfl rfl hsX4_needState ⟨Nat.le_of_ble_eq_true rfl, Nat.le_of_ble_eq_true rfl⟩) TT.blind (fun U hU hW => by rw [hU]; exact TT.warm hW ((hT.kept hS.2.1).narrow (fun _ h => h.elim))) rfl hl.1 rfl (Nat.le_of_ble_eq_true rfl) dX4_mixture_32 ⟨Nat.le_of_ble_eq_true rfl, Nat.le_of_ble_eq_true rfl⟩ (fun H1 locs1 q ce hk hz h1 h2 h3 => hthr _ _ _ _ H1 locs1 q ce rfl (hk.P hP) hD (hk.S hS hz) h1 h2 h3)
        · replace h := ite_f c8 h
          refine roSv1 (rest := []) (As := [.int j6_0]) S (ctX4_needState l j6_0 c8) (va_cwS 1 hts gX4_mixture_X4_needState rfl rfl rfl hsX4_needState ⟨Nat.le_of_ble_eq_true rfl, Nat.le_of_ble_eq_true rfl⟩) rfl hl.1 rfl (Nat.le_of_ble_eq_true rfl) dX4_mixture_32 ⟨Nat.zero_le _, Nat.zero_le _⟩ ?_
          refine lv_aload_n hx hb dX4_mixture_35 rfl (lv_at hl 1 rfl) ?_
          refine lv_iload_n hx hb dX4_mixture_36 rfl (lv_at hl 0 rfl) ?_
          obtain ⟨r9_0, r9_1, r9_2, g9, h⟩ := bnd3_e h
          refine rwV_same (rest := []) (As := [.int r5_0]) S (ctX4_findPeriod l G x_q0 x_q1 found_q0 s0_q0 s0_q1 s0_q2 s0_q3 s0_q4 s0_q5 s0_q6 s0_q7 s1_q0 s1_q1 s1_q2 s1_q3 s1_q4 s1_q5 s1_q6 s1_q7 s2_q0 s2_q1 s2_q2 s2_q3 s2_q4 s2_q5 s2_q6 s2_q7 q_input q_spread x_gain found_w found_s found_h s0_present s0_a s0_b s0_c s0_d s0_spot s0_middle s0_tint s0_w s0_s s0_h s0_valuesA s0_otherValuesA s0_ranksA s0_oldRanksA s0_orderA s0_neighborsA s1_present s1_a s1_b s1_c s1_d s1_spot s1_middle s1_tint s1_w s1_s s1_h s1_valuesA s1_otherValuesA s1_ranksA s1_oldRanksA s1_orderA s1_neighborsA s2_present s2_a s2_b s2_c s2_d s2_spot s2_middle s2_tint s2_w s2_s s2_h s2_valuesA s2_otherValuesA s2_ranksA s2_oldRanksA s2_orderA s2_neighborsA r5_0 r9_0 r9_1 r9_2 g9) (cwV 1 hts gX4_mixture_X4_findPeriod rfl rfl rfl hvX4_findPeriod ⟨Nat.le_of_ble_eq_true rfl, Nat.le_of_ble_eq_true rfl⟩) hK hP hD hS xb_triv (fun _ _ _ => trivial) 0 4 rfl rfl rfl rfl hl.1 rfl (Nat.le_of_ble_eq_true rfl) dX4_mixture_37 ⟨Nat.zero_le _, Nat.zero_le _⟩ (fun _ H locs hP hD hS => ?_)
          have hP : va_P G.1 vwCl (wdX4 G x_q0 x_q1 q_input q_spread found_q0 s0_q0 s1_q0 s2_q0 x_gain ++ wdX2 G found_q0 r9_0 r9_1 r9_2 ++ wdX3 G s0_q0 s0_q1 s0_q2 s0_q3 s0_q4 s0_q5 s0_q6 s0_q7 s0_present s0_a s0_b s0_c s0_d s0_spot s0_middle s0_tint s0_w s0_s s0_h s0_valuesA s0_otherValuesA s0_ranksA s0_oldRanksA s0_orderA s0_neighborsA ++ wdX3 G s1_q0 s1_q1 s1_q2 s1_q3 s1_q4 s1_q5 s1_q6 s1_q7 s1_present s1_a s1_b s1_c s1_d s1_spot s1_middle s1_tint s1_w s1_s s1_h s1_valuesA s1_otherValuesA s1_ranksA s1_oldRanksA s1_orderA s1_neighborsA ++ wdX3 G s2_q0 s2_q1 s2_q2 s2_q3 s2_q4 s2_q5 s2_q6 s2_q7 s2_present s2_a s2_b s2_c s2_d s2_spot s2_middle s2_tint s2_w s2_s s2_h s2_valuesA s2_otherValuesA s2_ranksA s2_oldRanksA s2_orderA s2_neighborsA) H := hP
          have hD : va_D A (wdX4 G x_q0 x_q1 q_input q_spread found_q0 s0_q0 s1_q0 s2_q0 x_gain ++ wdX2 G found_q0 r9_0 r9_1 r9_2 ++ wdX3 G s0_q0 s0_q1 s0_q2 s0_q3 s0_q4 s0_q5 s0_q6 s0_q7 s0_present s0_a s0_b s0_c s0_d s0_spot s0_middle s0_tint s0_w s0_s s0_h s0_valuesA s0_otherValuesA s0_ranksA s0_oldRanksA s0_orderA s0_neighborsA ++ wdX3 G s1_q0 s1_q1 s1_q2 s1_q3 s1_q4 s1_q5 s1_q6 s1_q7 s1_present s1_a s1_b s1_c s1_d s1_spot s1_middle s1_tint s1_w s1_s s1_h s1_valuesA s1_otherValuesA s1_ranksA s1_oldRanksA s1_orderA s1_neighborsA ++ wdX3 G s2_q0 s2_q1 s2_q2 s2_q3 s2_q4 s2_q5 s2_q6 s2_q7 s2_present s2_a s2_b s2_c s2_d s2_spot s2_middle s2_tint s2_w s2_s s2_h s2_valuesA s2_otherValuesA s2_ranksA s2_oldRanksA s2_orderA s2_neighborsA) := hD
          refine lv_aload_n hx hb dX4_mixture_40 rfl (lv_at hl 1 rfl) ?_
          refine va_get (D := G.1) (ci := 4) (v := .ref found_q0) (C := RX4) (T := TX4) (N := 5) hx hb hts fwx_X4_mixture_X4 hown hK.1 hP 0 rfl rfl 3 (by decide) (hts (.fieldLink RX4 32 "HalftoneScreens" "found" "LHalftoneScreens$Lattice;") lkx_X4_mixture_f32) (fun _ h9 => h9) rfl dX4_mixture_41 ?_
          obtain ⟨r10_0, g10, h⟩ := bnd1_e h
          refine roVi1 (rest := []) (As := []) S (ctX2_area l G found_q0 r9_0 r9_1 r9_2 r10_0 g10) (cwV 0 hts gX4_mixture_X2_area rfl rfl rfl hvX2_area ⟨Nat.le_of_ble_eq_true rfl, Nat.le_of_ble_eq_true rfl⟩) hK hP [2] rfl 2 2 rfl rfl rfl rfl hl.1 rfl (Nat.le_of_ble_eq_true rfl) dX4_mixture_44 ⟨Nat.zero_le _, Nat.zero_le _⟩ (fun _ => ?_)
          refine lv_sipush (v := 4096) hx hb dX4_mixture_47 (by decide) ?_
          obtain ⟨K11, hK11, h⟩ := jB1_e h
          have J11 : ∀ (j11_0 : Int32) (jz11_0 : isZ j11_0) (H : Heap) (locs : List Loc) (ls : Array Slot), K11 j11_0 = some (o0, o1, o2, o3) → lv_has ls 6 [(2, .int r5_0), (0, .ref x_q0), (1, .int a0)] → va_P G.1 vwCl (wdX4 G x_q0 x_q1 q_input q_spread found_q0 s0_q0 s1_q0 s2_q0 x_gain ++ wdX2 G found_q0 r9_0 r9_1 r9_2 ++ wdX3 G s0_q0 s0_q1 s0_q2 s0_q3 s0_q4 s0_q5 s0_q6 s0_q7 s0_present s0_a s0_b s0_c s0_d s0_spot s0_middle s0_tint s0_w s0_s s0_h s0_valuesA s0_otherValuesA s0_ranksA s0_oldRanksA s0_orderA s0_neighborsA ++ wdX3 G s1_q0 s1_q1 s1_q2 s1_q3 s1_q4 s1_q5 s1_q6 s1_q7 s1_present s1_a s1_b s1_c s1_d s1_spot s1_middle s1_tint s1_w s1_s s1_h s1_valuesA s1_otherValuesA s1_ranksA s1_oldRanksA s1_orderA s1_neighborsA ++ wdX3 G s2_q0 s2_q1 s2_q2 s2_q3 s2_q4 s2_q5 s2_q6 s2_q7 s2_present s2_a s2_b s2_c s2_d s2_spot s2_middle s2_tint s2_w s2_s s2_h s2_valuesA s2_otherValuesA s2_ranksA s2_oldRanksA s2_orderA s2_neighborsA) H → va_D A (wdX4 G x_q0 x_q1 q_input q_spread found_q0 s0_q0 s1_q0 s2_q0 x_gain ++ wdX2 G found_q0 r9_0 r9_1 r9_2 ++ wdX3 G s0_q0 s0_q1 s0_q2 s0_q3 s0_q4 s0_q5 s0_q6 s0_q7 s0_present s0_a s0_b s0_c s0_d s0_spot s0_middle s0_tint s0_w s0_s s0_h s0_valuesA s0_otherValuesA s0_ranksA s0_oldRanksA s0_orderA s0_neighborsA ++ wdX3 G s1_q0 s1_q1 s1_q2 s1_q3 s1_q4 s1_q5 s1_q6 s1_q7 s1_present s1_a s1_b s1_c s1_d s1_spot s1_middle s1_tint s1_w s1_s s1_h s1_valuesA s1_otherValuesA s1_ranksA s1_oldRanksA s1_orderA s1_neighborsA ++ wdX3 G s2_q0 s2_q1 s2_q2 s2_q3 s2_q4 s2_q5 s2_q6 s2_q7 s2_present s2_a s2_b s2_c s2_d s2_spot s2_middle s2_tint s2_w s2_s s2_h s2_valuesA s2_otherValuesA s2_ranksA s2_oldRanksA s2_orderA s2_neighborsA) → va_S A s.heap H locs → W p l e rxX4_mixture s m args below meth c H locs 0 0 Q (F0 m 58 ls [.int j11_0]) := by
            intro j11_0 jz11_0 H locs ls h hl hP hD hS
            replace h := (hK11 j11_0).symm.trans h
            by_cases c13 : j11_0 = 0
            · replace h := ite_t c13 h
              obtain ⟨rfl, rfl, rfl, rfl⟩ := sm4 h
              subst c13
              exact thrS (rest := []) (As := [.int 0]) S (cxX4_needState l hfl) (va_cwS 1 hts gX4_mixture_X4_needState rfl rfl rfl hsX4_needState ⟨Nat.le_of_ble_eq_true rfl, Nat.le_of_ble_eq_true rfl⟩) TT.blind (fun U hU hW => by rw [hU]; exact TT.warm hW ((hT.kept hS.2.1).narrow (fun _ h => h.elim))) rfl hl.1 rfl (Nat.le_of_ble_eq_true rfl) dX4_mixture_58 ⟨Nat.le_of_ble_eq_true rfl, Nat.le_of_ble_eq_true rfl⟩ (fun H1 locs1 q ce hk hz h1 h2 h3 => hthr _ _ _ _ H1 locs1 q ce rfl (hk.P hP) hD (hk.S hS hz) h1 h2 h3)
            · replace h := ite_f c13 h
              refine roSv1 (rest := []) (As := [.int j11_0]) S (ctX4_needState l j11_0 c13) (va_cwS 1 hts gX4_mixture_X4_needState rfl rfl rfl hsX4_needState ⟨Nat.le_of_ble_eq_true rfl, Nat.le_of_ble_eq_true rfl⟩) rfl hl.1 rfl (Nat.le_of_ble_eq_true rfl) dX4_mixture_58 ⟨Nat.zero_le _, Nat.zero_le _⟩ ?_
              exact nomatch h
          refine lv_icmp_gt (tgt := 57) hx hb dX4_mixture_50 (by decide) (fun c12 => ?_) (fun c12 => ?_)
          · replace h := ite_t c12 h
            refine lv_iconst (v := 0) hx hb dX4_mixture_57 (by decide) ?_
            exact J11 0 isZ0 H locs ls h hl hP hD hS
          · replace h := ite_f c12 h
            refine lv_iconst (v := 1) hx hb dX4_mixture_53 (by decide) ?_
            refine lv_goto (tgt := 58) hx hb dX4_mixture_54 (by decide) ?_
            exact J11 1 isZ1 H locs ls h hl hP hD hS
      refine lv_if_eq (tgt := 31) hx hb dX4_mixture_24 (by decide) (fun c7 => ?_) (fun c7 => ?_)
      · replace h := ite_t c7 h
        refine lv_iconst (v := 0) hx hb dX4_mixture_31 (by decide) ?_
        exact J6 0 isZ0 H locs ls h hl hP hD hS
      · replace h := ite_f c7 h
        refine lv_iconst (v := 1) hx hb dX4_mixture_27 (by decide) ?_
        refine lv_goto (tgt := 32) hx hb dX4_mixture_28 (by decide) ?_
        exact J6 1 isZ1 H locs ls h hl hP hD hS
  refine lv_if_lt (tgt := 14) hx hb dX4_mixture_1 (by decide) (fun c2 => ?_) (fun c2 => ?_)
  · replace h := ite_t c2 h
    refine lv_iconst (v := 0) hx hb dX4_mixture_14 (by decide) ?_
    exact J1 0 isZ0 H locs ls h hl hP hD hS
  · replace h := ite_f c2 h
    refine lv_iload_n hx hb dX4_mixture_4 rfl (lv_at hl 1 rfl) ?_
    refine lv_bipush (v := 8) hx hb dX4_mixture_5 (by decide) ?_
    refine lv_icmp_ge (tgt := 14) hx hb dX4_mixture_7 (by decide) (fun c3 => ?_) (fun c3 => ?_)
    · replace h := ite_t c3 h
      refine lv_iconst (v := 0) hx hb dX4_mixture_14 (by decide) ?_
      exact J1 0 isZ0 H locs ls h hl hP hD hS
    · replace h := ite_f c3 h
      refine lv_iconst (v := 1) hx hb dX4_mixture_10 (by decide) ?_
      refine lv_goto (tgt := 15) hx hb dX4_mixture_11 (by decide) ?_
      exact J1 1 isZ1 H locs ls h hl hP hD hS
abbrev rxX4_nearest : Room := { frames := 7, cells := 1, slots := 6, locals := 110 }
set_option maxHeartbeats 4000000 in
set_option maxRecDepth 100000 in
theorem cxX4_nearest (l : Launch) (hfl : l.stackTraces = false) (G : GG) (x_q0 : Nat) (x_q1 : Nat) (q_input : Nat) (q_spread : Nat) (q_found : Nat) (x_gain : Int32) (q_s0 : Nat) (q_s1 : Nat) (q_s2 : Nat) (a0 : Int32) (a1 : Int32) (a2 : Int32) (a3 : Int32) (o0 : Nat) (h : mxX4_nearest a0 a1 a2 a3 = some (o0))  : vx_Met l yX4_nearest wsX4_nearest rxX4_nearest (va_Pc [.ref x_q0, .int a0, .int a1, .int a2, .int a3] (PreT G (wdX4 G x_q0 x_q1 q_input q_spread q_found q_s0 q_s1 q_s2 x_gain))) NoQ (XT0 o0) 1 6 (fun _ => False) := by
  refine of_tr (cc := cX4_nearest) (maxL := 9) (ret := (some .int)) (by decide) rfl (Nat.le_of_ble_eq_true rfl) ?_
  intro p e s m args below meth c ls Q S hl hP hK hT hthr
  have S : CallFix p m c cX4_nearest 9 s args wsX4_nearest RX4 := S
  obtain ⟨hx, hb, hml, hown, hts⟩ := id S
  have hl : lv_has ls 9 [(0, .ref x_q0), (1, .int a0), (2, .int a1), (3, .int a2), (4, .int a3)] := hl
  unfold mxX4_nearest at h
  refine lv_iload_n hx hb dX4_nearest_0 rfl (lv_at hl 1 rfl) ?_
  obtain ⟨K1, hK1, h⟩ := jB1_e h
  have J1 : ∀ (j1_0 : Int32) (jz1_0 : isZ j1_0) (ls : Array Slot), K1 j1_0 = some (o0) → lv_has ls 9 [(0, .ref x_q0), (1, .int a0), (2, .int a1), (3, .int a2), (4, .int a3)] → W p l e rxX4_nearest s m args below meth c s.heap [] 0 0 Q (F0 m 28 ls [.int j1_0]) := by
    intro j1_0 jz1_0 ls h hl
    replace h := (hK1 j1_0).symm.trans h
    by_cases c6 : j1_0 = 0
    · replace h := ite_t c6 h
      obtain rfl := sm1 h
      subst c6
      exact thrS (rest := []) (As := [.int 0]) S (cxX4_needArgument l hfl) (va_cwS 1 hts gX4_nearest_X4_needArgument rfl rfl rfl hsX4_needArgument ⟨Nat.le_of_ble_eq_true rfl, Nat.le_of_ble_eq_true rfl⟩) TT.blind (fun U hU hW => by rw [hU]; exact TT.warm hW hT) rfl hl.1 rfl (Nat.le_of_ble_eq_true rfl) dX4_nearest_28 ⟨Nat.le_of_ble_eq_true rfl, Nat.le_of_ble_eq_true rfl⟩ (fun H1 locs1 q ce hk hz h1 h2 h3 => hthr _ _ _ _ H1 locs1 q ce rfl hk hz h1 h2 h3)
    · replace h := ite_f c6 h
      refine roSv1 (rest := []) (As := [.int j1_0]) S (ctX4_needArgument l j1_0 c6) (va_cwS 1 hts gX4_nearest_X4_needArgument rfl rfl rfl hsX4_needArgument ⟨Nat.le_of_ble_eq_true rfl, Nat.le_of_ble_eq_true rfl⟩) rfl hl.1 rfl (Nat.le_of_ble_eq_true rfl) dX4_nearest_28 ⟨Nat.zero_le _, Nat.zero_le _⟩ ?_
      refine lv_iload_n hx hb dX4_nearest_31 rfl (lv_at hl 3 rfl) ?_
      refine lv_iconst (v := 1) hx hb dX4_nearest_32 (by decide) ?_
      obtain ⟨K7, hK7, h⟩ := jB1_e h
      have J7 : ∀ (j7_0 : Int32) (jz7_0 : isZ j7_0) (ls : Array Slot), K7 j7_0 = some (o0) → lv_has ls 9 [(0, .ref x_q0), (1, .int a0), (2, .int a1), (3, .int a2), (4, .int a3)] → W p l e rxX4_nearest s m args below meth c s.heap [] 0 0 Q (F0 m 59 ls [.int j7_0]) := by
        intro j7_0 jz7_0 ls h hl
        replace h := (hK7 j7_0).symm.trans h
        by_cases c12 : j7_0 = 0
        · replace h := ite_t c12 h
          obtain rfl := sm1 h
          subst c12
          exact thrS (rest := []) (As := [.int 0]) S (cxX4_needArgument l hfl) (va_cwS 1 hts gX4_nearest_X4_needArgument rfl rfl rfl hsX4_needArgument ⟨Nat.le_of_ble_eq_true rfl, Nat.le_of_ble_eq_true rfl⟩) TT.blind (fun U hU hW => by rw [hU]; exact TT.warm hW hT) rfl hl.1 rfl (Nat.le_of_ble_eq_true rfl) dX4_nearest_59 ⟨Nat.le_of_ble_eq_true rfl, Nat.le_of_ble_eq_true rfl⟩ (fun H1 locs1 q ce hk hz h1 h2 h3 => hthr _ _ _ _ H1 locs1 q ce rfl hk hz h1 h2 h3)
        · replace h := ite_f c12 h
          refine roSv1 (rest := []) (As := [.int j7_0]) S (ctX4_needArgument l j7_0 c12) (va_cwS 1 hts gX4_nearest_X4_needArgument rfl rfl rfl hsX4_needArgument ⟨Nat.le_of_ble_eq_true rfl, Nat.le_of_ble_eq_true rfl⟩) rfl hl.1 rfl (Nat.le_of_ble_eq_true rfl) dX4_nearest_59 ⟨Nat.zero_le _, Nat.zero_le _⟩ ?_
          exact nomatch h
      refine lv_icmp_lt (tgt := 58) hx hb dX4_nearest_33 (by decide) (fun c8 => ?_) (fun c8 => ?_)
      · replace h := ite_t c8 h
        refine lv_iconst (v := 0) hx hb dX4_nearest_58 (by decide) ?_
        exact J7 0 isZ0 ls h hl
      · replace h := ite_f c8 h
        refine lv_iload_n hx hb dX4_nearest_36 rfl (lv_at hl 3 rfl) ?_
        refine lv_sipush (v := 128) hx hb dX4_nearest_37 (by decide) ?_
        refine lv_icmp_gt (tgt := 58) hx hb dX4_nearest_40 (by decide) (fun c9 => ?_) (fun c9 => ?_)
        · replace h := ite_t c9 h
          refine lv_iconst (v := 0) hx hb dX4_nearest_58 (by decide) ?_
          exact J7 0 isZ0 ls h hl
        · replace h := ite_f c9 h
          refine lv_iload hx hb dX4_nearest_43 (lv_at hl 4 rfl) ?_
          refine lv_if_lt (tgt := 58) hx hb dX4_nearest_45 (by decide) (fun c10 => ?_) (fun c10 => ?_)
          · replace h := ite_t c10 h
            refine lv_iconst (v := 0) hx hb dX4_nearest_58 (by decide) ?_
            exact J7 0 isZ0 ls h hl
          · replace h := ite_f c10 h
            refine lv_iload hx hb dX4_nearest_48 (lv_at hl 4 rfl) ?_
            refine lv_iconst (v := 2) hx hb dX4_nearest_50 (by decide) ?_
            refine lv_icmp_gt (tgt := 58) hx hb dX4_nearest_51 (by decide) (fun c11 => ?_) (fun c11 => ?_)
            · replace h := ite_t c11 h
              refine lv_iconst (v := 0) hx hb dX4_nearest_58 (by decide) ?_
              exact J7 0 isZ0 ls h hl
            · replace h := ite_f c11 h
              refine lv_iconst (v := 1) hx hb dX4_nearest_54 (by decide) ?_
              refine lv_goto (tgt := 59) hx hb dX4_nearest_55 (by decide) ?_
              exact J7 1 isZ1 ls h hl
  refine lv_if_lt (tgt := 27) hx hb dX4_nearest_1 (by decide) (fun c2 => ?_) (fun c2 => ?_)
  · replace h := ite_t c2 h
    refine lv_iconst (v := 0) hx hb dX4_nearest_27 (by decide) ?_
    exact J1 0 isZ0 ls h hl
  · replace h := ite_f c2 h
    refine lv_iload_n hx hb dX4_nearest_4 rfl (lv_at hl 1 rfl) ?_
    refine lv_sipush (v := 1000) hx hb dX4_nearest_5 (by decide) ?_
    refine lv_icmp_gt (tgt := 27) hx hb dX4_nearest_8 (by decide) (fun c3 => ?_) (fun c3 => ?_)
    · replace h := ite_t c3 h
      refine lv_iconst (v := 0) hx hb dX4_nearest_27 (by decide) ?_
      exact J1 0 isZ0 ls h hl
    · replace h := ite_f c3 h
      refine lv_iload_n hx hb dX4_nearest_11 rfl (lv_at hl 2 rfl) ?_
      refine lv_iconst (v := 1) hx hb dX4_nearest_12 (by decide) ?_
      refine lv_icmp_lt (tgt := 27) hx hb dX4_nearest_13 (by decide) (fun c4 => ?_) (fun c4 => ?_)
      · replace h := ite_t c4 h
        refine lv_iconst (v := 0) hx hb dX4_nearest_27 (by decide) ?_
        exact J1 0 isZ0 ls h hl
      · replace h := ite_f c4 h
        refine lv_iload_n hx hb dX4_nearest_16 rfl (lv_at hl 2 rfl) ?_
        refine lv_sipush (v := 1000) hx hb dX4_nearest_17 (by decide) ?_
        refine lv_icmp_gt (tgt := 27) hx hb dX4_nearest_20 (by decide) (fun c5 => ?_) (fun c5 => ?_)
        · replace h := ite_t c5 h
          refine lv_iconst (v := 0) hx hb dX4_nearest_27 (by decide) ?_
          exact J1 0 isZ0 ls h hl
        · replace h := ite_f c5 h
          refine lv_iconst (v := 1) hx hb dX4_nearest_23 (by decide) ?_
          refine lv_goto (tgt := 28) hx hb dX4_nearest_24 (by decide) ?_
          exact J1 1 isZ1 ls h hl
