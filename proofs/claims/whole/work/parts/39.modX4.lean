-- pure pictures of the class that throws (laid by program)
def scF (a b c : Nat) : Nat → Option Nat := fun j => if j = 0 then some a else if j = 1 then some b else if j = 2 then some c else none
abbrev wdX4 (G : GG) (u_q0 u_q1 ui ud uf us0 us1 us2 : Nat) (u_gain : Int32) : va_W := [(u_q0, .inr (4, [.ref u_q1, .ref ui, .ref ud, .ref uf, .int u_gain])), (u_q1, .inl (G.2 2, 3, .inr (.inr (.inr (.inr (scF us0 us1 us2))))))]
def mX4_inSlotWithSteps (s_present : Int32) (s_w : Int32) (s_h : Int32) (a1 : Int32) : Option (Unit) :=
    gz s_present <|
    if a1 < 0 then (none)
    else (bnd1 (mX3_area s_w s_h) fun r3_0 =>
    if r3_0 < a1 then (none)
    else (some (())))
def mX4_append (input_length : Int32) (input_codesA : (Nat → Int32)) (a0 : Int32) : Option (Int32 × Int32 × (Nat → Int32)) :=
    jB (fun (j1_0 : Int32) =>
    gz j1_0 <|
    if 20 ≤ input_length then (none)
    else (bnd3 (mX1_add input_length input_codesA a0) fun r6_0 r6_1 r6_2 =>
    some (r6_0, r6_1, r6_2))) fun K1 =>
    if a0 < 32 then (K1 0)
    else (if 126 < a0 then (K1 0)
    else (K1 1))
def mX4_clearInput (input_length : Int32) : Option (Int32 × Int32) :=
    some (input_length, 0)
def mX4_firstError (input_length : Int32) (input_codesA : (Nat → Int32)) (input_partsA : (Nat → Int32)) : Option (Int32 × Int32 × Int32 × Int32 × Int32 × Int32 × (Nat → Int32)) :=
    bnd7 (mX1_read input_length input_codesA input_partsA) fun r1_0 r1_1 r1_2 r1_3 r1_4 r1_5 r1_6 =>
    some (r1_0, r1_1, r1_2, r1_3, r1_4, r1_5, r1_6)
def mX4_load (input_length : Int32) (input_codesA : (Nat → Int32)) (input_partsA : (Nat → Int32)) (s_valuesA : (Nat → Int32)) (s_otherValuesA : (Nat → Int32)) (s_ranksA : (Nat → Int32)) (s_oldRanksA : (Nat → Int32)) (s_orderA : (Nat → Int32)) (s_neighborsA : (Nat → Int32)) : Option (Int32 × Int32 × Int32 × Int32 × Int32 × Int32 × Int32 × (Nat → Int32) × Int32 × Int32 × Int32 × Int32 × Int32 × Int32 × Int32 × Int32 × Int32 × Int32 × Int32 × (Nat → Int32) × (Nat → Int32) × (Nat → Int32) × (Nat → Int32) × (Nat → Int32) × (Nat → Int32)) :=
    bnd7 (mX1_isComplete input_length input_codesA input_partsA) fun r1_0 r1_1 r1_2 r1_3 r1_4 r1_5 r1_6 =>
    gz r1_0 <|
    bnd1 (mX4_at 4 r1_6 0) fun r3_0 =>
    bnd1 (mX4_at 4 r1_6 1) fun r4_0 =>
    bnd1 (mX4_at 4 r1_6 2) fun r5_0 =>
    bnd1 (mX4_at 4 r1_6 3) fun r6_0 =>
    bnd1 (mX4_areaOf r3_0 r4_0 r5_0 r6_0) fun r7_0 =>
    bnd1 (mX4_isArea r7_0) fun r8_0 =>
    gz r8_0 <|
    bnd8 (mX3_become r3_0 r4_0 r5_0 r6_0 r1_4 r1_5) fun r10_0 r10_1 r10_2 r10_3 r10_4 r10_5 r10_6 r10_7 =>
    bnd10 (mX3_regrow r10_1 r10_2 r10_3 r10_4 r10_5 r10_6 s_valuesA s_otherValuesA s_ranksA s_oldRanksA s_orderA s_neighborsA) fun r11_0 r11_1 r11_2 r11_3 r11_4 r11_5 r11_6 r11_7 r11_8 r11_9 =>
    bnd1 (mX3_area r11_1 r11_3) fun r12_0 =>
    some (r12_0, 0, r1_1, r1_2, r1_3, r1_4, r1_5, r1_6, r10_0, r10_1, r10_2, r10_3, r10_4, r10_5, r10_6, r10_7, r11_1, r11_2, r11_3, r11_4, r11_5, r11_6, r11_7, r11_8, r11_9)
def mX4_setScreen (s_valuesA : (Nat → Int32)) (s_otherValuesA : (Nat → Int32)) (s_ranksA : (Nat → Int32)) (s_oldRanksA : (Nat → Int32)) (s_orderA : (Nat → Int32)) (s_neighborsA : (Nat → Int32)) (a1 : Int32) (a2 : Int32) (a3 : Int32) (a4 : Int32) (a5 : Int32) : Option (Int32 × Int32 × Int32 × Int32 × Int32 × Int32 × Int32 × Int32 × Int32 × Int32 × Int32 × Int32 × (Nat → Int32) × (Nat → Int32) × (Nat → Int32) × (Nat → Int32) × (Nat → Int32) × (Nat → Int32)) :=
    bnd1 (mX4_isComponent a1) fun r1_0 =>
    jB (fun (j2_0 : Int32) =>
    gz j2_0 <|
    jB (fun (j11_0 : Int32) =>
    gz j11_0 <|
    bnd1 (mX4_areaOf a1 a2 a3 a4) fun r15_0 =>
    bnd1 (mX4_isArea r15_0) fun r16_0 =>
    gz r16_0 <|
    bnd8 (mX3_become a1 a2 a3 a4 a5 0) fun r18_0 r18_1 r18_2 r18_3 r18_4 r18_5 r18_6 r18_7 =>
    bnd10 (mX3_regrow r18_1 r18_2 r18_3 r18_4 r18_5 r18_6 s_valuesA s_otherValuesA s_ranksA s_oldRanksA s_orderA s_neighborsA) fun r19_0 r19_1 r19_2 r19_3 r19_4 r19_5 r19_6 r19_7 r19_8 r19_9 =>
    bnd1 (mX3_area r19_1 r19_3) fun r20_0 =>
    some (r20_0, r18_0, r18_1, r18_2, r18_3, r18_4, r18_5, r18_6, r18_7, r19_1, r19_2, r19_3, r19_4, r19_5, r19_6, r19_7, r19_8, r19_9)) fun K11 =>
    if a5 < 0 then (K11 0)
    else (if 4 < a5 then (K11 0)
    else (K11 1))) fun K2 =>
    if r1_0 = 0 then (K2 0)
    else (bnd1 (mX4_isComponent a2) fun r4_0 =>
    if r4_0 = 0 then (K2 0)
    else (bnd1 (mX4_isComponent a3) fun r6_0 =>
    if r6_0 = 0 then (K2 0)
    else (bnd1 (mX4_isComponent a4) fun r8_0 =>
    if r8_0 = 0 then (K2 0)
    else (K2 1))))
def mX4_setCenter (s_present : Int32) (s_a : Int32) (s_b : Int32) (s_c : Int32) (s_d : Int32) (s_spot : Int32) (s_valuesA : (Nat → Int32)) (s_otherValuesA : (Nat → Int32)) (s_ranksA : (Nat → Int32)) (s_oldRanksA : (Nat → Int32)) (s_orderA : (Nat → Int32)) (s_neighborsA : (Nat → Int32)) (a1 : Int32) : Option (Int32 × Int32 × Int32 × Int32 × Int32 × (Nat → Int32) × (Nat → Int32) × (Nat → Int32) × (Nat → Int32) × (Nat → Int32) × (Nat → Int32)) :=
    gz s_present <|
    bnd10 (mX3_regrow s_a s_b s_c s_d s_spot a1 s_valuesA s_otherValuesA s_ranksA s_oldRanksA s_orderA s_neighborsA) fun r2_0 r2_1 r2_2 r2_3 r2_4 r2_5 r2_6 r2_7 r2_8 r2_9 =>
    some (r2_0, a1, r2_1, r2_2, r2_3, r2_4, r2_5, r2_6, r2_7, r2_8, r2_9)
def mX4_turn (s_present : Int32) (s_a : Int32) (s_b : Int32) (s_c : Int32) (s_d : Int32) (s_spot : Int32) (s_middle : Int32) (s_valuesA : (Nat → Int32)) (s_otherValuesA : (Nat → Int32)) (s_ranksA : (Nat → Int32)) (s_oldRanksA : (Nat → Int32)) (s_orderA : (Nat → Int32)) (s_neighborsA : (Nat → Int32)) (a1 : Int32) : Option (Int32 × Int32 × Int32 × Int32 × Int32 × Int32 × Int32 × Int32 × (Nat → Int32) × (Nat → Int32) × (Nat → Int32) × (Nat → Int32) × (Nat → Int32) × (Nat → Int32)) :=
    jB (fun (j1_0 : Int32) =>
    gz j1_0 <|
    gz s_present <|
    bnd4 (mX3_turnVectors s_a s_b s_c s_d a1) fun r6_0 r6_1 r6_2 r6_3 =>
    bnd10 (mX3_regrow r6_0 r6_1 r6_2 r6_3 s_spot s_middle s_valuesA s_otherValuesA s_ranksA s_oldRanksA s_orderA s_neighborsA) fun r7_0 r7_1 r7_2 r7_3 r7_4 r7_5 r7_6 r7_7 r7_8 r7_9 =>
    some (r7_0, r6_0, r6_1, r6_2, r6_3, r7_1, r7_2, r7_3, r7_4, r7_5, r7_6, r7_7, r7_8, r7_9)) fun K1 =>
    if a1 < 0 then (K1 0)
    else (if 2 < a1 then (K1 0)
    else (K1 1))
def mX4_shorten (s_present : Int32) (s_a : Int32) (s_b : Int32) (s_c : Int32) (s_d : Int32) (s_spot : Int32) (s_middle : Int32) (s_valuesA : (Nat → Int32)) (s_otherValuesA : (Nat → Int32)) (s_ranksA : (Nat → Int32)) (s_oldRanksA : (Nat → Int32)) (s_orderA : (Nat → Int32)) (s_neighborsA : (Nat → Int32)) : Option (Int32 × Int32 × Int32 × Int32 × Int32 × Int32 × Int32 × Int32 × (Nat → Int32) × (Nat → Int32) × (Nat → Int32) × (Nat → Int32) × (Nat → Int32) × (Nat → Int32)) :=
    gz s_present <|
    bnd5 (mX3_shortenVectors s_a s_b s_c s_d) fun r2_0 r2_1 r2_2 r2_3 r2_4 =>
    bnd10 (mX3_regrow r2_1 r2_2 r2_3 r2_4 s_spot s_middle s_valuesA s_otherValuesA s_ranksA s_oldRanksA s_orderA s_neighborsA) fun r3_0 r3_1 r3_2 r3_3 r3_4 r3_5 r3_6 r3_7 r3_8 r3_9 =>
    some (r2_0, r2_1, r2_2, r2_3, r2_4, r3_1, r3_2, r3_3, r3_4, r3_5, r3_6, r3_7, r3_8, r3_9)
def mX4_setTint (s_present : Int32) (s_tint : Int32) (s_w : Int32) (s_h : Int32) (a1 : Int32) : Option (Int32 × Int32) :=
    bnd1 (mX4_inSlotWithSteps s_present s_w s_h a1) fun r1_0 =>
    some (s_tint, a1)
def mX4_setGain (x_gain : Int32) (a0 : Int32) : Option (Int32 × Int32) :=
    if a0 < 0 then (none)
    else (if 100 < a0 then (none)
    else (some (x_gain, a0)))
def mX4_screen (s_present : Int32) (s_a : Int32) (s_b : Int32) (s_c : Int32) (s_d : Int32) (s_spot : Int32) (s_middle : Int32) (s_tint : Int32) (s_w : Int32) (s_s : Int32) (s_h : Int32) (a1 : Int32) : Option (Int32) :=
    jB (fun (j1_0 : Int32) =>
    gz j1_0 <|
    gz s_present <|
    bnd1 (mX3_property s_a s_b s_c s_d s_spot s_middle s_tint s_w s_s s_h a1) fun r6_0 =>
    some (r6_0)) fun K1 =>
    if a1 < 0 then (K1 0)
    else (if 10 < a1 then (K1 0)
    else (K1 1))
def mX4_place (s_present : Int32) (s_w : Int32) (s_s : Int32) (s_h : Int32) (a1 : Int32) (a2 : Int32) : Option (Int32) :=
    bnd1 (mX4_isPosition a1) fun r1_0 =>
    jB (fun (j2_0 : Int32) =>
    gz j2_0 <|
    gz s_present <|
    bnd1 (mX2_numberOf s_w s_s s_h a1 a2) fun r8_0 =>
    some (r8_0)) fun K2 =>
    if r1_0 = 0 then (K2 0)
    else (bnd1 (mX4_isPosition a2) fun r4_0 =>
    if r4_0 = 0 then (K2 0)
    else (K2 1))
def mX4_growth (s_present : Int32) (s_w : Int32) (s_h : Int32) (s_valuesA : (Nat → Int32)) (s_ranksA : (Nat → Int32)) (a1 : Int32) (a2 : Int32) : Option (Int32) :=
    jB (fun (j1_0 : Int32) =>
    gz j1_0 <|
    bnd1 (mX3_hasPlace s_present s_w s_h a1) fun r5_0 =>
    gz r5_0 <|
    if a2 = 0 then (bnd1 (mX4_at 64 s_valuesA a1) fun r9_0 =>
    some (r9_0))
    else (bnd1 (mX4_at 64 s_ranksA a1) fun r8_0 =>
    some (r8_0))) fun K1 =>
    if a2 = 0 then (K1 1)
    else (if a2 = 1 then (K1 1)
    else (K1 0))
def mX4_placeOf (s_present : Int32) (s_w : Int32) (s_h : Int32) (s_orderA : (Nat → Int32)) (a1 : Int32) : Option (Int32) :=
    bnd1 (mX3_hasPlace s_present s_w s_h a1) fun r1_0 =>
    gz r1_0 <|
    bnd1 (mX4_at 64 s_orderA a1) fun r3_0 =>
    some (r3_0)
def mX4_inked_L69 (s_tint : Int32) (s_w : Int32) (s_s : Int32) (s_h : Int32) (s_ranksA : (Nat → Int32)) (a1 : Int32) (a2 : Int32) (a3 : Int32) (v12_0 : Int32) : Nat → Int32 → Int32 → Option (Int32 × Int32)
  | 0, _, _ => none
  | fu + 1, v14_0, v14_1 =>
    if a3 ≤ v14_0 then (some (v14_0, v14_1))
    else (bnd1 (mX3_inks s_tint s_w s_s s_h s_ranksA (a1 + v14_0) (a2 + v12_0)) fun r16_0 =>
    if r16_0 = 0 then (nmB (v14_0 + 1) fun x18 =>
    mX4_inked_L69 s_tint s_w s_s s_h s_ranksA a1 a2 a3 v12_0 fu x18 v14_1)
    else (nmB (v14_1 + 1) fun x19 =>
    nmB (v14_0 + 1) fun x20 =>
    mX4_inked_L69 s_tint s_w s_s s_h s_ranksA a1 a2 a3 v12_0 fu x20 x19))
def mX4_inked_L59 (s_tint : Int32) (s_w : Int32) (s_s : Int32) (s_h : Int32) (s_ranksA : (Nat → Int32)) (a1 : Int32) (a2 : Int32) (a3 : Int32) (a4 : Int32) : Nat → Int32 → Int32 → Option (Int32 × Int32)
  | 0, _, _ => none
  | fu + 1, v12_0, v12_1 =>
    if a4 ≤ v12_0 then (some (v12_0, v12_1))
    else (bnd2 (mX4_inked_L69 s_tint s_w s_s s_h s_ranksA a1 a2 a3 v12_0 FU 0 v12_1) fun u14_0 u14_1 =>
    nmB (v12_0 + 1) fun x21 =>
    mX4_inked_L59 s_tint s_w s_s s_h s_ranksA a1 a2 a3 a4 fu x21 u14_1)
def mX4_inked (s_present : Int32) (s_tint : Int32) (s_w : Int32) (s_s : Int32) (s_h : Int32) (s_ranksA : (Nat → Int32)) (a1 : Int32) (a2 : Int32) (a3 : Int32) (a4 : Int32) : Option (Int32) :=
    bnd1 (mX4_isPosition a1) fun r1_0 =>
    jB (fun (j2_0 : Int32) =>
    gz j2_0 <|
    gz s_present <|
    bnd2 (mX4_inked_L59 s_tint s_w s_s s_h s_ranksA a1 a2 a3 a4 FU 0 0) fun u12_0 u12_1 =>
    some (u12_1)) fun K2 =>
    if r1_0 = 0 then (K2 0)
    else (bnd1 (mX4_isPosition a2) fun r4_0 =>
    if r4_0 = 0 then (K2 0)
    else (bnd1 (mX4_isSide a3) fun r6_0 =>
    if r6_0 = 0 then (K2 0)
    else (bnd1 (mX4_isSide a4) fun r8_0 =>
    if r8_0 = 0 then (K2 0)
    else (K2 1))))
def mX4_strength (x_gain : Int32) (s_present : Int32) (s_w : Int32) (s_h : Int32) (s_ranksA : (Nat → Int32)) (s_neighborsA : (Nat → Int32)) (a1 : Int32) : Option (Int32) :=
    bnd1 (mX4_inSlotWithSteps s_present s_w s_h a1) fun r1_0 =>
    bnd1 (mX3_strengthOf s_w s_h s_ranksA s_neighborsA a1 x_gain) fun r2_0 =>
    some (r2_0)
def mX4_compensated_L49 (x_gain : Int32) (s_w : Int32) (s_h : Int32) (s_ranksA : (Nat → Int32)) (s_neighborsA : (Nat → Int32)) (a1 : Int32) (r6_0 : Int32) : Nat → Int32 → Int32 → Int32 → Option (Int32 × Int32 × Int32)
  | 0, _, _, _ => none
  | fu + 1, v8_0, v8_1, v8_2 =>
    if r6_0 < v8_0 then (some (v8_0, v8_1, v8_2))
    else (bnd1 (mX3_strengthOf s_w s_h s_ranksA s_neighborsA v8_0 x_gain) fun r10_0 =>
    nmB ((if 0 ≤ (r10_0 - (a1 * r6_0)) then (r10_0 - (a1 * r6_0)) else 0 - (r10_0 - (a1 * r6_0)))) fun x11 =>
    if v8_1 ≤ x11 then (nmB (v8_0 + 1) fun x13 =>
    mX4_compensated_L49 x_gain s_w s_h s_ranksA s_neighborsA a1 r6_0 fu x13 v8_1 v8_2)
    else (nmB (v8_0 + 1) fun x14 =>
    mX4_compensated_L49 x_gain s_w s_h s_ranksA s_neighborsA a1 r6_0 fu x14 x11 v8_0))
def mX4_compensated (x_gain : Int32) (s_present : Int32) (s_w : Int32) (s_h : Int32) (s_ranksA : (Nat → Int32)) (s_neighborsA : (Nat → Int32)) (a1 : Int32) : Option (Int32) :=
    jB (fun (j1_0 : Int32) =>
    gz j1_0 <|
    gz s_present <|
    bnd1 (mX3_area s_w s_h) fun r6_0 =>
    nmB ((a1 * r6_0)) fun x7 =>
    bnd3 (mX4_compensated_L49 x_gain s_w s_h s_ranksA s_neighborsA a1 r6_0 FU 1 x7 0) fun u8_0 u8_1 u8_2 =>
    some (u8_2)) fun K1 =>
    if a1 < 0 then (K1 0)
    else (if 100 < a1 then (K1 0)
    else (K1 1))
def mX4_meanStrength (x_gain : Int32) (s_present : Int32) (s_tint : Int32) (s_w : Int32) (s_h : Int32) (s_ranksA : (Nat → Int32)) (s_neighborsA : (Nat → Int32)) : Option (UInt64) :=
    gz s_present <|
    bnd1 (mX3_area s_w s_h) fun r2_0 =>
    if r2_0 ≤ 0 then (some (FP.dconst0))
    else (bnd1 (mX3_strengthOf s_w s_h s_ranksA s_neighborsA s_tint x_gain) fun r4_0 =>
    gz r2_0 <|
    some ((FP.ddiv (FP.i2d r4_0) (FP.i2d r2_0))))
def mX4_dots (spread_waitingNumber : Int32) (spread_joinedTimes : Int32) (spread_joinedX : Int32) (spread_joinedY : Int32) (spread_reachedA : (Nat → Int32)) (spread_walkedXA : (Nat → Int32)) (spread_walkedYA : (Nat → Int32)) (spread_waitingA : (Nat → Int32)) (s_present : Int32) (s_w : Int32) (s_h : Int32) (s_ranksA : (Nat → Int32)) (s_neighborsA : (Nat → Int32)) (a1 : Int32) : Option (Int32 × Int32 × Int32 × Int32 × Int32 × Int32 × Int32 × (Nat → Int32) × (Nat → Int32) × (Nat → Int32) × (Nat → Int32)) :=
    bnd1 (mX4_inSlotWithSteps s_present s_w s_h a1) fun r1_0 =>
    bnd10 (mX0_examine spread_waitingNumber spread_joinedTimes spread_joinedX spread_joinedY spread_reachedA spread_walkedXA spread_walkedYA spread_waitingA s_w s_h s_ranksA s_neighborsA a1) fun r2_0 r2_1 r2_2 r2_3 r2_4 r2_5 r2_6 r2_7 r2_8 r2_9 =>
    some (r2_1, r2_0, r2_1, r2_2, r2_3, r2_4, r2_5, r2_6, r2_7, r2_8, r2_9)
def mX4_joined (spread_waitingNumber : Int32) (spread_joinedTimes : Int32) (spread_joinedX : Int32) (spread_joinedY : Int32) (spread_reachedA : (Nat → Int32)) (spread_walkedXA : (Nat → Int32)) (spread_walkedYA : (Nat → Int32)) (spread_waitingA : (Nat → Int32)) (s_present : Int32) (s_w : Int32) (s_h : Int32) (s_ranksA : (Nat → Int32)) (s_neighborsA : (Nat → Int32)) (a1 : Int32) : Option (Int32 × Int32 × Int32 × Int32 × Int32 × Int32 × Int32 × (Nat → Int32) × (Nat → Int32) × (Nat → Int32) × (Nat → Int32)) :=
    bnd1 (mX4_inSlotWithSteps s_present s_w s_h a1) fun r1_0 =>
    bnd10 (mX0_examine spread_waitingNumber spread_joinedTimes spread_joinedX spread_joinedY spread_reachedA spread_walkedXA spread_walkedYA spread_waitingA s_w s_h s_ranksA s_neighborsA a1) fun r2_0 r2_1 r2_2 r2_3 r2_4 r2_5 r2_6 r2_7 r2_8 r2_9 =>
    some (r2_2, r2_0, r2_1, r2_2, r2_3, r2_4, r2_5, r2_6, r2_7, r2_8, r2_9)
def mX4_firstJoined_L40 (s_w : Int32) (s_h : Int32) (s_ranksA : (Nat → Int32)) (s_neighborsA : (Nat → Int32)) (a1 : Int32) (r6_0 : Int32) : Nat → Int32 → Int32 → Int32 → Int32 → Int32 → Int32 → Int32 → (Nat → Int32) → (Nat → Int32) → (Nat → Int32) → (Nat → Int32) → Option (Int32 × Int32 × Int32 × Int32 × Int32 × Int32 × Int32 × (Nat → Int32) × (Nat → Int32) × (Nat → Int32) × (Nat → Int32))
  | 0, _, _, _, _, _, _, _, _, _, _, _ => none
  | fu + 1, v7_0, v7_1, v7_2, v7_3, v7_4, v7_5, v7_6, v7_7, v7_8, v7_9, v7_10 =>
    if r6_0 ≤ v7_0 then (some (r6_0, v7_1, v7_2, v7_3, v7_4, v7_5, v7_6, v7_7, v7_8, v7_9, v7_10))
    else (bnd10 (mX0_examine v7_1 v7_4 v7_5 v7_6 v7_7 v7_8 v7_9 v7_10 s_w s_h s_ranksA s_neighborsA v7_0) fun r9_0 r9_1 r9_2 r9_3 r9_4 r9_5 r9_6 r9_7 r9_8 r9_9 =>
    if r9_2 < a1 then (nmB (v7_0 + 1) fun x11 =>
    mX4_firstJoined_L40 s_w s_h s_ranksA s_neighborsA a1 r6_0 fu x11 r9_0 r9_1 r9_2 r9_3 r9_4 r9_5 r9_6 r9_7 r9_8 r9_9)
    else (some (v7_0, r9_0, r9_1, r9_2, r9_3, r9_4, r9_5, r9_6, r9_7, r9_8, r9_9)))
def mX4_firstJoined (spread_waitingNumber : Int32) (spread_number : Int32) (spread_mostJoined : Int32) (spread_joinedTimes : Int32) (spread_joinedX : Int32) (spread_joinedY : Int32) (spread_reachedA : (Nat → Int32)) (spread_walkedXA : (Nat → Int32)) (spread_walkedYA : (Nat → Int32)) (spread_waitingA : (Nat → Int32)) (s_present : Int32) (s_w : Int32) (s_h : Int32) (s_ranksA : (Nat → Int32)) (s_neighborsA : (Nat → Int32)) (a1 : Int32) : Option (Int32 × Int32 × Int32 × Int32 × Int32 × Int32 × Int32 × (Nat → Int32) × (Nat → Int32) × (Nat → Int32) × (Nat → Int32)) :=
    jB (fun (j1_0 : Int32) =>
    gz j1_0 <|
    gz s_present <|
    bnd1 (mX3_area s_w s_h) fun r6_0 =>
    mX4_firstJoined_L40 s_w s_h s_ranksA s_neighborsA a1 r6_0 FU 1 spread_waitingNumber spread_number spread_mostJoined spread_joinedTimes spread_joinedX spread_joinedY spread_reachedA spread_walkedXA spread_walkedYA spread_waitingA) fun K1 =>
    if a1 = 1 then (K1 1)
    else (if a1 = 2 then (K1 1)
    else (K1 0))
def mX4_presentSlots (s0_present : Int32) (s1_present : Int32) (s2_present : Int32) : Option (Int32) :=
    jB (fun (j1_0 : Int32) =>
    jB (fun (j4_0 : Int32) =>
    jB (fun (j7_0 : Int32) =>
    some (j7_0)) fun K7 =>
    if s2_present = 0 then (K7 j4_0)
    else (nmB ((j4_0 ||| ((1 : Int32) <<< (2 &&& 31)))) fun x9 =>
    K7 x9)) fun K4 =>
    if s1_present = 0 then (K4 j1_0)
    else (nmB ((j1_0 ||| ((1 : Int32) <<< (1 &&& 31)))) fun x6 =>
    K4 x6)) fun K1 =>
    if s0_present = 0 then (K1 0)
    else (nmB (((0 : Int32) ||| ((1 : Int32) <<< (0 &&& 31)))) fun x3 =>
    K1 x3)
def mX4_inksOf (s0_present : Int32) (s0_tint : Int32) (s0_w : Int32) (s0_s : Int32) (s0_h : Int32) (s0_ranksA : (Nat → Int32)) (s1_present : Int32) (s1_tint : Int32) (s1_w : Int32) (s1_s : Int32) (s1_h : Int32) (s1_ranksA : (Nat → Int32)) (s2_present : Int32) (s2_tint : Int32) (s2_w : Int32) (s2_s : Int32) (s2_h : Int32) (s2_ranksA : (Nat → Int32)) (a0 : Int32) (a1 : Int32) : Option (Int32) :=
    jB (fun (j1_0 : Int32) =>
    jB (fun (j6_0 : Int32) =>
    jB (fun (j11_0 : Int32) =>
    some (j11_0)) fun K11 =>
    if s2_present = 0 then (K11 j6_0)
    else (bnd1 (mX3_inks s2_tint s2_w s2_s s2_h s2_ranksA a0 a1) fun r13_0 =>
    if r13_0 = 0 then (K11 j6_0)
    else (nmB ((j6_0 ||| ((1 : Int32) <<< (2 &&& 31)))) fun x15 =>
    K11 x15))) fun K6 =>
    if s1_present = 0 then (K6 j1_0)
    else (bnd1 (mX3_inks s1_tint s1_w s1_s s1_h s1_ranksA a0 a1) fun r8_0 =>
    if r8_0 = 0 then (K6 j1_0)
    else (nmB ((j1_0 ||| ((1 : Int32) <<< (1 &&& 31)))) fun x10 =>
    K6 x10))) fun K1 =>
    if s0_present = 0 then (K1 0)
    else (bnd1 (mX3_inks s0_tint s0_w s0_s s0_h s0_ranksA a0 a1) fun r3_0 =>
    if r3_0 = 0 then (K1 0)
    else (nmB (((0 : Int32) ||| ((1 : Int32) <<< (0 &&& 31)))) fun x5 =>
    K1 x5))
def mX4_pixel (s0_present : Int32) (s0_tint : Int32) (s0_w : Int32) (s0_s : Int32) (s0_h : Int32) (s0_ranksA : (Nat → Int32)) (s1_present : Int32) (s1_tint : Int32) (s1_w : Int32) (s1_s : Int32) (s1_h : Int32) (s1_ranksA : (Nat → Int32)) (s2_present : Int32) (s2_tint : Int32) (s2_w : Int32) (s2_s : Int32) (s2_h : Int32) (s2_ranksA : (Nat → Int32)) (a0 : Int32) (a1 : Int32) : Option (Int32) :=
    bnd1 (mX4_isPosition a0) fun r1_0 =>
    if r1_0 = 0 then (none)
    else (bnd1 (mX4_isPosition a1) fun r3_0 =>
    if r3_0 = 0 then (none)
    else (bnd1 (mX4_inksOf s0_present s0_tint s0_w s0_s s0_h s0_ranksA s1_present s1_tint s1_w s1_s s1_h s1_ranksA s2_present s2_tint s2_w s2_s s2_h s2_ranksA a0 a1) fun r5_0 =>
    some (r5_0)))
def mX4_count (x_gain : Int32) (input_length : Int32) (s0_present : Int32) (s0_tint : Int32) (s0_w : Int32) (s0_h : Int32) (s1_present : Int32) (s1_tint : Int32) (s1_w : Int32) (s1_h : Int32) (s2_present : Int32) (s2_tint : Int32) (s2_w : Int32) (s2_h : Int32) (a0 : Int32) : Option (Int32) :=
    jB (fun (j1_0 : Int32) =>
    gz j1_0 <|
    if a0 = 3 then (some (x_gain))
    else (if a0 = 4 then (some (input_length))
    else (jB (fun (j7_0 : Int32) =>
    jB (fun (j15_0 : Int32) =>
    jB (fun (j23_0 : Int32) =>
    some (j23_0)) fun K23 =>
    if s2_present = 0 then (K23 j15_0)
    else (if a0 = 0 then (nmB ((j15_0 + 1)) fun x30 =>
    K23 x30)
    else (if a0 = 1 then (bnd1 (mX3_area s2_w s2_h) fun r28_0 =>
    nmB ((j15_0 + r28_0)) fun x29 =>
    K23 x29)
    else (nmB ((j15_0 + s2_tint)) fun x27 =>
    K23 x27)))) fun K15 =>
    if s1_present = 0 then (K15 j7_0)
    else (if a0 = 0 then (nmB ((j7_0 + 1)) fun x22 =>
    K15 x22)
    else (if a0 = 1 then (bnd1 (mX3_area s1_w s1_h) fun r20_0 =>
    nmB ((j7_0 + r20_0)) fun x21 =>
    K15 x21)
    else (nmB ((j7_0 + s1_tint)) fun x19 =>
    K15 x19)))) fun K7 =>
    if s0_present = 0 then (K7 0)
    else (if a0 = 0 then (K7 1)
    else (if a0 = 1 then (bnd1 (mX3_area s0_w s0_h) fun r12_0 =>
    nmB ((0 + r12_0)) fun x13 =>
    K7 x13)
    else (nmB ((0 + s0_tint)) fun x11 =>
    K7 x11)))))) fun K1 =>
    if a0 < 0 then (K1 0)
    else (if 4 < a0 then (K1 0)
    else (K1 1))
def mX4_remove (x_gain : Int32) (input_length : Int32) (s0_present : Int32) (s0_tint : Int32) (s0_w : Int32) (s0_h : Int32) (s1_present : Int32) (s1_tint : Int32) (s1_w : Int32) (s1_h : Int32) (s2_present : Int32) (s2_tint : Int32) (s2_w : Int32) (s2_h : Int32) : Option (Int32 × Int32) :=
    gz s0_present <|
    bnd1 (mX4_count x_gain input_length 0 s0_tint s0_w s0_h s1_present s1_tint s1_w s1_h s2_present s2_tint s2_w s2_h 0) fun r2_0 =>
    some (r2_0, 0)
def mX4_removeb (x_gain : Int32) (input_length : Int32) (s0_present : Int32) (s0_tint : Int32) (s0_w : Int32) (s0_h : Int32) (s1_present : Int32) (s1_tint : Int32) (s1_w : Int32) (s1_h : Int32) (s2_present : Int32) (s2_tint : Int32) (s2_w : Int32) (s2_h : Int32) : Option (Int32 × Int32) :=
    gz s1_present <|
    bnd1 (mX4_count x_gain input_length s0_present s0_tint s0_w s0_h 0 s1_tint s1_w s1_h s2_present s2_tint s2_w s2_h 0) fun r2_0 =>
    some (r2_0, 0)
def mX4_removec (x_gain : Int32) (input_length : Int32) (s0_present : Int32) (s0_tint : Int32) (s0_w : Int32) (s0_h : Int32) (s1_present : Int32) (s1_tint : Int32) (s1_w : Int32) (s1_h : Int32) (s2_present : Int32) (s2_tint : Int32) (s2_w : Int32) (s2_h : Int32) : Option (Int32 × Int32) :=
    gz s2_present <|
    bnd1 (mX4_count x_gain input_length s0_present s0_tint s0_w s0_h s1_present s1_tint s1_w s1_h 0 s2_tint s2_w s2_h 0) fun r2_0 =>
    some (r2_0, 0)
def mX4_findPeriod (s0_w : Int32) (s0_s : Int32) (s0_h : Int32) (s1_w : Int32) (s1_s : Int32) (s1_h : Int32) (s2_w : Int32) (s2_s : Int32) (s2_h : Int32) (a0 : Int32) : Option (Int32 × Int32 × Int32) :=
    bnd3 (mX2_span 1 0 0 1 0) fun r1_0 r1_1 r1_2 =>
    jB (fun (j2_0 : Int32) (j2_1 : Int32) (j2_2 : Int32) =>
    jB (fun (j5_0 : Int32) (j5_1 : Int32) (j5_2 : Int32) =>
    jB (fun (j8_0 : Int32) (j8_1 : Int32) (j8_2 : Int32) =>
    some (j8_0, j8_1, j8_2)) fun K8 =>
    if ((a0 >>> (2 &&& 31)) &&& 1) = 1 then (bnd3 (mX2_keepCommon j5_0 j5_1 j5_2 s2_w s2_s s2_h) fun r10_0 r10_1 r10_2 =>
    K8 r10_0 r10_1 r10_2)
    else (K8 j5_0 j5_1 j5_2)) fun K5 =>
    if ((a0 >>> (1 &&& 31)) &&& 1) = 1 then (bnd3 (mX2_keepCommon j2_0 j2_1 j2_2 s1_w s1_s s1_h) fun r7_0 r7_1 r7_2 =>
    K5 r7_0 r7_1 r7_2)
    else (K5 j2_0 j2_1 j2_2)) fun K2 =>
    if ((a0 >>> (0 &&& 31)) &&& 1) = 1 then (bnd3 (mX2_keepCommon r1_0 r1_1 r1_2 s0_w s0_s s0_h) fun r4_0 r4_1 r4_2 =>
    K2 r4_0 r4_1 r4_2)
    else (K2 r1_0 r1_1 r1_2)
def mX4_period (s0_present : Int32) (s0_w : Int32) (s0_s : Int32) (s0_h : Int32) (s1_present : Int32) (s1_w : Int32) (s1_s : Int32) (s1_h : Int32) (s2_present : Int32) (s2_w : Int32) (s2_s : Int32) (s2_h : Int32) (a0 : Int32) (a1 : Int32) : Option (Int32 × Int32 × Int32 × Int32) :=
    jB (fun (j1_0 : Int32) =>
    gz j1_0 <|
    jB (fun (j5_0 : Int32) =>
    gz j5_0 <|
    bnd1 (mX4_presentSlots s0_present s1_present s2_present) fun r9_0 =>
    jB (fun (j10_0 : Int32) =>
    gz j10_0 <|
    bnd3 (mX4_findPeriod s0_w s0_s s0_h s1_w s1_s s1_h s2_w s2_s s2_h a0) fun r13_0 r13_1 r13_2 =>
    bnd1 (mX2_property r13_0 r13_1 r13_2 a1) fun r14_0 =>
    some (r14_0, r13_0, r13_1, r13_2)) fun K10 =>
    if (a0 &&& r9_0) = a0 then (K10 1)
    else (K10 0)) fun K5 =>
    if a1 < 0 then (K5 0)
    else (if 3 < a1 then (K5 0)
    else (K5 1))) fun K1 =>
    if a0 < 1 then (K1 0)
    else (if 8 ≤ a0 then (K1 0)
    else (K1 1))
def mX4_beat (s0_present : Int32) (s0_w : Int32) (s0_s : Int32) (s0_h : Int32) (a2 : Int32) : Option (Int32 × Int32 × Int32 × Int32) :=
    jB (fun (j1_0 : Int32) =>
    gz j1_0 <|
    jB (fun (j5_0 : Int32) =>
    gz j5_0 <|
    bnd3 (mX2_become s0_w s0_s s0_h) fun r9_0 r9_1 r9_2 =>
    bnd3 (mX2_addAll r9_0 r9_1 r9_2 s0_w s0_s s0_h) fun r10_0 r10_1 r10_2 =>
    bnd1 (mX2_property r10_0 r10_1 r10_2 a2) fun r11_0 =>
    some (r11_0, r10_0, r10_1, r10_2)) fun K5 =>
    if s0_present = 0 then (K5 0)
    else (if s0_present = 0 then (K5 0)
    else (K5 1))) fun K1 =>
    if a2 < 0 then (K1 0)
    else (if 3 < a2 then (K1 0)
    else (K1 1))
def mX4_beatv01 (s0_present : Int32) (s0_w : Int32) (s0_s : Int32) (s0_h : Int32) (s1_present : Int32) (s1_w : Int32) (s1_s : Int32) (s1_h : Int32) (a2 : Int32) : Option (Int32 × Int32 × Int32 × Int32) :=
    jB (fun (j1_0 : Int32) =>
    gz j1_0 <|
    jB (fun (j5_0 : Int32) =>
    gz j5_0 <|
    bnd3 (mX2_become s0_w s0_s s0_h) fun r9_0 r9_1 r9_2 =>
    bnd3 (mX2_addAll r9_0 r9_1 r9_2 s1_w s1_s s1_h) fun r10_0 r10_1 r10_2 =>
    bnd1 (mX2_property r10_0 r10_1 r10_2 a2) fun r11_0 =>
    some (r11_0, r10_0, r10_1, r10_2)) fun K5 =>
    if s0_present = 0 then (K5 0)
    else (if s1_present = 0 then (K5 0)
    else (K5 1))) fun K1 =>
    if a2 < 0 then (K1 0)
    else (if 3 < a2 then (K1 0)
    else (K1 1))
def mX4_beatv02 (s0_present : Int32) (s0_w : Int32) (s0_s : Int32) (s0_h : Int32) (s2_present : Int32) (s2_w : Int32) (s2_s : Int32) (s2_h : Int32) (a2 : Int32) : Option (Int32 × Int32 × Int32 × Int32) :=
    jB (fun (j1_0 : Int32) =>
    gz j1_0 <|
    jB (fun (j5_0 : Int32) =>
    gz j5_0 <|
    bnd3 (mX2_become s0_w s0_s s0_h) fun r9_0 r9_1 r9_2 =>
    bnd3 (mX2_addAll r9_0 r9_1 r9_2 s2_w s2_s s2_h) fun r10_0 r10_1 r10_2 =>
    bnd1 (mX2_property r10_0 r10_1 r10_2 a2) fun r11_0 =>
    some (r11_0, r10_0, r10_1, r10_2)) fun K5 =>
    if s0_present = 0 then (K5 0)
    else (if s2_present = 0 then (K5 0)
    else (K5 1))) fun K1 =>
    if a2 < 0 then (K1 0)
    else (if 3 < a2 then (K1 0)
    else (K1 1))
def mX4_beatv10 (s0_present : Int32) (s0_w : Int32) (s0_s : Int32) (s0_h : Int32) (s1_present : Int32) (s1_w : Int32) (s1_s : Int32) (s1_h : Int32) (a2 : Int32) : Option (Int32 × Int32 × Int32 × Int32) :=
    jB (fun (j1_0 : Int32) =>
    gz j1_0 <|
    jB (fun (j5_0 : Int32) =>
    gz j5_0 <|
    bnd3 (mX2_become s1_w s1_s s1_h) fun r9_0 r9_1 r9_2 =>
    bnd3 (mX2_addAll r9_0 r9_1 r9_2 s0_w s0_s s0_h) fun r10_0 r10_1 r10_2 =>
    bnd1 (mX2_property r10_0 r10_1 r10_2 a2) fun r11_0 =>
    some (r11_0, r10_0, r10_1, r10_2)) fun K5 =>
    if s1_present = 0 then (K5 0)
    else (if s0_present = 0 then (K5 0)
    else (K5 1))) fun K1 =>
    if a2 < 0 then (K1 0)
    else (if 3 < a2 then (K1 0)
    else (K1 1))
def mX4_beatv11 (s1_present : Int32) (s1_w : Int32) (s1_s : Int32) (s1_h : Int32) (a2 : Int32) : Option (Int32 × Int32 × Int32 × Int32) :=
    jB (fun (j1_0 : Int32) =>
    gz j1_0 <|
    jB (fun (j5_0 : Int32) =>
    gz j5_0 <|
    bnd3 (mX2_become s1_w s1_s s1_h) fun r9_0 r9_1 r9_2 =>
    bnd3 (mX2_addAll r9_0 r9_1 r9_2 s1_w s1_s s1_h) fun r10_0 r10_1 r10_2 =>
    bnd1 (mX2_property r10_0 r10_1 r10_2 a2) fun r11_0 =>
    some (r11_0, r10_0, r10_1, r10_2)) fun K5 =>
    if s1_present = 0 then (K5 0)
    else (if s1_present = 0 then (K5 0)
    else (K5 1))) fun K1 =>
    if a2 < 0 then (K1 0)
    else (if 3 < a2 then (K1 0)
    else (K1 1))
def mX4_beatv12 (s1_present : Int32) (s1_w : Int32) (s1_s : Int32) (s1_h : Int32) (s2_present : Int32) (s2_w : Int32) (s2_s : Int32) (s2_h : Int32) (a2 : Int32) : Option (Int32 × Int32 × Int32 × Int32) :=
    jB (fun (j1_0 : Int32) =>
    gz j1_0 <|
    jB (fun (j5_0 : Int32) =>
    gz j5_0 <|
    bnd3 (mX2_become s1_w s1_s s1_h) fun r9_0 r9_1 r9_2 =>
    bnd3 (mX2_addAll r9_0 r9_1 r9_2 s2_w s2_s s2_h) fun r10_0 r10_1 r10_2 =>
    bnd1 (mX2_property r10_0 r10_1 r10_2 a2) fun r11_0 =>
    some (r11_0, r10_0, r10_1, r10_2)) fun K5 =>
    if s1_present = 0 then (K5 0)
    else (if s2_present = 0 then (K5 0)
    else (K5 1))) fun K1 =>
    if a2 < 0 then (K1 0)
    else (if 3 < a2 then (K1 0)
    else (K1 1))
def mX4_beatv20 (s0_present : Int32) (s0_w : Int32) (s0_s : Int32) (s0_h : Int32) (s2_present : Int32) (s2_w : Int32) (s2_s : Int32) (s2_h : Int32) (a2 : Int32) : Option (Int32 × Int32 × Int32 × Int32) :=
    jB (fun (j1_0 : Int32) =>
    gz j1_0 <|
    jB (fun (j5_0 : Int32) =>
    gz j5_0 <|
    bnd3 (mX2_become s2_w s2_s s2_h) fun r9_0 r9_1 r9_2 =>
    bnd3 (mX2_addAll r9_0 r9_1 r9_2 s0_w s0_s s0_h) fun r10_0 r10_1 r10_2 =>
    bnd1 (mX2_property r10_0 r10_1 r10_2 a2) fun r11_0 =>
    some (r11_0, r10_0, r10_1, r10_2)) fun K5 =>
    if s2_present = 0 then (K5 0)
    else (if s0_present = 0 then (K5 0)
    else (K5 1))) fun K1 =>
    if a2 < 0 then (K1 0)
    else (if 3 < a2 then (K1 0)
    else (K1 1))
def mX4_beatv21 (s1_present : Int32) (s1_w : Int32) (s1_s : Int32) (s1_h : Int32) (s2_present : Int32) (s2_w : Int32) (s2_s : Int32) (s2_h : Int32) (a2 : Int32) : Option (Int32 × Int32 × Int32 × Int32) :=
    jB (fun (j1_0 : Int32) =>
    gz j1_0 <|
    jB (fun (j5_0 : Int32) =>
    gz j5_0 <|
    bnd3 (mX2_become s2_w s2_s s2_h) fun r9_0 r9_1 r9_2 =>
    bnd3 (mX2_addAll r9_0 r9_1 r9_2 s1_w s1_s s1_h) fun r10_0 r10_1 r10_2 =>
    bnd1 (mX2_property r10_0 r10_1 r10_2 a2) fun r11_0 =>
    some (r11_0, r10_0, r10_1, r10_2)) fun K5 =>
    if s2_present = 0 then (K5 0)
    else (if s1_present = 0 then (K5 0)
    else (K5 1))) fun K1 =>
    if a2 < 0 then (K1 0)
    else (if 3 < a2 then (K1 0)
    else (K1 1))
def mX4_beatv22 (s2_present : Int32) (s2_w : Int32) (s2_s : Int32) (s2_h : Int32) (a2 : Int32) : Option (Int32 × Int32 × Int32 × Int32) :=
    jB (fun (j1_0 : Int32) =>
    gz j1_0 <|
    jB (fun (j5_0 : Int32) =>
    gz j5_0 <|
    bnd3 (mX2_become s2_w s2_s s2_h) fun r9_0 r9_1 r9_2 =>
    bnd3 (mX2_addAll r9_0 r9_1 r9_2 s2_w s2_s s2_h) fun r10_0 r10_1 r10_2 =>
    bnd1 (mX2_property r10_0 r10_1 r10_2 a2) fun r11_0 =>
    some (r11_0, r10_0, r10_1, r10_2)) fun K5 =>
    if s2_present = 0 then (K5 0)
    else (if s2_present = 0 then (K5 0)
    else (K5 1))) fun K1 =>
    if a2 < 0 then (K1 0)
    else (if 3 < a2 then (K1 0)
    else (K1 1))
def mX4_mixture_L81 (s0_present : Int32) (s0_tint : Int32) (s0_w : Int32) (s0_s : Int32) (s0_h : Int32) (s0_ranksA : (Nat → Int32)) (s1_present : Int32) (s1_tint : Int32) (s1_w : Int32) (s1_s : Int32) (s1_h : Int32) (s1_ranksA : (Nat → Int32)) (s2_present : Int32) (s2_tint : Int32) (s2_w : Int32) (s2_s : Int32) (s2_h : Int32) (s2_ranksA : (Nat → Int32)) (a0 : Int32) (r9_0 : Int32) (v14_0 : Int32) : Nat → Int32 → Int32 → Option (Int32 × Int32)
  | 0, _, _ => none
  | fu + 1, v16_0, v16_1 =>
    if r9_0 ≤ v16_0 then (some (v16_0, v16_1))
    else (bnd1 (mX4_inksOf s0_present s0_tint s0_w s0_s s0_h s0_ranksA s1_present s1_tint s1_w s1_s s1_h s1_ranksA s2_present s2_tint s2_w s2_s s2_h s2_ranksA v16_0 v14_0) fun r18_0 =>
    if r18_0 = a0 then (nmB (v16_1 + 1) fun x21 =>
    nmB (v16_0 + 1) fun x22 =>
    mX4_mixture_L81 s0_present s0_tint s0_w s0_s s0_h s0_ranksA s1_present s1_tint s1_w s1_s s1_h s1_ranksA s2_present s2_tint s2_w s2_s s2_h s2_ranksA a0 r9_0 v14_0 fu x22 x21)
    else (nmB (v16_0 + 1) fun x20 =>
    mX4_mixture_L81 s0_present s0_tint s0_w s0_s s0_h s0_ranksA s1_present s1_tint s1_w s1_s s1_h s1_ranksA s2_present s2_tint s2_w s2_s s2_h s2_ranksA a0 r9_0 v14_0 fu x20 v16_1))
def mX4_mixture_L66 (s0_present : Int32) (s0_tint : Int32) (s0_w : Int32) (s0_s : Int32) (s0_h : Int32) (s0_ranksA : (Nat → Int32)) (s1_present : Int32) (s1_tint : Int32) (s1_w : Int32) (s1_s : Int32) (s1_h : Int32) (s1_ranksA : (Nat → Int32)) (s2_present : Int32) (s2_tint : Int32) (s2_w : Int32) (s2_s : Int32) (s2_h : Int32) (s2_ranksA : (Nat → Int32)) (a0 : Int32) (r9_0 : Int32) (r9_2 : Int32) : Nat → Int32 → Int32 → Option (Int32 × Int32)
  | 0, _, _ => none
  | fu + 1, v14_0, v14_1 =>
    if r9_2 ≤ v14_0 then (some (v14_0, v14_1))
    else (bnd2 (mX4_mixture_L81 s0_present s0_tint s0_w s0_s s0_h s0_ranksA s1_present s1_tint s1_w s1_s s1_h s1_ranksA s2_present s2_tint s2_w s2_s s2_h s2_ranksA a0 r9_0 v14_0 FU 0 v14_1) fun u16_0 u16_1 =>
    nmB (v14_0 + 1) fun x23 =>
    mX4_mixture_L66 s0_present s0_tint s0_w s0_s s0_h s0_ranksA s1_present s1_tint s1_w s1_s s1_h s1_ranksA s2_present s2_tint s2_w s2_s s2_h s2_ranksA a0 r9_0 r9_2 fu x23 u16_1)
def mX4_mixture (s0_present : Int32) (s0_tint : Int32) (s0_w : Int32) (s0_s : Int32) (s0_h : Int32) (s0_ranksA : (Nat → Int32)) (s1_present : Int32) (s1_tint : Int32) (s1_w : Int32) (s1_s : Int32) (s1_h : Int32) (s1_ranksA : (Nat → Int32)) (s2_present : Int32) (s2_tint : Int32) (s2_w : Int32) (s2_s : Int32) (s2_h : Int32) (s2_ranksA : (Nat → Int32)) (a0 : Int32) : Option (Int32 × Int32 × Int32 × Int32) :=
    jB (fun (j1_0 : Int32) =>
    gz j1_0 <|
    bnd1 (mX4_presentSlots s0_present s1_present s2_present) fun r5_0 =>
    jB (fun (j6_0 : Int32) =>
    gz j6_0 <|
    bnd3 (mX4_findPeriod s0_w s0_s s0_h s1_w s1_s s1_h s2_w s2_s s2_h r5_0) fun r9_0 r9_1 r9_2 =>
    bnd1 (mX2_area r9_0 r9_2) fun r10_0 =>
    jB (fun (j11_0 : Int32) =>
    gz j11_0 <|
    bnd2 (mX4_mixture_L66 s0_present s0_tint s0_w s0_s s0_h s0_ranksA s1_present s1_tint s1_w s1_s s1_h s1_ranksA s2_present s2_tint s2_w s2_s s2_h s2_ranksA a0 r9_0 r9_2 FU 0 0) fun u14_0 u14_1 =>
    some (u14_1, r9_0, r9_1, r9_2)) fun K11 =>
    if 4096 < r10_0 then (K11 0)
    else (K11 1)) fun K6 =>
    if r5_0 = 0 then (K6 0)
    else (K6 1)) fun K1 =>
    if a0 < 0 then (K1 0)
    else (if 8 ≤ a0 then (K1 0)
    else (K1 1))
def mX4_nearest_L81 (a0 : Int32) (a1 : Int32) (a2 : Int32) (v13_0 : Int32) : Nat → Int32 → Int32 → Int32 → Option (Int32 × Int32 × Int32)
  | 0, _, _, _ => none
  | fu + 1, v15_0, v15_1, v15_2 =>
    if 8 < v15_0 then (some (v15_0, v15_1, v15_2))
    else (if a2 < ((v13_0 * v13_0) + (v15_0 * v15_0)) then (nmB (v15_0 + 1) fun x18 =>
    mX4_nearest_L81 a0 a1 a2 v13_0 fu x18 v15_1 v15_2)
    else (bnd1 (mX4_isNearer v13_0 v15_0 v15_2 v15_1 a0 a1) fun r19_0 =>
    if r19_0 = 0 then (nmB (v15_0 + 1) fun x21 =>
    mX4_nearest_L81 a0 a1 a2 v13_0 fu x21 v15_1 v15_2)
    else (nmB (v15_0 + 1) fun x22 =>
    mX4_nearest_L81 a0 a1 a2 v13_0 fu x22 v15_0 v13_0)))
def mX4_nearest_L71 (a0 : Int32) (a1 : Int32) (a2 : Int32) : Nat → Int32 → Int32 → Int32 → Option (Int32 × Int32 × Int32)
  | 0, _, _, _ => none
  | fu + 1, v13_0, v13_1, v13_2 =>
    if 8 < v13_0 then (some (v13_0, v13_1, v13_2))
    else (bnd3 (mX4_nearest_L81 a0 a1 a2 v13_0 FU 0 v13_1 v13_2) fun u15_0 u15_1 u15_2 =>
    nmB (v13_0 + 1) fun x23 =>
    mX4_nearest_L71 a0 a1 a2 fu x23 u15_1 u15_2)
def mX4_nearest (a0 : Int32) (a1 : Int32) (a2 : Int32) (a3 : Int32) : Option (Int32) :=
    jB (fun (j1_0 : Int32) =>
    gz j1_0 <|
    jB (fun (j7_0 : Int32) =>
    gz j7_0 <|
    bnd3 (mX4_nearest_L71 a0 a1 a2 FU 1 0 1) fun u13_0 u13_1 u13_2 =>
    if a3 = 2 then (some ((if 0 ≤ ((u13_2 * a0) - (u13_1 * a1)) then ((u13_2 * a0) - (u13_1 * a1)) else 0 - ((u13_2 * a0) - (u13_1 * a1)))))
    else (if a3 = 0 then (some (u13_2))
    else (some (u13_1)))) fun K7 =>
    if a2 < 1 then (K7 0)
    else (if 128 < a2 then (K7 0)
    else (if a3 < 0 then (K7 0)
    else (if 2 < a3 then (K7 0)
    else (K7 1))))) fun K1 =>
    if a0 < 0 then (K1 0)
    else (if 1000 < a0 then (K1 0)
    else (if a1 < 1 then (K1 0)
    else (if 1000 < a1 then (K1 0)
    else (K1 1))))
def mX4_mixPair_L30 (s0_present : Int32) (s0_w : Int32) (s0_s : Int32) (s0_h : Int32) (s1_present : Int32) (s1_w : Int32) (s1_s : Int32) (s1_h : Int32) (s2_present : Int32) (s2_w : Int32) (s2_s : Int32) (s2_h : Int32) (x1 : Int32) : Nat → Int32 → Int64 → Int32 → Int32 → Int32 → Option (Int32 × Int64 × Int32 × Int32 × Int32)
  | 0, _, _, _, _, _ => none
  | fu + 1, v4_0, v4_1, v4_2, v4_3, v4_4 =>
    if 3 < v4_0 then (some (v4_0, v4_1, v4_2, v4_3, v4_4))
    else (bnd4 (mX4_period s0_present s0_w s0_s s0_h s1_present s1_w s1_s s1_h s2_present s2_w s2_s s2_h x1 v4_0) fun r6_0 r6_1 r6_2 r6_3 =>
    bnd1 (mX4_mix v4_1 r6_0.toInt64) fun r7_0 =>
    nmB (v4_0 + 1) fun x8 =>
    mX4_mixPair_L30 s0_present s0_w s0_s s0_h s1_present s1_w s1_s s1_h s2_present s2_w s2_s s2_h x1 fu x8 r7_0 r6_1 r6_2 r6_3)
def mX4_mixPair_L61 (s0_present : Int32) (s0_w : Int32) (s0_s : Int32) (s0_h : Int32) (s1_present : Int32) (s1_w : Int32) (s1_s : Int32) (s1_h : Int32) : Nat → Int32 → Int64 → Int32 → Int32 → Int32 → Option (Int32 × Int64 × Int32 × Int32 × Int32)
  | 0, _, _, _, _, _ => none
  | fu + 1, v9_0, v9_1, v9_2, v9_3, v9_4 =>
    if 3 < v9_0 then (some (v9_0, v9_1, v9_2, v9_3, v9_4))
    else (bnd4 (mX4_beatv01 s0_present s0_w s0_s s0_h s1_present s1_w s1_s s1_h v9_0) fun r11_0 r11_1 r11_2 r11_3 =>
    bnd1 (mX4_mix v9_1 r11_0.toInt64) fun r12_0 =>
    nmB (v9_0 + 1) fun x13 =>
    mX4_mixPair_L61 s0_present s0_w s0_s s0_h s1_present s1_w s1_s s1_h fu x13 r12_0 r11_1 r11_2 r11_3)
def mX4_mixPair (found_w : Int32) (found_s : Int32) (found_h : Int32) (s0_present : Int32) (s0_w : Int32) (s0_s : Int32) (s0_h : Int32) (s1_present : Int32) (s1_w : Int32) (s1_s : Int32) (s1_h : Int32) (s2_present : Int32) (s2_w : Int32) (s2_s : Int32) (s2_h : Int32) (a0 : Int64) : Option (Int64 × Int32 × Int32 × Int32) :=
    nmB ((((1 : Int32) <<< (0 &&& 31)) ||| ((1 : Int32) <<< (1 &&& 31)))) fun x1 =>
    bnd1 (mX4_presentSlots s0_present s1_present s2_present) fun r2_0 =>
    if (x1 &&& r2_0) = x1 then (bnd5 (mX4_mixPair_L30 s0_present s0_w s0_s s0_h s1_present s1_w s1_s s1_h s2_present s2_w s2_s s2_h x1 FU 0 a0 found_w found_s found_h) fun u4_0 u4_1 u4_2 u4_3 u4_4 =>
    bnd5 (mX4_mixPair_L61 s0_present s0_w s0_s s0_h s1_present s1_w s1_s s1_h FU 0 u4_1 u4_2 u4_3 u4_4) fun u9_0 u9_1 u9_2 u9_3 u9_4 =>
    some (u9_1, u9_2, u9_3, u9_4))
    else (some (a0, found_w, found_s, found_h))
def mX4_mixPairv02_L30 (s0_present : Int32) (s0_w : Int32) (s0_s : Int32) (s0_h : Int32) (s1_present : Int32) (s1_w : Int32) (s1_s : Int32) (s1_h : Int32) (s2_present : Int32) (s2_w : Int32) (s2_s : Int32) (s2_h : Int32) (x1 : Int32) : Nat → Int32 → Int64 → Int32 → Int32 → Int32 → Option (Int32 × Int64 × Int32 × Int32 × Int32)
  | 0, _, _, _, _, _ => none
  | fu + 1, v4_0, v4_1, v4_2, v4_3, v4_4 =>
    if 3 < v4_0 then (some (v4_0, v4_1, v4_2, v4_3, v4_4))
    else (bnd4 (mX4_period s0_present s0_w s0_s s0_h s1_present s1_w s1_s s1_h s2_present s2_w s2_s s2_h x1 v4_0) fun r6_0 r6_1 r6_2 r6_3 =>
    bnd1 (mX4_mix v4_1 r6_0.toInt64) fun r7_0 =>
    nmB (v4_0 + 1) fun x8 =>
    mX4_mixPairv02_L30 s0_present s0_w s0_s s0_h s1_present s1_w s1_s s1_h s2_present s2_w s2_s s2_h x1 fu x8 r7_0 r6_1 r6_2 r6_3)
def mX4_mixPairv02_L61 (s0_present : Int32) (s0_w : Int32) (s0_s : Int32) (s0_h : Int32) (s2_present : Int32) (s2_w : Int32) (s2_s : Int32) (s2_h : Int32) : Nat → Int32 → Int64 → Int32 → Int32 → Int32 → Option (Int32 × Int64 × Int32 × Int32 × Int32)
  | 0, _, _, _, _, _ => none
  | fu + 1, v9_0, v9_1, v9_2, v9_3, v9_4 =>
    if 3 < v9_0 then (some (v9_0, v9_1, v9_2, v9_3, v9_4))
    else (bnd4 (mX4_beatv02 s0_present s0_w s0_s s0_h s2_present s2_w s2_s s2_h v9_0) fun r11_0 r11_1 r11_2 r11_3 =>
    bnd1 (mX4_mix v9_1 r11_0.toInt64) fun r12_0 =>
    nmB (v9_0 + 1) fun x13 =>
    mX4_mixPairv02_L61 s0_present s0_w s0_s s0_h s2_present s2_w s2_s s2_h fu x13 r12_0 r11_1 r11_2 r11_3)
def mX4_mixPairv02 (found_w : Int32) (found_s : Int32) (found_h : Int32) (s0_present : Int32) (s0_w : Int32) (s0_s : Int32) (s0_h : Int32) (s1_present : Int32) (s1_w : Int32) (s1_s : Int32) (s1_h : Int32) (s2_present : Int32) (s2_w : Int32) (s2_s : Int32) (s2_h : Int32) (a0 : Int64) : Option (Int64 × Int32 × Int32 × Int32) :=
    nmB ((((1 : Int32) <<< (0 &&& 31)) ||| ((1 : Int32) <<< (2 &&& 31)))) fun x1 =>
    bnd1 (mX4_presentSlots s0_present s1_present s2_present) fun r2_0 =>
    if (x1 &&& r2_0) = x1 then (bnd5 (mX4_mixPairv02_L30 s0_present s0_w s0_s s0_h s1_present s1_w s1_s s1_h s2_present s2_w s2_s s2_h x1 FU 0 a0 found_w found_s found_h) fun u4_0 u4_1 u4_2 u4_3 u4_4 =>
    bnd5 (mX4_mixPairv02_L61 s0_present s0_w s0_s s0_h s2_present s2_w s2_s s2_h FU 0 u4_1 u4_2 u4_3 u4_4) fun u9_0 u9_1 u9_2 u9_3 u9_4 =>
    some (u9_1, u9_2, u9_3, u9_4))
    else (some (a0, found_w, found_s, found_h))
def mX4_mixPairv12_L30 (s0_present : Int32) (s0_w : Int32) (s0_s : Int32) (s0_h : Int32) (s1_present : Int32) (s1_w : Int32) (s1_s : Int32) (s1_h : Int32) (s2_present : Int32) (s2_w : Int32) (s2_s : Int32) (s2_h : Int32) (x1 : Int32) : Nat → Int32 → Int64 → Int32 → Int32 → Int32 → Option (Int32 × Int64 × Int32 × Int32 × Int32)
  | 0, _, _, _, _, _ => none
  | fu + 1, v4_0, v4_1, v4_2, v4_3, v4_4 =>
    if 3 < v4_0 then (some (v4_0, v4_1, v4_2, v4_3, v4_4))
    else (bnd4 (mX4_period s0_present s0_w s0_s s0_h s1_present s1_w s1_s s1_h s2_present s2_w s2_s s2_h x1 v4_0) fun r6_0 r6_1 r6_2 r6_3 =>
    bnd1 (mX4_mix v4_1 r6_0.toInt64) fun r7_0 =>
    nmB (v4_0 + 1) fun x8 =>
    mX4_mixPairv12_L30 s0_present s0_w s0_s s0_h s1_present s1_w s1_s s1_h s2_present s2_w s2_s s2_h x1 fu x8 r7_0 r6_1 r6_2 r6_3)
def mX4_mixPairv12_L61 (s1_present : Int32) (s1_w : Int32) (s1_s : Int32) (s1_h : Int32) (s2_present : Int32) (s2_w : Int32) (s2_s : Int32) (s2_h : Int32) : Nat → Int32 → Int64 → Int32 → Int32 → Int32 → Option (Int32 × Int64 × Int32 × Int32 × Int32)
  | 0, _, _, _, _, _ => none
  | fu + 1, v9_0, v9_1, v9_2, v9_3, v9_4 =>
    if 3 < v9_0 then (some (v9_0, v9_1, v9_2, v9_3, v9_4))
    else (bnd4 (mX4_beatv12 s1_present s1_w s1_s s1_h s2_present s2_w s2_s s2_h v9_0) fun r11_0 r11_1 r11_2 r11_3 =>
    bnd1 (mX4_mix v9_1 r11_0.toInt64) fun r12_0 =>
    nmB (v9_0 + 1) fun x13 =>
    mX4_mixPairv12_L61 s1_present s1_w s1_s s1_h s2_present s2_w s2_s s2_h fu x13 r12_0 r11_1 r11_2 r11_3)
def mX4_mixPairv12 (found_w : Int32) (found_s : Int32) (found_h : Int32) (s0_present : Int32) (s0_w : Int32) (s0_s : Int32) (s0_h : Int32) (s1_present : Int32) (s1_w : Int32) (s1_s : Int32) (s1_h : Int32) (s2_present : Int32) (s2_w : Int32) (s2_s : Int32) (s2_h : Int32) (a0 : Int64) : Option (Int64 × Int32 × Int32 × Int32) :=
    nmB ((((1 : Int32) <<< (1 &&& 31)) ||| ((1 : Int32) <<< (2 &&& 31)))) fun x1 =>
    bnd1 (mX4_presentSlots s0_present s1_present s2_present) fun r2_0 =>
    if (x1 &&& r2_0) = x1 then (bnd5 (mX4_mixPairv12_L30 s0_present s0_w s0_s s0_h s1_present s1_w s1_s s1_h s2_present s2_w s2_s s2_h x1 FU 0 a0 found_w found_s found_h) fun u4_0 u4_1 u4_2 u4_3 u4_4 =>
    bnd5 (mX4_mixPairv12_L61 s1_present s1_w s1_s s1_h s2_present s2_w s2_s s2_h FU 0 u4_1 u4_2 u4_3 u4_4) fun u9_0 u9_1 u9_2 u9_3 u9_4 =>
    some (u9_1, u9_2, u9_3, u9_4))
    else (some (a0, found_w, found_s, found_h))
def mX4_mixScreen_L27 (s_a : Int32) (s_b : Int32) (s_c : Int32) (s_d : Int32) (s_spot : Int32) (s_middle : Int32) (s_tint : Int32) (s_w : Int32) (s_s : Int32) (s_h : Int32) : Nat → Int32 → Int64 → Option (Int32 × Int64)
  | 0, _, _ => none
  | fu + 1, v3_0, v3_1 =>
    if 10 < v3_0 then (some (v3_0, v3_1))
    else (bnd1 (mX3_property s_a s_b s_c s_d s_spot s_middle s_tint s_w s_s s_h v3_0) fun r5_0 =>
    bnd1 (mX4_mix v3_1 r5_0.toInt64) fun r6_0 =>
    nmB (v3_0 + 1) fun x7 =>
    mX4_mixScreen_L27 s_a s_b s_c s_d s_spot s_middle s_tint s_w s_s s_h fu x7 r6_0)
def mX4_mixScreen_L57 (s_w : Int32) (s_h : Int32) (s_valuesA : (Nat → Int32)) (s_ranksA : (Nat → Int32)) : Nat → Int32 → Int64 → Option (Int32 × Int64)
  | 0, _, _ => none
  | fu + 1, v8_0, v8_1 =>
    bnd1 (mX3_area s_w s_h) fun r9_0 =>
    if r9_0 ≤ v8_0 then (some (v8_0, v8_1))
    else (bnd1 (mX4_at 64 s_valuesA v8_0) fun r11_0 =>
    bnd1 (mX4_mix v8_1 r11_0.toInt64) fun r12_0 =>
    bnd1 (mX4_at 64 s_ranksA v8_0) fun r13_0 =>
    bnd1 (mX4_mix r12_0 r13_0.toInt64) fun r14_0 =>
    nmB (v8_0 + 1) fun x15 =>
    mX4_mixScreen_L57 s_w s_h s_valuesA s_ranksA fu x15 r14_0)
def mX4_mixScreen (x_gain : Int32) (spread_waitingNumber : Int32) (spread_number : Int32) (spread_mostJoined : Int32) (spread_joinedTimes : Int32) (spread_joinedX : Int32) (spread_joinedY : Int32) (spread_reachedA : (Nat → Int32)) (spread_walkedXA : (Nat → Int32)) (spread_walkedYA : (Nat → Int32)) (spread_waitingA : (Nat → Int32)) (s_present : Int32) (s_a : Int32) (s_b : Int32) (s_c : Int32) (s_d : Int32) (s_spot : Int32) (s_middle : Int32) (s_tint : Int32) (s_w : Int32) (s_s : Int32) (s_h : Int32) (s_valuesA : (Nat → Int32)) (s_ranksA : (Nat → Int32)) (s_neighborsA : (Nat → Int32)) (a0 : Int64) : Option (Int64 × Int32 × Int32 × Int32 × Int32 × Int32 × Int32 × (Nat → Int32) × (Nat → Int32) × (Nat → Int32) × (Nat → Int32)) :=
    if s_present = 0 then (bnd1 (mX4_mix a0 0) fun r21_0 =>
    some (r21_0, spread_waitingNumber, spread_number, spread_mostJoined, spread_joinedTimes, spread_joinedX, spread_joinedY, spread_reachedA, spread_walkedXA, spread_walkedYA, spread_waitingA))
    else (bnd1 (mX4_mix a0 1) fun r2_0 =>
    bnd2 (mX4_mixScreen_L27 s_a s_b s_c s_d s_spot s_middle s_tint s_w s_s s_h FU 0 r2_0) fun u3_0 u3_1 =>
    bnd2 (mX4_mixScreen_L57 s_w s_h s_valuesA s_ranksA FU 0 u3_1) fun u8_0 u8_1 =>
    bnd10 (mX0_examine spread_waitingNumber spread_joinedTimes spread_joinedX spread_joinedY spread_reachedA spread_walkedXA spread_walkedYA spread_waitingA s_w s_h s_ranksA s_neighborsA s_tint) fun r16_0 r16_1 r16_2 r16_3 r16_4 r16_5 r16_6 r16_7 r16_8 r16_9 =>
    bnd1 (mX4_mix u8_1 r16_1.toInt64) fun r17_0 =>
    bnd1 (mX4_mix r17_0 r16_2.toInt64) fun r18_0 =>
    bnd1 (mX3_strengthOf s_w s_h s_ranksA s_neighborsA s_tint x_gain) fun r19_0 =>
    bnd1 (mX4_mix r18_0 r19_0.toInt64) fun r20_0 =>
    some (r20_0, r16_0, r16_1, r16_2, r16_3, r16_4, r16_5, r16_6, r16_7, r16_8, r16_9))
def mX4_digest_L108 (input_length : Int32) (input_codesA : (Nat → Int32)) : Nat → Int32 → Int64 → Option (Int32 × Int64)
  | 0, _, _ => none
  | fu + 1, v20_0, v20_1 =>
    if input_length ≤ v20_0 then (some (v20_0, v20_1))
    else (bnd1 (mX4_at 20 input_codesA v20_0) fun r22_0 =>
    bnd1 (mX4_mix v20_1 r22_0.toInt64) fun r23_0 =>
    nmB (v20_0 + 1) fun x24 =>
    mX4_digest_L108 input_length input_codesA fu x24 r23_0)
def mX4_digest (x_gain : Int32) (input_length : Int32) (input_codesA : (Nat → Int32)) (spread_waitingNumber : Int32) (spread_number : Int32) (spread_mostJoined : Int32) (spread_joinedTimes : Int32) (spread_joinedX : Int32) (spread_joinedY : Int32) (spread_reachedA : (Nat → Int32)) (spread_walkedXA : (Nat → Int32)) (spread_walkedYA : (Nat → Int32)) (spread_waitingA : (Nat → Int32)) (found_w : Int32) (found_s : Int32) (found_h : Int32) (s0_present : Int32) (s0_a : Int32) (s0_b : Int32) (s0_c : Int32) (s0_d : Int32) (s0_spot : Int32) (s0_middle : Int32) (s0_tint : Int32) (s0_w : Int32) (s0_s : Int32) (s0_h : Int32) (s0_valuesA : (Nat → Int32)) (s0_ranksA : (Nat → Int32)) (s0_neighborsA : (Nat → Int32)) (s1_present : Int32) (s1_a : Int32) (s1_b : Int32) (s1_c : Int32) (s1_d : Int32) (s1_spot : Int32) (s1_middle : Int32) (s1_tint : Int32) (s1_w : Int32) (s1_s : Int32) (s1_h : Int32) (s1_valuesA : (Nat → Int32)) (s1_ranksA : (Nat → Int32)) (s1_neighborsA : (Nat → Int32)) (s2_present : Int32) (s2_a : Int32) (s2_b : Int32) (s2_c : Int32) (s2_d : Int32) (s2_spot : Int32) (s2_middle : Int32) (s2_tint : Int32) (s2_w : Int32) (s2_s : Int32) (s2_h : Int32) (s2_valuesA : (Nat → Int32)) (s2_ranksA : (Nat → Int32)) (s2_neighborsA : (Nat → Int32)) : Option (Int64 × Int32 × Int32 × Int32 × Int32 × Int32 × Int32 × (Nat → Int32) × (Nat → Int32) × (Nat → Int32) × (Nat → Int32) × Int32 × Int32 × Int32) :=
    bnd1 (mX4_count x_gain input_length s0_present s0_tint s0_w s0_h s1_present s1_tint s1_w s1_h s2_present s2_tint s2_w s2_h 0) fun r1_0 =>
    bnd1 (mX4_mix 1951 r1_0.toInt64) fun r2_0 =>
    bnd1 (mX4_count x_gain input_length s0_present s0_tint s0_w s0_h s1_present s1_tint s1_w s1_h s2_present s2_tint s2_w s2_h 1) fun r3_0 =>
    bnd1 (mX4_mix r2_0 r3_0.toInt64) fun r4_0 =>
    bnd1 (mX4_count x_gain input_length s0_present s0_tint s0_w s0_h s1_present s1_tint s1_w s1_h s2_present s2_tint s2_w s2_h 2) fun r5_0 =>
    bnd1 (mX4_mix r4_0 r5_0.toInt64) fun r6_0 =>
    bnd1 (mX4_count x_gain input_length s0_present s0_tint s0_w s0_h s1_present s1_tint s1_w s1_h s2_present s2_tint s2_w s2_h 3) fun r7_0 =>
    bnd1 (mX4_mix r6_0 r7_0.toInt64) fun r8_0 =>
    bnd1 (mX4_count x_gain input_length s0_present s0_tint s0_w s0_h s1_present s1_tint s1_w s1_h s2_present s2_tint s2_w s2_h 4) fun r9_0 =>
    bnd1 (mX4_mix r8_0 r9_0.toInt64) fun r10_0 =>
    bnd11 (mX4_mixScreen x_gain spread_waitingNumber spread_number spread_mostJoined spread_joinedTimes spread_joinedX spread_joinedY spread_reachedA spread_walkedXA spread_walkedYA spread_waitingA s0_present s0_a s0_b s0_c s0_d s0_spot s0_middle s0_tint s0_w s0_s s0_h s0_valuesA s0_ranksA s0_neighborsA r10_0) fun r11_0 r11_1 r11_2 r11_3 r11_4 r11_5 r11_6 r11_7 r11_8 r11_9 r11_10 =>
    bnd11 (mX4_mixScreen x_gain r11_1 r11_2 r11_3 r11_4 r11_5 r11_6 r11_7 r11_8 r11_9 r11_10 s1_present s1_a s1_b s1_c s1_d s1_spot s1_middle s1_tint s1_w s1_s s1_h s1_valuesA s1_ranksA s1_neighborsA r11_0) fun r12_0 r12_1 r12_2 r12_3 r12_4 r12_5 r12_6 r12_7 r12_8 r12_9 r12_10 =>
    bnd11 (mX4_mixScreen x_gain r12_1 r12_2 r12_3 r12_4 r12_5 r12_6 r12_7 r12_8 r12_9 r12_10 s2_present s2_a s2_b s2_c s2_d s2_spot s2_middle s2_tint s2_w s2_s s2_h s2_valuesA s2_ranksA s2_neighborsA r12_0) fun r13_0 r13_1 r13_2 r13_3 r13_4 r13_5 r13_6 r13_7 r13_8 r13_9 r13_10 =>
    bnd4 (mX4_mixPair found_w found_s found_h s0_present s0_w s0_s s0_h s1_present s1_w s1_s s1_h s2_present s2_w s2_s s2_h r13_0) fun r15_0 r15_1 r15_2 r15_3 =>
    bnd4 (mX4_mixPairv02 r15_1 r15_2 r15_3 s0_present s0_w s0_s s0_h s1_present s1_w s1_s s1_h s2_present s2_w s2_s s2_h r15_0) fun r16_0 r16_1 r16_2 r16_3 =>
    bnd4 (mX4_mixPairv12 r16_1 r16_2 r16_3 s0_present s0_w s0_s s0_h s1_present s1_w s1_s s1_h s2_present s2_w s2_s s2_h r16_0) fun r18_0 r18_1 r18_2 r18_3 =>
    bnd2 (mX4_digest_L108 input_length input_codesA FU 0 r18_0) fun u20_0 u20_1 =>
    some (u20_1, r13_1, r13_2, r13_3, r13_4, r13_5, r13_6, r13_7, r13_8, r13_9, r13_10, r18_1, r18_2, r18_3)
