-- pure pictures of the methods (laid by program from the listing)
def mJ9_floorDiv_7cf53 (a0 : Int32) (a1 : Int32) : Option (Int32) :=
    gz a1 <|
    nmB ((a0 / a1)) fun x2 =>
    if 0 ≤ (a0 ^^^ a1) then (some (x2))
    else (if (x2 * a1) = a0 then (some (x2))
    else (some ((x2 - 1))))
def mJ9_floorMod_7cf53 (a0 : Int32) (a1 : Int32) : Option (Int32) :=
    gz a1 <|
    nmB ((a0 - a0 / a1 * a1)) fun x2 =>
    if 0 ≤ (a0 ^^^ a1) then (some (x2))
    else (if x2 = 0 then (some (x2))
    else (some ((x2 + a1))))
def mX4_at (n : Nat) (rowA : (Nat → Int32)) (a1 : Int32) : Option (Int32) :=
    if a1 < 0 then (some (0))
    else (if (nI n) ≤ a1 then (some (0))
    else (gd a1 n <|
    some ((rowA a1.toNatClampNeg))))
def mX4_div (a0 : Int32) (a1 : Int32) : Option (Int32) :=
    if a1 = 0 then (some (0))
    else (gz a1 <|
    some ((a0 / a1)))
def mX4_floorDiv (a0 : Int32) (a1 : Int32) : Option (Int32) :=
    if a1 = 0 then (some (0))
    else (bnd1 (mJ9_floorDiv_7cf53 a0 a1) fun r2_0 =>
    some (r2_0))
def mX4_mod (a0 : Int32) (a1 : Int32) : Option (Int32) :=
    if a1 = 0 then (some (0))
    else (bnd1 (mJ9_floorMod_7cf53 a0 a1) fun r2_0 =>
    some (r2_0))
def mX4_gcd_L13  : Nat → Int32 → Int32 → Int32 → Option (Int32 × Int32 × Int32)
  | 0, _, _, _ => none
  | fu + 1, v3_0, v3_1, v3_2 =>
    if 1000 ≤ v3_0 then (some (v3_0, v3_1, v3_2))
    else (if v3_1 = 0 then (some (v3_0, v3_1, v3_2))
    else (gz v3_1 <|
    nmB ((v3_2 - v3_2 / v3_1 * v3_1)) fun x7 =>
    nmB (v3_0 + 1) fun x8 =>
    mX4_gcd_L13  fu x8 x7 v3_1))
def mX4_gcd (a0 : Int32) (a1 : Int32) : Option (Int32) :=
    nmB ((if 0 ≤ a0 then a0 else 0 - a0)) fun x1 =>
    nmB ((if 0 ≤ a1 then a1 else 0 - a1)) fun x2 =>
    bnd3 (mX4_gcd_L13  FU 0 x2 x1) fun u3_0 u3_1 u3_2 =>
    some (u3_2)
def mX4_areaOf (a0 : Int32) (a1 : Int32) (a2 : Int32) (a3 : Int32) : Option (Int32) :=
    some ((if 0 ≤ ((a0 * a3) - (a1 * a2)) then ((a0 * a3) - (a1 * a2)) else 0 - ((a0 * a3) - (a1 * a2))))
def mX4_isComponent (a0 : Int32) : Option (Int32) :=
    if a0 < (-8) then (some (0))
    else (if 8 < a0 then (some (0))
    else (some (1)))
def mX4_isArea (a0 : Int32) : Option (Int32) :=
    if a0 < 1 then (some (0))
    else (if 64 < a0 then (some (0))
    else (some (1)))
def mX4_isPosition (a0 : Int32) : Option (Int32) :=
    if a0 < (-10000) then (some (0))
    else (if 10000 < a0 then (some (0))
    else (some (1)))
def mX4_isSide (a0 : Int32) : Option (Int32) :=
    if a0 < 1 then (some (0))
    else (if 64 < a0 then (some (0))
    else (some (1)))
def mX4_isNearer (a0 : Int32) (a1 : Int32) (a2 : Int32) (a3 : Int32) (a4 : Int32) (a5 : Int32) : Option (Int32) :=
    nmB (((if 0 ≤ ((a0 * a4) - (a1 * a5)) then ((a0 * a4) - (a1 * a5)) else 0 - ((a0 * a4) - (a1 * a5)))).toInt64) fun x1 =>
    nmB (((if 0 ≤ ((a2 * a4) - (a3 * a5)) then ((a2 * a4) - (a3 * a5)) else 0 - ((a2 * a4) - (a3 * a5)))).toInt64) fun x2 =>
    nmB (((a0 * a0) + (a1 * a1))) fun x3 =>
    nmB (((a2 * a2) + (a3 * a3))) fun x4 =>
    nmB (((x1 * x1) * x4.toInt64)) fun x5 =>
    nmB (((x2 * x2) * x3.toInt64)) fun x6 =>
    if (lg_cmp x5 x6) = 0 then (if x3 = x4 then (if a2 ≤ a0 then (some (0))
    else (some (1)))
    else (if x4 ≤ x3 then (some (0))
    else (some (1))))
    else (if 0 ≤ (lg_cmp x5 x6) then (some (0))
    else (some (1)))
def mX4_mix (a0 : Int64) (a1 : Int64) : Option (Int64) :=
    some (((31 * a0) + a1))
def mX4_put (n : Nat) (rowA : (Nat → Int32)) (a1 : Int32) (a2 : Int32) : Option ((Nat → Int32)) :=
    if a1 < 0 then (some (rowA))
    else (if (nI n) ≤ a1 then (some (rowA))
    else (gd a1 n <|
    some ((upd rowA a1.toNatClampNeg a2))))
def mX2_area (v_w : Int32) (v_h : Int32) : Option (Int32) :=
    some ((v_w * v_h))
def mX2_property (v_w : Int32) (v_s : Int32) (v_h : Int32) (a0 : Int32) : Option (Int32) :=
    if a0 = 0 then (bnd1 (mX2_area v_w v_h) fun r2_0 =>
    some (r2_0))
    else (if a0 = 1 then (some (v_w))
    else (if a0 = 2 then (some (v_s))
    else (some (v_h))))
def mX2_numberOf (v_w : Int32) (v_s : Int32) (v_h : Int32) (a0 : Int32) (a1 : Int32) : Option (Int32) :=
    bnd1 (mX4_floorDiv a1 v_h) fun r1_0 =>
    bnd1 (mX4_mod (a0 - (r1_0 * v_s)) v_w) fun r2_0 =>
    some ((((a1 - (r1_0 * v_h)) * v_w) + r2_0))
def mX2_span_L3  : Nat → Int32 → Int32 → Int32 → Int32 → Int32 → Option (Int32 × Int32 × Int32 × Int32 × Int32)
  | 0, _, _, _, _, _ => none
  | fu + 1, v1_0, v1_1, v1_2, v1_3, v1_4 =>
    if 1000 ≤ v1_0 then (some (v1_0, v1_1, v1_2, v1_3, v1_4))
    else (if v1_4 = 0 then (some (v1_0, v1_1, v1_2, v1_3, v1_4))
    else (bnd1 (mX4_div v1_2 v1_4) fun r4_0 =>
    nmB ((v1_1 - (r4_0 * v1_3))) fun x5 =>
    nmB ((v1_2 - (r4_0 * v1_4))) fun x6 =>
    nmB (v1_0 + 1) fun x7 =>
    mX2_span_L3  fu x7 v1_3 v1_4 x5 x6))
def mX2_span (a0 : Int32) (a1 : Int32) (a2 : Int32) (a3 : Int32) (a4 : Int32) : Option (Int32 × Int32 × Int32) :=
    bnd5 (mX2_span_L3  FU 0 a0 a1 a2 a3) fun u1_0 u1_1 u1_2 u1_3 u1_4 =>
    bnd1 (mX4_gcd a4 u1_3) fun r8_0 =>
    nmB ((if 0 ≤ u1_2 then u1_2 else 0 - u1_2)) fun x9 =>
    if 0 ≤ u1_2 then (bnd1 (mX4_mod u1_1 r8_0) fun r11_0 =>
    some (r8_0, r11_0, x9))
    else (bnd1 (mX4_mod (-u1_1) r8_0) fun r12_0 =>
    some (r8_0, r12_0, x9))
def mX2_become (o_w : Int32) (o_s : Int32) (o_h : Int32) : Option (Int32 × Int32 × Int32) :=
    some (o_w, o_s, o_h)
def mX2_addAll (v_w : Int32) (v_s : Int32) (v_h : Int32) (o_w : Int32) (o_s : Int32) (o_h : Int32) : Option (Int32 × Int32 × Int32) :=
    bnd1 (mX4_gcd v_w o_w) fun r1_0 =>
    bnd3 (mX2_span v_s v_h o_s o_h r1_0) fun r2_0 r2_1 r2_2 =>
    some (r2_0, r2_1, r2_2)
def mX2_keepCommon_L98 (v_w : Int32) (o_w : Int32) (x8 : Int32) (r10_0 : Int32) : Nat → Int32 → Int32 → Option (Int32 × Int32)
  | 0, _, _ => none
  | fu + 1, v12_0, v12_1 =>
    if o_w ≤ v12_0 then (some (v12_0, v12_1))
    else (bnd1 (mX4_mod (v12_1 - (r10_0 * x8)) o_w) fun r14_0 =>
    if r14_0 = 0 then (some (v12_0, v12_1))
    else (nmB ((v12_1 + v_w)) fun x16 =>
    nmB (v12_0 + 1) fun x17 =>
    mX2_keepCommon_L98 v_w o_w x8 r10_0 fu x17 x16))
def mX2_keepCommon (v_w : Int32) (v_s : Int32) (v_h : Int32) (o_w : Int32) (o_s : Int32) (o_h : Int32) : Option (Int32 × Int32 × Int32) :=
    bnd1 (mX4_gcd v_w o_w) fun r1_0 =>
    bnd1 (mX4_gcd v_h o_h) fun r2_0 =>
    bnd1 (mX4_div v_h r2_0) fun r3_0 =>
    nmB ((r3_0 * o_h)) fun x4 =>
    bnd1 (mX4_div x4 v_h) fun r5_0 =>
    nmB ((r5_0 * v_s)) fun x6 =>
    bnd1 (mX4_div x4 o_h) fun r7_0 =>
    nmB ((r7_0 * o_s)) fun x8 =>
    bnd1 (mX4_gcd r1_0 (x6 - x8)) fun r9_0 =>
    bnd1 (mX4_div r1_0 r9_0) fun r10_0 =>
    bnd1 (mX4_mod (r10_0 * x6) v_w) fun r11_0 =>
    bnd2 (mX2_keepCommon_L98 v_w o_w x8 r10_0 FU 0 r11_0) fun u12_0 u12_1 =>
    nmB ((r10_0 * x4)) fun x18 =>
    bnd1 (mX4_div v_w r1_0) fun r19_0 =>
    nmB ((r19_0 * o_w)) fun x20 =>
    bnd1 (mX4_mod u12_1 x20) fun r21_0 =>
    some (x20, r21_0, x18)
def mX3_area (v_w : Int32) (v_h : Int32) : Option (Int32) :=
    bnd1 (mX2_area v_w v_h) fun r1_0 =>
    some (r1_0)
def mX3_property (v_a : Int32) (v_b : Int32) (v_c : Int32) (v_d : Int32) (v_spot : Int32) (v_middle : Int32) (v_tint : Int32) (v_w : Int32) (v_s : Int32) (v_h : Int32) (a0 : Int32) : Option (Int32) :=
    if a0 = 0 then (some (v_a))
    else (if a0 = 1 then (some (v_b))
    else (if a0 = 2 then (some (v_c))
    else (if a0 = 3 then (some (v_d))
    else (if a0 = 4 then (bnd1 (mX2_property v_w v_s v_h (a0 - 4)) fun r6_0 =>
    some (r6_0))
    else (if a0 = 5 then (bnd1 (mX2_property v_w v_s v_h (a0 - 4)) fun r8_0 =>
    some (r8_0))
    else (if a0 = 6 then (bnd1 (mX2_property v_w v_s v_h (a0 - 4)) fun r10_0 =>
    some (r10_0))
    else (if a0 = 7 then (bnd1 (mX2_property v_w v_s v_h (a0 - 4)) fun r12_0 =>
    some (r12_0))
    else (if a0 = 8 then (some (v_spot))
    else (if a0 = 9 then (if v_middle = 0 then (some (0))
    else (some (1)))
    else (if a0 = 10 then (some (v_tint))
    else (bnd1 (mX2_property v_w v_s v_h (a0 - 4)) fun r17_0 =>
    some (r17_0))))))))))))
def mX3_hasPlace (v_present : Int32) (v_w : Int32) (v_h : Int32) (a0 : Int32) : Option (Int32) :=
    if v_present = 0 then (some (0))
    else (if a0 < 0 then (some (0))
    else (bnd1 (mX3_area v_w v_h) fun r3_0 =>
    if r3_0 ≤ a0 then (some (0))
    else (some (1))))
def mX3_inksPlace (v_ranksA : (Nat → Int32)) (a0 : Int32) (a1 : Int32) : Option (Int32) :=
    bnd1 (mX4_at 64 v_ranksA a0) fun r1_0 =>
    if a1 ≤ r1_0 then (some (0))
    else (some (1))
def mX3_inks (v_tint : Int32) (v_w : Int32) (v_s : Int32) (v_h : Int32) (v_ranksA : (Nat → Int32)) (a0 : Int32) (a1 : Int32) : Option (Int32) :=
    bnd1 (mX2_numberOf v_w v_s v_h a0 a1) fun r1_0 =>
    bnd1 (mX3_inksPlace v_ranksA r1_0 v_tint) fun r2_0 =>
    some (r2_0)
def mX3_neighbor (v_neighborsA : (Nat → Int32)) (a0 : Int32) (a1 : Int32) : Option (Int32) :=
    bnd1 (mX4_at 256 v_neighborsA ((4 * a0) + a1)) fun r1_0 =>
    some (r1_0)
def mX3_isBefore (v_valuesA : (Nat → Int32)) (a0 : Int32) (a1 : Int32) : Option (Int32) :=
    bnd1 (mX4_at 64 v_valuesA a0) fun r1_0 =>
    bnd1 (mX4_at 64 v_valuesA a1) fun r2_0 =>
    if r1_0 < r2_0 then (some (1))
    else (if r1_0 = r2_0 then (if a1 ≤ a0 then (some (0))
    else (some (1)))
    else (some (0)))
def mX3_inkedNeighbors_L5 (v_ranksA : (Nat → Int32)) (v_neighborsA : (Nat → Int32)) (a0 : Int32) (a1 : Int32) : Nat → Int32 → Int32 → Option (Int32 × Int32)
  | 0, _, _ => none
  | fu + 1, v1_0, v1_1 =>
    if 4 ≤ v1_0 then (some (v1_0, v1_1))
    else (bnd1 (mX3_neighbor v_neighborsA a0 v1_0) fun r3_0 =>
    bnd1 (mX3_inksPlace v_ranksA r3_0 a1) fun r4_0 =>
    if r4_0 = 0 then (nmB (v1_0 + 1) fun x6 =>
    mX3_inkedNeighbors_L5 v_ranksA v_neighborsA a0 a1 fu x6 v1_1)
    else (nmB (v1_1 + 1) fun x7 =>
    nmB (v1_0 + 1) fun x8 =>
    mX3_inkedNeighbors_L5 v_ranksA v_neighborsA a0 a1 fu x8 x7))
def mX3_inkedNeighbors (v_ranksA : (Nat → Int32)) (v_neighborsA : (Nat → Int32)) (a0 : Int32) (a1 : Int32) : Option (Int32) :=
    bnd2 (mX3_inkedNeighbors_L5 v_ranksA v_neighborsA a0 a1 FU 0 0) fun u1_0 u1_1 =>
    some (u1_1)
def mX3_strengthOf_L5 (v_w : Int32) (v_h : Int32) (v_ranksA : (Nat → Int32)) (v_neighborsA : (Nat → Int32)) (a0 : Int32) (a1 : Int32) : Nat → Int32 → Int32 → Option (Int32 × Int32)
  | 0, _, _ => none
  | fu + 1, v1_0, v1_1 =>
    bnd1 (mX3_area v_w v_h) fun r2_0 =>
    if r2_0 ≤ v1_0 then (some (v1_0, v1_1))
    else (bnd1 (mX3_inksPlace v_ranksA v1_0 a0) fun r4_0 =>
    if r4_0 = 0 then (bnd1 (mX3_inkedNeighbors v_ranksA v_neighborsA v1_0 a0) fun r6_0 =>
    nmB ((v1_1 + (if (a1 * r6_0) < 100 then (a1 * r6_0) else 100))) fun x7 =>
    nmB (v1_0 + 1) fun x8 =>
    mX3_strengthOf_L5 v_w v_h v_ranksA v_neighborsA a0 a1 fu x8 x7)
    else (nmB ((v1_1 + 100)) fun x9 =>
    nmB (v1_0 + 1) fun x10 =>
    mX3_strengthOf_L5 v_w v_h v_ranksA v_neighborsA a0 a1 fu x10 x9))
def mX3_strengthOf (v_w : Int32) (v_h : Int32) (v_ranksA : (Nat → Int32)) (v_neighborsA : (Nat → Int32)) (a0 : Int32) (a1 : Int32) : Option (Int32) :=
    bnd2 (mX3_strengthOf_L5 v_w v_h v_ranksA v_neighborsA a0 a1 FU 0 0) fun u1_0 u1_1 =>
    some (u1_1)
def mX3_nearestRatio (a0 : Int32) (a1 : Int32) : Option (Int32) :=
    bnd1 (mX4_div (((2 * (if 0 ≤ a0 then a0 else 0 - a0)) + a1) - 1) (2 * a1)) fun r1_0 =>
    if 0 ≤ a0 then (some (r1_0))
    else (some ((-r1_0)))
def mX3_measured (a0 : Int32) (a1 : Int32) (a2 : Int32) : Option (Int32) :=
    if a0 = 1 then (some ((a1 + a2)))
    else (if a0 = 2 then (some ((if a1 < a2 then a2 else a1)))
    else (some (((a1 * a1) + (a2 * a2)))))
def mX3_turnVectors (v_a : Int32) (v_b : Int32) (v_c : Int32) (v_d : Int32) (a0 : Int32) : Option (Int32 × Int32 × Int32 × Int32) :=
    if a0 = 0 then (nmB ((-v_b)) fun x5 =>
    nmB ((-v_d)) fun x6 =>
    some (x5, v_a, x6, v_c))
    else (if a0 = 1 then (nmB ((-v_a)) fun x3 =>
    nmB ((-v_c)) fun x4 =>
    some (x3, v_b, x4, v_d))
    else (some (v_b, v_a, v_d, v_c)))
def mX3_exchangeVectors (v_a : Int32) (v_b : Int32) (v_c : Int32) (v_d : Int32) : Option (Int32 × Int32 × Int32 × Int32) :=
    some (v_c, v_d, v_a, v_b)
def mX3_shortenVectors_L4  : Nat → Int32 → Int32 → Int32 → Int32 → Int32 → Int32 → Option (Int32 × Int32 × Int32 × Int32 × Int32)
  | 0, _, _, _, _, _, _ => none
  | fu + 1, v1_0, v1_1, v1_2, v1_3, v1_4, v1_5 =>
    if 1000 ≤ v1_0 then (some (v1_1, v1_2, v1_3, v1_4, v1_5))
    else (jB (fun (j3_0 : Int32) (j3_1 : Int32) (j3_2 : Int32) (j3_3 : Int32) =>
    bnd1 (mX3_nearestRatio ((j3_0 * j3_2) + (j3_1 * j3_3)) ((j3_0 * j3_0) + (j3_1 * j3_1))) fun r6_0 =>
    if r6_0 = 0 then (some (v1_1, j3_0, j3_1, j3_2, j3_3))
    else (nmB ((j3_2 - (r6_0 * j3_0))) fun x8 =>
    nmB ((j3_3 - (r6_0 * j3_1))) fun x9 =>
    nmB (v1_1 + 1) fun x10 =>
    nmB (v1_0 + 1) fun x11 =>
    mX3_shortenVectors_L4  fu x11 x10 j3_0 j3_1 x8 x9)) fun K3 =>
    if ((v1_2 * v1_2) + (v1_3 * v1_3)) ≤ ((v1_4 * v1_4) + (v1_5 * v1_5)) then (K3 v1_2 v1_3 v1_4 v1_5)
    else (bnd4 (mX3_exchangeVectors v1_2 v1_3 v1_4 v1_5) fun r5_0 r5_1 r5_2 r5_3 =>
    K3 r5_0 r5_1 r5_2 r5_3))
def mX3_shortenVectors (v_a : Int32) (v_b : Int32) (v_c : Int32) (v_d : Int32) : Option (Int32 × Int32 × Int32 × Int32 × Int32) :=
    mX3_shortenVectors_L4  FU 0 0 v_a v_b v_c v_d
def mX3_become (a0 : Int32) (a1 : Int32) (a2 : Int32) (a3 : Int32) (a4 : Int32) (a5 : Int32) : Option (Int32 × Int32 × Int32 × Int32 × Int32 × Int32 × Int32 × Int32) :=
    some (1, a0, a1, a2, a3, a4, a5, 0)
def mX3_findNeighbors_L37 (v_w : Int32) (v_s : Int32) (v_h : Int32) (v1_0 : Int32) (r4_0 : Int32) (x5 : Int32) : Nat → Int32 → (Nat → Int32) → Option (Int32 × (Nat → Int32))
  | 0, _, _ => none
  | fu + 1, v6_0, v6_1 =>
    if 4 ≤ v6_0 then (some (v6_0, v6_1))
    else (bnd1 (mX4_at 4 stX v6_0) fun r8_0 =>
    bnd1 (mX4_at 4 stY v6_0) fun r9_0 =>
    bnd1 (mX2_numberOf v_w v_s v_h (x5 + r8_0) (r4_0 + r9_0)) fun r10_0 =>
    bnd1 (mX4_put 256 v6_1 ((4 * v1_0) + v6_0) r10_0) fun r11_0 =>
    nmB (v6_0 + 1) fun x12 =>
    mX3_findNeighbors_L37 v_w v_s v_h v1_0 r4_0 x5 fu x12 r11_0)
def mX3_findNeighbors_L2 (v_w : Int32) (v_s : Int32) (v_h : Int32) : Nat → Int32 → (Nat → Int32) → Option (Int32 × (Nat → Int32))
  | 0, _, _ => none
  | fu + 1, v1_0, v1_1 =>
    bnd1 (mX3_area v_w v_h) fun r2_0 =>
    if r2_0 ≤ v1_0 then (some (v1_0, v1_1))
    else (bnd1 (mX4_floorDiv v1_0 v_w) fun r4_0 =>
    nmB ((v1_0 - (r4_0 * v_w))) fun x5 =>
    bnd2 (mX3_findNeighbors_L37 v_w v_s v_h v1_0 r4_0 x5 FU 0 v1_1) fun u6_0 u6_1 =>
    nmB (v1_0 + 1) fun x13 =>
    mX3_findNeighbors_L2 v_w v_s v_h fu x13 u6_1)
def mX3_findNeighbors (v_w : Int32) (v_s : Int32) (v_h : Int32) (v_neighborsA : (Nat → Int32)) : Option ((Nat → Int32)) :=
    bnd2 (mX3_findNeighbors_L2 v_w v_s v_h FU 0 v_neighborsA) fun u1_0 u1_1 =>
    some (u1_1)
def mX3_findLineValues_L29 (v_a : Int32) (v_b : Int32) (v_middle : Int32) (v_w : Int32) (v_h : Int32) (x1 : Int32) (x3 : Int32) : Nat → Int32 → (Nat → Int32) → Option (Int32 × (Nat → Int32))
  | 0, _, _ => none
  | fu + 1, v4_0, v4_1 =>
    bnd1 (mX3_area v_w v_h) fun r5_0 =>
    if r5_0 ≤ v4_0 then (some (v4_0, v4_1))
    else (bnd1 (mX4_floorDiv v4_0 v_w) fun r7_0 =>
    nmB ((v4_0 - (r7_0 * v_w))) fun x8 =>
    jB (fun (j9_0 : Int32) =>
    bnd1 (mX4_mod ((2 * ((x8 * v_b) - (r7_0 * v_a))) + j9_0) x3) fun r11_0 =>
    bnd1 (mX4_put 64 v4_1 v4_0 (if (x3 - r11_0) < r11_0 then (x3 - r11_0) else r11_0)) fun r12_0 =>
    nmB (v4_0 + 1) fun x13 =>
    mX3_findLineValues_L29 v_a v_b v_middle v_w v_h x1 x3 fu x13 r12_0) fun K9 =>
    if v_middle = 0 then (K9 0)
    else (K9 x1))
def mX3_findLineValues (v_a : Int32) (v_b : Int32) (v_c : Int32) (v_d : Int32) (v_middle : Int32) (v_w : Int32) (v_h : Int32) (v_valuesA : (Nat → Int32)) : Option ((Nat → Int32)) :=
    nmB (((v_a * v_d) - (v_b * v_c))) fun x1 =>
    bnd1 (mX3_area v_w v_h) fun r2_0 =>
    nmB ((2 * r2_0)) fun x3 =>
    bnd2 (mX3_findLineValues_L29 v_a v_b v_middle v_w v_h x1 x3 FU 0 v_valuesA) fun u4_0 u4_1 =>
    some (u4_1)
def mX3_findLeast_L3 (v_w : Int32) (v_h : Int32) : Nat → Int32 → (Nat → Int32) → Option (Int32 × (Nat → Int32))
  | 0, _, _ => none
  | fu + 1, v1_0, v1_1 =>
    bnd1 (mX3_area v_w v_h) fun r2_0 =>
    if r2_0 ≤ v1_0 then (some (v1_0, v1_1))
    else (bnd1 (mX4_put 64 v1_1 v1_0 1073741824) fun r4_0 =>
    nmB (v1_0 + 1) fun x5 =>
    mX3_findLeast_L3 v_w v_h fu x5 r4_0)
def mX3_findLeast_L104 (v_w : Int32) (v_s : Int32) (v_h : Int32) (a1 : Int32) (j6_0 : Int32) (j8_0 : Int32) (r10_0 : Int32) (v13_0 : Int32) : Nat → Int32 → (Nat → Int32) → Option (Int32 × (Nat → Int32))
  | 0, _, _ => none
  | fu + 1, v16_0, v16_1 =>
    if (r10_0 + 12) < v16_0 then (some (v16_0, v16_1))
    else (bnd1 (mX2_numberOf v_w v_s v_h v16_0 v13_0) fun r18_0 =>
    bnd1 (mX3_measured a1 (if 0 ≤ ((2 * v16_0) - j6_0) then ((2 * v16_0) - j6_0) else 0 - ((2 * v16_0) - j6_0)) (if 0 ≤ ((2 * v13_0) - j8_0) then ((2 * v13_0) - j8_0) else 0 - ((2 * v13_0) - j8_0))) fun r19_0 =>
    bnd1 (mX4_at 64 v16_1 r18_0) fun r20_0 =>
    bnd1 (mX4_put 64 v16_1 r18_0 (if r20_0 < r19_0 then r20_0 else r19_0)) fun r21_0 =>
    nmB (v16_0 + 1) fun x22 =>
    mX3_findLeast_L104 v_w v_s v_h a1 j6_0 j8_0 r10_0 v13_0 fu x22 r21_0)
def mX3_findLeast_L87 (v_w : Int32) (v_s : Int32) (v_h : Int32) (a1 : Int32) (j6_0 : Int32) (j8_0 : Int32) (r10_0 : Int32) (r11_0 : Int32) : Nat → Int32 → (Nat → Int32) → Option (Int32 × (Nat → Int32))
  | 0, _, _ => none
  | fu + 1, v13_0, v13_1 =>
    if (r11_0 + 12) < v13_0 then (some (v13_0, v13_1))
    else (nmB ((r10_0 - 12)) fun x15 =>
    bnd2 (mX3_findLeast_L104 v_w v_s v_h a1 j6_0 j8_0 r10_0 v13_0 FU x15 v13_1) fun u16_0 u16_1 =>
    nmB (v13_0 + 1) fun x23 =>
    mX3_findLeast_L87 v_w v_s v_h a1 j6_0 j8_0 r10_0 r11_0 fu x23 u16_1)
def mX3_findLeast (v_a : Int32) (v_b : Int32) (v_c : Int32) (v_d : Int32) (v_w : Int32) (v_s : Int32) (v_h : Int32) (v_valuesA : (Nat → Int32)) (a1 : Int32) (a2 : Int32) : Option ((Nat → Int32)) :=
    bnd2 (mX3_findLeast_L3 v_w v_h FU 0 v_valuesA) fun u1_0 u1_1 =>
    jB (fun (j6_0 : Int32) =>
    jB (fun (j8_0 : Int32) =>
    bnd1 (mJ9_floorDiv_7cf53 j6_0 2) fun r10_0 =>
    bnd1 (mJ9_floorDiv_7cf53 j8_0 2) fun r11_0 =>
    nmB ((r11_0 - 12)) fun x12 =>
    bnd2 (mX3_findLeast_L87 v_w v_s v_h a1 j6_0 j8_0 r10_0 r11_0 FU x12 u1_1) fun u13_0 u13_1 =>
    some (u13_1)) fun K8 =>
    if a2 = 0 then (K8 0)
    else (K8 (v_b + v_d))) fun K6 =>
    if a2 = 0 then (K6 0)
    else (K6 (v_a + v_c))
def mX3_findLeastb_L3 (v_w : Int32) (v_h : Int32) : Nat → Int32 → (Nat → Int32) → Option (Int32 × (Nat → Int32))
  | 0, _, _ => none
  | fu + 1, v1_0, v1_1 =>
    bnd1 (mX3_area v_w v_h) fun r2_0 =>
    if r2_0 ≤ v1_0 then (some (v1_0, v1_1))
    else (bnd1 (mX4_put 64 v1_1 v1_0 1073741824) fun r4_0 =>
    nmB (v1_0 + 1) fun x5 =>
    mX3_findLeastb_L3 v_w v_h fu x5 r4_0)
def mX3_findLeastb_L104 (v_w : Int32) (v_s : Int32) (v_h : Int32) (a1 : Int32) (j6_0 : Int32) (j8_0 : Int32) (r10_0 : Int32) (v13_0 : Int32) : Nat → Int32 → (Nat → Int32) → Option (Int32 × (Nat → Int32))
  | 0, _, _ => none
  | fu + 1, v16_0, v16_1 =>
    if (r10_0 + 12) < v16_0 then (some (v16_0, v16_1))
    else (bnd1 (mX2_numberOf v_w v_s v_h v16_0 v13_0) fun r18_0 =>
    bnd1 (mX3_measured a1 (if 0 ≤ ((2 * v16_0) - j6_0) then ((2 * v16_0) - j6_0) else 0 - ((2 * v16_0) - j6_0)) (if 0 ≤ ((2 * v13_0) - j8_0) then ((2 * v13_0) - j8_0) else 0 - ((2 * v13_0) - j8_0))) fun r19_0 =>
    bnd1 (mX4_at 64 v16_1 r18_0) fun r20_0 =>
    bnd1 (mX4_put 64 v16_1 r18_0 (if r20_0 < r19_0 then r20_0 else r19_0)) fun r21_0 =>
    nmB (v16_0 + 1) fun x22 =>
    mX3_findLeastb_L104 v_w v_s v_h a1 j6_0 j8_0 r10_0 v13_0 fu x22 r21_0)
def mX3_findLeastb_L87 (v_w : Int32) (v_s : Int32) (v_h : Int32) (a1 : Int32) (j6_0 : Int32) (j8_0 : Int32) (r10_0 : Int32) (r11_0 : Int32) : Nat → Int32 → (Nat → Int32) → Option (Int32 × (Nat → Int32))
  | 0, _, _ => none
  | fu + 1, v13_0, v13_1 =>
    if (r11_0 + 12) < v13_0 then (some (v13_0, v13_1))
    else (nmB ((r10_0 - 12)) fun x15 =>
    bnd2 (mX3_findLeastb_L104 v_w v_s v_h a1 j6_0 j8_0 r10_0 v13_0 FU x15 v13_1) fun u16_0 u16_1 =>
    nmB (v13_0 + 1) fun x23 =>
    mX3_findLeastb_L87 v_w v_s v_h a1 j6_0 j8_0 r10_0 r11_0 fu x23 u16_1)
def mX3_findLeastb (v_a : Int32) (v_b : Int32) (v_c : Int32) (v_d : Int32) (v_w : Int32) (v_s : Int32) (v_h : Int32) (v_otherValuesA : (Nat → Int32)) (a1 : Int32) (a2 : Int32) : Option ((Nat → Int32)) :=
    bnd2 (mX3_findLeastb_L3 v_w v_h FU 0 v_otherValuesA) fun u1_0 u1_1 =>
    jB (fun (j6_0 : Int32) =>
    jB (fun (j8_0 : Int32) =>
    bnd1 (mJ9_floorDiv_7cf53 j6_0 2) fun r10_0 =>
    bnd1 (mJ9_floorDiv_7cf53 j8_0 2) fun r11_0 =>
    nmB ((r11_0 - 12)) fun x12 =>
    bnd2 (mX3_findLeastb_L87 v_w v_s v_h a1 j6_0 j8_0 r10_0 r11_0 FU x12 u1_1) fun u13_0 u13_1 =>
    some (u13_1)) fun K8 =>
    if a2 = 0 then (K8 0)
    else (K8 (v_b + v_d))) fun K6 =>
    if a2 = 0 then (K6 0)
    else (K6 (v_a + v_c))
def mX3_findValues_L74 (v_w : Int32) (v_h : Int32) (r6_0 : (Nat → Int32)) : Nat → Int32 → (Nat → Int32) → Option (Int32 × (Nat → Int32))
  | 0, _, _ => none
  | fu + 1, v7_0, v7_1 =>
    bnd1 (mX3_area v_w v_h) fun r8_0 =>
    if r8_0 ≤ v7_0 then (some (v7_0, v7_1))
    else (bnd1 (mX4_at 64 v7_1 v7_0) fun r10_0 =>
    bnd1 (mX4_at 64 r6_0 v7_0) fun r11_0 =>
    bnd1 (mX4_put 64 v7_1 v7_0 (r10_0 - r11_0)) fun r12_0 =>
    nmB (v7_0 + 1) fun x13 =>
    mX3_findValues_L74 v_w v_h r6_0 fu x13 r12_0)
def mX3_findValues (v_a : Int32) (v_b : Int32) (v_c : Int32) (v_d : Int32) (v_spot : Int32) (v_middle : Int32) (v_w : Int32) (v_s : Int32) (v_h : Int32) (v_valuesA : (Nat → Int32)) (v_otherValuesA : (Nat → Int32)) : Option ((Nat → Int32) × (Nat → Int32)) :=
    if v_spot = 3 then (bnd1 (mX3_findLineValues v_a v_b v_c v_d v_middle v_w v_h v_valuesA) fun r15_0 =>
    some (r15_0, v_otherValuesA))
    else (if v_spot = 4 then (bnd1 (mX3_findLeast v_a v_b v_c v_d v_w v_s v_h v_valuesA 0 v_middle) fun r3_0 =>
    jB (fun (j4_0 : Int32) =>
    bnd1 (mX3_findLeastb v_a v_b v_c v_d v_w v_s v_h v_otherValuesA 0 j4_0) fun r6_0 =>
    bnd2 (mX3_findValues_L74 v_w v_h r6_0 FU 0 r3_0) fun u7_0 u7_1 =>
    some (u7_1, r6_0)) fun K4 =>
    if v_middle = 0 then (K4 1)
    else (K4 0))
    else (bnd1 (mX3_findLeast v_a v_b v_c v_d v_w v_s v_h v_valuesA v_spot v_middle) fun r14_0 =>
    some (r14_0, v_otherValuesA)))
def mX3_findRanks_L14 (v_w : Int32) (v_h : Int32) (v_valuesA : (Nat → Int32)) (v1_0 : Int32) : Nat → Int32 → Int32 → Option (Int32 × Int32)
  | 0, _, _ => none
  | fu + 1, v4_0, v4_1 =>
    bnd1 (mX3_area v_w v_h) fun r5_0 =>
    if r5_0 ≤ v4_0 then (some (v4_0, v4_1))
    else (bnd1 (mX3_isBefore v_valuesA v4_0 v1_0) fun r7_0 =>
    if r7_0 = 0 then (nmB (v4_0 + 1) fun x9 =>
    mX3_findRanks_L14 v_w v_h v_valuesA v1_0 fu x9 v4_1)
    else (nmB (v4_1 + 1) fun x10 =>
    nmB (v4_0 + 1) fun x11 =>
    mX3_findRanks_L14 v_w v_h v_valuesA v1_0 fu x11 x10))
def mX3_findRanks_L2 (v_w : Int32) (v_h : Int32) (v_valuesA : (Nat → Int32)) : Nat → Int32 → (Nat → Int32) → (Nat → Int32) → Option (Int32 × (Nat → Int32) × (Nat → Int32))
  | 0, _, _, _ => none
  | fu + 1, v1_0, v1_1, v1_2 =>
    bnd1 (mX3_area v_w v_h) fun r2_0 =>
    if r2_0 ≤ v1_0 then (some (v1_0, v1_1, v1_2))
    else (bnd2 (mX3_findRanks_L14 v_w v_h v_valuesA v1_0 FU 0 0) fun u4_0 u4_1 =>
    bnd1 (mX4_put 64 v1_1 v1_0 u4_1) fun r12_0 =>
    bnd1 (mX4_put 64 v1_2 u4_1 v1_0) fun r13_0 =>
    nmB (v1_0 + 1) fun x14 =>
    mX3_findRanks_L2 v_w v_h v_valuesA fu x14 r12_0 r13_0)
def mX3_findRanks (v_w : Int32) (v_h : Int32) (v_valuesA : (Nat → Int32)) (v_ranksA : (Nat → Int32)) (v_orderA : (Nat → Int32)) : Option ((Nat → Int32) × (Nat → Int32)) :=
    bnd3 (mX3_findRanks_L2 v_w v_h v_valuesA FU 0 v_ranksA v_orderA) fun u1_0 u1_1 u1_2 =>
    some (u1_1, u1_2)
def mX3_regrow_L55 (v_ranksA : (Nat → Int32)) (v_oldRanksA : (Nat → Int32)) (r1_0 : Int32) (r1_2 : Int32) (r4_0 : (Nat → Int32)) : Nat → Int32 → Int32 → Option (Int32 × Int32)
  | 0, _, _ => none
  | fu + 1, v5_0, v5_1 =>
    bnd1 (mX3_area r1_0 r1_2) fun r6_0 =>
    if r6_0 ≤ v5_0 then (some (v5_0, v5_1))
    else (bnd1 (mX4_at 64 r4_0 v5_0) fun r8_0 =>
    bnd1 (mX4_at 64 (va_cpy v_ranksA v_oldRanksA 0 0 64) v5_0) fun r9_0 =>
    if r8_0 = r9_0 then (nmB (v5_0 + 1) fun x11 =>
    mX3_regrow_L55 v_ranksA v_oldRanksA r1_0 r1_2 r4_0 fu x11 v5_1)
    else (nmB (v5_1 + 1) fun x12 =>
    nmB (v5_0 + 1) fun x13 =>
    mX3_regrow_L55 v_ranksA v_oldRanksA r1_0 r1_2 r4_0 fu x13 x12))
def mX3_regrow (v_a : Int32) (v_b : Int32) (v_c : Int32) (v_d : Int32) (v_spot : Int32) (v_middle : Int32) (v_valuesA : (Nat → Int32)) (v_otherValuesA : (Nat → Int32)) (v_ranksA : (Nat → Int32)) (v_oldRanksA : (Nat → Int32)) (v_orderA : (Nat → Int32)) (v_neighborsA : (Nat → Int32)) : Option (Int32 × Int32 × Int32 × Int32 × (Nat → Int32) × (Nat → Int32) × (Nat → Int32) × (Nat → Int32) × (Nat → Int32) × (Nat → Int32)) :=
    bnd3 (mX2_span v_a v_b v_c v_d 0) fun r1_0 r1_1 r1_2 =>
    bnd1 (mX3_findNeighbors r1_0 r1_1 r1_2 v_neighborsA) fun r2_0 =>
    bnd2 (mX3_findValues v_a v_b v_c v_d v_spot v_middle r1_0 r1_1 r1_2 v_valuesA v_otherValuesA) fun r3_0 r3_1 =>
    bnd2 (mX3_findRanks r1_0 r1_2 r3_0 v_ranksA v_orderA) fun r4_0 r4_1 =>
    bnd2 (mX3_regrow_L55 v_ranksA v_oldRanksA r1_0 r1_2 r4_0 FU 0 0) fun u5_0 u5_1 =>
    some (u5_1, r1_0, r1_1, r1_2, r3_0, r3_1, r4_0, (va_cpy v_ranksA v_oldRanksA 0 0 64), r4_1, r2_0)
def mX0_join (v_joinedTimes : Int32) (v_joinedX : Int32) (v_joinedY : Int32) (a0 : Int32) (a1 : Int32) : Option (Int32 × Int32 × Int32) :=
    jB (fun (j1_u : Unit) =>
    if v_joinedTimes = 0 then (some (1, a0, a1))
    else (if (a0 * v_joinedY) = (a1 * v_joinedX) then (some (v_joinedTimes, v_joinedX, v_joinedY))
    else (some (2, v_joinedX, v_joinedY)))) fun K1 =>
    if a0 = 0 then (if a1 = 0 then (some (v_joinedTimes, v_joinedX, v_joinedY))
    else (K1 ()))
    else (K1 ())
def mX0_reach (v_waitingNumber : Int32) (v_joinedTimes : Int32) (v_joinedX : Int32) (v_joinedY : Int32) (v_reachedA : (Nat → Int32)) (v_walkedXA : (Nat → Int32)) (v_walkedYA : (Nat → Int32)) (v_waitingA : (Nat → Int32)) (a0 : Int32) (a1 : Int32) (a2 : Int32) : Option (Int32 × Int32 × Int32 × Int32 × (Nat → Int32) × (Nat → Int32) × (Nat → Int32) × (Nat → Int32)) :=
    bnd1 (mX4_at 64 v_reachedA a0) fun r1_0 =>
    if r1_0 = 1 then (bnd1 (mX4_at 64 v_walkedXA a0) fun r8_0 =>
    bnd1 (mX4_at 64 v_walkedYA a0) fun r9_0 =>
    bnd3 (mX0_join v_joinedTimes v_joinedX v_joinedY (a1 - r8_0) (a2 - r9_0)) fun r10_0 r10_1 r10_2 =>
    some (v_waitingNumber, r10_0, r10_1, r10_2, v_reachedA, v_walkedXA, v_walkedYA, v_waitingA))
    else (bnd1 (mX4_put 64 v_reachedA a0 1) fun r3_0 =>
    bnd1 (mX4_put 64 v_walkedXA a0 a1) fun r4_0 =>
    bnd1 (mX4_put 64 v_walkedYA a0 a2) fun r5_0 =>
    bnd1 (mX4_put 64 v_waitingA v_waitingNumber a0) fun r6_0 =>
    nmB ((v_waitingNumber + 1)) fun x7 =>
    some (x7, v_joinedTimes, v_joinedX, v_joinedY, r3_0, r4_0, r5_0, r6_0))
def mX0_walkThrough_L50 (o_ranksA : (Nat → Int32)) (o_neighborsA : (Nat → Int32)) (a1 : Int32) (r5_0 : Int32) : Nat → Int32 → Int32 → Int32 → Int32 → Int32 → (Nat → Int32) → (Nat → Int32) → (Nat → Int32) → (Nat → Int32) → Option (Int32 × Int32 × Int32 × Int32 × Int32 × (Nat → Int32) × (Nat → Int32) × (Nat → Int32) × (Nat → Int32))
  | 0, _, _, _, _, _, _, _, _, _ => none
  | fu + 1, v6_0, v6_1, v6_2, v6_3, v6_4, v6_5, v6_6, v6_7, v6_8 =>
    if 4 ≤ v6_0 then (some (v6_0, v6_1, v6_2, v6_3, v6_4, v6_5, v6_6, v6_7, v6_8))
    else (bnd1 (mX3_neighbor o_neighborsA r5_0 v6_0) fun r8_0 =>
    bnd1 (mX3_inksPlace o_ranksA r8_0 a1) fun r9_0 =>
    if r9_0 = 0 then (nmB (v6_0 + 1) fun x11 =>
    mX0_walkThrough_L50 o_ranksA o_neighborsA a1 r5_0 fu x11 v6_1 v6_2 v6_3 v6_4 v6_5 v6_6 v6_7 v6_8)
    else (bnd1 (mX4_at 64 v6_6 r5_0) fun r12_0 =>
    bnd1 (mX4_at 4 stX v6_0) fun r13_0 =>
    nmB ((r12_0 + r13_0)) fun x14 =>
    bnd1 (mX4_at 64 v6_7 r5_0) fun r15_0 =>
    bnd1 (mX4_at 4 stY v6_0) fun r16_0 =>
    nmB ((r15_0 + r16_0)) fun x17 =>
    bnd8 (mX0_reach v6_1 v6_2 v6_3 v6_4 v6_5 v6_6 v6_7 v6_8 r8_0 x14 x17) fun r18_0 r18_1 r18_2 r18_3 r18_4 r18_5 r18_6 r18_7 =>
    nmB (v6_0 + 1) fun x19 =>
    mX0_walkThrough_L50 o_ranksA o_neighborsA a1 r5_0 fu x19 r18_0 r18_1 r18_2 r18_3 r18_4 r18_5 r18_6 r18_7))
def mX0_walkThrough_L20 (o_ranksA : (Nat → Int32)) (o_neighborsA : (Nat → Int32)) (a1 : Int32) : Nat → Int32 → Int32 → Int32 → Int32 → Int32 → (Nat → Int32) → (Nat → Int32) → (Nat → Int32) → (Nat → Int32) → Option (Int32 × Int32 × Int32 × Int32 × Int32 × (Nat → Int32) × (Nat → Int32) × (Nat → Int32) × (Nat → Int32))
  | 0, _, _, _, _, _, _, _, _, _ => none
  | fu + 1, v2_0, v2_1, v2_2, v2_3, v2_4, v2_5, v2_6, v2_7, v2_8 =>
    if 64 ≤ v2_0 then (some (v2_0, v2_1, v2_2, v2_3, v2_4, v2_5, v2_6, v2_7, v2_8))
    else (if v2_1 ≤ v2_0 then (some (v2_0, v2_1, v2_2, v2_3, v2_4, v2_5, v2_6, v2_7, v2_8))
    else (bnd1 (mX4_at 64 v2_8 v2_0) fun r5_0 =>
    bnd9 (mX0_walkThrough_L50 o_ranksA o_neighborsA a1 r5_0 FU 0 v2_1 v2_2 v2_3 v2_4 v2_5 v2_6 v2_7 v2_8) fun u6_0 u6_1 u6_2 u6_3 u6_4 u6_5 u6_6 u6_7 u6_8 =>
    nmB (v2_0 + 1) fun x20 =>
    mX0_walkThrough_L20 o_ranksA o_neighborsA a1 fu x20 u6_1 u6_2 u6_3 u6_4 u6_5 u6_6 u6_7 u6_8))
def mX0_walkThrough (v_joinedX : Int32) (v_joinedY : Int32) (v_reachedA : (Nat → Int32)) (v_walkedXA : (Nat → Int32)) (v_walkedYA : (Nat → Int32)) (v_waitingA : (Nat → Int32)) (o_ranksA : (Nat → Int32)) (o_neighborsA : (Nat → Int32)) (a1 : Int32) (a2 : Int32) : Option (Int32 × Int32 × Int32 × Int32 × (Nat → Int32) × (Nat → Int32) × (Nat → Int32) × (Nat → Int32)) :=
    bnd8 (mX0_reach 0 0 v_joinedX v_joinedY v_reachedA v_walkedXA v_walkedYA v_waitingA a2 0 0) fun r1_0 r1_1 r1_2 r1_3 r1_4 r1_5 r1_6 r1_7 =>
    bnd9 (mX0_walkThrough_L20 o_ranksA o_neighborsA a1 FU 0 r1_0 r1_1 r1_2 r1_3 r1_4 r1_5 r1_6 r1_7) fun u2_0 u2_1 u2_2 u2_3 u2_4 u2_5 u2_6 u2_7 u2_8 =>
    some (u2_1, u2_2, u2_3, u2_4, u2_5, u2_6, u2_7, u2_8)
def mX0_examine_L12  : Nat → Int32 → (Nat → Int32) → Option (Int32 × (Nat → Int32))
  | 0, _, _ => none
  | fu + 1, v1_0, v1_1 =>
    if 64 ≤ v1_0 then (some (v1_0, v1_1))
    else (bnd1 (mX4_put 64 v1_1 v1_0 0) fun r3_0 =>
    nmB (v1_0 + 1) fun x4 =>
    mX0_examine_L12  fu x4 r3_0)
def mX0_examine_L35 (o_w : Int32) (o_h : Int32) (o_ranksA : (Nat → Int32)) (o_neighborsA : (Nat → Int32)) (a1 : Int32) : Nat → Int32 → Int32 → Int32 → Int32 → Int32 → Int32 → Int32 → (Nat → Int32) → (Nat → Int32) → (Nat → Int32) → (Nat → Int32) → Option (Int32 × Int32 × Int32 × Int32 × Int32 × Int32 × Int32 × (Nat → Int32) × (Nat → Int32) × (Nat → Int32) × (Nat → Int32))
  | 0, _, _, _, _, _, _, _, _, _, _, _ => none
  | fu + 1, v5_0, v5_1, v5_2, v5_3, v5_4, v5_5, v5_6, v5_7, v5_8, v5_9, v5_10 =>
    bnd1 (mX3_area o_w o_h) fun r6_0 =>
    if r6_0 ≤ v5_0 then (some (v5_0, v5_1, v5_2, v5_3, v5_4, v5_5, v5_6, v5_7, v5_8, v5_9, v5_10))
    else (bnd1 (mX3_inksPlace o_ranksA v5_0 a1) fun r8_0 =>
    if r8_0 = 0 then (nmB (v5_0 + 1) fun x10 =>
    mX0_examine_L35 o_w o_h o_ranksA o_neighborsA a1 fu x10 v5_1 v5_2 v5_3 v5_4 v5_5 v5_6 v5_7 v5_8 v5_9 v5_10)
    else (bnd1 (mX4_at 64 v5_7 v5_0) fun r11_0 =>
    if r11_0 = 0 then (nmB ((v5_2 + 1)) fun x14 =>
    bnd8 (mX0_walkThrough v5_5 v5_6 v5_7 v5_8 v5_9 v5_10 o_ranksA o_neighborsA a1 v5_0) fun r15_0 r15_1 r15_2 r15_3 r15_4 r15_5 r15_6 r15_7 =>
    nmB ((if v5_3 < r15_1 then r15_1 else v5_3)) fun x16 =>
    nmB (v5_0 + 1) fun x17 =>
    mX0_examine_L35 o_w o_h o_ranksA o_neighborsA a1 fu x17 r15_0 x14 x16 r15_1 r15_2 r15_3 r15_4 r15_5 r15_6 r15_7)
    else (nmB (v5_0 + 1) fun x13 =>
    mX0_examine_L35 o_w o_h o_ranksA o_neighborsA a1 fu x13 v5_1 v5_2 v5_3 v5_4 v5_5 v5_6 v5_7 v5_8 v5_9 v5_10)))
def mX0_examine (v_waitingNumber : Int32) (v_joinedTimes : Int32) (v_joinedX : Int32) (v_joinedY : Int32) (v_reachedA : (Nat → Int32)) (v_walkedXA : (Nat → Int32)) (v_walkedYA : (Nat → Int32)) (v_waitingA : (Nat → Int32)) (o_w : Int32) (o_h : Int32) (o_ranksA : (Nat → Int32)) (o_neighborsA : (Nat → Int32)) (a1 : Int32) : Option (Int32 × Int32 × Int32 × Int32 × Int32 × Int32 × (Nat → Int32) × (Nat → Int32) × (Nat → Int32) × (Nat → Int32)) :=
    bnd2 (mX0_examine_L12  FU 0 v_reachedA) fun u1_0 u1_1 =>
    bnd11 (mX0_examine_L35 o_w o_h o_ranksA o_neighborsA a1 FU 0 v_waitingNumber 0 0 v_joinedTimes v_joinedX v_joinedY u1_1 v_walkedXA v_walkedYA v_waitingA) fun u5_0 u5_1 u5_2 u5_3 u5_4 u5_5 u5_6 u5_7 u5_8 u5_9 u5_10 =>
    some (u5_1, u5_2, u5_3, u5_4, u5_5, u5_6, u5_7, u5_8, u5_9, u5_10)
def mX1_takeMinus (v_phase : Int32) (v_negative : Int32) (a0 : Int32) : Option (Int32 × Int32 × Int32) :=
    if a0 = 45 then (some (1, 1, 1))
    else (some (0, v_phase, v_negative))
def mX1_takeDigit (v_phase : Int32) (v_part : Int32) (v_negative : Int32) (v_partsA : (Nat → Int32)) (a0 : Int32) : Option (Int32 × Int32 × (Nat → Int32)) :=
    if a0 < 48 then (some (0, v_phase, v_partsA))
    else (if a0 ≤ 56 then (if v_negative = 0 then (bnd1 (mX4_put 4 v_partsA v_part (a0 - 48)) fun r4_0 =>
    some (1, 2, r4_0))
    else (bnd1 (mX4_put 4 v_partsA v_part (48 - a0)) fun r5_0 =>
    some (1, 2, r5_0)))
    else (some (0, v_phase, v_partsA)))
def mX1_takeSeparator (v_phase : Int32) (v_part : Int32) (v_negative : Int32) (a0 : Int32) : Option (Int32 × Int32 × Int32 × Int32) :=
    jB (fun (j1_0 : Int32) =>
    if a0 = j1_0 then (nmB ((v_part + 1)) fun x4 =>
    some (1, 0, x4, 0))
    else (some (0, v_phase, v_part, v_negative))) fun K1 =>
    if v_part = 1 then (K1 59)
    else (K1 44)
def mX1_takeLetter (v_phase : Int32) (v_spot : Int32) (a0 : Int32) : Option (Int32 × Int32 × Int32) :=
    if a0 = 98 then (some (1, 3, 4))
    else (if a0 = 100 then (some (1, 3, 1))
    else (if a0 = 108 then (some (1, 3, 3))
    else (if a0 = 114 then (some (1, 3, 0))
    else (if a0 = 115 then (some (1, 3, 2))
    else (some (0, v_phase, v_spot))))))
def mX1_takeStar (v_phase : Int32) (v_middle : Int32) (a0 : Int32) : Option (Int32 × Int32 × Int32) :=
    if a0 = 42 then (some (1, 4, 1))
    else (some (0, v_phase, v_middle))
def mX1_take (v_phase : Int32) (v_part : Int32) (v_negative : Int32) (v_spot : Int32) (v_middle : Int32) (v_partsA : (Nat → Int32)) (a0 : Int32) : Option (Int32 × Int32 × Int32 × Int32 × Int32 × Int32 × (Nat → Int32)) :=
    if v_phase = 0 then (bnd3 (mX1_takeMinus v_phase v_negative a0) fun r2_0 r2_1 r2_2 =>
    if r2_0 = 0 then (bnd3 (mX1_takeDigit r2_1 v_part r2_2 v_partsA a0) fun r4_0 r4_1 r4_2 =>
    if r4_0 = 0 then (some (0, r4_1, v_part, r2_2, v_spot, v_middle, r4_2))
    else (some (1, r4_1, v_part, r2_2, v_spot, v_middle, r4_2)))
    else (some (1, r2_1, v_part, r2_2, v_spot, v_middle, v_partsA)))
    else (if v_phase = 1 then (bnd3 (mX1_takeDigit v_phase v_part v_negative v_partsA a0) fun r7_0 r7_1 r7_2 =>
    some (r7_0, r7_1, v_part, v_negative, v_spot, v_middle, r7_2))
    else (if v_phase = 2 then (if 3 ≤ v_part then (bnd3 (mX1_takeLetter v_phase v_spot a0) fun r10_0 r10_1 r10_2 =>
    some (r10_0, r10_1, v_part, v_negative, r10_2, v_middle, v_partsA))
    else (bnd4 (mX1_takeSeparator v_phase v_part v_negative a0) fun r11_0 r11_1 r11_2 r11_3 =>
    some (r11_0, r11_1, r11_2, r11_3, v_spot, v_middle, v_partsA)))
    else (if v_phase = 3 then (bnd3 (mX1_takeStar v_phase v_middle a0) fun r13_0 r13_1 r13_2 =>
    some (r13_0, r13_1, v_part, v_negative, v_spot, r13_2, v_partsA))
    else (some (0, v_phase, v_part, v_negative, v_spot, v_middle, v_partsA)))))
def mX1_read_L27 (v_length : Int32) (v_codesA : (Nat → Int32)) : Nat → Int32 → Int32 → Int32 → Int32 → Int32 → Int32 → (Nat → Int32) → Option (Int32 × Int32 × Int32 × Int32 × Int32 × Int32 × (Nat → Int32))
  | 0, _, _, _, _, _, _, _ => none
  | fu + 1, v1_0, v1_1, v1_2, v1_3, v1_4, v1_5, v1_6 =>
    if v_length ≤ v1_0 then (some (v_length, v1_1, v1_2, v1_3, v1_4, v1_5, v1_6))
    else (bnd1 (mX4_at 20 v_codesA v1_0) fun r3_0 =>
    bnd7 (mX1_take v1_1 v1_2 v1_3 v1_4 v1_5 v1_6 r3_0) fun r4_0 r4_1 r4_2 r4_3 r4_4 r4_5 r4_6 =>
    if r4_0 = 0 then (some (v1_0, r4_1, r4_2, r4_3, r4_4, r4_5, r4_6))
    else (nmB (v1_0 + 1) fun x6 =>
    mX1_read_L27 v_length v_codesA fu x6 r4_1 r4_2 r4_3 r4_4 r4_5 r4_6))
def mX1_read (v_length : Int32) (v_codesA : (Nat → Int32)) (v_partsA : (Nat → Int32)) : Option (Int32 × Int32 × Int32 × Int32 × Int32 × Int32 × (Nat → Int32)) :=
    mX1_read_L27 v_length v_codesA FU 0 0 0 0 0 0 v_partsA
def mX1_isComplete (v_length : Int32) (v_codesA : (Nat → Int32)) (v_partsA : (Nat → Int32)) : Option (Int32 × Int32 × Int32 × Int32 × Int32 × Int32 × (Nat → Int32)) :=
    bnd7 (mX1_read v_length v_codesA v_partsA) fun r1_0 r1_1 r1_2 r1_3 r1_4 r1_5 r1_6 =>
    if r1_0 = v_length then (if r1_1 = 3 then (some (1, r1_1, r1_2, r1_3, r1_4, r1_5, r1_6))
    else (if r1_1 = 4 then (some (1, r1_1, r1_2, r1_3, r1_4, r1_5, r1_6))
    else (some (0, r1_1, r1_2, r1_3, r1_4, r1_5, r1_6))))
    else (some (0, r1_1, r1_2, r1_3, r1_4, r1_5, r1_6))
def mX1_add (v_length : Int32) (v_codesA : (Nat → Int32)) (a0 : Int32) : Option (Int32 × Int32 × (Nat → Int32)) :=
    bnd1 (mX4_put 20 v_codesA v_length a0) fun r1_0 =>
    nmB ((v_length + 1)) fun x2 =>
    some (x2, x2, r1_0)
def mX5_within (a0 : Int32) (a1 : Int32) (a2 : Int32) : Option (Int32) :=
    if a0 < a1 then (some (0))
    else (if a2 < a0 then (some (0))
    else (some (1)))
def mX5_abs (a0 : Int32) : Option (Int32) :=
    if 0 ≤ a0 then (some (a0))
    else (some ((-a0)))
def mX5_gcd_L10  : Nat → Int32 → Int32 → Option (Int32 × Int32)
  | 0, _, _ => none
  | fu + 1, v3_0, v3_1 =>
    if v3_0 ≤ 0 then (some (v3_0, v3_1))
    else (gz v3_0 <|
    nmB ((v3_1 - v3_1 / v3_0 * v3_0)) fun x6 =>
    mX5_gcd_L10  fu x6 v3_0)
def mX5_gcd (a0 : Int32) (a1 : Int32) : Option (Int32) :=
    bnd1 (mX5_abs a0) fun r1_0 =>
    bnd1 (mX5_abs a1) fun r2_0 =>
    bnd2 (mX5_gcd_L10  FU r2_0 r1_0) fun u3_0 u3_1 =>
    some (u3_1)
def mX5_mod (a0 : Int32) (a1 : Int32) : Option (Int32) :=
    gz a1 <|
    nmB ((a0 - a0 / a1 * a1)) fun x2 =>
    if 0 ≤ x2 then (some (x2))
    else (some ((x2 + a1)))
def mX5_floor (a0 : Int32) (a1 : Int32) : Option (Int32) :=
    bnd1 (mX5_mod a0 a1) fun r1_0 =>
    gz a1 <|
    some (((a0 - r1_0) / a1))
def mX5_isSlot (a0 : Int32) : Option (Int32) :=
    bnd1 (mX5_within a0 0 2) fun r1_0 =>
    some (r1_0)
def mX5_areaOf (a0 : Int32) (a1 : Int32) (a2 : Int32) (a3 : Int32) : Option (Int32) :=
    bnd1 (mX5_abs ((a0 * a3) - (a1 * a2))) fun r1_0 =>
    some (r1_0)
def mX5_spotBy (a0 : Int32) : Option (Int32) :=
    if a0 = 114 then (some (0))
    else (if a0 = 100 then (some (1))
    else (if a0 = 115 then (some (2))
    else (if a0 = 108 then (some (3))
    else (if a0 = 98 then (some (4))
    else (some ((-1)))))))
def mX5_isPart (a0 : Int32) : Option (Int32) :=
    bnd1 (mX5_within a0 (-8) 8) fun r1_0 =>
    some (r1_0)
def mX5_rounded (a0 : Int32) (a1 : Int32) : Option (Int32) :=
    bnd1 (mX5_abs a0) fun r1_0 =>
    gz a1 <|
    nmB ((r1_0 / a1)) fun x3 =>
    bnd1 (mX5_abs a0) fun r4_0 =>
    jB (fun (j5_0 : Int32) =>
    if 0 ≤ a0 then (some (j5_0))
    else (some ((-j5_0)))) fun K5 =>
    if (2 * (r4_0 - (x3 * a1))) ≤ a1 then (K5 x3)
    else (K5 (x3 + 1))
def mX5_isPixel (a0 : Int32) (a1 : Int32) : Option (Int32) :=
    bnd1 (mX5_within a0 (-10000) 10000) fun r1_0 =>
    if r1_0 = 0 then (some (0))
    else (bnd1 (mX5_within a1 (-10000) 10000) fun r3_0 =>
    if r3_0 = 0 then (some (0))
    else (some (1)))
def mX5_isNearer (a0 : Int32) (a1 : Int32) (a2 : Int32) (a3 : Int32) (a4 : Int32) (a5 : Int32) : Option (Int32) :=
    bnd1 (mX5_abs ((a0 * a4) - (a1 * a5))) fun r1_0 =>
    bnd1 (mX5_abs ((a2 * a4) - (a3 * a5))) fun r2_0 =>
    nmB (((a0 * a0) + (a1 * a1))) fun x3 =>
    nmB (((a2 * a2) + (a3 * a3))) fun x4 =>
    nmB (((r1_0.toInt64 * r1_0.toInt64) * x4.toInt64)) fun x5 =>
    nmB (((r2_0.toInt64 * r2_0.toInt64) * x3.toInt64)) fun x6 =>
    if (lg_cmp x5 x6) < 0 then (some (1))
    else (if (lg_cmp x5 x6) = 0 then (if x3 < x4 then (some (1))
    else (if x3 = x4 then (if a2 ≤ a0 then (some (0))
    else (some (1)))
    else (some (0))))
    else (some (0)))
def mX5_thrown (v_thrown : Int32) : Option (Int32) :=
    some (v_thrown)
def mX5_missing (v_isThereA : (Nat → Int32)) (a0 : Int32) : Option (Int32) :=
    bnd1 (mX5_isSlot a0) fun r1_0 =>
    if r1_0 = 0 then (some (1))
    else (gd a0 3 <|
    if (v_isThereA a0.toNatClampNeg) = 0 then (some (2))
    else (some (0)))
def mX5_areaIn (v_vA : (Nat → Int32)) (a0 : Int32) : Option (Int32) :=
    gd (4 * a0) 12 <|
    gd ((4 * a0) + 1) 12 <|
    gd ((4 * a0) + 2) 12 <|
    gd ((4 * a0) + 3) 12 <|
    bnd1 (mX5_areaOf (v_vA (4 * a0).toNatClampNeg) (v_vA ((4 * a0) + 1).toNatClampNeg) (v_vA ((4 * a0) + 2).toNatClampNeg) (v_vA ((4 * a0) + 3).toNatClampNeg)) fun r5_0 =>
    some (r5_0)
def mX5_placeAt (v_w : Int32) (v_s : Int32) (v_h : Int32) (a0 : Int32) (a1 : Int32) : Option (Int32) :=
    bnd1 (mX5_floor a1 v_h) fun r1_0 =>
    bnd1 (mX5_mod (a0 - (r1_0 * v_s)) v_w) fun r2_0 =>
    some ((((a1 - (r1_0 * v_h)) * v_w) + r2_0))
def mX5_nearestValue_L63 (v_w : Int32) (v_s : Int32) (v_h : Int32) (a0 : Int32) (a1 : Int32) (a2 : Int32) (a3 : Int32) (a4 : Int32) (x3 : Int32) : Nat → Int32 → Int32 → Option (Int32 × Int32)
  | 0, _, _ => none
  | fu + 1, v4_0, v4_1 =>
    if x3 < v4_0 then (some (v4_0, v4_1))
    else (bnd1 (mX5_mod (((2 * a0) - a2) - ((2 * v4_0) * v_s)) (2 * v_w)) fun r6_0 =>
    jB (fun (j7_0 : Int32) =>
    bnd1 (mX5_abs (((2 * a1) - a3) - ((2 * v4_0) * v_h))) fun r9_0 =>
    jB (fun (j10_0 : Int32) =>
    if v4_1 = (-1) then (nmB (v4_0 + 1) fun x15 =>
    mX5_nearestValue_L63 v_w v_s v_h a0 a1 a2 a3 a4 x3 fu x15 j10_0)
    else (if v4_1 ≤ j10_0 then (nmB (v4_0 + 1) fun x17 =>
    mX5_nearestValue_L63 v_w v_s v_h a0 a1 a2 a3 a4 x3 fu x17 v4_1)
    else (nmB (v4_0 + 1) fun x18 =>
    mX5_nearestValue_L63 v_w v_s v_h a0 a1 a2 a3 a4 x3 fu x18 j10_0))) fun K10 =>
    if a4 = 0 then (K10 ((j7_0 * j7_0) + (r9_0 * r9_0)))
    else (if a4 = 1 then (K10 (j7_0 + r9_0))
    else (if j7_0 ≤ r9_0 then (K10 r9_0)
    else (K10 j7_0)))) fun K7 =>
    if ((2 * v_w) - r6_0) ≤ r6_0 then (K7 ((2 * v_w) - r6_0))
    else (K7 r6_0))
def mX5_nearestValue (v_w : Int32) (v_s : Int32) (v_h : Int32) (a0 : Int32) (a1 : Int32) (a2 : Int32) (a3 : Int32) (a4 : Int32) : Option (Int32) :=
    bnd1 (mX5_floor ((((2 * a1) - a3) - v_w) - v_h) (2 * v_h)) fun r1_0 =>
    bnd1 (mX5_floor ((((2 * a1) - a3) + v_w) + v_h) (2 * v_h)) fun r2_0 =>
    nmB ((r2_0 + 1)) fun x3 =>
    bnd2 (mX5_nearestValue_L63 v_w v_s v_h a0 a1 a2 a3 a4 x3 FU r1_0 (-1)) fun u4_0 u4_1 =>
    some (u4_1)
def mX5_valueAt (v_w : Int32) (v_s : Int32) (v_h : Int32) (v_vA : (Nat → Int32)) (v_spotOfA : (Nat → Int32)) (v_inMiddleA : (Nat → Int32)) (a0 : Int32) (a1 : Int32) (a2 : Int32) : Option (Int32) :=
    nmB ((4 * a0)) fun x1 =>
    gd x1 12 <|
    gd (x1 + 2) 12 <|
    nmB (((v_vA x1.toNatClampNeg) + (v_vA (x1 + 2).toNatClampNeg))) fun x4 =>
    gd (x1 + 1) 12 <|
    gd (x1 + 3) 12 <|
    nmB (((v_vA (x1 + 1).toNatClampNeg) + (v_vA (x1 + 3).toNatClampNeg))) fun x7 =>
    gd a0 3 <|
    nmB ((v_inMiddleA a0.toNatClampNeg)) fun x9 =>
    jB (fun (j10_0 : Int32) =>
    jB (fun (j12_0 : Int32) =>
    gd a0 3 <|
    if (v_spotOfA a0.toNatClampNeg) = 3 then (bnd1 (mX5_areaIn v_vA a0) fun r26_0 =>
    nmB ((2 * r26_0)) fun x27 =>
    gd (x1 + 1) 12 <|
    gd x1 12 <|
    bnd1 (mX5_mod ((((2 * a1) - j10_0) * (v_vA (x1 + 1).toNatClampNeg)) - (((2 * a2) - j12_0) * (v_vA x1.toNatClampNeg))) x27) fun r30_0 =>
    if (x27 - r30_0) ≤ r30_0 then (some ((x27 - r30_0)))
    else (some (r30_0)))
    else (gd a0 3 <|
    if (v_spotOfA a0.toNatClampNeg) = 4 then (bnd1 (mX5_nearestValue v_w v_s v_h a1 a2 j10_0 j12_0 0) fun r20_0 =>
    jB (fun (j21_0 : Int32) =>
    if x9 = 0 then (bnd1 (mX5_nearestValue v_w v_s v_h a1 a2 j21_0 x7 0) fun r24_0 =>
    some ((r20_0 - r24_0)))
    else (bnd1 (mX5_nearestValue v_w v_s v_h a1 a2 j21_0 0 0) fun r25_0 =>
    some ((r20_0 - r25_0)))) fun K21 =>
    if x9 = 0 then (K21 x4)
    else (K21 0))
    else (gd a0 3 <|
    bnd1 (mX5_nearestValue v_w v_s v_h a1 a2 j10_0 j12_0 (v_spotOfA a0.toNatClampNeg)) fun r19_0 =>
    some (r19_0)))) fun K12 =>
    if x9 = 0 then (K12 0)
    else (K12 x7)) fun K10 =>
    if x9 = 0 then (K10 0)
    else (K10 x4)
def mX5_screens_L4 (v_isThereA : (Nat → Int32)) : Nat → Int32 → Int32 → Option (Int32 × Int32)
  | 0, _, _ => none
  | fu + 1, v1_0, v1_1 =>
    if 3 ≤ v1_0 then (some (v1_0, v1_1))
    else (gd v1_0 3 <|
    if (v_isThereA v1_0.toNatClampNeg) = 0 then (nmB ((v1_1 + 0)) fun x5 =>
    nmB (v1_0 + 1) fun x6 =>
    mX5_screens_L4 v_isThereA fu x6 x5)
    else (nmB ((v1_1 + 1)) fun x7 =>
    nmB (v1_0 + 1) fun x8 =>
    mX5_screens_L4 v_isThereA fu x8 x7))
def mX5_screens (v_isThereA : (Nat → Int32)) : Option (Int32) :=
    bnd2 (mX5_screens_L4 v_isThereA FU 0 0) fun u1_0 u1_1 =>
    some (u1_1)
def mX5_wrong (v_isThereA : (Nat → Int32)) (a0 : Int32) (a1 : Int32) : Option (Int32) :=
    bnd1 (mX5_isSlot a0) fun r1_0 =>
    if r1_0 = 0 then (some (1))
    else (if a1 = 0 then (some (2))
    else (gd a0 3 <|
    if (v_isThereA a0.toNatClampNeg) = 0 then (some (3))
    else (some (0))))
def mX5_product (v_vA : (Nat → Int32)) (a0 : Int32) (a1 : Int32) : Option (Int32) :=
    gd a0 12 <|
    gd a1 12 <|
    gd (a0 + 1) 12 <|
    gd (a1 + 1) 12 <|
    some ((((v_vA a0.toNatClampNeg) * (v_vA a1.toNatClampNeg)) + ((v_vA (a0 + 1).toNatClampNeg) * (v_vA (a1 + 1).toNatClampNeg))))
def mX5_steppedWrong (v_isThereA : (Nat → Int32)) (v_vA : (Nat → Int32)) (a0 : Int32) (a1 : Int32) : Option (Int32) :=
    bnd1 (mX5_missing v_isThereA a0) fun r1_0 =>
    if r1_0 ≤ 0 then (bnd1 (mX5_areaIn v_vA a0) fun r3_0 =>
    bnd1 (mX5_within a1 0 r3_0) fun r4_0 =>
    if r4_0 = 0 then (some (3))
    else (some (0)))
    else (some (r1_0))
def mX5_numberOf (v_w : Int32) (v_s : Int32) (v_h : Int32) (a0 : Int32) : Option (Int32) :=
    if a0 = 0 then (some ((v_w * v_h)))
    else (if a0 = 1 then (some (v_w))
    else (if a0 = 2 then (some (v_s))
    else (some (v_h))))
def mX5_there_L4 (v_isThereA : (Nat → Int32)) : Nat → Int32 → Int32 → Option (Int32 × Int32)
  | 0, _, _ => none
  | fu + 1, v1_0, v1_1 =>
    if 3 ≤ v1_0 then (some (v1_0, v1_1))
    else (gd v1_0 3 <|
    if (v_isThereA v1_0.toNatClampNeg) = 0 then (nmB ((v1_1 + 0)) fun x5 =>
    nmB (v1_0 + 1) fun x6 =>
    mX5_there_L4 v_isThereA fu x6 x5)
    else (nmB ((v1_1 + (1 <<< (v1_0 &&& 31)))) fun x7 =>
    nmB (v1_0 + 1) fun x8 =>
    mX5_there_L4 v_isThereA fu x8 x7))
def mX5_there (v_isThereA : (Nat → Int32)) : Option (Int32) :=
    bnd2 (mX5_there_L4 v_isThereA FU 0 0) fun u1_0 u1_1 =>
    some (u1_1)
def mX5_strengthOf_L34 (v_w : Int32) (v_s : Int32) (v_h : Int32) (v_ranksA : (Nat → Int32)) (a0 : Int32) (x4 : Int32) (x6 : Int32) : Nat → Int32 → Int32 → Option (Int32 × Int32)
  | 0, _, _ => none
  | fu + 1, v7_0, v7_1 =>
    if 4 ≤ v7_0 then (some (v7_0, v7_1))
    else (jB (fun (j9_0 : Int32) =>
    jB (fun (j12_0 : Int32) =>
    bnd1 (mX5_placeAt v_w v_s v_h (x4 + j9_0) (x6 + j12_0)) fun r15_0 =>
    gd r15_0 64 <|
    if a0 ≤ (v_ranksA r15_0.toNatClampNeg) then (nmB ((v7_1 + 0)) fun x18 =>
    nmB (v7_0 + 1) fun x19 =>
    mX5_strengthOf_L34 v_w v_s v_h v_ranksA a0 x4 x6 fu x19 x18)
    else (nmB ((v7_1 + 1)) fun x20 =>
    nmB (v7_0 + 1) fun x21 =>
    mX5_strengthOf_L34 v_w v_s v_h v_ranksA a0 x4 x6 fu x21 x20)) fun K12 =>
    if v7_0 = 2 then (K12 1)
    else (if v7_0 = 3 then (K12 (-1))
    else (K12 0))) fun K9 =>
    if v7_0 = 0 then (K9 1)
    else (if v7_0 = 1 then (K9 (-1))
    else (K9 0)))
def mX5_strengthOf_L4 (v_gain : Int32) (v_w : Int32) (v_s : Int32) (v_h : Int32) (v_laidArea : Int32) (v_ranksA : (Nat → Int32)) (a0 : Int32) : Nat → Int32 → Int32 → Option (Int32 × Int32)
  | 0, _, _ => none
  | fu + 1, v1_0, v1_1 =>
    if v_laidArea ≤ v1_0 then (some (v1_0, v1_1))
    else (gz v_w <|
    nmB ((v1_0 - v1_0 / v_w * v_w)) fun x4 =>
    gz v_w <|
    nmB ((v1_0 / v_w)) fun x6 =>
    bnd2 (mX5_strengthOf_L34 v_w v_s v_h v_ranksA a0 x4 x6 FU 0 0) fun u7_0 u7_1 =>
    jB (fun (j22_0 : Int32) =>
    gd v1_0 64 <|
    if a0 ≤ (v_ranksA v1_0.toNatClampNeg) then (nmB ((v1_1 + j22_0)) fun x26 =>
    nmB (v1_0 + 1) fun x27 =>
    mX5_strengthOf_L4 v_gain v_w v_s v_h v_laidArea v_ranksA a0 fu x27 x26)
    else (nmB ((v1_1 + 100)) fun x28 =>
    nmB (v1_0 + 1) fun x29 =>
    mX5_strengthOf_L4 v_gain v_w v_s v_h v_laidArea v_ranksA a0 fu x29 x28)) fun K22 =>
    if 100 ≤ (v_gain * u7_1) then (K22 100)
    else (K22 (v_gain * u7_1)))
def mX5_strengthOf (v_gain : Int32) (v_w : Int32) (v_s : Int32) (v_h : Int32) (v_laidArea : Int32) (v_ranksA : (Nat → Int32)) (a0 : Int32) : Option (Int32) :=
    bnd2 (mX5_strengthOf_L4 v_gain v_w v_s v_h v_laidArea v_ranksA a0 FU 0 0) fun u1_0 u1_1 =>
    some (u1_1)
def mX5_layBasis_L57 (a1 : Int32) (a3 : Int32) (r1_0 : Int32) : Nat → Int32 → Option (Int32)
  | 0, _ => none
  | fu + 1, v6_0 =>
    gz a3 <|
    if ((r1_0 - (v6_0 * a1)) - (r1_0 - (v6_0 * a1)) / a3 * a3) = 0 then (some (v6_0))
    else (nmB (v6_0 + 1) fun x9 =>
    mX5_layBasis_L57 a1 a3 r1_0 fu x9)
def mX5_layBasis (a0 : Int32) (a1 : Int32) (a2 : Int32) (a3 : Int32) : Option (Int32 × Int32 × Int32) :=
    bnd1 (mX5_gcd a1 a3) fun r1_0 =>
    bnd1 (mX5_areaOf a0 a1 a2 a3) fun r2_0 =>
    gz r1_0 <|
    nmB ((r2_0 / r1_0)) fun x4 =>
    if a3 = 0 then (if a1 ≤ 0 then (bnd1 (mX5_mod (-a0) x4) fun r13_0 =>
    some (x4, r13_0, r1_0))
    else (bnd1 (mX5_mod a0 x4) fun r14_0 =>
    some (x4, r14_0, r1_0)))
    else (bnd1 (mX5_layBasis_L57 a1 a3 r1_0 FU 0) fun u6_0 =>
    gz a3 <|
    bnd1 (mX5_mod ((u6_0 * a0) + (((r1_0 - (u6_0 * a1)) / a3) * a2)) x4) fun r11_0 =>
    some (x4, r11_0, r1_0))
def mX5_layScreen (v_vA : (Nat → Int32)) (a0 : Int32) : Option (Int32 × Int32 × Int32) :=
    nmB ((4 * a0)) fun x1 =>
    gd x1 12 <|
    gd (x1 + 1) 12 <|
    gd (x1 + 2) 12 <|
    gd (x1 + 3) 12 <|
    bnd3 (mX5_layBasis (v_vA x1.toNatClampNeg) (v_vA (x1 + 1).toNatClampNeg) (v_vA (x1 + 2).toNatClampNeg) (v_vA (x1 + 3).toNatClampNeg)) fun r6_0 r6_1 r6_2 =>
    some (r6_0, r6_1, r6_2)
def mX5_layGrowth_L16 (v_vA : (Nat → Int32)) (v_spotOfA : (Nat → Int32)) (v_inMiddleA : (Nat → Int32)) (a0 : Int32) (r1_0 : Int32) (r1_1 : Int32) (r1_2 : Int32) (r2_0 : Int32) : Nat → Int32 → (Nat → Int32) → Option (Int32 × (Nat → Int32))
  | 0, _, _ => none
  | fu + 1, v3_0, v3_1 =>
    if r2_0 ≤ v3_0 then (some (v3_0, v3_1))
    else (gz r1_0 <|
    gz r1_0 <|
    bnd1 (mX5_valueAt r1_0 r1_1 r1_2 v_vA v_spotOfA v_inMiddleA a0 (v3_0 - v3_0 / r1_0 * r1_0) (v3_0 / r1_0)) fun r7_0 =>
    gd v3_0 64 <|
    nmB (v3_0 + 1) fun x9 =>
    mX5_layGrowth_L16 v_vA v_spotOfA v_inMiddleA a0 r1_0 r1_1 r1_2 r2_0 fu x9 (upd v3_1 v3_0.toNatClampNeg r7_0))
def mX5_layGrowth_L72 (r2_0 : Int32) (u3_1 : (Nat → Int32)) (v10_0 : Int32) : Nat → Int32 → (Nat → Int32) → Option (Int32 × (Nat → Int32))
  | 0, _, _ => none
  | fu + 1, v13_0, v13_1 =>
    if r2_0 ≤ v13_0 then (some (v13_0, v13_1))
    else (gd v10_0 64 <|
    gd v13_0 64 <|
    gd v10_0 64 <|
    if (u3_1 v13_0.toNatClampNeg) < (u3_1 v10_0.toNatClampNeg) then (nmB (((v13_1 v10_0.toNatClampNeg) + 1)) fun x19 =>
    gd v10_0 64 <|
    nmB (v13_0 + 1) fun x21 =>
    mX5_layGrowth_L72 r2_0 u3_1 v10_0 fu x21 (upd v13_1 v10_0.toNatClampNeg x19))
    else (gd v13_0 64 <|
    gd v10_0 64 <|
    if (u3_1 v13_0.toNatClampNeg) = (u3_1 v10_0.toNatClampNeg) then (if v10_0 ≤ v13_0 then (nmB (((v13_1 v10_0.toNatClampNeg) + 0)) fun x29 =>
    gd v10_0 64 <|
    nmB (v13_0 + 1) fun x31 =>
    mX5_layGrowth_L72 r2_0 u3_1 v10_0 fu x31 (upd v13_1 v10_0.toNatClampNeg x29))
    else (nmB (((v13_1 v10_0.toNatClampNeg) + 1)) fun x32 =>
    gd v10_0 64 <|
    nmB (v13_0 + 1) fun x34 =>
    mX5_layGrowth_L72 r2_0 u3_1 v10_0 fu x34 (upd v13_1 v10_0.toNatClampNeg x32)))
    else (nmB (((v13_1 v10_0.toNatClampNeg) + 0)) fun x25 =>
    gd v10_0 64 <|
    nmB (v13_0 + 1) fun x27 =>
    mX5_layGrowth_L72 r2_0 u3_1 v10_0 fu x27 (upd v13_1 v10_0.toNatClampNeg x25))))
def mX5_layGrowth_L55 (r2_0 : Int32) (u3_1 : (Nat → Int32)) : Nat → Int32 → (Nat → Int32) → Option (Int32 × (Nat → Int32))
  | 0, _, _ => none
  | fu + 1, v10_0, v10_1 =>
    if r2_0 ≤ v10_0 then (some (v10_0, v10_1))
    else (gd v10_0 64 <|
    bnd2 (mX5_layGrowth_L72 r2_0 u3_1 v10_0 FU 0 (upd v10_1 v10_0.toNatClampNeg 0)) fun u13_0 u13_1 =>
    nmB (v10_0 + 1) fun x35 =>
    mX5_layGrowth_L55 r2_0 u3_1 fu x35 u13_1)
def mX5_layGrowth (v_vA : (Nat → Int32)) (v_spotOfA : (Nat → Int32)) (v_inMiddleA : (Nat → Int32)) (v_valuesA : (Nat → Int32)) (v_ranksA : (Nat → Int32)) (a0 : Int32) : Option (Int32 × Int32 × Int32 × Int32 × (Nat → Int32) × (Nat → Int32)) :=
    bnd3 (mX5_layScreen v_vA a0) fun r1_0 r1_1 r1_2 =>
    bnd1 (mX5_areaIn v_vA a0) fun r2_0 =>
    bnd2 (mX5_layGrowth_L16 v_vA v_spotOfA v_inMiddleA a0 r1_0 r1_1 r1_2 r2_0 FU 0 v_valuesA) fun u3_0 u3_1 =>
    bnd2 (mX5_layGrowth_L55 r2_0 u3_1 FU 0 v_ranksA) fun u10_0 u10_1 =>
    some (r1_0, r1_1, r1_2, r2_0, u3_1, u10_1)
def mX5_keepRanks_L7 (r1_3 : Int32) (r1_5 : (Nat → Int32)) : Nat → Int32 → (Nat → Int32) → Option (Int32 × (Nat → Int32))
  | 0, _, _ => none
  | fu + 1, v2_0, v2_1 =>
    if r1_3 ≤ v2_0 then (some (v2_0, v2_1))
    else (gd v2_0 64 <|
    nmB ((r1_5 v2_0.toNatClampNeg)) fun x5 =>
    gd v2_0 64 <|
    nmB (v2_0 + 1) fun x7 =>
    mX5_keepRanks_L7 r1_3 r1_5 fu x7 (upd v2_1 v2_0.toNatClampNeg x5))
def mX5_keepRanks (v_vA : (Nat → Int32)) (v_spotOfA : (Nat → Int32)) (v_inMiddleA : (Nat → Int32)) (v_valuesA : (Nat → Int32)) (v_ranksA : (Nat → Int32)) (v_oldRanksA : (Nat → Int32)) (a0 : Int32) : Option (Int32 × Int32 × Int32 × Int32 × (Nat → Int32) × (Nat → Int32) × (Nat → Int32)) :=
    bnd6 (mX5_layGrowth v_vA v_spotOfA v_inMiddleA v_valuesA v_ranksA a0) fun r1_0 r1_1 r1_2 r1_3 r1_4 r1_5 =>
    bnd2 (mX5_keepRanks_L7 r1_3 r1_5 FU 0 v_oldRanksA) fun u2_0 u2_1 =>
    some (r1_0, r1_1, r1_2, r1_3, r1_4, r1_5, u2_1)
def mX5_otherRanks_L9 (v_oldRanksA : (Nat → Int32)) (r1_3 : Int32) (r1_5 : (Nat → Int32)) : Nat → Int32 → Int32 → Option (Int32 × Int32)
  | 0, _, _ => none
  | fu + 1, v2_0, v2_1 =>
    if r1_3 ≤ v2_0 then (some (v2_0, v2_1))
    else (gd v2_0 64 <|
    gd v2_0 64 <|
    if (r1_5 v2_0.toNatClampNeg) = (v_oldRanksA v2_0.toNatClampNeg) then (nmB ((v2_1 + 0)) fun x9 =>
    nmB (v2_0 + 1) fun x10 =>
    mX5_otherRanks_L9 v_oldRanksA r1_3 r1_5 fu x10 x9)
    else (nmB ((v2_1 + 1)) fun x7 =>
    nmB (v2_0 + 1) fun x8 =>
    mX5_otherRanks_L9 v_oldRanksA r1_3 r1_5 fu x8 x7))
def mX5_otherRanks (v_vA : (Nat → Int32)) (v_spotOfA : (Nat → Int32)) (v_inMiddleA : (Nat → Int32)) (v_valuesA : (Nat → Int32)) (v_ranksA : (Nat → Int32)) (v_oldRanksA : (Nat → Int32)) (a0 : Int32) : Option (Int32 × Int32 × Int32 × Int32 × Int32 × (Nat → Int32) × (Nat → Int32)) :=
    bnd6 (mX5_layGrowth v_vA v_spotOfA v_inMiddleA v_valuesA v_ranksA a0) fun r1_0 r1_1 r1_2 r1_3 r1_4 r1_5 =>
    bnd2 (mX5_otherRanks_L9 v_oldRanksA r1_3 r1_5 FU 0 0) fun u2_0 u2_1 =>
    some (u2_1, r1_0, r1_1, r1_2, r1_3, r1_4, r1_5)
def mX5_append (v_size : Int32) (v_bufferA : (Nat → Int32)) (a0 : Int32) : Option (Int32 × Int32 × Int32 × (Nat → Int32)) :=
    bnd1 (mX5_within a0 32 126) fun r1_0 =>
    jB (fun (j2_0 : Int32) =>
    if j2_0 ≤ 0 then (gd v_size 20 <|
    nmB ((v_size + 1)) fun x7 =>
    some (x7, j2_0, x7, (upd v_bufferA v_size.toNatClampNeg a0)))
    else (some (0, j2_0, v_size, v_bufferA))) fun K2 =>
    if r1_0 = 0 then (K2 1)
    else (if v_size = 20 then (K2 2)
    else (K2 0))
def mX5_clearInput (v_size : Int32) : Option (Int32 × Int32 × Int32) :=
    some (v_size, 0, 0)
def mX5_takesNumber (v_parts : Int32) (v_isMinus : Int32) (v_wantsNumber : Int32) (v_partA : (Nat → Int32)) (a0 : Int32) : Option (Int32 × Int32 × Int32 × Int32 × (Nat → Int32)) :=
    jB (fun (j1_u : Unit) =>
    bnd1 (mX5_within a0 48 56) fun r4_0 =>
    if r4_0 = 0 then (some (r4_0, v_parts, v_isMinus, v_wantsNumber, v_partA))
    else (jB (fun (j6_0 : Int32) =>
    gd v_parts 4 <|
    nmB ((v_parts + 1)) fun x9 =>
    some (r4_0, x9, 0, 0, (upd v_partA v_parts.toNatClampNeg j6_0))) fun K6 =>
    if v_isMinus = 0 then (K6 (a0 - 48))
    else (K6 (48 - a0)))) fun K1 =>
    if a0 = 45 then (if v_isMinus = 0 then (some (1, v_parts, 1, v_wantsNumber, v_partA))
    else (K1 ()))
    else (K1 ())
def mX5_takesBehind (v_parts : Int32) (v_readSpot : Int32) (v_isStar : Int32) (v_wantsNumber : Int32) (a0 : Int32) : Option (Int32 × Int32 × Int32 × Int32) :=
    if 4 ≤ v_parts then (if v_readSpot = (-1) then (bnd1 (mX5_spotBy a0) fun r8_0 =>
    if r8_0 = (-1) then (some (0, r8_0, v_isStar, v_wantsNumber))
    else (some (1, r8_0, v_isStar, v_wantsNumber)))
    else (jB (fun (j3_0 : Int32) =>
    if v_isStar = 0 then (if j3_0 = 0 then (some (j3_0, v_readSpot, 0, v_wantsNumber))
    else (some (j3_0, v_readSpot, 1, v_wantsNumber)))
    else (some (j3_0, v_readSpot, 1, v_wantsNumber))) fun K3 =>
    if a0 = 42 then (if v_isStar = 0 then (K3 1)
    else (K3 0))
    else (K3 0)))
    else (jB (fun (j10_0 : Int32) =>
    if a0 = j10_0 then (some (1, v_readSpot, v_isStar, 1))
    else (some (0, v_readSpot, v_isStar, 0))) fun K10 =>
    if v_parts = 2 then (K10 59)
    else (K10 44))
def mX5_rightLength_L27 (v_size : Int32) (v_bufferA : (Nat → Int32)) : Nat → Int32 → Int32 → Int32 → Int32 → Int32 → Int32 → (Nat → Int32) → Option (Int32 × Int32 × Int32 × Int32 × Int32 × Int32 × (Nat → Int32))
  | 0, _, _, _, _, _, _, _ => none
  | fu + 1, v1_0, v1_1, v1_2, v1_3, v1_4, v1_5, v1_6 =>
    if v_size ≤ v1_0 then (some (v1_0, v1_1, v1_2, v1_3, v1_4, v1_5, v1_6))
    else (if v1_5 = 0 then (gd v1_0 20 <|
    bnd4 (mX5_takesBehind v1_1 v1_3 v1_4 v1_5 (v_bufferA v1_0.toNatClampNeg)) fun r5_0 r5_1 r5_2 r5_3 =>
    if r5_0 = 0 then (some (v1_0, v1_1, v1_2, r5_1, r5_2, r5_3, v1_6))
    else (nmB (v1_0 + 1) fun x7 =>
    mX5_rightLength_L27 v_size v_bufferA fu x7 v1_1 v1_2 r5_1 r5_2 r5_3 v1_6))
    else (gd v1_0 20 <|
    bnd5 (mX5_takesNumber v1_1 v1_2 v1_5 v1_6 (v_bufferA v1_0.toNatClampNeg)) fun r9_0 r9_1 r9_2 r9_3 r9_4 =>
    if r9_0 = 0 then (some (v1_0, r9_1, r9_2, v1_3, v1_4, r9_3, r9_4))
    else (nmB (v1_0 + 1) fun x11 =>
    mX5_rightLength_L27 v_size v_bufferA fu x11 r9_1 r9_2 v1_3 v1_4 r9_3 r9_4)))
def mX5_rightLength (v_size : Int32) (v_bufferA : (Nat → Int32)) (v_partA : (Nat → Int32)) : Option (Int32 × Int32 × Int32 × Int32 × Int32 × Int32 × (Nat → Int32)) :=
    bnd7 (mX5_rightLength_L27 v_size v_bufferA FU 0 0 0 (-1) 0 1 v_partA) fun u1_0 u1_1 u1_2 u1_3 u1_4 u1_5 u1_6 =>
    some (u1_0, u1_1, u1_2, u1_3, u1_4, u1_5, u1_6)
def mX5_firstError (v_size : Int32) (v_bufferA : (Nat → Int32)) (v_partA : (Nat → Int32)) : Option (Int32 × Int32 × Int32 × Int32 × Int32 × Int32 × Int32 × (Nat → Int32)) :=
    bnd7 (mX5_rightLength v_size v_bufferA v_partA) fun r1_0 r1_1 r1_2 r1_3 r1_4 r1_5 r1_6 =>
    some (r1_0, 0, r1_1, r1_2, r1_3, r1_4, r1_5, r1_6)
def mX5_put (v_isThereA : (Nat → Int32)) (v_vA : (Nat → Int32)) (v_spotOfA : (Nat → Int32)) (v_inMiddleA : (Nat → Int32)) (v_tintsA : (Nat → Int32)) (a0 : Int32) (a1 : Int32) (a2 : Int32) (a3 : Int32) (a4 : Int32) (a5 : Int32) : Option ((Nat → Int32) × (Nat → Int32) × (Nat → Int32) × (Nat → Int32) × (Nat → Int32)) :=
    gd (4 * a0) 12 <|
    gd ((4 * a0) + 1) 12 <|
    gd ((4 * a0) + 2) 12 <|
    gd ((4 * a0) + 3) 12 <|
    gd a0 3 <|
    gd a0 3 <|
    gd a0 3 <|
    gd a0 3 <|
    some ((upd v_isThereA a0.toNatClampNeg (vp_nar .boolean 1)), (upd (upd (upd (upd v_vA (4 * a0).toNatClampNeg a1) ((4 * a0) + 1).toNatClampNeg a2) ((4 * a0) + 2).toNatClampNeg a3) ((4 * a0) + 3).toNatClampNeg a4), (upd v_spotOfA a0.toNatClampNeg a5), (upd v_inMiddleA a0.toNatClampNeg (vp_nar .boolean 0)), (upd v_tintsA a0.toNatClampNeg 0))
def mX5_load (v_size : Int32) (v_isThereA : (Nat → Int32)) (v_vA : (Nat → Int32)) (v_spotOfA : (Nat → Int32)) (v_inMiddleA : (Nat → Int32)) (v_tintsA : (Nat → Int32)) (v_bufferA : (Nat → Int32)) (v_partA : (Nat → Int32)) (a0 : Int32) : Option (Int32 × Int32 × Int32 × Int32 × Int32 × Int32 × Int32 × Int32 × (Nat → Int32) × (Nat → Int32) × (Nat → Int32) × (Nat → Int32) × (Nat → Int32) × (Nat → Int32)) :=
    bnd7 (mX5_rightLength v_size v_bufferA v_partA) fun r1_0 r1_1 r1_2 r1_3 r1_4 r1_5 r1_6 =>
    jB (fun (j2_0 : Int32) =>
    gd 0 4 <|
    gd 1 4 <|
    gd 2 4 <|
    gd 3 4 <|
    bnd1 (mX5_areaOf (r1_6 (0 : Int32).toNatClampNeg) (r1_6 (1 : Int32).toNatClampNeg) (r1_6 (2 : Int32).toNatClampNeg) (r1_6 (3 : Int32).toNatClampNeg)) fun r9_0 =>
    bnd1 (mX5_within r9_0 1 64) fun r10_0 =>
    bnd1 (mX5_isSlot a0) fun r11_0 =>
    jB (fun (j12_0 : Int32) =>
    if j12_0 ≤ 0 then (gd 0 4 <|
    gd 1 4 <|
    gd 2 4 <|
    gd 3 4 <|
    bnd5 (mX5_put v_isThereA v_vA v_spotOfA v_inMiddleA v_tintsA a0 (r1_6 (0 : Int32).toNatClampNeg) (r1_6 (1 : Int32).toNatClampNeg) (r1_6 (2 : Int32).toNatClampNeg) (r1_6 (3 : Int32).toNatClampNeg) r1_3) fun r21_0 r21_1 r21_2 r21_3 r21_4 =>
    gd a0 3 <|
    bnd1 (mX5_areaIn r21_1 a0) fun r23_0 =>
    some (r23_0, j12_0, 0, r1_1, r1_2, r1_3, r1_4, r1_5, r21_0, r21_1, r21_2, (upd r21_3 a0.toNatClampNeg (vp_nar .boolean r1_4)), r21_4, r1_6))
    else (some (0, j12_0, v_size, r1_1, r1_2, r1_3, r1_4, r1_5, v_isThereA, v_vA, v_spotOfA, v_inMiddleA, v_tintsA, r1_6))) fun K12 =>
    if r11_0 = 0 then (K12 1)
    else (if j2_0 = 0 then (K12 2)
    else (if r10_0 = 0 then (K12 3)
    else (K12 0)))) fun K2 =>
    if r1_0 = v_size then (if r1_3 = (-1) then (K2 0)
    else (K2 1))
    else (K2 0)
def mX5_setScreen (v_isThereA : (Nat → Int32)) (v_vA : (Nat → Int32)) (v_spotOfA : (Nat → Int32)) (v_inMiddleA : (Nat → Int32)) (v_tintsA : (Nat → Int32)) (a0 : Int32) (a1 : Int32) (a2 : Int32) (a3 : Int32) (a4 : Int32) (a5 : Int32) : Option (Int32 × Int32 × (Nat → Int32) × (Nat → Int32) × (Nat → Int32) × (Nat → Int32) × (Nat → Int32)) :=
    bnd1 (mX5_isPart a1) fun r1_0 =>
    jB (fun (j2_0 : Int32) =>
    jB (fun (j10_0 : Int32) =>
    bnd1 (mX5_isSlot a0) fun r17_0 =>
    jB (fun (j18_0 : Int32) =>
    if j18_0 ≤ 0 then (bnd5 (mX5_put v_isThereA v_vA v_spotOfA v_inMiddleA v_tintsA a0 a1 a2 a3 a4 a5) fun r22_0 r22_1 r22_2 r22_3 r22_4 =>
    bnd1 (mX5_areaIn r22_1 a0) fun r23_0 =>
    some (r23_0, j18_0, r22_0, r22_1, r22_2, r22_3, r22_4))
    else (some (0, j18_0, v_isThereA, v_vA, v_spotOfA, v_inMiddleA, v_tintsA))) fun K18 =>
    if r17_0 = 0 then (K18 1)
    else (if j10_0 = 0 then (K18 2)
    else (K18 0))) fun K10 =>
    if j2_0 = 0 then (K10 0)
    else (bnd1 (mX5_within a5 0 4) fun r12_0 =>
    if r12_0 = 0 then (K10 0)
    else (bnd1 (mX5_areaOf a1 a2 a3 a4) fun r14_0 =>
    bnd1 (mX5_within r14_0 1 64) fun r15_0 =>
    if r15_0 = 0 then (K10 0)
    else (K10 1)))) fun K2 =>
    if r1_0 = 0 then (K2 0)
    else (bnd1 (mX5_isPart a2) fun r4_0 =>
    if r4_0 = 0 then (K2 0)
    else (bnd1 (mX5_isPart a3) fun r6_0 =>
    if r6_0 = 0 then (K2 0)
    else (bnd1 (mX5_isPart a4) fun r8_0 =>
    if r8_0 = 0 then (K2 0)
    else (K2 1))))
def mX5_remove (v_isThereA : (Nat → Int32)) (a0 : Int32) : Option (Int32 × Int32 × (Nat → Int32)) :=
    bnd1 (mX5_missing v_isThereA a0) fun r1_0 =>
    if r1_0 ≤ 0 then (gd a0 3 <|
    bnd1 (mX5_screens (upd v_isThereA a0.toNatClampNeg (vp_nar .boolean 0))) fun r4_0 =>
    some (r4_0, r1_0, (upd v_isThereA a0.toNatClampNeg (vp_nar .boolean 0))))
    else (some (0, r1_0, v_isThereA))
def mX5_turnVector (v_vA : (Nat → Int32)) (a0 : Int32) (a1 : Int32) : Option ((Nat → Int32)) :=
    gd a0 12 <|
    nmB ((v_vA a0.toNatClampNeg)) fun x2 =>
    gd (a0 + 1) 12 <|
    nmB ((v_vA (a0 + 1).toNatClampNeg)) fun x4 =>
    jB (fun (j5_0 : Int32) =>
    gd a0 12 <|
    if a1 = 1 then (gd (a0 + 1) 12 <|
    some ((upd (upd v_vA a0.toNatClampNeg j5_0) (a0 + 1).toNatClampNeg x4)))
    else (gd (a0 + 1) 12 <|
    some ((upd (upd v_vA a0.toNatClampNeg j5_0) (a0 + 1).toNatClampNeg x2)))) fun K5 =>
    if a1 = 1 then (K5 (-x2))
    else (if a1 = 0 then (K5 (-x4))
    else (K5 x4))
def mX5_exchange_L2 (a0 : Int32) : Nat → Int32 → (Nat → Int32) → Option (Int32 × (Nat → Int32))
  | 0, _, _ => none
  | fu + 1, v1_0, v1_1 =>
    if 2 ≤ v1_0 then (some (v1_0, v1_1))
    else (gd (a0 + v1_0) 12 <|
    nmB ((v1_1 (a0 + v1_0).toNatClampNeg)) fun x4 =>
    gd ((a0 + 2) + v1_0) 12 <|
    nmB ((v1_1 ((a0 + 2) + v1_0).toNatClampNeg)) fun x6 =>
    gd (a0 + v1_0) 12 <|
    gd ((a0 + 2) + v1_0) 12 <|
    nmB (v1_0 + 1) fun x9 =>
    mX5_exchange_L2 a0 fu x9 (upd (upd v1_1 (a0 + v1_0).toNatClampNeg x6) ((a0 + 2) + v1_0).toNatClampNeg x4))
def mX5_exchange (v_vA : (Nat → Int32)) (a0 : Int32) : Option ((Nat → Int32)) :=
    bnd2 (mX5_exchange_L2 a0 FU 0 v_vA) fun u1_0 u1_1 =>
    some (u1_1)
def mX5_setCenter (v_w : Int32) (v_s : Int32) (v_h : Int32) (v_laidArea : Int32) (v_isThereA : (Nat → Int32)) (v_vA : (Nat → Int32)) (v_spotOfA : (Nat → Int32)) (v_inMiddleA : (Nat → Int32)) (v_valuesA : (Nat → Int32)) (v_ranksA : (Nat → Int32)) (v_oldRanksA : (Nat → Int32)) (a0 : Int32) (a1 : Int32) : Option (Int32 × Int32 × Int32 × Int32 × Int32 × Int32 × (Nat → Int32) × (Nat → Int32) × (Nat → Int32) × (Nat → Int32)) :=
    bnd1 (mX5_missing v_isThereA a0) fun r1_0 =>
    if r1_0 ≤ 0 then (bnd7 (mX5_keepRanks v_vA v_spotOfA v_inMiddleA v_valuesA v_ranksA v_oldRanksA a0) fun r3_0 r3_1 r3_2 r3_3 r3_4 r3_5 r3_6 =>
    gd a0 3 <|
    bnd7 (mX5_otherRanks v_vA v_spotOfA (upd v_inMiddleA a0.toNatClampNeg (vp_nar .boolean a1)) r3_4 r3_5 r3_6 a0) fun r5_0 r5_1 r5_2 r5_3 r5_4 r5_5 r5_6 =>
    some (r5_0, r1_0, r5_1, r5_2, r5_3, r5_4, (upd v_inMiddleA a0.toNatClampNeg (vp_nar .boolean a1)), r5_5, r5_6, r3_6))
    else (some (0, r1_0, v_w, v_s, v_h, v_laidArea, v_inMiddleA, v_valuesA, v_ranksA, v_oldRanksA))
def mX5_turn (v_w : Int32) (v_s : Int32) (v_h : Int32) (v_laidArea : Int32) (v_isThereA : (Nat → Int32)) (v_vA : (Nat → Int32)) (v_spotOfA : (Nat → Int32)) (v_inMiddleA : (Nat → Int32)) (v_valuesA : (Nat → Int32)) (v_ranksA : (Nat → Int32)) (v_oldRanksA : (Nat → Int32)) (a0 : Int32) (a1 : Int32) : Option (Int32 × Int32 × Int32 × Int32 × Int32 × Int32 × (Nat → Int32) × (Nat → Int32) × (Nat → Int32) × (Nat → Int32)) :=
    bnd1 (mX5_within a1 0 2) fun r1_0 =>
    bnd1 (mX5_wrong v_isThereA a0 r1_0) fun r2_0 =>
    if r2_0 ≤ 0 then (bnd7 (mX5_keepRanks v_vA v_spotOfA v_inMiddleA v_valuesA v_ranksA v_oldRanksA a0) fun r4_0 r4_1 r4_2 r4_3 r4_4 r4_5 r4_6 =>
    bnd1 (mX5_turnVector v_vA (4 * a0) a1) fun r5_0 =>
    bnd1 (mX5_turnVector r5_0 ((4 * a0) + 2) a1) fun r6_0 =>
    bnd7 (mX5_otherRanks r6_0 v_spotOfA v_inMiddleA r4_4 r4_5 r4_6 a0) fun r7_0 r7_1 r7_2 r7_3 r7_4 r7_5 r7_6 =>
    some (r7_0, r2_0, r7_1, r7_2, r7_3, r7_4, r6_0, r7_5, r7_6, r4_6))
    else (some (0, r2_0, v_w, v_s, v_h, v_laidArea, v_vA, v_valuesA, v_ranksA, v_oldRanksA))
def mX5_shorten_L27 (x3 : Int32) : Nat → Int32 → Int32 → (Nat → Int32) → Option (Int32 × Int32 × (Nat → Int32))
  | 0, _, _, _ => none
  | fu + 1, v4_0, v4_1, v4_2 =>
    if v4_0 = 0 then (some (v4_0, v4_1, v4_2))
    else (bnd1 (mX5_product v4_2 (x3 + 2) (x3 + 2)) fun r6_0 =>
    bnd1 (mX5_product v4_2 x3 x3) fun r7_0 =>
    jB (fun (j8_0 : (Nat → Int32)) =>
    bnd1 (mX5_product j8_0 x3 (x3 + 2)) fun r11_0 =>
    bnd1 (mX5_product j8_0 x3 x3) fun r12_0 =>
    bnd1 (mX5_rounded r11_0 r12_0) fun r13_0 =>
    gd (x3 + 2) 12 <|
    gd x3 12 <|
    nmB (((j8_0 (x3 + 2).toNatClampNeg) - (r13_0 * (j8_0 x3.toNatClampNeg)))) fun x16 =>
    gd (x3 + 2) 12 <|
    gd (x3 + 3) 12 <|
    gd (x3 + 1) 12 <|
    nmB ((((upd j8_0 (x3 + 2).toNatClampNeg x16) (x3 + 3).toNatClampNeg) - (r13_0 * ((upd j8_0 (x3 + 2).toNatClampNeg x16) (x3 + 1).toNatClampNeg)))) fun x20 =>
    gd (x3 + 3) 12 <|
    if r13_0 = 0 then (nmB ((v4_1 + 0)) fun x24 =>
    mX5_shorten_L27 x3 fu r13_0 x24 (upd (upd j8_0 (x3 + 2).toNatClampNeg x16) (x3 + 3).toNatClampNeg x20))
    else (nmB ((v4_1 + 1)) fun x23 =>
    mX5_shorten_L27 x3 fu r13_0 x23 (upd (upd j8_0 (x3 + 2).toNatClampNeg x16) (x3 + 3).toNatClampNeg x20))) fun K8 =>
    if r7_0 ≤ r6_0 then (K8 v4_2)
    else (bnd1 (mX5_exchange v4_2 x3) fun r10_0 =>
    K8 r10_0))
def mX5_shorten (v_isThereA : (Nat → Int32)) (v_vA : (Nat → Int32)) (a0 : Int32) : Option (Int32 × Int32 × (Nat → Int32)) :=
    bnd1 (mX5_missing v_isThereA a0) fun r1_0 =>
    if r1_0 ≤ 0 then (nmB ((4 * a0)) fun x3 =>
    bnd3 (mX5_shorten_L27 x3 FU 1 0 v_vA) fun u4_0 u4_1 u4_2 =>
    some (u4_1, r1_0, u4_2))
    else (some (0, r1_0, v_vA))
def mX5_setTint (v_isThereA : (Nat → Int32)) (v_vA : (Nat → Int32)) (v_tintsA : (Nat → Int32)) (a0 : Int32) (a1 : Int32) : Option (Int32 × Int32 × (Nat → Int32)) :=
    bnd1 (mX5_missing v_isThereA a0) fun r1_0 =>
    jB (fun (j2_0 : Int32) =>
    if j2_0 ≤ 0 then (gd a0 3 <|
    nmB ((v_tintsA a0.toNatClampNeg)) fun x9 =>
    gd a0 3 <|
    some (x9, j2_0, (upd v_tintsA a0.toNatClampNeg a1)))
    else (some (0, j2_0, v_tintsA))) fun K2 =>
    if r1_0 = 0 then (bnd1 (mX5_areaIn v_vA a0) fun r4_0 =>
    bnd1 (mX5_within a1 0 r4_0) fun r5_0 =>
    if r5_0 = 0 then (K2 3)
    else (K2 r1_0))
    else (K2 r1_0)
def mX5_setGain (v_gain : Int32) (a0 : Int32) : Option (Int32 × Int32 × Int32) :=
    bnd1 (mX5_within a0 0 100) fun r1_0 =>
    jB (fun (j2_0 : Int32) =>
    if j2_0 ≤ 0 then (some (v_gain, j2_0, a0))
    else (some (0, j2_0, v_gain))) fun K2 =>
    if r1_0 = 0 then (K2 1)
    else (K2 0)
def mX5_propertyOf (v_vA : (Nat → Int32)) (v_spotOfA : (Nat → Int32)) (v_inMiddleA : (Nat → Int32)) (v_tintsA : (Nat → Int32)) (a0 : Int32) (a1 : Int32) : Option (Int32 × Int32 × Int32 × Int32) :=
    bnd3 (mX5_layScreen v_vA a0) fun r1_0 r1_1 r1_2 =>
    if a1 = 0 then (gd ((4 * a0) + a1) 12 <|
    some ((v_vA ((4 * a0) + a1).toNatClampNeg), r1_0, r1_1, r1_2))
    else (if a1 = 1 then (gd ((4 * a0) + a1) 12 <|
    some ((v_vA ((4 * a0) + a1).toNatClampNeg), r1_0, r1_1, r1_2))
    else (if a1 = 2 then (gd ((4 * a0) + a1) 12 <|
    some ((v_vA ((4 * a0) + a1).toNatClampNeg), r1_0, r1_1, r1_2))
    else (if a1 = 3 then (gd ((4 * a0) + a1) 12 <|
    some ((v_vA ((4 * a0) + a1).toNatClampNeg), r1_0, r1_1, r1_2))
    else (if a1 = 4 then (bnd1 (mX5_areaIn v_vA a0) fun r11_0 =>
    some (r11_0, r1_0, r1_1, r1_2))
    else (if a1 = 5 then (some (r1_0, r1_0, r1_1, r1_2))
    else (if a1 = 6 then (some (r1_1, r1_0, r1_1, r1_2))
    else (if a1 = 7 then (some (r1_2, r1_0, r1_1, r1_2))
    else (if a1 = 8 then (gd a0 3 <|
    some ((v_spotOfA a0.toNatClampNeg), r1_0, r1_1, r1_2))
    else (if a1 = 9 then (gd a0 3 <|
    if (v_inMiddleA a0.toNatClampNeg) = 0 then (some (0, r1_0, r1_1, r1_2))
    else (some (1, r1_0, r1_1, r1_2)))
    else (gd a0 3 <|
    some ((v_tintsA a0.toNatClampNeg), r1_0, r1_1, r1_2)))))))))))
def mX5_screen (v_w : Int32) (v_s : Int32) (v_h : Int32) (v_isThereA : (Nat → Int32)) (v_vA : (Nat → Int32)) (v_spotOfA : (Nat → Int32)) (v_inMiddleA : (Nat → Int32)) (v_tintsA : (Nat → Int32)) (a0 : Int32) (a1 : Int32) : Option (Int32 × Int32 × Int32 × Int32 × Int32) :=
    bnd1 (mX5_within a1 0 10) fun r1_0 =>
    bnd1 (mX5_wrong v_isThereA a0 r1_0) fun r2_0 =>
    if r2_0 ≤ 0 then (bnd4 (mX5_propertyOf v_vA v_spotOfA v_inMiddleA v_tintsA a0 a1) fun r4_0 r4_1 r4_2 r4_3 =>
    some (r4_0, r2_0, r4_1, r4_2, r4_3))
    else (some (0, r2_0, v_w, v_s, v_h))
def mX5_place (v_w : Int32) (v_s : Int32) (v_h : Int32) (v_isThereA : (Nat → Int32)) (v_vA : (Nat → Int32)) (a0 : Int32) (a1 : Int32) (a2 : Int32) : Option (Int32 × Int32 × Int32 × Int32 × Int32) :=
    bnd1 (mX5_isPixel a1 a2) fun r1_0 =>
    bnd1 (mX5_wrong v_isThereA a0 r1_0) fun r2_0 =>
    if r2_0 ≤ 0 then (bnd3 (mX5_layScreen v_vA a0) fun r4_0 r4_1 r4_2 =>
    bnd1 (mX5_placeAt r4_0 r4_1 r4_2 a1 a2) fun r5_0 =>
    some (r5_0, r2_0, r4_0, r4_1, r4_2))
    else (some (0, r2_0, v_w, v_s, v_h))
def mX5_growth (v_w : Int32) (v_s : Int32) (v_h : Int32) (v_laidArea : Int32) (v_isThereA : (Nat → Int32)) (v_vA : (Nat → Int32)) (v_spotOfA : (Nat → Int32)) (v_inMiddleA : (Nat → Int32)) (v_valuesA : (Nat → Int32)) (v_ranksA : (Nat → Int32)) (a0 : Int32) (a1 : Int32) (a2 : Int32) : Option (Int32 × Int32 × Int32 × Int32 × Int32 × Int32 × (Nat → Int32) × (Nat → Int32)) :=
    bnd1 (mX5_within a2 0 1) fun r1_0 =>
    bnd1 (mX5_wrong v_isThereA a0 r1_0) fun r2_0 =>
    jB (fun (j3_0 : Int32) =>
    if j3_0 ≤ 0 then (bnd6 (mX5_layGrowth v_vA v_spotOfA v_inMiddleA v_valuesA v_ranksA a0) fun r9_0 r9_1 r9_2 r9_3 r9_4 r9_5 =>
    if a2 = 0 then (gd a1 64 <|
    some ((r9_4 a1.toNatClampNeg), j3_0, r9_0, r9_1, r9_2, r9_3, r9_4, r9_5))
    else (gd a1 64 <|
    some ((r9_5 a1.toNatClampNeg), j3_0, r9_0, r9_1, r9_2, r9_3, r9_4, r9_5)))
    else (some (0, j3_0, v_w, v_s, v_h, v_laidArea, v_valuesA, v_ranksA))) fun K3 =>
    if r2_0 = 0 then (bnd1 (mX5_areaIn v_vA a0) fun r5_0 =>
    bnd1 (mX5_within a1 0 (r5_0 - 1)) fun r6_0 =>
    if r6_0 = 0 then (K3 3)
    else (K3 r2_0))
    else (K3 r2_0)
def mX5_placeOf_L59 (a1 : Int32) (r8_5 : (Nat → Int32)) : Nat → Int32 → Option (Int32)
  | 0, _ => none
  | fu + 1, v9_0 =>
    gd v9_0 64 <|
    if (r8_5 v9_0.toNatClampNeg) = a1 then (some (v9_0))
    else (nmB (v9_0 + 1) fun x12 =>
    mX5_placeOf_L59 a1 r8_5 fu x12)
def mX5_placeOf (v_w : Int32) (v_s : Int32) (v_h : Int32) (v_laidArea : Int32) (v_isThereA : (Nat → Int32)) (v_vA : (Nat → Int32)) (v_spotOfA : (Nat → Int32)) (v_inMiddleA : (Nat → Int32)) (v_valuesA : (Nat → Int32)) (v_ranksA : (Nat → Int32)) (a0 : Int32) (a1 : Int32) : Option (Int32 × Int32 × Int32 × Int32 × Int32 × Int32 × (Nat → Int32) × (Nat → Int32)) :=
    bnd1 (mX5_missing v_isThereA a0) fun r1_0 =>
    jB (fun (j2_0 : Int32) =>
    if j2_0 ≤ 0 then (bnd6 (mX5_layGrowth v_vA v_spotOfA v_inMiddleA v_valuesA v_ranksA a0) fun r8_0 r8_1 r8_2 r8_3 r8_4 r8_5 =>
    bnd1 (mX5_placeOf_L59 a1 r8_5 FU 0) fun u9_0 =>
    some (u9_0, j2_0, r8_0, r8_1, r8_2, r8_3, r8_4, r8_5))
    else (some (0, j2_0, v_w, v_s, v_h, v_laidArea, v_valuesA, v_ranksA))) fun K2 =>
    if r1_0 = 0 then (bnd1 (mX5_areaIn v_vA a0) fun r4_0 =>
    bnd1 (mX5_within a1 0 (r4_0 - 1)) fun r5_0 =>
    if r5_0 = 0 then (K2 2)
    else (K2 r1_0))
    else (K2 r1_0)
def mX5_layAll_L23 (v1_0 : Int32) (r6_3 : Int32) (r6_5 : (Nat → Int32)) : Nat → Int32 → (Nat → Int32) → Option (Int32 × (Nat → Int32))
  | 0, _, _ => none
  | fu + 1, v7_0, v7_1 =>
    if r6_3 ≤ v7_0 then (some (v7_0, v7_1))
    else (gd v7_0 64 <|
    nmB ((r6_5 v7_0.toNatClampNeg)) fun x10 =>
    gd ((64 * v1_0) + v7_0) 192 <|
    nmB (v7_0 + 1) fun x12 =>
    mX5_layAll_L23 v1_0 r6_3 r6_5 fu x12 (upd v7_1 ((64 * v1_0) + v7_0).toNatClampNeg x10))
def mX5_layAll_L2 (v_isThereA : (Nat → Int32)) (v_vA : (Nat → Int32)) (v_spotOfA : (Nat → Int32)) (v_inMiddleA : (Nat → Int32)) : Nat → Int32 → Int32 → Int32 → Int32 → Int32 → (Nat → Int32) → (Nat → Int32) → (Nat → Int32) → (Nat → Int32) → Option (Int32 × Int32 × Int32 × Int32 × Int32 × (Nat → Int32) × (Nat → Int32) × (Nat → Int32) × (Nat → Int32))
  | 0, _, _, _, _, _, _, _, _, _ => none
  | fu + 1, v1_0, v1_1, v1_2, v1_3, v1_4, v1_5, v1_6, v1_7, v1_8 =>
    if 3 ≤ v1_0 then (some (v1_0, v1_1, v1_2, v1_3, v1_4, v1_5, v1_6, v1_7, v1_8))
    else (gd v1_0 3 <|
    if (v_isThereA v1_0.toNatClampNeg) = 0 then (nmB (v1_0 + 1) fun x5 =>
    mX5_layAll_L2 v_isThereA v_vA v_spotOfA v_inMiddleA fu x5 v1_1 v1_2 v1_3 v1_4 v1_5 v1_6 v1_7 v1_8)
    else (bnd6 (mX5_layGrowth v_vA v_spotOfA v_inMiddleA v1_5 v1_6 v1_0) fun r6_0 r6_1 r6_2 r6_3 r6_4 r6_5 =>
    bnd2 (mX5_layAll_L23 v1_0 r6_3 r6_5 FU 0 v1_7) fun u7_0 u7_1 =>
    gd (3 * v1_0) 9 <|
    gd ((3 * v1_0) + 1) 9 <|
    gd ((3 * v1_0) + 2) 9 <|
    nmB (v1_0 + 1) fun x16 =>
    mX5_layAll_L2 v_isThereA v_vA v_spotOfA v_inMiddleA fu x16 r6_0 r6_1 r6_2 r6_3 r6_4 r6_5 u7_1 (upd (upd (upd v1_8 (3 * v1_0).toNatClampNeg r6_0) ((3 * v1_0) + 1).toNatClampNeg r6_1) ((3 * v1_0) + 2).toNatClampNeg r6_2)))
def mX5_layAll (v_w : Int32) (v_s : Int32) (v_h : Int32) (v_laidArea : Int32) (v_isThereA : (Nat → Int32)) (v_vA : (Nat → Int32)) (v_spotOfA : (Nat → Int32)) (v_inMiddleA : (Nat → Int32)) (v_valuesA : (Nat → Int32)) (v_ranksA : (Nat → Int32)) (v_allRanksA : (Nat → Int32)) (v_basesA : (Nat → Int32)) : Option (Int32 × Int32 × Int32 × Int32 × (Nat → Int32) × (Nat → Int32) × (Nat → Int32) × (Nat → Int32)) :=
    bnd9 (mX5_layAll_L2 v_isThereA v_vA v_spotOfA v_inMiddleA FU 0 v_w v_s v_h v_laidArea v_valuesA v_ranksA v_allRanksA v_basesA) fun u1_0 u1_1 u1_2 u1_3 u1_4 u1_5 u1_6 u1_7 u1_8 =>
    some (u1_1, u1_2, u1_3, u1_4, u1_5, u1_6, u1_7, u1_8)
def mX5_hasInk (v_tintsA : (Nat → Int32)) (v_allRanksA : (Nat → Int32)) (v_basesA : (Nat → Int32)) (a0 : Int32) (a1 : Int32) (a2 : Int32) : Option (Int32 × Int32 × Int32 × Int32) :=
    gd (3 * a0) 9 <|
    nmB ((v_basesA (3 * a0).toNatClampNeg)) fun x2 =>
    gd ((3 * a0) + 1) 9 <|
    nmB ((v_basesA ((3 * a0) + 1).toNatClampNeg)) fun x4 =>
    gd ((3 * a0) + 2) 9 <|
    nmB ((v_basesA ((3 * a0) + 2).toNatClampNeg)) fun x6 =>
    bnd1 (mX5_placeAt x2 x4 x6 a1 a2) fun r7_0 =>
    gd ((64 * a0) + r7_0) 192 <|
    gd a0 3 <|
    if (v_tintsA a0.toNatClampNeg) ≤ (v_allRanksA ((64 * a0) + r7_0).toNatClampNeg) then (some (0, x2, x4, x6))
    else (some (1, x2, x4, x6))
def mX5_inksAt_L5 (v_isThereA : (Nat → Int32)) (v_tintsA : (Nat → Int32)) (v_allRanksA : (Nat → Int32)) (v_basesA : (Nat → Int32)) (a0 : Int32) (a1 : Int32) : Nat → Int32 → Int32 → Int32 → Int32 → Int32 → Option (Int32 × Int32 × Int32 × Int32 × Int32)
  | 0, _, _, _, _, _ => none
  | fu + 1, v1_0, v1_1, v1_2, v1_3, v1_4 =>
    if 3 ≤ v1_0 then (some (v1_0, v1_1, v1_2, v1_3, v1_4))
    else (gd v1_0 3 <|
    if (v_isThereA v1_0.toNatClampNeg) = 0 then (nmB ((v1_1 + 0)) fun x5 =>
    nmB (v1_0 + 1) fun x6 =>
    mX5_inksAt_L5 v_isThereA v_tintsA v_allRanksA v_basesA a0 a1 fu x6 x5 v1_2 v1_3 v1_4)
    else (bnd4 (mX5_hasInk v_tintsA v_allRanksA v_basesA v1_0 a0 a1) fun r7_0 r7_1 r7_2 r7_3 =>
    if r7_0 = 0 then (nmB ((v1_1 + 0)) fun x9 =>
    nmB (v1_0 + 1) fun x10 =>
    mX5_inksAt_L5 v_isThereA v_tintsA v_allRanksA v_basesA a0 a1 fu x10 x9 r7_1 r7_2 r7_3)
    else (nmB ((v1_1 + (1 <<< (v1_0 &&& 31)))) fun x11 =>
    nmB (v1_0 + 1) fun x12 =>
    mX5_inksAt_L5 v_isThereA v_tintsA v_allRanksA v_basesA a0 a1 fu x12 x11 r7_1 r7_2 r7_3)))
def mX5_inksAt (v_w : Int32) (v_s : Int32) (v_h : Int32) (v_isThereA : (Nat → Int32)) (v_tintsA : (Nat → Int32)) (v_allRanksA : (Nat → Int32)) (v_basesA : (Nat → Int32)) (a0 : Int32) (a1 : Int32) : Option (Int32 × Int32 × Int32 × Int32) :=
    bnd5 (mX5_inksAt_L5 v_isThereA v_tintsA v_allRanksA v_basesA a0 a1 FU 0 0 v_w v_s v_h) fun u1_0 u1_1 u1_2 u1_3 u1_4 =>
    some (u1_1, u1_2, u1_3, u1_4)
def mX5_pixel (v_w : Int32) (v_s : Int32) (v_h : Int32) (v_laidArea : Int32) (v_isThereA : (Nat → Int32)) (v_vA : (Nat → Int32)) (v_spotOfA : (Nat → Int32)) (v_inMiddleA : (Nat → Int32)) (v_tintsA : (Nat → Int32)) (v_valuesA : (Nat → Int32)) (v_ranksA : (Nat → Int32)) (v_allRanksA : (Nat → Int32)) (v_basesA : (Nat → Int32)) (a0 : Int32) (a1 : Int32) : Option (Int32 × Int32 × Int32 × Int32 × Int32 × Int32 × (Nat → Int32) × (Nat → Int32) × (Nat → Int32) × (Nat → Int32)) :=
    bnd1 (mX5_isPixel a0 a1) fun r1_0 =>
    jB (fun (j2_0 : Int32) =>
    if j2_0 ≤ 0 then (bnd8 (mX5_layAll v_w v_s v_h v_laidArea v_isThereA v_vA v_spotOfA v_inMiddleA v_valuesA v_ranksA v_allRanksA v_basesA) fun r5_0 r5_1 r5_2 r5_3 r5_4 r5_5 r5_6 r5_7 =>
    bnd4 (mX5_inksAt r5_0 r5_1 r5_2 v_isThereA v_tintsA r5_6 r5_7 a0 a1) fun r6_0 r6_1 r6_2 r6_3 =>
    some (r6_0, j2_0, r6_1, r6_2, r6_3, r5_3, r5_4, r5_5, r5_6, r5_7))
    else (some (0, j2_0, v_w, v_s, v_h, v_laidArea, v_valuesA, v_ranksA, v_allRanksA, v_basesA))) fun K2 =>
    if r1_0 = 0 then (K2 1)
    else (K2 0)
def mX5_inked_L63 (v_tintsA : (Nat → Int32)) (a0 : Int32) (a1 : Int32) (a2 : Int32) (a3 : Int32) (a4 : Int32) (r10_6 : (Nat → Int32)) (r10_7 : (Nat → Int32)) : Nat → Int32 → Int32 → Int32 → Int32 → Int32 → Option (Int32 × Int32 × Int32 × Int32 × Int32)
  | 0, _, _, _, _, _ => none
  | fu + 1, v11_0, v11_1, v11_2, v11_3, v11_4 =>
    if (a3 * a4) ≤ v11_0 then (some (v11_0, v11_1, v11_2, v11_3, v11_4))
    else (gz a3 <|
    gz a3 <|
    bnd4 (mX5_hasInk v_tintsA r10_6 r10_7 a0 (a1 + (v11_0 - v11_0 / a3 * a3)) (a2 + (v11_0 / a3))) fun r15_0 r15_1 r15_2 r15_3 =>
    if r15_0 = 0 then (nmB ((v11_1 + 0)) fun x17 =>
    nmB (v11_0 + 1) fun x18 =>
    mX5_inked_L63 v_tintsA a0 a1 a2 a3 a4 r10_6 r10_7 fu x18 x17 r15_1 r15_2 r15_3)
    else (nmB ((v11_1 + 1)) fun x19 =>
    nmB (v11_0 + 1) fun x20 =>
    mX5_inked_L63 v_tintsA a0 a1 a2 a3 a4 r10_6 r10_7 fu x20 x19 r15_1 r15_2 r15_3))
def mX5_inked (v_w : Int32) (v_s : Int32) (v_h : Int32) (v_laidArea : Int32) (v_isThereA : (Nat → Int32)) (v_vA : (Nat → Int32)) (v_spotOfA : (Nat → Int32)) (v_inMiddleA : (Nat → Int32)) (v_tintsA : (Nat → Int32)) (v_valuesA : (Nat → Int32)) (v_ranksA : (Nat → Int32)) (v_allRanksA : (Nat → Int32)) (v_basesA : (Nat → Int32)) (a0 : Int32) (a1 : Int32) (a2 : Int32) (a3 : Int32) (a4 : Int32) : Option (Int32 × Int32 × Int32 × Int32 × Int32 × Int32 × (Nat → Int32) × (Nat → Int32) × (Nat → Int32) × (Nat → Int32)) :=
    bnd1 (mX5_isPixel a1 a2) fun r1_0 =>
    jB (fun (j2_0 : Int32) =>
    bnd1 (mX5_wrong v_isThereA a0 j2_0) fun r8_0 =>
    if r8_0 ≤ 0 then (bnd8 (mX5_layAll v_w v_s v_h v_laidArea v_isThereA v_vA v_spotOfA v_inMiddleA v_valuesA v_ranksA v_allRanksA v_basesA) fun r10_0 r10_1 r10_2 r10_3 r10_4 r10_5 r10_6 r10_7 =>
    bnd5 (mX5_inked_L63 v_tintsA a0 a1 a2 a3 a4 r10_6 r10_7 FU 0 0 r10_0 r10_1 r10_2) fun u11_0 u11_1 u11_2 u11_3 u11_4 =>
    some (u11_1, r8_0, u11_2, u11_3, u11_4, r10_3, r10_4, r10_5, r10_6, r10_7))
    else (some (0, r8_0, v_w, v_s, v_h, v_laidArea, v_valuesA, v_ranksA, v_allRanksA, v_basesA))) fun K2 =>
    if r1_0 = 0 then (K2 0)
    else (bnd1 (mX5_within a3 1 64) fun r4_0 =>
    if r4_0 = 0 then (K2 0)
    else (bnd1 (mX5_within a4 1 64) fun r6_0 =>
    if r6_0 = 0 then (K2 0)
    else (K2 1)))
def mX5_meet (v_w : Int32) (v_s : Int32) (v_h : Int32) (v_waiting : Int32) (v_isMetA : (Nat → Int32)) (v_metXA : (Nat → Int32)) (v_metYA : (Nat → Int32)) (v_lineA : (Nat → Int32)) (a0 : Int32) (a1 : Int32) : Option (Int32 × (Nat → Int32) × (Nat → Int32) × (Nat → Int32) × (Nat → Int32)) :=
    bnd1 (mX5_placeAt v_w v_s v_h a0 a1) fun r1_0 =>
    gd r1_0 64 <|
    gd r1_0 64 <|
    gd r1_0 64 <|
    gd v_waiting 64 <|
    nmB ((v_waiting + 1)) fun x6 =>
    some (x6, (upd v_isMetA r1_0.toNatClampNeg (vp_nar .boolean 1)), (upd v_metXA r1_0.toNatClampNeg a0), (upd v_metYA r1_0.toNatClampNeg a1), (upd v_lineA v_waiting.toNatClampNeg r1_0))
def mX5_shift (v_shiftX : Int32) (v_shiftY : Int32) (v_times : Int32) (a0 : Int32) (a1 : Int32) : Option (Int32 × Int32 × Int32) :=
    jB (fun (j1_0 : Int32) =>
    if j1_0 = 0 then (if v_times = 0 then (some (a0, a1, 1))
    else (if j1_0 = 0 then (if (v_shiftX * a1) = (v_shiftY * a0) then (some (v_shiftX, v_shiftY, v_times))
    else (some (v_shiftX, v_shiftY, 2)))
    else (some (v_shiftX, v_shiftY, v_times))))
    else (if j1_0 = 0 then (if (v_shiftX * a1) = (v_shiftY * a0) then (some (v_shiftX, v_shiftY, v_times))
    else (some (v_shiftX, v_shiftY, 2)))
    else (some (v_shiftX, v_shiftY, v_times)))) fun K1 =>
    if a0 = 0 then (if a1 = 0 then (K1 1)
    else (K1 0))
    else (K1 0)
def mX5_follow_L65 (v_w : Int32) (v_s : Int32) (v_h : Int32) (v_ranksA : (Nat → Int32)) (a1 : Int32) (x8 : Int32) (x11 : Int32) : Nat → Int32 → Int32 → Int32 → Int32 → Int32 → (Nat → Int32) → (Nat → Int32) → (Nat → Int32) → (Nat → Int32) → Option (Int32 × Int32 × Int32 × Int32 × Int32 × (Nat → Int32) × (Nat → Int32) × (Nat → Int32) × (Nat → Int32))
  | 0, _, _, _, _, _, _, _, _, _ => none
  | fu + 1, v12_0, v12_1, v12_2, v12_3, v12_4, v12_5, v12_6, v12_7, v12_8 =>
    if 4 ≤ v12_0 then (some (v12_0, v12_1, v12_2, v12_3, v12_4, v12_5, v12_6, v12_7, v12_8))
    else (jB (fun (j14_0 : Int32) =>
    nmB ((x8 + j14_0)) fun x17 =>
    jB (fun (j18_0 : Int32) =>
    nmB ((x11 + j18_0)) fun x21 =>
    bnd1 (mX5_placeAt v_w v_s v_h x17 x21) fun r22_0 =>
    gd r22_0 64 <|
    if a1 ≤ (v_ranksA r22_0.toNatClampNeg) then (gd r22_0 64 <|
    if a1 ≤ (v_ranksA r22_0.toNatClampNeg) then (nmB (v12_0 + 1) fun x27 =>
    mX5_follow_L65 v_w v_s v_h v_ranksA a1 x8 x11 fu x27 v12_1 v12_2 v12_3 v12_4 v12_5 v12_6 v12_7 v12_8)
    else (bnd5 (mX5_meet v_w v_s v_h v12_1 v12_5 v12_6 v12_7 v12_8 x17 x21) fun r28_0 r28_1 r28_2 r28_3 r28_4 =>
    nmB (v12_0 + 1) fun x29 =>
    mX5_follow_L65 v_w v_s v_h v_ranksA a1 x8 x11 fu x29 r28_0 v12_2 v12_3 v12_4 r28_1 r28_2 r28_3 r28_4))
    else (gd r22_0 64 <|
    if (v12_5 r22_0.toNatClampNeg) = 0 then (gd r22_0 64 <|
    if a1 ≤ (v_ranksA r22_0.toNatClampNeg) then (nmB (v12_0 + 1) fun x34 =>
    mX5_follow_L65 v_w v_s v_h v_ranksA a1 x8 x11 fu x34 v12_1 v12_2 v12_3 v12_4 v12_5 v12_6 v12_7 v12_8)
    else (bnd5 (mX5_meet v_w v_s v_h v12_1 v12_5 v12_6 v12_7 v12_8 x17 x21) fun r35_0 r35_1 r35_2 r35_3 r35_4 =>
    nmB (v12_0 + 1) fun x36 =>
    mX5_follow_L65 v_w v_s v_h v_ranksA a1 x8 x11 fu x36 r35_0 v12_2 v12_3 v12_4 r35_1 r35_2 r35_3 r35_4))
    else (gd r22_0 64 <|
    gd r22_0 64 <|
    bnd3 (mX5_shift v12_2 v12_3 v12_4 (x17 - (v12_6 r22_0.toNatClampNeg)) (x21 - (v12_7 r22_0.toNatClampNeg))) fun r39_0 r39_1 r39_2 =>
    nmB (v12_0 + 1) fun x40 =>
    mX5_follow_L65 v_w v_s v_h v_ranksA a1 x8 x11 fu x40 v12_1 r39_0 r39_1 r39_2 v12_5 v12_6 v12_7 v12_8))) fun K18 =>
    if v12_0 = 2 then (K18 1)
    else (if v12_0 = 3 then (K18 (-1))
    else (K18 0))) fun K14 =>
    if v12_0 = 0 then (K14 1)
    else (if v12_0 = 1 then (K14 (-1))
    else (K14 0)))
def mX5_follow_L28 (v_w : Int32) (v_s : Int32) (v_h : Int32) (v_ranksA : (Nat → Int32)) (a1 : Int32) : Nat → Int32 → Int32 → Int32 → Int32 → Int32 → (Nat → Int32) → (Nat → Int32) → (Nat → Int32) → (Nat → Int32) → Option (Int32 × Int32 × Int32 × Int32 × Int32 × (Nat → Int32) × (Nat → Int32) × (Nat → Int32) × (Nat → Int32))
  | 0, _, _, _, _, _, _, _, _, _ => none
  | fu + 1, v4_0, v4_1, v4_2, v4_3, v4_4, v4_5, v4_6, v4_7, v4_8 =>
    if v4_1 ≤ v4_0 then (some (v4_0, v4_1, v4_2, v4_3, v4_4, v4_5, v4_6, v4_7, v4_8))
    else (gd v4_0 64 <|
    gd (v4_8 v4_0.toNatClampNeg) 64 <|
    nmB ((v4_6 (v4_8 v4_0.toNatClampNeg).toNatClampNeg)) fun x8 =>
    gd v4_0 64 <|
    gd (v4_8 v4_0.toNatClampNeg) 64 <|
    nmB ((v4_7 (v4_8 v4_0.toNatClampNeg).toNatClampNeg)) fun x11 =>
    bnd9 (mX5_follow_L65 v_w v_s v_h v_ranksA a1 x8 x11 FU 0 v4_1 v4_2 v4_3 v4_4 v4_5 v4_6 v4_7 v4_8) fun u12_0 u12_1 u12_2 u12_3 u12_4 u12_5 u12_6 u12_7 u12_8 =>
    nmB (v4_0 + 1) fun x41 =>
    mX5_follow_L28 v_w v_s v_h v_ranksA a1 fu x41 u12_1 u12_2 u12_3 u12_4 u12_5 u12_6 u12_7 u12_8)
def mX5_follow (v_w : Int32) (v_s : Int32) (v_h : Int32) (v_shiftX : Int32) (v_shiftY : Int32) (v_ranksA : (Nat → Int32)) (v_isMetA : (Nat → Int32)) (v_metXA : (Nat → Int32)) (v_metYA : (Nat → Int32)) (v_lineA : (Nat → Int32)) (a0 : Int32) (a1 : Int32) : Option (Int32 × Int32 × Int32 × Int32 × Int32 × (Nat → Int32) × (Nat → Int32) × (Nat → Int32) × (Nat → Int32)) :=
    gz v_w <|
    gz v_w <|
    bnd5 (mX5_meet v_w v_s v_h 0 v_isMetA v_metXA v_metYA v_lineA (a0 - a0 / v_w * v_w) (a0 / v_w)) fun r3_0 r3_1 r3_2 r3_3 r3_4 =>
    bnd9 (mX5_follow_L28 v_w v_s v_h v_ranksA a1 FU 0 r3_0 v_shiftX v_shiftY 0 r3_1 r3_2 r3_3 r3_4) fun u4_0 u4_1 u4_2 u4_3 u4_4 u4_5 u4_6 u4_7 u4_8 =>
    some (u4_4, u4_1, u4_2, u4_3, u4_4, u4_5, u4_6, u4_7, u4_8)
def mX5_layDots_L12 (v_laidArea : Int32) : Nat → Int32 → (Nat → Int32) → Option (Int32 × (Nat → Int32))
  | 0, _, _ => none
  | fu + 1, v1_0, v1_1 =>
    if v_laidArea ≤ v1_0 then (some (v1_0, v1_1))
    else (gd v1_0 64 <|
    nmB (v1_0 + 1) fun x4 =>
    mX5_layDots_L12 v_laidArea fu x4 (upd v1_1 v1_0.toNatClampNeg (vp_nar .boolean 0)))
def mX5_layDots_L35 (v_w : Int32) (v_s : Int32) (v_h : Int32) (v_laidArea : Int32) (v_ranksA : (Nat → Int32)) (a0 : Int32) : Nat → Int32 → Int32 → Int32 → Int32 → Int32 → Int32 → Int32 → (Nat → Int32) → (Nat → Int32) → (Nat → Int32) → (Nat → Int32) → Option (Int32 × Int32 × Int32 × Int32 × Int32 × Int32 × Int32 × (Nat → Int32) × (Nat → Int32) × (Nat → Int32) × (Nat → Int32))
  | 0, _, _, _, _, _, _, _, _, _, _, _ => none
  | fu + 1, v5_0, v5_1, v5_2, v5_3, v5_4, v5_5, v5_6, v5_7, v5_8, v5_9, v5_10 =>
    if v_laidArea ≤ v5_0 then (some (v5_0, v5_1, v5_2, v5_3, v5_4, v5_5, v5_6, v5_7, v5_8, v5_9, v5_10))
    else (gd v5_0 64 <|
    if a0 ≤ (v_ranksA v5_0.toNatClampNeg) then (nmB (v5_0 + 1) fun x9 =>
    mX5_layDots_L35 v_w v_s v_h v_laidArea v_ranksA a0 fu x9 v5_1 v5_2 v5_3 v5_4 v5_5 v5_6 v5_7 v5_8 v5_9 v5_10)
    else (gd v5_0 64 <|
    if (v5_7 v5_0.toNatClampNeg) = 0 then (bnd9 (mX5_follow v_w v_s v_h v5_2 v5_3 v_ranksA v5_7 v5_8 v5_9 v5_10 v5_0 a0) fun r13_0 r13_1 r13_2 r13_3 r13_4 r13_5 r13_6 r13_7 r13_8 =>
    if r13_0 ≤ v5_6 then (nmB ((v5_5 + 1)) fun x15 =>
    nmB (v5_0 + 1) fun x16 =>
    mX5_layDots_L35 v_w v_s v_h v_laidArea v_ranksA a0 fu x16 r13_1 r13_2 r13_3 r13_4 x15 v5_6 r13_5 r13_6 r13_7 r13_8)
    else (nmB ((v5_5 + 1)) fun x17 =>
    nmB (v5_0 + 1) fun x18 =>
    mX5_layDots_L35 v_w v_s v_h v_laidArea v_ranksA a0 fu x18 r13_1 r13_2 r13_3 r13_4 x17 r13_0 r13_5 r13_6 r13_7 r13_8))
    else (nmB (v5_0 + 1) fun x12 =>
    mX5_layDots_L35 v_w v_s v_h v_laidArea v_ranksA a0 fu x12 v5_1 v5_2 v5_3 v5_4 v5_5 v5_6 v5_7 v5_8 v5_9 v5_10)))
def mX5_layDots (v_w : Int32) (v_s : Int32) (v_h : Int32) (v_laidArea : Int32) (v_waiting : Int32) (v_shiftX : Int32) (v_shiftY : Int32) (v_times : Int32) (v_ranksA : (Nat → Int32)) (v_isMetA : (Nat → Int32)) (v_metXA : (Nat → Int32)) (v_metYA : (Nat → Int32)) (v_lineA : (Nat → Int32)) (a0 : Int32) : Option (Int32 × Int32 × Int32 × Int32 × Int32 × Int32 × (Nat → Int32) × (Nat → Int32) × (Nat → Int32) × (Nat → Int32)) :=
    bnd2 (mX5_layDots_L12 v_laidArea FU 0 v_isMetA) fun u1_0 u1_1 =>
    bnd11 (mX5_layDots_L35 v_w v_s v_h v_laidArea v_ranksA a0 FU 0 v_waiting v_shiftX v_shiftY v_times 0 0 u1_1 v_metXA v_metYA v_lineA) fun u5_0 u5_1 u5_2 u5_3 u5_4 u5_5 u5_6 u5_7 u5_8 u5_9 u5_10 =>
    some (u5_1, u5_2, u5_3, u5_4, u5_5, u5_6, u5_7, u5_8, u5_9, u5_10)
def mX5_dots (v_w : Int32) (v_s : Int32) (v_h : Int32) (v_laidArea : Int32) (v_waiting : Int32) (v_shiftX : Int32) (v_shiftY : Int32) (v_times : Int32) (v_dotsLaid : Int32) (v_joinedLaid : Int32) (v_isThereA : (Nat → Int32)) (v_vA : (Nat → Int32)) (v_spotOfA : (Nat → Int32)) (v_inMiddleA : (Nat → Int32)) (v_valuesA : (Nat → Int32)) (v_ranksA : (Nat → Int32)) (v_isMetA : (Nat → Int32)) (v_metXA : (Nat → Int32)) (v_metYA : (Nat → Int32)) (v_lineA : (Nat → Int32)) (a0 : Int32) (a1 : Int32) : Option (Int32 × Int32 × Int32 × Int32 × Int32 × Int32 × Int32 × Int32 × Int32 × Int32 × Int32 × Int32 × (Nat → Int32) × (Nat → Int32) × (Nat → Int32) × (Nat → Int32) × (Nat → Int32) × (Nat → Int32)) :=
    bnd1 (mX5_steppedWrong v_isThereA v_vA a0 a1) fun r1_0 =>
    if r1_0 ≤ 0 then (bnd6 (mX5_layGrowth v_vA v_spotOfA v_inMiddleA v_valuesA v_ranksA a0) fun r3_0 r3_1 r3_2 r3_3 r3_4 r3_5 =>
    bnd10 (mX5_layDots r3_0 r3_1 r3_2 r3_3 v_waiting v_shiftX v_shiftY v_times r3_5 v_isMetA v_metXA v_metYA v_lineA a1) fun r4_0 r4_1 r4_2 r4_3 r4_4 r4_5 r4_6 r4_7 r4_8 r4_9 =>
    some (r4_4, r1_0, r3_0, r3_1, r3_2, r3_3, r4_0, r4_1, r4_2, r4_3, r4_4, r4_5, r3_4, r3_5, r4_6, r4_7, r4_8, r4_9))
    else (some (0, r1_0, v_w, v_s, v_h, v_laidArea, v_waiting, v_shiftX, v_shiftY, v_times, v_dotsLaid, v_joinedLaid, v_valuesA, v_ranksA, v_isMetA, v_metXA, v_metYA, v_lineA))
def mX5_joined (v_w : Int32) (v_s : Int32) (v_h : Int32) (v_laidArea : Int32) (v_waiting : Int32) (v_shiftX : Int32) (v_shiftY : Int32) (v_times : Int32) (v_dotsLaid : Int32) (v_joinedLaid : Int32) (v_isThereA : (Nat → Int32)) (v_vA : (Nat → Int32)) (v_spotOfA : (Nat → Int32)) (v_inMiddleA : (Nat → Int32)) (v_valuesA : (Nat → Int32)) (v_ranksA : (Nat → Int32)) (v_isMetA : (Nat → Int32)) (v_metXA : (Nat → Int32)) (v_metYA : (Nat → Int32)) (v_lineA : (Nat → Int32)) (a0 : Int32) (a1 : Int32) : Option (Int32 × Int32 × Int32 × Int32 × Int32 × Int32 × Int32 × Int32 × Int32 × Int32 × Int32 × Int32 × (Nat → Int32) × (Nat → Int32) × (Nat → Int32) × (Nat → Int32) × (Nat → Int32) × (Nat → Int32)) :=
    bnd1 (mX5_steppedWrong v_isThereA v_vA a0 a1) fun r1_0 =>
    if r1_0 ≤ 0 then (bnd6 (mX5_layGrowth v_vA v_spotOfA v_inMiddleA v_valuesA v_ranksA a0) fun r3_0 r3_1 r3_2 r3_3 r3_4 r3_5 =>
    bnd10 (mX5_layDots r3_0 r3_1 r3_2 r3_3 v_waiting v_shiftX v_shiftY v_times r3_5 v_isMetA v_metXA v_metYA v_lineA a1) fun r4_0 r4_1 r4_2 r4_3 r4_4 r4_5 r4_6 r4_7 r4_8 r4_9 =>
    some (r4_5, r1_0, r3_0, r3_1, r3_2, r3_3, r4_0, r4_1, r4_2, r4_3, r4_4, r4_5, r3_4, r3_5, r4_6, r4_7, r4_8, r4_9))
    else (some (0, r1_0, v_w, v_s, v_h, v_laidArea, v_waiting, v_shiftX, v_shiftY, v_times, v_dotsLaid, v_joinedLaid, v_valuesA, v_ranksA, v_isMetA, v_metXA, v_metYA, v_lineA))
def mX5_firstJoined_L36 (a1 : Int32) (r4_0 : Int32) (r4_1 : Int32) (r4_2 : Int32) (r4_3 : Int32) (r4_5 : (Nat → Int32)) : Nat → Int32 → Int32 → Int32 → Int32 → Int32 → Int32 → Int32 → (Nat → Int32) → (Nat → Int32) → (Nat → Int32) → (Nat → Int32) → Option (Int32 × Int32 × Int32 × Int32 × Int32 × Int32 × Int32 × (Nat → Int32) × (Nat → Int32) × (Nat → Int32) × (Nat → Int32))
  | 0, _, _, _, _, _, _, _, _, _, _, _ => none
  | fu + 1, v6_0, v6_1, v6_2, v6_3, v6_4, v6_5, v6_6, v6_7, v6_8, v6_9, v6_10 =>
    if a1 ≤ v6_6 then (some (v6_0, v6_1, v6_2, v6_3, v6_4, v6_5, v6_6, v6_7, v6_8, v6_9, v6_10))
    else (nmB (v6_0 + 1) fun x8 =>
    bnd10 (mX5_layDots r4_0 r4_1 r4_2 r4_3 v6_1 v6_2 v6_3 v6_4 r4_5 v6_7 v6_8 v6_9 v6_10 x8) fun r9_0 r9_1 r9_2 r9_3 r9_4 r9_5 r9_6 r9_7 r9_8 r9_9 =>
    mX5_firstJoined_L36 a1 r4_0 r4_1 r4_2 r4_3 r4_5 fu x8 r9_0 r9_1 r9_2 r9_3 r9_4 r9_5 r9_6 r9_7 r9_8 r9_9)
def mX5_firstJoined (v_w : Int32) (v_s : Int32) (v_h : Int32) (v_laidArea : Int32) (v_waiting : Int32) (v_shiftX : Int32) (v_shiftY : Int32) (v_times : Int32) (v_dotsLaid : Int32) (v_joinedLaid : Int32) (v_isThereA : (Nat → Int32)) (v_vA : (Nat → Int32)) (v_spotOfA : (Nat → Int32)) (v_inMiddleA : (Nat → Int32)) (v_valuesA : (Nat → Int32)) (v_ranksA : (Nat → Int32)) (v_isMetA : (Nat → Int32)) (v_metXA : (Nat → Int32)) (v_metYA : (Nat → Int32)) (v_lineA : (Nat → Int32)) (a0 : Int32) (a1 : Int32) : Option (Int32 × Int32 × Int32 × Int32 × Int32 × Int32 × Int32 × Int32 × Int32 × Int32 × Int32 × Int32 × (Nat → Int32) × (Nat → Int32) × (Nat → Int32) × (Nat → Int32) × (Nat → Int32) × (Nat → Int32)) :=
    bnd1 (mX5_within a1 1 2) fun r1_0 =>
    bnd1 (mX5_wrong v_isThereA a0 r1_0) fun r2_0 =>
    if r2_0 ≤ 0 then (bnd6 (mX5_layGrowth v_vA v_spotOfA v_inMiddleA v_valuesA v_ranksA a0) fun r4_0 r4_1 r4_2 r4_3 r4_4 r4_5 =>
    bnd10 (mX5_layDots r4_0 r4_1 r4_2 r4_3 v_waiting v_shiftX v_shiftY v_times r4_5 v_isMetA v_metXA v_metYA v_lineA 0) fun r5_0 r5_1 r5_2 r5_3 r5_4 r5_5 r5_6 r5_7 r5_8 r5_9 =>
    bnd11 (mX5_firstJoined_L36 a1 r4_0 r4_1 r4_2 r4_3 r4_5 FU 0 r5_0 r5_1 r5_2 r5_3 r5_4 r5_5 r5_6 r5_7 r5_8 r5_9) fun u6_0 u6_1 u6_2 u6_3 u6_4 u6_5 u6_6 u6_7 u6_8 u6_9 u6_10 =>
    some (u6_0, r2_0, r4_0, r4_1, r4_2, r4_3, u6_1, u6_2, u6_3, u6_4, u6_5, u6_6, r4_4, r4_5, u6_7, u6_8, u6_9, u6_10))
    else (some (0, r2_0, v_w, v_s, v_h, v_laidArea, v_waiting, v_shiftX, v_shiftY, v_times, v_dotsLaid, v_joinedLaid, v_valuesA, v_ranksA, v_isMetA, v_metXA, v_metYA, v_lineA))
def mX5_strength (v_gain : Int32) (v_w : Int32) (v_s : Int32) (v_h : Int32) (v_laidArea : Int32) (v_isThereA : (Nat → Int32)) (v_vA : (Nat → Int32)) (v_spotOfA : (Nat → Int32)) (v_inMiddleA : (Nat → Int32)) (v_valuesA : (Nat → Int32)) (v_ranksA : (Nat → Int32)) (a0 : Int32) (a1 : Int32) : Option (Int32 × Int32 × Int32 × Int32 × Int32 × Int32 × (Nat → Int32) × (Nat → Int32)) :=
    bnd1 (mX5_steppedWrong v_isThereA v_vA a0 a1) fun r1_0 =>
    if r1_0 ≤ 0 then (bnd6 (mX5_layGrowth v_vA v_spotOfA v_inMiddleA v_valuesA v_ranksA a0) fun r3_0 r3_1 r3_2 r3_3 r3_4 r3_5 =>
    bnd1 (mX5_strengthOf v_gain r3_0 r3_1 r3_2 r3_3 r3_5 a1) fun r4_0 =>
    some (r4_0, r1_0, r3_0, r3_1, r3_2, r3_3, r3_4, r3_5))
    else (some (0, r1_0, v_w, v_s, v_h, v_laidArea, v_valuesA, v_ranksA))
def mX5_meanStrength (v_gain : Int32) (v_w : Int32) (v_s : Int32) (v_h : Int32) (v_laidArea : Int32) (v_isThereA : (Nat → Int32)) (v_vA : (Nat → Int32)) (v_spotOfA : (Nat → Int32)) (v_inMiddleA : (Nat → Int32)) (v_tintsA : (Nat → Int32)) (v_valuesA : (Nat → Int32)) (v_ranksA : (Nat → Int32)) (a0 : Int32) : Option (UInt64 × Int32 × Int32 × Int32 × Int32 × Int32 × (Nat → Int32) × (Nat → Int32)) :=
    bnd1 (mX5_missing v_isThereA a0) fun r1_0 =>
    if r1_0 ≤ 0 then (bnd6 (mX5_layGrowth v_vA v_spotOfA v_inMiddleA v_valuesA v_ranksA a0) fun r3_0 r3_1 r3_2 r3_3 r3_4 r3_5 =>
    gd a0 3 <|
    bnd1 (mX5_strengthOf v_gain r3_0 r3_1 r3_2 r3_3 r3_5 (v_tintsA a0.toNatClampNeg)) fun r5_0 =>
    gz r3_3 <|
    some ((FP.ddiv (FP.i2d r5_0) (FP.i2d r3_3)), r1_0, r3_0, r3_1, r3_2, r3_3, r3_4, r3_5))
    else (some (FP.dconst0, r1_0, v_w, v_s, v_h, v_laidArea, v_valuesA, v_ranksA))
def mX5_compensated_L38 (v_gain : Int32) (a1 : Int32) (r4_0 : Int32) (r4_1 : Int32) (r4_2 : Int32) (r4_3 : Int32) (r4_5 : (Nat → Int32)) : Nat → Int32 → Int32 → Int32 → Option (Int32 × Int32 × Int32)
  | 0, _, _, _ => none
  | fu + 1, v5_0, v5_1, v5_2 =>
    if r4_3 < v5_0 then (some (v5_0, v5_1, v5_2))
    else (bnd1 (mX5_strengthOf v_gain r4_0 r4_1 r4_2 r4_3 r4_5 v5_0) fun r7_0 =>
    bnd1 (mX5_abs (r7_0 - (a1 * r4_3))) fun r8_0 =>
    jB (fun (j9_0 : Int32) =>
    if v5_1 = (-1) then (nmB (v5_0 + 1) fun x13 =>
    mX5_compensated_L38 v_gain a1 r4_0 r4_1 r4_2 r4_3 r4_5 fu x13 r8_0 j9_0)
    else (if v5_1 ≤ r8_0 then (nmB (v5_0 + 1) fun x15 =>
    mX5_compensated_L38 v_gain a1 r4_0 r4_1 r4_2 r4_3 r4_5 fu x15 v5_1 j9_0)
    else (nmB (v5_0 + 1) fun x16 =>
    mX5_compensated_L38 v_gain a1 r4_0 r4_1 r4_2 r4_3 r4_5 fu x16 r8_0 j9_0))) fun K9 =>
    if v5_1 = (-1) then (K9 v5_0)
    else (if v5_1 ≤ r8_0 then (K9 v5_2)
    else (K9 v5_0)))
def mX5_compensated (v_gain : Int32) (v_w : Int32) (v_s : Int32) (v_h : Int32) (v_laidArea : Int32) (v_isThereA : (Nat → Int32)) (v_vA : (Nat → Int32)) (v_spotOfA : (Nat → Int32)) (v_inMiddleA : (Nat → Int32)) (v_valuesA : (Nat → Int32)) (v_ranksA : (Nat → Int32)) (a0 : Int32) (a1 : Int32) : Option (Int32 × Int32 × Int32 × Int32 × Int32 × Int32 × (Nat → Int32) × (Nat → Int32)) :=
    bnd1 (mX5_within a1 0 100) fun r1_0 =>
    bnd1 (mX5_wrong v_isThereA a0 r1_0) fun r2_0 =>
    if r2_0 ≤ 0 then (bnd6 (mX5_layGrowth v_vA v_spotOfA v_inMiddleA v_valuesA v_ranksA a0) fun r4_0 r4_1 r4_2 r4_3 r4_4 r4_5 =>
    bnd3 (mX5_compensated_L38 v_gain a1 r4_0 r4_1 r4_2 r4_3 r4_5 FU 0 (-1) 0) fun u5_0 u5_1 u5_2 =>
    some (u5_2, r2_0, r4_0, r4_1, r4_2, r4_3, r4_4, r4_5))
    else (some (0, r2_0, v_w, v_s, v_h, v_laidArea, v_valuesA, v_ranksA))
def mX5_meetLattice_L112 (v_w : Int32) (a0 : Int32) (r16_0 : Int32) : Nat → Int32 → Option (Int32)
  | 0, _ => none
  | fu + 1, v17_0 =>
    gz a0 <|
    if (v17_0 - v17_0 / a0 * a0) = r16_0 then (some (v17_0))
    else (nmB ((v17_0 + v_w)) fun x20 =>
    mX5_meetLattice_L112 v_w a0 r16_0 fu x20)
def mX5_meetLattice (v_w : Int32) (v_s : Int32) (v_h : Int32) (a0 : Int32) (a1 : Int32) (a2 : Int32) : Option (Int32 × Int32 × Int32) :=
    bnd1 (mX5_gcd v_w a0) fun r1_0 =>
    bnd1 (mX5_gcd v_h a2) fun r2_0 =>
    gz r2_0 <|
    nmB (((v_h / r2_0) * a2)) fun x4 =>
    gz v_h <|
    gz a2 <|
    bnd1 (mX5_mod (((x4 / v_h) * v_s) - ((x4 / a2) * a1)) r1_0) fun r7_0 =>
    bnd1 (mX5_gcd r1_0 r7_0) fun r8_0 =>
    gz r8_0 <|
    nmB ((x4 * (r1_0 / r8_0))) fun x10 =>
    gz r1_0 <|
    nmB (((v_w / r1_0) * a0)) fun x12 =>
    gz v_h <|
    bnd1 (mX5_mod ((x10 / v_h) * v_s) v_w) fun r14_0 =>
    gz a2 <|
    bnd1 (mX5_mod ((x10 / a2) * a1) a0) fun r16_0 =>
    bnd1 (mX5_meetLattice_L112 v_w a0 r16_0 FU r14_0) fun u17_0 =>
    some (x12, u17_0, x10)
def mX5_layPeriod_L17 (v_vA : (Nat → Int32)) (a0 : Int32) : Nat → Int32 → Int32 → Int32 → Int32 → Option (Int32 × Int32 × Int32 × Int32)
  | 0, _, _, _, _ => none
  | fu + 1, v1_0, v1_1, v1_2, v1_3 =>
    if 3 ≤ v1_0 then (some (v1_0, v1_1, v1_2, v1_3))
    else (if ((a0 >>> (v1_0 &&& 31)) &&& 1) = 1 then (bnd3 (mX5_layScreen v_vA v1_0) fun r5_0 r5_1 r5_2 =>
    bnd3 (mX5_meetLattice r5_0 r5_1 r5_2 v1_1 v1_2 v1_3) fun r6_0 r6_1 r6_2 =>
    nmB (v1_0 + 1) fun x7 =>
    mX5_layPeriod_L17 v_vA a0 fu x7 r6_0 r6_1 r6_2)
    else (nmB (v1_0 + 1) fun x4 =>
    mX5_layPeriod_L17 v_vA a0 fu x4 v1_1 v1_2 v1_3))
def mX5_layPeriod (v_vA : (Nat → Int32)) (a0 : Int32) : Option (Int32 × Int32 × Int32) :=
    bnd4 (mX5_layPeriod_L17 v_vA a0 FU 0 1 0 1) fun u1_0 u1_1 u1_2 u1_3 =>
    some (u1_1, u1_2, u1_3)
def mX5_period (v_w : Int32) (v_s : Int32) (v_h : Int32) (v_isThereA : (Nat → Int32)) (v_vA : (Nat → Int32)) (a0 : Int32) (a1 : Int32) : Option (Int32 × Int32 × Int32 × Int32 × Int32) :=
    bnd1 (mX5_within a0 1 7) fun r1_0 =>
    jB (fun (j2_0 : Int32) =>
    if j2_0 ≤ 0 then (bnd3 (mX5_layPeriod v_vA a0) fun r9_0 r9_1 r9_2 =>
    bnd1 (mX5_numberOf r9_0 r9_1 r9_2 a1) fun r10_0 =>
    some (r10_0, j2_0, r9_0, r9_1, r9_2))
    else (some (0, j2_0, v_w, v_s, v_h))) fun K2 =>
    if r1_0 = 0 then (K2 1)
    else (bnd1 (mX5_within a1 0 3) fun r4_0 =>
    if r4_0 = 0 then (K2 1)
    else (bnd1 (mX5_there v_isThereA) fun r6_0 =>
    if (a0 &&& (r6_0 ^^^ (-1))) = 0 then (K2 0)
    else (K2 2)))
def mX5_layBeat_L41 (r1_2 : Int32) (r2_2 : Int32) (r3_0 : Int32) : Nat → Int32 → Option (Int32)
  | 0, _ => none
  | fu + 1, v4_0 =>
    gz r2_2 <|
    if ((r3_0 - (v4_0 * r1_2)) - (r3_0 - (v4_0 * r1_2)) / r2_2 * r2_2) = 0 then (some (v4_0))
    else (nmB (v4_0 + 1) fun x7 =>
    mX5_layBeat_L41 r1_2 r2_2 r3_0 fu x7)
def mX5_layBeat (v_vA : (Nat → Int32)) (a0 : Int32) (a1 : Int32) : Option (Int32 × Int32 × Int32) :=
    bnd3 (mX5_layScreen v_vA a0) fun r1_0 r1_1 r1_2 =>
    bnd3 (mX5_layScreen v_vA a1) fun r2_0 r2_1 r2_2 =>
    bnd1 (mX5_gcd r1_2 r2_2) fun r3_0 =>
    bnd1 (mX5_layBeat_L41 r1_2 r2_2 r3_0 FU 0) fun u4_0 =>
    gz r2_2 <|
    nmB (((u4_0 * r1_1) + (((r3_0 - (u4_0 * r1_2)) / r2_2) * r2_1))) fun x9 =>
    bnd1 (mX5_gcd r1_0 r2_0) fun r10_0 =>
    gz r3_0 <|
    gz r3_0 <|
    bnd1 (mX5_gcd (((r1_2 / r3_0) * x9) - r1_1) (((r2_2 / r3_0) * x9) - r2_1)) fun r13_0 =>
    bnd1 (mX5_gcd r10_0 r13_0) fun r14_0 =>
    bnd1 (mX5_mod x9 r14_0) fun r15_0 =>
    some (r14_0, r15_0, r3_0)
def mX5_beat (v_w : Int32) (v_s : Int32) (v_h : Int32) (v_isThereA : (Nat → Int32)) (v_vA : (Nat → Int32)) (a0 : Int32) (a1 : Int32) (a2 : Int32) : Option (Int32 × Int32 × Int32 × Int32 × Int32) :=
    bnd1 (mX5_isSlot a0) fun r1_0 =>
    jB (fun (j2_0 : Int32) =>
    jB (fun (j6_0 : Int32) =>
    if j6_0 ≤ 0 then (bnd3 (mX5_layBeat v_vA a0 a1) fun r15_0 r15_1 r15_2 =>
    bnd1 (mX5_numberOf r15_0 r15_1 r15_2 a2) fun r16_0 =>
    some (r16_0, j6_0, r15_0, r15_1, r15_2))
    else (some (0, j6_0, v_w, v_s, v_h))) fun K6 =>
    if j2_0 = 0 then (K6 1)
    else (bnd1 (mX5_within a2 0 3) fun r8_0 =>
    if r8_0 = 0 then (K6 2)
    else (gd a0 3 <|
    if (v_isThereA a0.toNatClampNeg) = 0 then (K6 3)
    else (gd a1 3 <|
    if (v_isThereA a1.toNatClampNeg) = 0 then (K6 3)
    else (K6 0))))) fun K2 =>
    if r1_0 = 0 then (K2 0)
    else (bnd1 (mX5_isSlot a1) fun r4_0 =>
    if r4_0 = 0 then (K2 0)
    else (K2 1))
def mX5_mixed_L10 (v_isThereA : (Nat → Int32)) (v_tintsA : (Nat → Int32)) (a0 : Int32) (a1 : Int32) (a2 : Int32) (r1_6 : (Nat → Int32)) (r1_7 : (Nat → Int32)) : Nat → Int32 → Int32 → Int32 → Int32 → Int32 → Option (Int32 × Int32 × Int32 × Int32 × Int32)
  | 0, _, _, _, _, _ => none
  | fu + 1, v2_0, v2_1, v2_2, v2_3, v2_4 =>
    if (a1 * a2) ≤ v2_0 then (some (v2_0, v2_1, v2_2, v2_3, v2_4))
    else (gz a1 <|
    gz a1 <|
    bnd4 (mX5_inksAt v2_2 v2_3 v2_4 v_isThereA v_tintsA r1_6 r1_7 (v2_0 - v2_0 / a1 * a1) (v2_0 / a1)) fun r6_0 r6_1 r6_2 r6_3 =>
    if r6_0 = a0 then (nmB ((v2_1 + 1)) fun x10 =>
    nmB (v2_0 + 1) fun x11 =>
    mX5_mixed_L10 v_isThereA v_tintsA a0 a1 a2 r1_6 r1_7 fu x11 x10 r6_1 r6_2 r6_3)
    else (nmB ((v2_1 + 0)) fun x8 =>
    nmB (v2_0 + 1) fun x9 =>
    mX5_mixed_L10 v_isThereA v_tintsA a0 a1 a2 r1_6 r1_7 fu x9 x8 r6_1 r6_2 r6_3))
def mX5_mixed (v_w : Int32) (v_s : Int32) (v_h : Int32) (v_laidArea : Int32) (v_isThereA : (Nat → Int32)) (v_vA : (Nat → Int32)) (v_spotOfA : (Nat → Int32)) (v_inMiddleA : (Nat → Int32)) (v_tintsA : (Nat → Int32)) (v_valuesA : (Nat → Int32)) (v_ranksA : (Nat → Int32)) (v_allRanksA : (Nat → Int32)) (v_basesA : (Nat → Int32)) (a0 : Int32) (a1 : Int32) (a2 : Int32) : Option (Int32 × Int32 × Int32 × Int32 × Int32 × (Nat → Int32) × (Nat → Int32) × (Nat → Int32) × (Nat → Int32)) :=
    bnd8 (mX5_layAll v_w v_s v_h v_laidArea v_isThereA v_vA v_spotOfA v_inMiddleA v_valuesA v_ranksA v_allRanksA v_basesA) fun r1_0 r1_1 r1_2 r1_3 r1_4 r1_5 r1_6 r1_7 =>
    bnd5 (mX5_mixed_L10 v_isThereA v_tintsA a0 a1 a2 r1_6 r1_7 FU 0 0 r1_0 r1_1 r1_2) fun u2_0 u2_1 u2_2 u2_3 u2_4 =>
    some (u2_1, u2_2, u2_3, u2_4, r1_3, r1_4, r1_5, r1_6, r1_7)
def mX5_mixture (v_w : Int32) (v_s : Int32) (v_h : Int32) (v_laidArea : Int32) (v_isThereA : (Nat → Int32)) (v_vA : (Nat → Int32)) (v_spotOfA : (Nat → Int32)) (v_inMiddleA : (Nat → Int32)) (v_tintsA : (Nat → Int32)) (v_valuesA : (Nat → Int32)) (v_ranksA : (Nat → Int32)) (v_allRanksA : (Nat → Int32)) (v_basesA : (Nat → Int32)) (a0 : Int32) : Option (Int32 × Int32 × Int32 × Int32 × Int32 × Int32 × (Nat → Int32) × (Nat → Int32) × (Nat → Int32) × (Nat → Int32)) :=
    bnd1 (mX5_within a0 0 7) fun r1_0 =>
    jB (fun (j2_0 : Int32) =>
    if j2_0 ≤ 0 then (bnd1 (mX5_there v_isThereA) fun r7_0 =>
    bnd3 (mX5_layPeriod v_vA r7_0) fun r8_0 r8_1 r8_2 =>
    jB (fun (j9_0 : Int32) =>
    if j9_0 ≤ 0 then (bnd9 (mX5_mixed r8_0 r8_1 r8_2 v_laidArea v_isThereA v_vA v_spotOfA v_inMiddleA v_tintsA v_valuesA v_ranksA v_allRanksA v_basesA a0 r8_0 r8_2) fun r12_0 r12_1 r12_2 r12_3 r12_4 r12_5 r12_6 r12_7 r12_8 =>
    some (r12_0, j9_0, r12_1, r12_2, r12_3, r12_4, r12_5, r12_6, r12_7, r12_8))
    else (some (0, j9_0, r8_0, r8_1, r8_2, v_laidArea, v_valuesA, v_ranksA, v_allRanksA, v_basesA))) fun K9 =>
    if (r8_0 * r8_2) ≤ 4096 then (K9 0)
    else (K9 2))
    else (some (0, j2_0, v_w, v_s, v_h, v_laidArea, v_valuesA, v_ranksA, v_allRanksA, v_basesA))) fun K2 =>
    if r1_0 = 0 then (K2 1)
    else (bnd1 (mX5_there v_isThereA) fun r4_0 =>
    if r4_0 = 0 then (K2 2)
    else (K2 0))
def mX5_nearest_L80 (a0 : Int32) (a1 : Int32) (a2 : Int32) (v11_0 : Int32) : Nat → Int32 → Int32 → Int32 → Option (Int32 × Int32 × Int32)
  | 0, _, _, _ => none
  | fu + 1, v13_0, v13_1, v13_2 =>
    if 8 < v13_0 then (some (v13_0, v13_1, v13_2))
    else (jB (fun (j15_0 : Int32) =>
    jB (fun (j19_0 : Int32) =>
    if j15_0 = 0 then (nmB (v13_0 + 1) fun x22 =>
    mX5_nearest_L80 a0 a1 a2 v11_0 fu x22 v13_1 j19_0)
    else (nmB (v13_0 + 1) fun x23 =>
    mX5_nearest_L80 a0 a1 a2 v11_0 fu x23 v13_0 j19_0)) fun K19 =>
    if j15_0 = 0 then (K19 v13_2)
    else (K19 v11_0)) fun K15 =>
    if a2 < ((v11_0 * v11_0) + (v13_0 * v13_0)) then (K15 0)
    else (bnd1 (mX5_isNearer v11_0 v13_0 v13_2 v13_1 a0 a1) fun r17_0 =>
    if r17_0 = 0 then (K15 0)
    else (K15 1)))
def mX5_nearest_L70 (a0 : Int32) (a1 : Int32) (a2 : Int32) : Nat → Int32 → Int32 → Int32 → Option (Int32 × Int32 × Int32)
  | 0, _, _, _ => none
  | fu + 1, v11_0, v11_1, v11_2 =>
    if 8 < v11_0 then (some (v11_0, v11_1, v11_2))
    else (bnd3 (mX5_nearest_L80 a0 a1 a2 v11_0 FU 0 v11_1 v11_2) fun u13_0 u13_1 u13_2 =>
    nmB (v11_0 + 1) fun x24 =>
    mX5_nearest_L70 a0 a1 a2 fu x24 u13_1 u13_2)
def mX5_nearest (a0 : Int32) (a1 : Int32) (a2 : Int32) (a3 : Int32) : Option (Int32 × Int32) :=
    bnd1 (mX5_within a0 0 1000) fun r1_0 =>
    jB (fun (j2_0 : Int32) =>
    if j2_0 ≤ 0 then (bnd3 (mX5_nearest_L70 a0 a1 a2 FU 1 0 1) fun u11_0 u11_1 u11_2 =>
    if a3 = 0 then (some (u11_2, j2_0))
    else (if a3 = 1 then (some (u11_1, j2_0))
    else (bnd1 (mX5_abs ((u11_2 * a0) - (u11_1 * a1))) fun r27_0 =>
    some (r27_0, j2_0))))
    else (some (0, j2_0))) fun K2 =>
    if r1_0 = 0 then (K2 1)
    else (bnd1 (mX5_within a1 1 1000) fun r4_0 =>
    if r4_0 = 0 then (K2 1)
    else (bnd1 (mX5_within a2 1 128) fun r6_0 =>
    if r6_0 = 0 then (K2 1)
    else (bnd1 (mX5_within a3 0 2) fun r8_0 =>
    if r8_0 = 0 then (K2 1)
    else (K2 0))))
def mX5_counted_L7 (v_isThereA : (Nat → Int32)) (v_vA : (Nat → Int32)) (v_tintsA : (Nat → Int32)) : Nat → Int32 → Int32 → Int32 → Option (Int32 × Int32 × Int32)
  | 0, _, _, _ => none
  | fu + 1, v1_0, v1_1, v1_2 =>
    if 3 ≤ v1_0 then (some (v1_0, v1_1, v1_2))
    else (gd v1_0 3 <|
    jB (fun (j4_0 : Int32) =>
    nmB ((v1_2 + j4_0)) fun x7 =>
    gd v1_0 3 <|
    if (v_isThereA v1_0.toNatClampNeg) = 0 then (nmB ((v1_1 + 0)) fun x10 =>
    nmB (v1_0 + 1) fun x11 =>
    mX5_counted_L7 v_isThereA v_vA v_tintsA fu x11 x10 x7)
    else (gd v1_0 3 <|
    nmB ((v1_1 + (v_tintsA v1_0.toNatClampNeg))) fun x13 =>
    nmB (v1_0 + 1) fun x14 =>
    mX5_counted_L7 v_isThereA v_vA v_tintsA fu x14 x13 x7)) fun K4 =>
    if (v_isThereA v1_0.toNatClampNeg) = 0 then (K4 0)
    else (bnd1 (mX5_areaIn v_vA v1_0) fun r6_0 =>
    K4 r6_0))
def mX5_counted (v_gain : Int32) (v_size : Int32) (v_isThereA : (Nat → Int32)) (v_vA : (Nat → Int32)) (v_tintsA : (Nat → Int32)) (a0 : Int32) : Option (Int32) :=
    bnd3 (mX5_counted_L7 v_isThereA v_vA v_tintsA FU 0 0 0) fun u1_0 u1_1 u1_2 =>
    if a0 = 0 then (bnd1 (mX5_screens v_isThereA) fun r19_0 =>
    some (r19_0))
    else (if a0 = 1 then (some (u1_2))
    else (if a0 = 2 then (some (u1_1))
    else (if a0 = 3 then (some (v_gain))
    else (some (v_size)))))
def mX5_count (v_gain : Int32) (v_size : Int32) (v_isThereA : (Nat → Int32)) (v_vA : (Nat → Int32)) (v_tintsA : (Nat → Int32)) (a0 : Int32) : Option (Int32 × Int32) :=
    bnd1 (mX5_within a0 0 4) fun r1_0 =>
    jB (fun (j2_0 : Int32) =>
    if j2_0 ≤ 0 then (bnd1 (mX5_counted v_gain v_size v_isThereA v_vA v_tintsA a0) fun r5_0 =>
    some (r5_0, j2_0))
    else (some (0, j2_0))) fun K2 =>
    if r1_0 = 0 then (K2 1)
    else (K2 0)
def mX5_mix (v_hash : Int64) (a0 : Int64) : Option (Int64) :=
    nmB (((31 * v_hash) + a0)) fun x1 =>
    some (x1)
def mX5_mixScreen_L7 (v_vA : (Nat → Int32)) (v_spotOfA : (Nat → Int32)) (v_inMiddleA : (Nat → Int32)) (v_tintsA : (Nat → Int32)) (a0 : Int32) : Nat → Int32 → Int32 → Int32 → Int32 → Int64 → Option (Int32 × Int32 × Int32 × Int32 × Int64)
  | 0, _, _, _, _, _ => none
  | fu + 1, v2_0, v2_1, v2_2, v2_3, v2_4 =>
    if 11 ≤ v2_0 then (some (v2_0, v2_1, v2_2, v2_3, v2_4))
    else (bnd4 (mX5_propertyOf v_vA v_spotOfA v_inMiddleA v_tintsA a0 v2_0) fun r4_0 r4_1 r4_2 r4_3 =>
    bnd1 (mX5_mix v2_4 r4_0.toInt64) fun r5_0 =>
    nmB (v2_0 + 1) fun x6 =>
    mX5_mixScreen_L7 v_vA v_spotOfA v_inMiddleA v_tintsA a0 fu x6 r4_1 r4_2 r4_3 r5_0)
def mX5_mixScreen_L37 (r7_3 : Int32) (r7_4 : (Nat → Int32)) (r7_5 : (Nat → Int32)) : Nat → Int32 → Int64 → Option (Int32 × Int64)
  | 0, _, _ => none
  | fu + 1, v8_0, v8_1 =>
    if r7_3 ≤ v8_0 then (some (v8_0, v8_1))
    else (gd v8_0 64 <|
    bnd1 (mX5_mix v8_1 (((r7_4 v8_0.toNatClampNeg)).toInt64)) fun r11_0 =>
    gd v8_0 64 <|
    bnd1 (mX5_mix r11_0 (((r7_5 v8_0.toNatClampNeg)).toInt64)) fun r13_0 =>
    nmB (v8_0 + 1) fun x14 =>
    mX5_mixScreen_L37 r7_3 r7_4 r7_5 fu x14 r13_0)
def mX5_mixScreen (v_gain : Int32) (v_w : Int32) (v_s : Int32) (v_h : Int32) (v_waiting : Int32) (v_shiftX : Int32) (v_shiftY : Int32) (v_times : Int32) (v_hash : Int64) (v_vA : (Nat → Int32)) (v_spotOfA : (Nat → Int32)) (v_inMiddleA : (Nat → Int32)) (v_tintsA : (Nat → Int32)) (v_valuesA : (Nat → Int32)) (v_ranksA : (Nat → Int32)) (v_isMetA : (Nat → Int32)) (v_metXA : (Nat → Int32)) (v_metYA : (Nat → Int32)) (v_lineA : (Nat → Int32)) (a0 : Int32) : Option (Int32 × Int32 × Int32 × Int32 × Int32 × Int32 × Int32 × Int32 × Int32 × Int32 × Int64 × (Nat → Int32) × (Nat → Int32) × (Nat → Int32) × (Nat → Int32) × (Nat → Int32) × (Nat → Int32)) :=
    bnd1 (mX5_mix v_hash 1) fun r1_0 =>
    bnd5 (mX5_mixScreen_L7 v_vA v_spotOfA v_inMiddleA v_tintsA a0 FU 0 v_w v_s v_h r1_0) fun u2_0 u2_1 u2_2 u2_3 u2_4 =>
    bnd6 (mX5_layGrowth v_vA v_spotOfA v_inMiddleA v_valuesA v_ranksA a0) fun r7_0 r7_1 r7_2 r7_3 r7_4 r7_5 =>
    bnd2 (mX5_mixScreen_L37 r7_3 r7_4 r7_5 FU 0 u2_4) fun u8_0 u8_1 =>
    gd a0 3 <|
    bnd10 (mX5_layDots r7_0 r7_1 r7_2 r7_3 v_waiting v_shiftX v_shiftY v_times r7_5 v_isMetA v_metXA v_metYA v_lineA (v_tintsA a0.toNatClampNeg)) fun r16_0 r16_1 r16_2 r16_3 r16_4 r16_5 r16_6 r16_7 r16_8 r16_9 =>
    bnd1 (mX5_mix u8_1 r16_4.toInt64) fun r17_0 =>
    bnd1 (mX5_mix r17_0 r16_5.toInt64) fun r18_0 =>
    gd a0 3 <|
    bnd1 (mX5_strengthOf v_gain r7_0 r7_1 r7_2 r7_3 r7_5 (v_tintsA a0.toNatClampNeg)) fun r20_0 =>
    bnd1 (mX5_mix r18_0 r20_0.toInt64) fun r21_0 =>
    some (r7_0, r7_1, r7_2, r7_3, r16_0, r16_1, r16_2, r16_3, r16_4, r16_5, r21_0, r7_4, r7_5, r16_6, r16_7, r16_8, r16_9)
def mX5_mixPair_L13 (r1_0 : Int32) (r1_1 : Int32) (r1_2 : Int32) : Nat → Int32 → Int64 → Option (Int32 × Int64)
  | 0, _, _ => none
  | fu + 1, v2_0, v2_1 =>
    if 4 ≤ v2_0 then (some (v2_0, v2_1))
    else (bnd1 (mX5_numberOf r1_0 r1_1 r1_2 v2_0) fun r4_0 =>
    bnd1 (mX5_mix v2_1 r4_0.toInt64) fun r5_0 =>
    nmB (v2_0 + 1) fun x6 =>
    mX5_mixPair_L13 r1_0 r1_1 r1_2 fu x6 r5_0)
def mX5_mixPair_L42 (r7_0 : Int32) (r7_1 : Int32) (r7_2 : Int32) : Nat → Int32 → Int64 → Option (Int32 × Int64)
  | 0, _, _ => none
  | fu + 1, v8_0, v8_1 =>
    if 4 ≤ v8_0 then (some (v8_0, v8_1))
    else (bnd1 (mX5_numberOf r7_0 r7_1 r7_2 v8_0) fun r10_0 =>
    bnd1 (mX5_mix v8_1 r10_0.toInt64) fun r11_0 =>
    nmB (v8_0 + 1) fun x12 =>
    mX5_mixPair_L42 r7_0 r7_1 r7_2 fu x12 r11_0)
def mX5_mixPair (v_hash : Int64) (v_vA : (Nat → Int32)) (a0 : Int32) (a1 : Int32) : Option (Int32 × Int32 × Int32 × Int64) :=
    bnd3 (mX5_layPeriod v_vA ((1 <<< (a0 &&& 31)) ||| (1 <<< (a1 &&& 31)))) fun r1_0 r1_1 r1_2 =>
    bnd2 (mX5_mixPair_L13 r1_0 r1_1 r1_2 FU 0 v_hash) fun u2_0 u2_1 =>
    bnd3 (mX5_layBeat v_vA a0 a1) fun r7_0 r7_1 r7_2 =>
    bnd2 (mX5_mixPair_L42 r7_0 r7_1 r7_2 FU 0 u2_1) fun u8_0 u8_1 =>
    some (r7_0, r7_1, r7_2, u8_1)
def mX5_digest_L14 (v_gain : Int32) (v_size : Int32) (v_isThereA : (Nat → Int32)) (v_vA : (Nat → Int32)) (v_tintsA : (Nat → Int32)) : Nat → Int32 → Int64 → Option (Int32 × Int64)
  | 0, _, _ => none
  | fu + 1, v1_0, v1_1 =>
    if 5 ≤ v1_0 then (some (v1_0, v1_1))
    else (bnd1 (mX5_counted v_gain v_size v_isThereA v_vA v_tintsA v1_0) fun r3_0 =>
    bnd1 (mX5_mix v1_1 r3_0.toInt64) fun r4_0 =>
    nmB (v1_0 + 1) fun x5 =>
    mX5_digest_L14 v_gain v_size v_isThereA v_vA v_tintsA fu x5 r4_0)
def mX5_digest_L37 (v_gain : Int32) (v_isThereA : (Nat → Int32)) (v_vA : (Nat → Int32)) (v_spotOfA : (Nat → Int32)) (v_inMiddleA : (Nat → Int32)) (v_tintsA : (Nat → Int32)) : Nat → Int32 → Int32 → Int32 → Int32 → Int32 → Int32 → Int32 → Int32 → Int32 → Int32 → Int32 → Int64 → (Nat → Int32) → (Nat → Int32) → (Nat → Int32) → (Nat → Int32) → (Nat → Int32) → (Nat → Int32) → Option (Int32 × Int32 × Int32 × Int32 × Int32 × Int32 × Int32 × Int32 × Int32 × Int32 × Int32 × Int64 × (Nat → Int32) × (Nat → Int32) × (Nat → Int32) × (Nat → Int32) × (Nat → Int32) × (Nat → Int32))
  | 0, _, _, _, _, _, _, _, _, _, _, _, _, _, _, _, _, _, _ => none
  | fu + 1, v6_0, v6_1, v6_2, v6_3, v6_4, v6_5, v6_6, v6_7, v6_8, v6_9, v6_10, v6_11, v6_12, v6_13, v6_14, v6_15, v6_16, v6_17 =>
    if 3 ≤ v6_0 then (some (v6_0, v6_1, v6_2, v6_3, v6_4, v6_5, v6_6, v6_7, v6_8, v6_9, v6_10, v6_11, v6_12, v6_13, v6_14, v6_15, v6_16, v6_17))
    else (gd v6_0 3 <|
    if (v_isThereA v6_0.toNatClampNeg) = 0 then (bnd1 (mX5_mix v6_11 0) fun r10_0 =>
    nmB (v6_0 + 1) fun x11 =>
    mX5_digest_L37 v_gain v_isThereA v_vA v_spotOfA v_inMiddleA v_tintsA fu x11 v6_1 v6_2 v6_3 v6_4 v6_5 v6_6 v6_7 v6_8 v6_9 v6_10 r10_0 v6_12 v6_13 v6_14 v6_15 v6_16 v6_17)
    else (bnd17 (mX5_mixScreen v_gain v6_1 v6_2 v6_3 v6_5 v6_6 v6_7 v6_8 v6_11 v_vA v_spotOfA v_inMiddleA v_tintsA v6_12 v6_13 v6_14 v6_15 v6_16 v6_17 v6_0) fun r12_0 r12_1 r12_2 r12_3 r12_4 r12_5 r12_6 r12_7 r12_8 r12_9 r12_10 r12_11 r12_12 r12_13 r12_14 r12_15 r12_16 =>
    nmB (v6_0 + 1) fun x13 =>
    mX5_digest_L37 v_gain v_isThereA v_vA v_spotOfA v_inMiddleA v_tintsA fu x13 r12_0 r12_1 r12_2 r12_3 r12_4 r12_5 r12_6 r12_7 r12_8 r12_9 r12_10 r12_11 r12_12 r12_13 r12_14 r12_15 r12_16))
def mX5_digest_L81 (v_isThereA : (Nat → Int32)) (v_vA : (Nat → Int32)) (v14_0 : Int32) : Nat → Int32 → Int32 → Int32 → Int32 → Int64 → Option (Int32 × Int32 × Int32 × Int32 × Int64)
  | 0, _, _, _, _, _ => none
  | fu + 1, v17_0, v17_1, v17_2, v17_3, v17_4 =>
    if 3 ≤ v17_0 then (some (v17_0, v17_1, v17_2, v17_3, v17_4))
    else (gd v14_0 3 <|
    if (v_isThereA v14_0.toNatClampNeg) = 0 then (nmB (v17_0 + 1) fun x21 =>
    mX5_digest_L81 v_isThereA v_vA v14_0 fu x21 v17_1 v17_2 v17_3 v17_4)
    else (gd v17_0 3 <|
    if (v_isThereA v17_0.toNatClampNeg) = 0 then (nmB (v17_0 + 1) fun x24 =>
    mX5_digest_L81 v_isThereA v_vA v14_0 fu x24 v17_1 v17_2 v17_3 v17_4)
    else (bnd4 (mX5_mixPair v17_4 v_vA v14_0 v17_0) fun r25_0 r25_1 r25_2 r25_3 =>
    nmB (v17_0 + 1) fun x26 =>
    mX5_digest_L81 v_isThereA v_vA v14_0 fu x26 r25_0 r25_1 r25_2 r25_3)))
def mX5_digest_L72 (v_isThereA : (Nat → Int32)) (v_vA : (Nat → Int32)) : Nat → Int32 → Int32 → Int32 → Int32 → Int64 → Option (Int32 × Int32 × Int32 × Int32 × Int64)
  | 0, _, _, _, _, _ => none
  | fu + 1, v14_0, v14_1, v14_2, v14_3, v14_4 =>
    if 3 ≤ v14_0 then (some (v14_0, v14_1, v14_2, v14_3, v14_4))
    else (nmB ((v14_0 + 1)) fun x16 =>
    bnd5 (mX5_digest_L81 v_isThereA v_vA v14_0 FU x16 v14_1 v14_2 v14_3 v14_4) fun u17_0 u17_1 u17_2 u17_3 u17_4 =>
    nmB (v14_0 + 1) fun x27 =>
    mX5_digest_L72 v_isThereA v_vA fu x27 u17_1 u17_2 u17_3 u17_4)
def mX5_digest_L124 (v_size : Int32) (v_bufferA : (Nat → Int32)) : Nat → Int32 → Int64 → Option (Int32 × Int64)
  | 0, _, _ => none
  | fu + 1, v28_0, v28_1 =>
    if v_size ≤ v28_0 then (some (v28_0, v28_1))
    else (gd v28_0 20 <|
    bnd1 (mX5_mix v28_1 (((v_bufferA v28_0.toNatClampNeg)).toInt64)) fun r31_0 =>
    nmB (v28_0 + 1) fun x32 =>
    mX5_digest_L124 v_size v_bufferA fu x32 r31_0)
def mX5_digest (v_gain : Int32) (v_size : Int32) (v_w : Int32) (v_s : Int32) (v_h : Int32) (v_laidArea : Int32) (v_waiting : Int32) (v_shiftX : Int32) (v_shiftY : Int32) (v_times : Int32) (v_dotsLaid : Int32) (v_joinedLaid : Int32) (v_isThereA : (Nat → Int32)) (v_vA : (Nat → Int32)) (v_spotOfA : (Nat → Int32)) (v_inMiddleA : (Nat → Int32)) (v_tintsA : (Nat → Int32)) (v_bufferA : (Nat → Int32)) (v_valuesA : (Nat → Int32)) (v_ranksA : (Nat → Int32)) (v_isMetA : (Nat → Int32)) (v_metXA : (Nat → Int32)) (v_metYA : (Nat → Int32)) (v_lineA : (Nat → Int32)) : Option (Int64 × Int32 × Int32 × Int32 × Int32 × Int32 × Int32 × Int32 × Int32 × Int32 × Int32 × Int32 × Int64 × (Nat → Int32) × (Nat → Int32) × (Nat → Int32) × (Nat → Int32) × (Nat → Int32) × (Nat → Int32)) :=
    bnd2 (mX5_digest_L14 v_gain v_size v_isThereA v_vA v_tintsA FU 0 1951) fun u1_0 u1_1 =>
    bnd18 (mX5_digest_L37 v_gain v_isThereA v_vA v_spotOfA v_inMiddleA v_tintsA FU 0 v_w v_s v_h v_laidArea v_waiting v_shiftX v_shiftY v_times v_dotsLaid v_joinedLaid u1_1 v_valuesA v_ranksA v_isMetA v_metXA v_metYA v_lineA) fun u6_0 u6_1 u6_2 u6_3 u6_4 u6_5 u6_6 u6_7 u6_8 u6_9 u6_10 u6_11 u6_12 u6_13 u6_14 u6_15 u6_16 u6_17 =>
    bnd5 (mX5_digest_L72 v_isThereA v_vA FU 0 u6_1 u6_2 u6_3 u6_11) fun u14_0 u14_1 u14_2 u14_3 u14_4 =>
    bnd2 (mX5_digest_L124 v_size v_bufferA FU 0 u14_4) fun u28_0 u28_1 =>
    some (u28_1, 0, u14_1, u14_2, u14_3, u6_4, u6_5, u6_6, u6_7, u6_8, u6_9, u6_10, u28_1, u6_12, u6_13, u6_14, u6_15, u6_16, u6_17)
