theorem dc0 {b : UInt64} {op : CmpOp} (h : ∃ y z : Int32, b = FP.ddiv (FP.i2d y) (FP.i2d z) ∧ ¬ z = 0) : Op.cmpValue (FP.dcmp b b) op = 0 := by
  obtain ⟨x, y, rfl, h⟩ := h
  have h1 : FP.Core.dIsNaN (FP.Core.i2d x) = false := by
    obtain ⟨a, b, c, hf⟩ := FP.Core.i2d_fin x
    rw [FP.Core.notNaN_iff, hf]
    exact fun z => by cases z
  have hz : ¬ FP.Core.DZero (FP.Core.i2d y) := by
    rw [FP.Core.zero_bits2]
    exact FP.Core.i2d_ne_zero h
  have h2 := FP.Core.ddiv_out h1 (FP.Core.i2d_fin y) hz
  rw [FP.Core.notNaN_iff] at h2
  show Op.cmpValue (FP.Core.dcmp (FP.Core.ddiv (FP.Core.i2d x) (FP.Core.i2d y)) (FP.Core.ddiv (FP.Core.i2d x) (FP.Core.i2d y))) op = 0
  rw [FP.Core.dcmp_self h2]
  rfl
theorem hzyL_meanStrength : yL_meanStrength.cls ≠ "java/lang/invoke/MethodHandle" ∧ yL_meanStrength.cls ≠ "java/lang/invoke/VarHandle" ∧ (parseMethodDescriptor yL_meanStrength.desc).map (fun d => d.parameters.length) = some 3 := by decide +kernel
theorem hvyX5_meanStrength : yX5_meanStrength.cls = RX5 ∧ yX5_meanStrength.cls ≠ "java/lang/invoke/MethodHandle" ∧ yX5_meanStrength.cls ≠ "java/lang/invoke/VarHandle" ∧ (parseMethodDescriptor yX5_meanStrength.desc).map (fun d => d.parameters.length) = some 1 := ⟨rfl, by decide +kernel⟩
set_option maxHeartbeats 4000000 in
set_option maxRecDepth 100000 in
theorem law_c21 {p : Program} {l : Launch} {e : Env} {s : State} {m : MethodId} {below : List Frame} {meth : Method} {c : Code} {b L : Nat} {xs : Nat → Int32} {G : GG} {ad um : Nat → Nat} {qo qd : Nat} {Q : State → Prop} (hF : LF p l s m c b L xs G) {i : Nat} (hi : i + 7 ≤ L) {cl : Cls} {x : Mdl} {f : Nat → Int64} {fd : Nat → UInt64} {H : Heap} {locs : List Loc} (hI : LSt s G ad um qo qd cl x f fd H locs) {cells slots : Nat} (hc1 : cells + 1 ≤ 601024) (hc2 : slots + 6 ≤ 7293034) {ls : Array Slot} (hl : lv_has ls 9 (lvL b ad um qo qd i)) (kk : LKont p l e s m below meth c b G ad um qo qd i cells slots Q) : W p l e room_1 s m #[Value.ref b] below meth c H locs cells slots Q (F0 m 1560 ls []) := by
  obtain ⟨⟨hx, hb, hml, hown, hts, hX, hbl⟩, hK, hT, hL, hfl⟩ := id hF
  obtain ⟨hP, hD, hS, hI⟩ := hI
  have hbA : ¬ AL s b := Nat.not_le.mpr hbl
  have S : CallFix p m c cL_law 9 s #[Value.ref b] lw_tbl RL := ⟨hx, hb, hml, hown, hts⟩
  refine lv_aload_n hx hb dL_law_1560 rfl (lv_at hl 1 rfl) ?_
  refine lv_aload_n hx hb dL_law_1561 rfl (lv_at hl 0 rfl) ?_
  refine lv_iload hx hb dL_law_1562 (lv_at hl 5 rfl) ?_
  refine lv_iconst (v := 1) hx hb dL_law_1564 (by decide) ?_
  refine lv_iadd hx hb dL_law_1565 ?_
  refine va_sld hx hb hX hbl hbA hS (sc_in hi hL 1 (by decide)) dL_law_1566 ?_
  refine lv_aload hx hb dL_law_1567 (lv_at hl 4 rfl) ?_
  obtain ⟨r, cl', f', bb, u2, u3, u4, u5, u6, u7, e1, e2, e3, e4, hI'⟩ := LW_meanStrength hI fd (xs (nI i + 1).toNatClampNeg) x.w x.s x.h x.laidArea x.values x.ranks
  refine rwL (rest := []) (As := [.ref (ad 0), .int (xs (nI i + 1).toNatClampNeg), .ref qd]) (wr := [(qo, .inl (G.2 3, 1, .inr (.inl f)))] ++ wdM G um x) (wf := wdL G ad um qo qd cl' x f f') S (lw_meanStrength l hfl G ad qd cl cl' fd f' (xs (nI i + 1).toNatClampNeg) r e1) (vx_cwSW 3 hts gL_law_L_meanStrength rfl rfl rfl hzyL_meanStrength ⟨Nat.le_of_ble_eq_true rfl, Nat.le_of_ble_eq_true rfl⟩) hK hP hD hS hT [0, 1, 2, 3, 4, 5, 6, 7, 8, 9, 10, 11, 12, 13, 14, 15, 16, 17, 18, 19, 20, 21, 22, 23, 24, 25, 26, 27, 28, 29, 30, 31, 32, 33, 34, 36] [35, 37, 38, 39, 40, 41, 42, 43, 44, 45, 46, 47, 48, 49, 50, 51, 52, 53] [18, 19, 20, 21, 22, 23, 24, 25, 26, 27, 28, 29, 30, 31, 32, 33, 34, 35, 36, 37, 38, 39, 40, 41, 42, 43, 44, 45, 46, 47, 48, 49, 50, 51, 52, 0, 53, 1, 2, 3, 4, 5, 6, 7, 8, 9, 10, 11, 12, 13, 14, 15, 16, 17] rfl rfl rfl rfl rfl rfl rfl rfl hl.1 rfl (Nat.le_of_ble_eq_true rfl) dL_law_1569 ⟨hc1, hc2⟩ (fun _ H locs hP hD hS => ?_)
  refine lv_istore (lv' := [(6, .int r), (0, .ref b), (1, .ref (ad 0)), (2, .ref (um 0)), (3, .ref qo), (4, .ref qd), (5, .int (nI i))]) hx hb dL_law_1572 hl (by decide) rfl (fun ls hl => ?_)
  refine lv_aload_n hx hb dL_law_1574 rfl (lv_at hl 3 rfl) ?_
  refine lv_aload_n hx hb dL_law_1575 rfl (lv_at hl 1 rfl) ?_
  refine lv_iload hx hb dL_law_1576 (lv_at hl 6 rfl) ?_
  refine lv_iconst (v := 1) hx hb dL_law_1578 (by decide) ?_
  refine lv_iadd hx hb dL_law_1579 ?_
  refine va_sld hx hb hX hbl hbA hS (sc_in hi hL 1 (by decide)) dL_law_1580 ?_
  refine rwV_back (rest := []) (As := [.int (xs (nI i + 1).toNatClampNeg)]) (wr := wdA G ad qo cl' f ++ wdD G qd f') (wf := wdL G ad um qo qd cl' (mkM r x.gain x.size u2 u3 u4 u5 x.parts x.isMinus x.readSpot x.isStar x.wantsNumber x.waiting x.shiftX x.shiftY x.times x.dotsLaid x.joinedLaid x.hash x.isThere x.v x.spotOf x.inMiddle x.tints x.buffer u6 u7 x.oldRanks x.part x.allRanks x.bases x.isMet x.metX x.metY x.line) f f') S (ctX5_meanStrength l G (um 0) (um 1) (um 2) (um 3) (um 4) (um 5) (um 6) (um 7) (um 8) (um 9) (um 10) (um 11) (um 12) (um 13) (um 14) (um 15) (um 16) x.thrown x.gain x.size x.w x.s x.h x.laidArea x.parts x.isMinus x.readSpot x.isStar x.wantsNumber x.waiting x.shiftX x.shiftY x.times x.dotsLaid x.joinedLaid x.hash x.isThere x.v x.spotOf x.inMiddle x.tints x.buffer x.values x.ranks x.oldRanks x.part x.allRanks x.bases x.isMet x.metX x.metY x.line (xs (nI i + 1).toNatClampNeg) bb r u2 u3 u4 u5 u6 u7 e2) (cwV 1 hts gL_law_X5_meanStrength rfl rfl rfl hvyX5_meanStrength ⟨Nat.le_of_ble_eq_true rfl, Nat.le_of_ble_eq_true rfl⟩) hK hP hD hS xb_triv (fun _ _ _ => trivial) [37, 38, 39, 40, 41, 42, 43, 44, 45, 46, 47, 48, 49, 50, 51, 52, 53] [0, 1, 2, 3, 4, 5, 6, 7, 8, 9, 10, 11, 12, 13, 14, 15, 16, 17, 18, 19, 20, 21, 22, 23, 24, 25, 26, 27, 28, 29, 30, 31, 32, 33, 34, 35, 36] [0, 1, 2, 3, 4, 5, 6, 7, 8, 9, 10, 11, 12, 13, 14, 15, 16, 17, 18, 19, 20, 21, 22, 23, 24, 25, 26, 27, 28, 29, 30, 31, 32, 33, 34, 35, 36, 37, 38, 39, 40, 41, 42, 43, 44, 45, 46, 47, 48, 49, 50, 51, 52, 53] rfl rfl rfl rfl rfl rfl rfl 37 5 rfl rfl rfl rfl hl.1 rfl (Nat.le_of_ble_eq_true rfl) dL_law_1581 ⟨hc1, hc2⟩ (fun _ H locs hP hD hS => ?_)
  refine lv_dstore (lv' := [(7, .double bb), (6, .int r), (0, .ref b), (1, .ref (ad 0)), (2, .ref (um 0)), (3, .ref qo), (4, .ref qd), (5, .int (nI i))]) hx hb dL_law_1584 hl (by decide) rfl (fun ls hl => ?_)
  refine lv_aload_n hx hb dL_law_1586 rfl (lv_at hl 4 rfl) ?_
  refine roVi1 (rest := []) (As := []) S (ctX5_thrown l G (um 0) (um 1) (um 2) (um 3) (um 4) (um 5) (um 6) (um 7) (um 8) (um 9) (um 10) (um 11) (um 12) (um 13) (um 14) (um 15) (um 16) r x.gain x.size u2 u3 u4 u5 x.parts x.isMinus x.readSpot x.isStar x.wantsNumber x.waiting x.shiftX x.shiftY x.times x.dotsLaid x.joinedLaid x.hash x.isThere x.v x.spotOf x.inMiddle x.tints x.buffer u6 u7 x.oldRanks x.part x.allRanks x.bases x.isMet x.metX x.metY x.line r rfl) (cwV 0 hts gL_law_X5_thrown rfl rfl rfl hvyX5_thrown ⟨Nat.le_of_ble_eq_true rfl, Nat.le_of_ble_eq_true rfl⟩) hK hP [37, 38, 39, 40, 41, 42, 43, 44, 45, 46, 47, 48, 49, 50, 51, 52, 53] rfl 37 5 rfl rfl rfl rfl hl.1 rfl (Nat.le_of_ble_eq_true rfl) dL_law_1587 ⟨hc1, hc2⟩ (fun _ => ?_)
  refine lv_iload hx hb dL_law_1590 (lv_at hl 1 rfl) ?_
  refine lv_icmp_eq (tgt := 1597) hx hb dL_law_1592 (by decide) (fun _ => ?_) (fun cn => absurd rfl cn)
  refine lv_iload hx hb dL_law_1597 (lv_at hl 1 rfl) ?_
  refine lv_if_ne (tgt := 1634) hx hb dL_law_1599 (by decide) (fun hr => ?_) (fun hr => ?_)
  · skip
    refine lv_goto (tgt := 2071) hx hb dL_law_1634 (by decide) ?_
    exact kk cl' (mkM r x.gain x.size u2 u3 u4 u5 x.parts x.isMinus x.readSpot x.isStar x.wantsNumber x.waiting x.shiftX x.shiftY x.times x.dotsLaid x.joinedLaid x.hash x.isThere x.v x.spotOf x.inMiddle x.tints x.buffer u6 u7 x.oldRanks x.part x.allRanks x.bases x.isMet x.metX x.metY x.line) f f' H locs ⟨hP, hD, hS, hI'⟩ ls (lv_sub hl [2, 3, 4, 5, 6, 7] rfl)
  · skip
    refine lv_aload hx hb dL_law_1602 (lv_at hl 6 rfl) ?_
    refine lv_iconst (v := 0) hx hb dL_law_1604 (by decide) ?_
    refine va_dald hx hb hK.1 hP 36 4 rfl rfl (i := 0) (vp_in_iff.mpr ⟨by decide, by decide⟩) dL_law_1605 ?_
    refine lv_dload hx hb dL_law_1606 (lv_at hl 0 rfl) ?_
    refine lv_dcmp hx hb dL_law_1608 ?_
    have h00 : f' ((0 : Int32).toNatClampNeg) = bb := e3 hr
    refine lv_if_eq (tgt := 1634) hx hb dL_law_1609 (by decide) (fun _ => ?_) (fun cn => absurd (by rw [h00]; exact dc0 (e4 hr)) cn)
    refine lv_goto (tgt := 2071) hx hb dL_law_1634 (by decide) ?_
    exact kk cl' (mkM r x.gain x.size u2 u3 u4 u5 x.parts x.isMinus x.readSpot x.isStar x.wantsNumber x.waiting x.shiftX x.shiftY x.times x.dotsLaid x.joinedLaid x.hash x.isThere x.v x.spotOf x.inMiddle x.tints x.buffer u6 u7 x.oldRanks x.part x.allRanks x.bases x.isMet x.metX x.metY x.line) f f' H locs ⟨hP, hD, hS, hI'⟩ ls (lv_sub hl [2, 3, 4, 5, 6, 7] rfl)
theorem hzyL_compensated : yL_compensated.cls ≠ "java/lang/invoke/MethodHandle" ∧ yL_compensated.cls ≠ "java/lang/invoke/VarHandle" ∧ (parseMethodDescriptor yL_compensated.desc).map (fun d => d.parameters.length) = some 4 := by decide +kernel
theorem hvyX5_compensated : yX5_compensated.cls = RX5 ∧ yX5_compensated.cls ≠ "java/lang/invoke/MethodHandle" ∧ yX5_compensated.cls ≠ "java/lang/invoke/VarHandle" ∧ (parseMethodDescriptor yX5_compensated.desc).map (fun d => d.parameters.length) = some 2 := ⟨rfl, by decide +kernel⟩
set_option maxHeartbeats 4000000 in
set_option maxRecDepth 100000 in
theorem law_c22 {p : Program} {l : Launch} {e : Env} {s : State} {m : MethodId} {below : List Frame} {meth : Method} {c : Code} {b L : Nat} {xs : Nat → Int32} {G : GG} {ad um : Nat → Nat} {qo qd : Nat} {Q : State → Prop} (hF : LF p l s m c b L xs G) {i : Nat} (hi : i + 7 ≤ L) {cl : Cls} {x : Mdl} {f : Nat → Int64} {fd : Nat → UInt64} {H : Heap} {locs : List Loc} (hI : LSt s G ad um qo qd cl x f fd H locs) {cells slots : Nat} (hc1 : cells + 1 ≤ 601024) (hc2 : slots + 6 ≤ 7293034) {ls : Array Slot} (hl : lv_has ls 9 (lvL b ad um qo qd i)) (kk : LKont p l e s m below meth c b G ad um qo qd i cells slots Q) : W p l e room_1 s m #[Value.ref b] below meth c H locs cells slots Q (F0 m 1637 ls []) := by
  obtain ⟨⟨hx, hb, hml, hown, hts, hX, hbl⟩, hK, hT, hL, hfl⟩ := id hF
  obtain ⟨hP, hD, hS, hI⟩ := hI
  have hbA : ¬ AL s b := Nat.not_le.mpr hbl
  have S : CallFix p m c cL_law 9 s #[Value.ref b] lw_tbl RL := ⟨hx, hb, hml, hown, hts⟩
  refine lv_aload_n hx hb dL_law_1637 rfl (lv_at hl 1 rfl) ?_
  refine lv_aload_n hx hb dL_law_1638 rfl (lv_at hl 0 rfl) ?_
  refine lv_iload hx hb dL_law_1639 (lv_at hl 5 rfl) ?_
  refine lv_iconst (v := 1) hx hb dL_law_1641 (by decide) ?_
  refine lv_iadd hx hb dL_law_1642 ?_
  refine va_sld hx hb hX hbl hbA hS (sc_in hi hL 1 (by decide)) dL_law_1643 ?_
  refine lv_aload_n hx hb dL_law_1644 rfl (lv_at hl 0 rfl) ?_
  refine lv_iload hx hb dL_law_1645 (lv_at hl 5 rfl) ?_
  refine lv_iconst (v := 2) hx hb dL_law_1647 (by decide) ?_
  refine lv_iadd hx hb dL_law_1648 ?_
  refine va_sld hx hb hX hbl hbA hS (sc_in hi hL 2 (by decide)) dL_law_1649 ?_
  refine lv_aload_n hx hb dL_law_1650 rfl (lv_at hl 3 rfl) ?_
  obtain ⟨r, cl', f', bb, u2, u3, u4, u5, u6, u7, e1, e2, e3, hI'⟩ := LW_compensated hI f (xs (nI i + 1).toNatClampNeg) (xs (nI i + 2).toNatClampNeg) x.w x.s x.h x.laidArea x.values x.ranks
  refine rwL (rest := []) (As := [.ref (ad 0), .int (xs (nI i + 1).toNatClampNeg), .int (xs (nI i + 2).toNatClampNeg), .ref qo]) (wr := wdD G qd fd ++ wdM G um x) (wf := wdL G ad um qo qd cl' x f' fd) S (lw_compensated l hfl G ad qo cl cl' f f' (xs (nI i + 1).toNatClampNeg) (xs (nI i + 2).toNatClampNeg) r e1) (vx_cwSW 4 hts gL_law_L_compensated rfl rfl rfl hzyL_compensated ⟨Nat.le_of_ble_eq_true rfl, Nat.le_of_ble_eq_true rfl⟩) hK hP hD hS hT [0, 1, 2, 3, 4, 5, 6, 7, 8, 9, 10, 11, 12, 13, 14, 15, 16, 17, 18, 19, 20, 21, 22, 23, 24, 25, 26, 27, 28, 29, 30, 31, 32, 33, 34, 35] [36, 37, 38, 39, 40, 41, 42, 43, 44, 45, 46, 47, 48, 49, 50, 51, 52, 53] [18, 19, 20, 21, 22, 23, 24, 25, 26, 27, 28, 29, 30, 31, 32, 33, 34, 35, 36, 37, 38, 39, 40, 41, 42, 43, 44, 45, 46, 47, 48, 49, 50, 51, 52, 53, 0, 1, 2, 3, 4, 5, 6, 7, 8, 9, 10, 11, 12, 13, 14, 15, 16, 17] rfl rfl rfl rfl rfl rfl rfl rfl hl.1 rfl (Nat.le_of_ble_eq_true rfl) dL_law_1651 ⟨hc1, hc2⟩ (fun _ H locs hP hD hS => ?_)
  refine lv_istore (lv' := [(6, .int r), (0, .ref b), (1, .ref (ad 0)), (2, .ref (um 0)), (3, .ref qo), (4, .ref qd), (5, .int (nI i))]) hx hb dL_law_1654 hl (by decide) rfl (fun ls hl => ?_)
  refine lv_aload_n hx hb dL_law_1656 rfl (lv_at hl 3 rfl) ?_
  refine lv_aload_n hx hb dL_law_1657 rfl (lv_at hl 1 rfl) ?_
  refine lv_iload hx hb dL_law_1658 (lv_at hl 6 rfl) ?_
  refine lv_iconst (v := 1) hx hb dL_law_1660 (by decide) ?_
  refine lv_iadd hx hb dL_law_1661 ?_
  refine va_sld hx hb hX hbl hbA hS (sc_in hi hL 1 (by decide)) dL_law_1662 ?_
  refine lv_aload_n hx hb dL_law_1663 rfl (lv_at hl 1 rfl) ?_
  refine lv_iload hx hb dL_law_1664 (lv_at hl 6 rfl) ?_
  refine lv_iconst (v := 2) hx hb dL_law_1666 (by decide) ?_
  refine lv_iadd hx hb dL_law_1667 ?_
  refine va_sld hx hb hX hbl hbA hS (sc_in hi hL 2 (by decide)) dL_law_1668 ?_
  refine rwV_back (rest := []) (As := [.int (xs (nI i + 1).toNatClampNeg), .int (xs (nI i + 2).toNatClampNeg)]) (wr := wdA G ad qo cl' f' ++ wdD G qd fd) (wf := wdL G ad um qo qd cl' (mkM r x.gain x.size u2 u3 u4 u5 x.parts x.isMinus x.readSpot x.isStar x.wantsNumber x.waiting x.shiftX x.shiftY x.times x.dotsLaid x.joinedLaid x.hash x.isThere x.v x.spotOf x.inMiddle x.tints x.buffer u6 u7 x.oldRanks x.part x.allRanks x.bases x.isMet x.metX x.metY x.line) f' fd) S (ctX5_compensated l G (um 0) (um 1) (um 2) (um 3) (um 4) (um 5) (um 6) (um 7) (um 8) (um 9) (um 10) (um 11) (um 12) (um 13) (um 14) (um 15) (um 16) x.thrown x.gain x.size x.w x.s x.h x.laidArea x.parts x.isMinus x.readSpot x.isStar x.wantsNumber x.waiting x.shiftX x.shiftY x.times x.dotsLaid x.joinedLaid x.hash x.isThere x.v x.spotOf x.inMiddle x.tints x.buffer x.values x.ranks x.oldRanks x.part x.allRanks x.bases x.isMet x.metX x.metY x.line (xs (nI i + 1).toNatClampNeg) (xs (nI i + 2).toNatClampNeg) bb r u2 u3 u4 u5 u6 u7 e2) (cwV 2 hts gL_law_X5_compensated rfl rfl rfl hvyX5_compensated ⟨Nat.le_of_ble_eq_true rfl, Nat.le_of_ble_eq_true rfl⟩) hK hP hD hS xb_triv (fun _ _ _ => trivial) [37, 38, 39, 40, 41, 42, 43, 44, 45, 46, 47, 48, 49, 50, 51, 52, 53] [0, 1, 2, 3, 4, 5, 6, 7, 8, 9, 10, 11, 12, 13, 14, 15, 16, 17, 18, 19, 20, 21, 22, 23, 24, 25, 26, 27, 28, 29, 30, 31, 32, 33, 34, 35, 36] [0, 1, 2, 3, 4, 5, 6, 7, 8, 9, 10, 11, 12, 13, 14, 15, 16, 17, 18, 19, 20, 21, 22, 23, 24, 25, 26, 27, 28, 29, 30, 31, 32, 33, 34, 35, 36, 37, 38, 39, 40, 41, 42, 43, 44, 45, 46, 47, 48, 49, 50, 51, 52, 53] rfl rfl rfl rfl rfl rfl rfl 37 5 rfl rfl rfl rfl hl.1 rfl (Nat.le_of_ble_eq_true rfl) dL_law_1669 ⟨hc1, hc2⟩ (fun _ H locs hP hD hS => ?_)
  refine lv_istore (lv' := [(7, .int bb), (6, .int r), (0, .ref b), (1, .ref (ad 0)), (2, .ref (um 0)), (3, .ref qo), (4, .ref qd), (5, .int (nI i))]) hx hb dL_law_1672 hl (by decide) rfl (fun ls hl => ?_)
  refine lv_aload_n hx hb dL_law_1674 rfl (lv_at hl 4 rfl) ?_
  refine roVi1 (rest := []) (As := []) S (ctX5_thrown l G (um 0) (um 1) (um 2) (um 3) (um 4) (um 5) (um 6) (um 7) (um 8) (um 9) (um 10) (um 11) (um 12) (um 13) (um 14) (um 15) (um 16) r x.gain x.size u2 u3 u4 u5 x.parts x.isMinus x.readSpot x.isStar x.wantsNumber x.waiting x.shiftX x.shiftY x.times x.dotsLaid x.joinedLaid x.hash x.isThere x.v x.spotOf x.inMiddle x.tints x.buffer u6 u7 x.oldRanks x.part x.allRanks x.bases x.isMet x.metX x.metY x.line r rfl) (cwV 0 hts gL_law_X5_thrown rfl rfl rfl hvyX5_thrown ⟨Nat.le_of_ble_eq_true rfl, Nat.le_of_ble_eq_true rfl⟩) hK hP [37, 38, 39, 40, 41, 42, 43, 44, 45, 46, 47, 48, 49, 50, 51, 52, 53] rfl 37 5 rfl rfl rfl rfl hl.1 rfl (Nat.le_of_ble_eq_true rfl) dL_law_1675 ⟨hc1, hc2⟩ (fun _ => ?_)
  refine lv_iload hx hb dL_law_1678 (lv_at hl 1 rfl) ?_
  refine lv_icmp_eq (tgt := 1685) hx hb dL_law_1680 (by decide) (fun _ => ?_) (fun cn => absurd rfl cn)
  refine lv_iload hx hb dL_law_1685 (lv_at hl 1 rfl) ?_
  refine lv_if_ne (tgt := 1702) hx hb dL_law_1687 (by decide) (fun hr => ?_) (fun hr => ?_)
  · skip
    refine lv_goto (tgt := 2071) hx hb dL_law_1702 (by decide) ?_
    exact kk cl' (mkM r x.gain x.size u2 u3 u4 u5 x.parts x.isMinus x.readSpot x.isStar x.wantsNumber x.waiting x.shiftX x.shiftY x.times x.dotsLaid x.joinedLaid x.hash x.isThere x.v x.spotOf x.inMiddle x.tints x.buffer u6 u7 x.oldRanks x.part x.allRanks x.bases x.isMet x.metX x.metY x.line) f' fd H locs ⟨hP, hD, hS, hI'⟩ ls (lv_sub hl [2, 3, 4, 5, 6, 7] rfl)
  · skip
    refine lv_aload_n hx hb dL_law_1690 rfl (lv_at hl 5 rfl) ?_
    refine lv_iconst (v := 0) hx hb dL_law_1691 (by decide) ?_
    refine va_lald hx hb hK.1 hP 35 3 rfl rfl (i := 0) (vp_in_iff.mpr ⟨by decide, by decide⟩) dL_law_1692 ?_
    refine lv_iload hx hb dL_law_1693 (lv_at hl 0 rfl) ?_
    refine lv_i2l hx hb dL_law_1695 rfl ?_
    refine W.lcmp hx hb dL_law_1696 ?_
    have h00 : f' ((0 : Int32).toNatClampNeg) = bb.toInt64 := e3 hr
    refine lv_if_eq (tgt := 1702) hx hb dL_law_1697 (by decide) (fun _ => ?_) (fun cn => absurd (by show lg_cmp _ _ = 0; rw [h00]; exact lgc _) cn)
    refine lv_goto (tgt := 2071) hx hb dL_law_1702 (by decide) ?_
    exact kk cl' (mkM r x.gain x.size u2 u3 u4 u5 x.parts x.isMinus x.readSpot x.isStar x.wantsNumber x.waiting x.shiftX x.shiftY x.times x.dotsLaid x.joinedLaid x.hash x.isThere x.v x.spotOf x.inMiddle x.tints x.buffer u6 u7 x.oldRanks x.part x.allRanks x.bases x.isMet x.metX x.metY x.line) f' fd H locs ⟨hP, hD, hS, hI'⟩ ls (lv_sub hl [2, 3, 4, 5, 6, 7] rfl)
theorem hzyL_period : yL_period.cls ≠ "java/lang/invoke/MethodHandle" ∧ yL_period.cls ≠ "java/lang/invoke/VarHandle" ∧ (parseMethodDescriptor yL_period.desc).map (fun d => d.parameters.length) = some 4 := by decide +kernel
theorem hvyX5_period : yX5_period.cls = RX5 ∧ yX5_period.cls ≠ "java/lang/invoke/MethodHandle" ∧ yX5_period.cls ≠ "java/lang/invoke/VarHandle" ∧ (parseMethodDescriptor yX5_period.desc).map (fun d => d.parameters.length) = some 2 := ⟨rfl, by decide +kernel⟩
set_option maxHeartbeats 4000000 in
set_option maxRecDepth 100000 in
theorem law_c23 {p : Program} {l : Launch} {e : Env} {s : State} {m : MethodId} {below : List Frame} {meth : Method} {c : Code} {b L : Nat} {xs : Nat → Int32} {G : GG} {ad um : Nat → Nat} {qo qd : Nat} {Q : State → Prop} (hF : LF p l s m c b L xs G) {i : Nat} (hi : i + 7 ≤ L) {cl : Cls} {x : Mdl} {f : Nat → Int64} {fd : Nat → UInt64} {H : Heap} {locs : List Loc} (hI : LSt s G ad um qo qd cl x f fd H locs) {cells slots : Nat} (hc1 : cells + 1 ≤ 601024) (hc2 : slots + 6 ≤ 7293034) {ls : Array Slot} (hl : lv_has ls 9 (lvL b ad um qo qd i)) (kk : LKont p l e s m below meth c b G ad um qo qd i cells slots Q) : W p l e room_1 s m #[Value.ref b] below meth c H locs cells slots Q (F0 m 1705 ls []) := by
  obtain ⟨⟨hx, hb, hml, hown, hts, hX, hbl⟩, hK, hT, hL, hfl⟩ := id hF
  obtain ⟨hP, hD, hS, hI⟩ := hI
  have hbA : ¬ AL s b := Nat.not_le.mpr hbl
  have S : CallFix p m c cL_law 9 s #[Value.ref b] lw_tbl RL := ⟨hx, hb, hml, hown, hts⟩
  refine lv_aload_n hx hb dL_law_1705 rfl (lv_at hl 1 rfl) ?_
  refine lv_aload_n hx hb dL_law_1706 rfl (lv_at hl 0 rfl) ?_
  refine lv_iload hx hb dL_law_1707 (lv_at hl 5 rfl) ?_
  refine lv_iconst (v := 1) hx hb dL_law_1709 (by decide) ?_
  refine lv_iadd hx hb dL_law_1710 ?_
  refine va_sld hx hb hX hbl hbA hS (sc_in hi hL 1 (by decide)) dL_law_1711 ?_
  refine lv_aload_n hx hb dL_law_1712 rfl (lv_at hl 0 rfl) ?_
  refine lv_iload hx hb dL_law_1713 (lv_at hl 5 rfl) ?_
  refine lv_iconst (v := 2) hx hb dL_law_1715 (by decide) ?_
  refine lv_iadd hx hb dL_law_1716 ?_
  refine va_sld hx hb hX hbl hbA hS (sc_in hi hL 2 (by decide)) dL_law_1717 ?_
  refine lv_aload_n hx hb dL_law_1718 rfl (lv_at hl 3 rfl) ?_
  obtain ⟨r, cl', f', bb, u2, u3, u4, e1, e2, e3, hI'⟩ := LW_period hI f (xs (nI i + 1).toNatClampNeg) (xs (nI i + 2).toNatClampNeg) x.w x.s x.h
  refine rwL (rest := []) (As := [.ref (ad 0), .int (xs (nI i + 1).toNatClampNeg), .int (xs (nI i + 2).toNatClampNeg), .ref qo]) (wr := wdD G qd fd ++ wdM G um x) (wf := wdL G ad um qo qd cl' x f' fd) S (lw_period l hfl G ad qo cl cl' f f' (xs (nI i + 1).toNatClampNeg) (xs (nI i + 2).toNatClampNeg) r e1) (vx_cwSW 4 hts gL_law_L_period rfl rfl rfl hzyL_period ⟨Nat.le_of_ble_eq_true rfl, Nat.le_of_ble_eq_true rfl⟩) hK hP hD hS hT [0, 1, 2, 3, 4, 5, 6, 7, 8, 9, 10, 11, 12, 13, 14, 15, 16, 17, 18, 19, 20, 21, 22, 23, 24, 25, 26, 27, 28, 29, 30, 31, 32, 33, 34, 35] [36, 37, 38, 39, 40, 41, 42, 43, 44, 45, 46, 47, 48, 49, 50, 51, 52, 53] [18, 19, 20, 21, 22, 23, 24, 25, 26, 27, 28, 29, 30, 31, 32, 33, 34, 35, 36, 37, 38, 39, 40, 41, 42, 43, 44, 45, 46, 47, 48, 49, 50, 51, 52, 53, 0, 1, 2, 3, 4, 5, 6, 7, 8, 9, 10, 11, 12, 13, 14, 15, 16, 17] rfl rfl rfl rfl rfl rfl rfl rfl hl.1 rfl (Nat.le_of_ble_eq_true rfl) dL_law_1719 ⟨hc1, hc2⟩ (fun _ H locs hP hD hS => ?_)
  refine lv_istore (lv' := [(6, .int r), (0, .ref b), (1, .ref (ad 0)), (2, .ref (um 0)), (3, .ref qo), (4, .ref qd), (5, .int (nI i))]) hx hb dL_law_1722 hl (by decide) rfl (fun ls hl => ?_)
  refine lv_aload_n hx hb dL_law_1724 rfl (lv_at hl 3 rfl) ?_
  refine lv_aload_n hx hb dL_law_1725 rfl (lv_at hl 1 rfl) ?_
  refine lv_iload hx hb dL_law_1726 (lv_at hl 6 rfl) ?_
  refine lv_iconst (v := 1) hx hb dL_law_1728 (by decide) ?_
  refine lv_iadd hx hb dL_law_1729 ?_
  refine va_sld hx hb hX hbl hbA hS (sc_in hi hL 1 (by decide)) dL_law_1730 ?_
  refine lv_aload_n hx hb dL_law_1731 rfl (lv_at hl 1 rfl) ?_
  refine lv_iload hx hb dL_law_1732 (lv_at hl 6 rfl) ?_
  refine lv_iconst (v := 2) hx hb dL_law_1734 (by decide) ?_
  refine lv_iadd hx hb dL_law_1735 ?_
  refine va_sld hx hb hX hbl hbA hS (sc_in hi hL 2 (by decide)) dL_law_1736 ?_
  refine rwV_back (rest := []) (As := [.int (xs (nI i + 1).toNatClampNeg), .int (xs (nI i + 2).toNatClampNeg)]) (wr := wdA G ad qo cl' f' ++ wdD G qd fd) (wf := wdL G ad um qo qd cl' (mkM r x.gain x.size u2 u3 u4 x.laidArea x.parts x.isMinus x.readSpot x.isStar x.wantsNumber x.waiting x.shiftX x.shiftY x.times x.dotsLaid x.joinedLaid x.hash x.isThere x.v x.spotOf x.inMiddle x.tints x.buffer x.values x.ranks x.oldRanks x.part x.allRanks x.bases x.isMet x.metX x.metY x.line) f' fd) S (ctX5_period l G (um 0) (um 1) (um 2) (um 3) (um 4) (um 5) (um 6) (um 7) (um 8) (um 9) (um 10) (um 11) (um 12) (um 13) (um 14) (um 15) (um 16) x.thrown x.gain x.size x.w x.s x.h x.laidArea x.parts x.isMinus x.readSpot x.isStar x.wantsNumber x.waiting x.shiftX x.shiftY x.times x.dotsLaid x.joinedLaid x.hash x.isThere x.v x.spotOf x.inMiddle x.tints x.buffer x.values x.ranks x.oldRanks x.part x.allRanks x.bases x.isMet x.metX x.metY x.line (xs (nI i + 1).toNatClampNeg) (xs (nI i + 2).toNatClampNeg) bb r u2 u3 u4 e2) (cwV 2 hts gL_law_X5_period rfl rfl rfl hvyX5_period ⟨Nat.le_of_ble_eq_true rfl, Nat.le_of_ble_eq_true rfl⟩) hK hP hD hS xb_triv (fun _ _ _ => trivial) [37, 38, 39, 40, 41, 42, 43, 44, 45, 46, 47, 48, 49, 50, 51, 52, 53] [0, 1, 2, 3, 4, 5, 6, 7, 8, 9, 10, 11, 12, 13, 14, 15, 16, 17, 18, 19, 20, 21, 22, 23, 24, 25, 26, 27, 28, 29, 30, 31, 32, 33, 34, 35, 36] [0, 1, 2, 3, 4, 5, 6, 7, 8, 9, 10, 11, 12, 13, 14, 15, 16, 17, 18, 19, 20, 21, 22, 23, 24, 25, 26, 27, 28, 29, 30, 31, 32, 33, 34, 35, 36, 37, 38, 39, 40, 41, 42, 43, 44, 45, 46, 47, 48, 49, 50, 51, 52, 53] rfl rfl rfl rfl rfl rfl rfl 37 5 rfl rfl rfl rfl hl.1 rfl (Nat.le_of_ble_eq_true rfl) dL_law_1737 ⟨hc1, hc2⟩ (fun _ H locs hP hD hS => ?_)
  refine lv_istore (lv' := [(7, .int bb), (6, .int r), (0, .ref b), (1, .ref (ad 0)), (2, .ref (um 0)), (3, .ref qo), (4, .ref qd), (5, .int (nI i))]) hx hb dL_law_1740 hl (by decide) rfl (fun ls hl => ?_)
  refine lv_aload_n hx hb dL_law_1742 rfl (lv_at hl 4 rfl) ?_
  refine roVi1 (rest := []) (As := []) S (ctX5_thrown l G (um 0) (um 1) (um 2) (um 3) (um 4) (um 5) (um 6) (um 7) (um 8) (um 9) (um 10) (um 11) (um 12) (um 13) (um 14) (um 15) (um 16) r x.gain x.size u2 u3 u4 x.laidArea x.parts x.isMinus x.readSpot x.isStar x.wantsNumber x.waiting x.shiftX x.shiftY x.times x.dotsLaid x.joinedLaid x.hash x.isThere x.v x.spotOf x.inMiddle x.tints x.buffer x.values x.ranks x.oldRanks x.part x.allRanks x.bases x.isMet x.metX x.metY x.line r rfl) (cwV 0 hts gL_law_X5_thrown rfl rfl rfl hvyX5_thrown ⟨Nat.le_of_ble_eq_true rfl, Nat.le_of_ble_eq_true rfl⟩) hK hP [37, 38, 39, 40, 41, 42, 43, 44, 45, 46, 47, 48, 49, 50, 51, 52, 53] rfl 37 5 rfl rfl rfl rfl hl.1 rfl (Nat.le_of_ble_eq_true rfl) dL_law_1743 ⟨hc1, hc2⟩ (fun _ => ?_)
  refine lv_iload hx hb dL_law_1746 (lv_at hl 1 rfl) ?_
  refine lv_icmp_eq (tgt := 1753) hx hb dL_law_1748 (by decide) (fun _ => ?_) (fun cn => absurd rfl cn)
  refine lv_iload hx hb dL_law_1753 (lv_at hl 1 rfl) ?_
  refine lv_if_ne (tgt := 1770) hx hb dL_law_1755 (by decide) (fun hr => ?_) (fun hr => ?_)
  · skip
    refine lv_goto (tgt := 2071) hx hb dL_law_1770 (by decide) ?_
    exact kk cl' (mkM r x.gain x.size u2 u3 u4 x.laidArea x.parts x.isMinus x.readSpot x.isStar x.wantsNumber x.waiting x.shiftX x.shiftY x.times x.dotsLaid x.joinedLaid x.hash x.isThere x.v x.spotOf x.inMiddle x.tints x.buffer x.values x.ranks x.oldRanks x.part x.allRanks x.bases x.isMet x.metX x.metY x.line) f' fd H locs ⟨hP, hD, hS, hI'⟩ ls (lv_sub hl [2, 3, 4, 5, 6, 7] rfl)
  · skip
    refine lv_aload_n hx hb dL_law_1758 rfl (lv_at hl 5 rfl) ?_
    refine lv_iconst (v := 0) hx hb dL_law_1759 (by decide) ?_
    refine va_lald hx hb hK.1 hP 35 3 rfl rfl (i := 0) (vp_in_iff.mpr ⟨by decide, by decide⟩) dL_law_1760 ?_
    refine lv_iload hx hb dL_law_1761 (lv_at hl 0 rfl) ?_
    refine lv_i2l hx hb dL_law_1763 rfl ?_
    refine W.lcmp hx hb dL_law_1764 ?_
    have h00 : f' ((0 : Int32).toNatClampNeg) = bb.toInt64 := e3 hr
    refine lv_if_eq (tgt := 1770) hx hb dL_law_1765 (by decide) (fun _ => ?_) (fun cn => absurd (by show lg_cmp _ _ = 0; rw [h00]; exact lgc _) cn)
    refine lv_goto (tgt := 2071) hx hb dL_law_1770 (by decide) ?_
    exact kk cl' (mkM r x.gain x.size u2 u3 u4 x.laidArea x.parts x.isMinus x.readSpot x.isStar x.wantsNumber x.waiting x.shiftX x.shiftY x.times x.dotsLaid x.joinedLaid x.hash x.isThere x.v x.spotOf x.inMiddle x.tints x.buffer x.values x.ranks x.oldRanks x.part x.allRanks x.bases x.isMet x.metX x.metY x.line) f' fd H locs ⟨hP, hD, hS, hI'⟩ ls (lv_sub hl [2, 3, 4, 5, 6, 7] rfl)
theorem hzyL_beat : yL_beat.cls ≠ "java/lang/invoke/MethodHandle" ∧ yL_beat.cls ≠ "java/lang/invoke/VarHandle" ∧ (parseMethodDescriptor yL_beat.desc).map (fun d => d.parameters.length) = some 5 := by decide +kernel
theorem hvyX5_beat : yX5_beat.cls = RX5 ∧ yX5_beat.cls ≠ "java/lang/invoke/MethodHandle" ∧ yX5_beat.cls ≠ "java/lang/invoke/VarHandle" ∧ (parseMethodDescriptor yX5_beat.desc).map (fun d => d.parameters.length) = some 3 := ⟨rfl, by decide +kernel⟩
set_option maxHeartbeats 4000000 in
set_option maxRecDepth 100000 in
theorem law_c24 {p : Program} {l : Launch} {e : Env} {s : State} {m : MethodId} {below : List Frame} {meth : Method} {c : Code} {b L : Nat} {xs : Nat → Int32} {G : GG} {ad um : Nat → Nat} {qo qd : Nat} {Q : State → Prop} (hF : LF p l s m c b L xs G) {i : Nat} (hi : i + 7 ≤ L) {cl : Cls} {x : Mdl} {f : Nat → Int64} {fd : Nat → UInt64} {H : Heap} {locs : List Loc} (hI : LSt s G ad um qo qd cl x f fd H locs) {cells slots : Nat} (hc1 : cells + 1 ≤ 601024) (hc2 : slots + 6 ≤ 7293034) {ls : Array Slot} (hl : lv_has ls 9 (lvL b ad um qo qd i)) (kk : LKont p l e s m below meth c b G ad um qo qd i cells slots Q) : W p l e room_1 s m #[Value.ref b] below meth c H locs cells slots Q (F0 m 1773 ls []) := by
  obtain ⟨⟨hx, hb, hml, hown, hts, hX, hbl⟩, hK, hT, hL, hfl⟩ := id hF
  obtain ⟨hP, hD, hS, hI⟩ := hI
  have hbA : ¬ AL s b := Nat.not_le.mpr hbl
  have S : CallFix p m c cL_law 9 s #[Value.ref b] lw_tbl RL := ⟨hx, hb, hml, hown, hts⟩
  refine lv_aload_n hx hb dL_law_1773 rfl (lv_at hl 1 rfl) ?_
  refine lv_aload_n hx hb dL_law_1774 rfl (lv_at hl 0 rfl) ?_
  refine lv_iload hx hb dL_law_1775 (lv_at hl 5 rfl) ?_
  refine lv_iconst (v := 1) hx hb dL_law_1777 (by decide) ?_
  refine lv_iadd hx hb dL_law_1778 ?_
  refine va_sld hx hb hX hbl hbA hS (sc_in hi hL 1 (by decide)) dL_law_1779 ?_
  refine lv_aload_n hx hb dL_law_1780 rfl (lv_at hl 0 rfl) ?_
  refine lv_iload hx hb dL_law_1781 (lv_at hl 5 rfl) ?_
  refine lv_iconst (v := 2) hx hb dL_law_1783 (by decide) ?_
  refine lv_iadd hx hb dL_law_1784 ?_
  refine va_sld hx hb hX hbl hbA hS (sc_in hi hL 2 (by decide)) dL_law_1785 ?_
  refine lv_aload_n hx hb dL_law_1786 rfl (lv_at hl 0 rfl) ?_
  refine lv_iload hx hb dL_law_1787 (lv_at hl 5 rfl) ?_
  refine lv_iconst (v := 3) hx hb dL_law_1789 (by decide) ?_
  refine lv_iadd hx hb dL_law_1790 ?_
  refine va_sld hx hb hX hbl hbA hS (sc_in hi hL 3 (by decide)) dL_law_1791 ?_
  refine lv_aload_n hx hb dL_law_1792 rfl (lv_at hl 3 rfl) ?_
  obtain ⟨r, cl', f', bb, u2, u3, u4, e1, e2, e3, hI'⟩ := LW_beat hI f (xs (nI i + 1).toNatClampNeg) (xs (nI i + 2).toNatClampNeg) (xs (nI i + 3).toNatClampNeg) x.w x.s x.h
  refine rwL (rest := []) (As := [.ref (ad 0), .int (xs (nI i + 1).toNatClampNeg), .int (xs (nI i + 2).toNatClampNeg), .int (xs (nI i + 3).toNatClampNeg), .ref qo]) (wr := wdD G qd fd ++ wdM G um x) (wf := wdL G ad um qo qd cl' x f' fd) S (lw_beat l hfl G ad qo cl cl' f f' (xs (nI i + 1).toNatClampNeg) (xs (nI i + 2).toNatClampNeg) (xs (nI i + 3).toNatClampNeg) r e1) (vx_cwSW 5 hts gL_law_L_beat rfl rfl rfl hzyL_beat ⟨Nat.le_of_ble_eq_true rfl, Nat.le_of_ble_eq_true rfl⟩) hK hP hD hS hT [0, 1, 2, 3, 4, 5, 6, 7, 8, 9, 10, 11, 12, 13, 14, 15, 16, 17, 18, 19, 20, 21, 22, 23, 24, 25, 26, 27, 28, 29, 30, 31, 32, 33, 34, 35] [36, 37, 38, 39, 40, 41, 42, 43, 44, 45, 46, 47, 48, 49, 50, 51, 52, 53] [18, 19, 20, 21, 22, 23, 24, 25, 26, 27, 28, 29, 30, 31, 32, 33, 34, 35, 36, 37, 38, 39, 40, 41, 42, 43, 44, 45, 46, 47, 48, 49, 50, 51, 52, 53, 0, 1, 2, 3, 4, 5, 6, 7, 8, 9, 10, 11, 12, 13, 14, 15, 16, 17] rfl rfl rfl rfl rfl rfl rfl rfl hl.1 rfl (Nat.le_of_ble_eq_true rfl) dL_law_1793 ⟨hc1, hc2⟩ (fun _ H locs hP hD hS => ?_)
  refine lv_istore (lv' := [(6, .int r), (0, .ref b), (1, .ref (ad 0)), (2, .ref (um 0)), (3, .ref qo), (4, .ref qd), (5, .int (nI i))]) hx hb dL_law_1796 hl (by decide) rfl (fun ls hl => ?_)
  refine lv_aload_n hx hb dL_law_1798 rfl (lv_at hl 3 rfl) ?_
  refine lv_aload_n hx hb dL_law_1799 rfl (lv_at hl 1 rfl) ?_
  refine lv_iload hx hb dL_law_1800 (lv_at hl 6 rfl) ?_
  refine lv_iconst (v := 1) hx hb dL_law_1802 (by decide) ?_
  refine lv_iadd hx hb dL_law_1803 ?_
  refine va_sld hx hb hX hbl hbA hS (sc_in hi hL 1 (by decide)) dL_law_1804 ?_
  refine lv_aload_n hx hb dL_law_1805 rfl (lv_at hl 1 rfl) ?_
  refine lv_iload hx hb dL_law_1806 (lv_at hl 6 rfl) ?_
  refine lv_iconst (v := 2) hx hb dL_law_1808 (by decide) ?_
  refine lv_iadd hx hb dL_law_1809 ?_
  refine va_sld hx hb hX hbl hbA hS (sc_in hi hL 2 (by decide)) dL_law_1810 ?_
  refine lv_aload_n hx hb dL_law_1811 rfl (lv_at hl 1 rfl) ?_
  refine lv_iload hx hb dL_law_1812 (lv_at hl 6 rfl) ?_
  refine lv_iconst (v := 3) hx hb dL_law_1814 (by decide) ?_
  refine lv_iadd hx hb dL_law_1815 ?_
  refine va_sld hx hb hX hbl hbA hS (sc_in hi hL 3 (by decide)) dL_law_1816 ?_
  refine rwV_back (rest := []) (As := [.int (xs (nI i + 1).toNatClampNeg), .int (xs (nI i + 2).toNatClampNeg), .int (xs (nI i + 3).toNatClampNeg)]) (wr := wdA G ad qo cl' f' ++ wdD G qd fd) (wf := wdL G ad um qo qd cl' (mkM r x.gain x.size u2 u3 u4 x.laidArea x.parts x.isMinus x.readSpot x.isStar x.wantsNumber x.waiting x.shiftX x.shiftY x.times x.dotsLaid x.joinedLaid x.hash x.isThere x.v x.spotOf x.inMiddle x.tints x.buffer x.values x.ranks x.oldRanks x.part x.allRanks x.bases x.isMet x.metX x.metY x.line) f' fd) S (ctX5_beat l G (um 0) (um 1) (um 2) (um 3) (um 4) (um 5) (um 6) (um 7) (um 8) (um 9) (um 10) (um 11) (um 12) (um 13) (um 14) (um 15) (um 16) x.thrown x.gain x.size x.w x.s x.h x.laidArea x.parts x.isMinus x.readSpot x.isStar x.wantsNumber x.waiting x.shiftX x.shiftY x.times x.dotsLaid x.joinedLaid x.hash x.isThere x.v x.spotOf x.inMiddle x.tints x.buffer x.values x.ranks x.oldRanks x.part x.allRanks x.bases x.isMet x.metX x.metY x.line (xs (nI i + 1).toNatClampNeg) (xs (nI i + 2).toNatClampNeg) (xs (nI i + 3).toNatClampNeg) bb r u2 u3 u4 e2) (cwV 3 hts gL_law_X5_beat rfl rfl rfl hvyX5_beat ⟨Nat.le_of_ble_eq_true rfl, Nat.le_of_ble_eq_true rfl⟩) hK hP hD hS xb_triv (fun _ _ _ => trivial) [37, 38, 39, 40, 41, 42, 43, 44, 45, 46, 47, 48, 49, 50, 51, 52, 53] [0, 1, 2, 3, 4, 5, 6, 7, 8, 9, 10, 11, 12, 13, 14, 15, 16, 17, 18, 19, 20, 21, 22, 23, 24, 25, 26, 27, 28, 29, 30, 31, 32, 33, 34, 35, 36] [0, 1, 2, 3, 4, 5, 6, 7, 8, 9, 10, 11, 12, 13, 14, 15, 16, 17, 18, 19, 20, 21, 22, 23, 24, 25, 26, 27, 28, 29, 30, 31, 32, 33, 34, 35, 36, 37, 38, 39, 40, 41, 42, 43, 44, 45, 46, 47, 48, 49, 50, 51, 52, 53] rfl rfl rfl rfl rfl rfl rfl 37 5 rfl rfl rfl rfl hl.1 rfl (Nat.le_of_ble_eq_true rfl) dL_law_1817 ⟨hc1, hc2⟩ (fun _ H locs hP hD hS => ?_)
  refine lv_istore (lv' := [(7, .int bb), (6, .int r), (0, .ref b), (1, .ref (ad 0)), (2, .ref (um 0)), (3, .ref qo), (4, .ref qd), (5, .int (nI i))]) hx hb dL_law_1820 hl (by decide) rfl (fun ls hl => ?_)
  refine lv_aload_n hx hb dL_law_1822 rfl (lv_at hl 4 rfl) ?_
  refine roVi1 (rest := []) (As := []) S (ctX5_thrown l G (um 0) (um 1) (um 2) (um 3) (um 4) (um 5) (um 6) (um 7) (um 8) (um 9) (um 10) (um 11) (um 12) (um 13) (um 14) (um 15) (um 16) r x.gain x.size u2 u3 u4 x.laidArea x.parts x.isMinus x.readSpot x.isStar x.wantsNumber x.waiting x.shiftX x.shiftY x.times x.dotsLaid x.joinedLaid x.hash x.isThere x.v x.spotOf x.inMiddle x.tints x.buffer x.values x.ranks x.oldRanks x.part x.allRanks x.bases x.isMet x.metX x.metY x.line r rfl) (cwV 0 hts gL_law_X5_thrown rfl rfl rfl hvyX5_thrown ⟨Nat.le_of_ble_eq_true rfl, Nat.le_of_ble_eq_true rfl⟩) hK hP [37, 38, 39, 40, 41, 42, 43, 44, 45, 46, 47, 48, 49, 50, 51, 52, 53] rfl 37 5 rfl rfl rfl rfl hl.1 rfl (Nat.le_of_ble_eq_true rfl) dL_law_1823 ⟨hc1, hc2⟩ (fun _ => ?_)
  refine lv_iload hx hb dL_law_1826 (lv_at hl 1 rfl) ?_
  refine lv_icmp_eq (tgt := 1833) hx hb dL_law_1828 (by decide) (fun _ => ?_) (fun cn => absurd rfl cn)
  refine lv_iload hx hb dL_law_1833 (lv_at hl 1 rfl) ?_
  refine lv_if_ne (tgt := 1850) hx hb dL_law_1835 (by decide) (fun hr => ?_) (fun hr => ?_)
  · skip
    refine lv_goto (tgt := 2071) hx hb dL_law_1850 (by decide) ?_
    exact kk cl' (mkM r x.gain x.size u2 u3 u4 x.laidArea x.parts x.isMinus x.readSpot x.isStar x.wantsNumber x.waiting x.shiftX x.shiftY x.times x.dotsLaid x.joinedLaid x.hash x.isThere x.v x.spotOf x.inMiddle x.tints x.buffer x.values x.ranks x.oldRanks x.part x.allRanks x.bases x.isMet x.metX x.metY x.line) f' fd H locs ⟨hP, hD, hS, hI'⟩ ls (lv_sub hl [2, 3, 4, 5, 6, 7] rfl)
  · skip
    refine lv_aload_n hx hb dL_law_1838 rfl (lv_at hl 5 rfl) ?_
    refine lv_iconst (v := 0) hx hb dL_law_1839 (by decide) ?_
    refine va_lald hx hb hK.1 hP 35 3 rfl rfl (i := 0) (vp_in_iff.mpr ⟨by decide, by decide⟩) dL_law_1840 ?_
    refine lv_iload hx hb dL_law_1841 (lv_at hl 0 rfl) ?_
    refine lv_i2l hx hb dL_law_1843 rfl ?_
    refine W.lcmp hx hb dL_law_1844 ?_
    have h00 : f' ((0 : Int32).toNatClampNeg) = bb.toInt64 := e3 hr
    refine lv_if_eq (tgt := 1850) hx hb dL_law_1845 (by decide) (fun _ => ?_) (fun cn => absurd (by show lg_cmp _ _ = 0; rw [h00]; exact lgc _) cn)
    refine lv_goto (tgt := 2071) hx hb dL_law_1850 (by decide) ?_
    exact kk cl' (mkM r x.gain x.size u2 u3 u4 x.laidArea x.parts x.isMinus x.readSpot x.isStar x.wantsNumber x.waiting x.shiftX x.shiftY x.times x.dotsLaid x.joinedLaid x.hash x.isThere x.v x.spotOf x.inMiddle x.tints x.buffer x.values x.ranks x.oldRanks x.part x.allRanks x.bases x.isMet x.metX x.metY x.line) f' fd H locs ⟨hP, hD, hS, hI'⟩ ls (lv_sub hl [2, 3, 4, 5, 6, 7] rfl)
theorem hzyL_mixture : yL_mixture.cls ≠ "java/lang/invoke/MethodHandle" ∧ yL_mixture.cls ≠ "java/lang/invoke/VarHandle" ∧ (parseMethodDescriptor yL_mixture.desc).map (fun d => d.parameters.length) = some 3 := by decide +kernel
theorem hvyX5_mixture : yX5_mixture.cls = RX5 ∧ yX5_mixture.cls ≠ "java/lang/invoke/MethodHandle" ∧ yX5_mixture.cls ≠ "java/lang/invoke/VarHandle" ∧ (parseMethodDescriptor yX5_mixture.desc).map (fun d => d.parameters.length) = some 1 := ⟨rfl, by decide +kernel⟩
set_option maxHeartbeats 4000000 in
set_option maxRecDepth 100000 in
theorem law_c25 {p : Program} {l : Launch} {e : Env} {s : State} {m : MethodId} {below : List Frame} {meth : Method} {c : Code} {b L : Nat} {xs : Nat → Int32} {G : GG} {ad um : Nat → Nat} {qo qd : Nat} {Q : State → Prop} (hF : LF p l s m c b L xs G) {i : Nat} (hi : i + 7 ≤ L) {cl : Cls} {x : Mdl} {f : Nat → Int64} {fd : Nat → UInt64} {H : Heap} {locs : List Loc} (hI : LSt s G ad um qo qd cl x f fd H locs) {cells slots : Nat} (hc1 : cells + 1 ≤ 601024) (hc2 : slots + 6 ≤ 7293034) {ls : Array Slot} (hl : lv_has ls 9 (lvL b ad um qo qd i)) (kk : LKont p l e s m below meth c b G ad um qo qd i cells slots Q) : W p l e room_1 s m #[Value.ref b] below meth c H locs cells slots Q (F0 m 1853 ls []) := by
  obtain ⟨⟨hx, hb, hml, hown, hts, hX, hbl⟩, hK, hT, hL, hfl⟩ := id hF
  obtain ⟨hP, hD, hS, hI⟩ := hI
  have hbA : ¬ AL s b := Nat.not_le.mpr hbl
  have S : CallFix p m c cL_law 9 s #[Value.ref b] lw_tbl RL := ⟨hx, hb, hml, hown, hts⟩
  refine lv_aload_n hx hb dL_law_1853 rfl (lv_at hl 1 rfl) ?_
  refine lv_aload_n hx hb dL_law_1854 rfl (lv_at hl 0 rfl) ?_
  refine lv_iload hx hb dL_law_1855 (lv_at hl 5 rfl) ?_
  refine lv_iconst (v := 1) hx hb dL_law_1857 (by decide) ?_
  refine lv_iadd hx hb dL_law_1858 ?_
  refine va_sld hx hb hX hbl hbA hS (sc_in hi hL 1 (by decide)) dL_law_1859 ?_
  refine lv_aload_n hx hb dL_law_1860 rfl (lv_at hl 3 rfl) ?_
  obtain ⟨r, cl', f', bb, u2, u3, u4, u5, u6, u7, u8, u9, e1, e2, e3, hI'⟩ := LW_mixture hI f (xs (nI i + 1).toNatClampNeg) x.w x.s x.h x.laidArea x.values x.ranks x.allRanks x.bases
  refine rwL (rest := []) (As := [.ref (ad 0), .int (xs (nI i + 1).toNatClampNeg), .ref qo]) (wr := wdD G qd fd ++ wdM G um x) (wf := wdL G ad um qo qd cl' x f' fd) S (lw_mixture l hfl G ad qo cl cl' f f' (xs (nI i + 1).toNatClampNeg) r e1) (vx_cwSW 3 hts gL_law_L_mixture rfl rfl rfl hzyL_mixture ⟨Nat.le_of_ble_eq_true rfl, Nat.le_of_ble_eq_true rfl⟩) hK hP hD hS hT [0, 1, 2, 3, 4, 5, 6, 7, 8, 9, 10, 11, 12, 13, 14, 15, 16, 17, 18, 19, 20, 21, 22, 23, 24, 25, 26, 27, 28, 29, 30, 31, 32, 33, 34, 35] [36, 37, 38, 39, 40, 41, 42, 43, 44, 45, 46, 47, 48, 49, 50, 51, 52, 53] [18, 19, 20, 21, 22, 23, 24, 25, 26, 27, 28, 29, 30, 31, 32, 33, 34, 35, 36, 37, 38, 39, 40, 41, 42, 43, 44, 45, 46, 47, 48, 49, 50, 51, 52, 53, 0, 1, 2, 3, 4, 5, 6, 7, 8, 9, 10, 11, 12, 13, 14, 15, 16, 17] rfl rfl rfl rfl rfl rfl rfl rfl hl.1 rfl (Nat.le_of_ble_eq_true rfl) dL_law_1861 ⟨hc1, hc2⟩ (fun _ H locs hP hD hS => ?_)
  refine lv_istore (lv' := [(6, .int r), (0, .ref b), (1, .ref (ad 0)), (2, .ref (um 0)), (3, .ref qo), (4, .ref qd), (5, .int (nI i))]) hx hb dL_law_1864 hl (by decide) rfl (fun ls hl => ?_)
  refine lv_aload_n hx hb dL_law_1866 rfl (lv_at hl 3 rfl) ?_
  refine lv_aload_n hx hb dL_law_1867 rfl (lv_at hl 1 rfl) ?_
  refine lv_iload hx hb dL_law_1868 (lv_at hl 6 rfl) ?_
  refine lv_iconst (v := 1) hx hb dL_law_1870 (by decide) ?_
  refine lv_iadd hx hb dL_law_1871 ?_
  refine va_sld hx hb hX hbl hbA hS (sc_in hi hL 1 (by decide)) dL_law_1872 ?_
  refine rwV_back (rest := []) (As := [.int (xs (nI i + 1).toNatClampNeg)]) (wr := wdA G ad qo cl' f' ++ wdD G qd fd) (wf := wdL G ad um qo qd cl' (mkM r x.gain x.size u2 u3 u4 u5 x.parts x.isMinus x.readSpot x.isStar x.wantsNumber x.waiting x.shiftX x.shiftY x.times x.dotsLaid x.joinedLaid x.hash x.isThere x.v x.spotOf x.inMiddle x.tints x.buffer u6 u7 x.oldRanks x.part u8 u9 x.isMet x.metX x.metY x.line) f' fd) S (ctX5_mixture l G (um 0) (um 1) (um 2) (um 3) (um 4) (um 5) (um 6) (um 7) (um 8) (um 9) (um 10) (um 11) (um 12) (um 13) (um 14) (um 15) (um 16) x.thrown x.gain x.size x.w x.s x.h x.laidArea x.parts x.isMinus x.readSpot x.isStar x.wantsNumber x.waiting x.shiftX x.shiftY x.times x.dotsLaid x.joinedLaid x.hash x.isThere x.v x.spotOf x.inMiddle x.tints x.buffer x.values x.ranks x.oldRanks x.part x.allRanks x.bases x.isMet x.metX x.metY x.line (xs (nI i + 1).toNatClampNeg) bb r u2 u3 u4 u5 u6 u7 u8 u9 e2) (cwV 1 hts gL_law_X5_mixture rfl rfl rfl hvyX5_mixture ⟨Nat.le_of_ble_eq_true rfl, Nat.le_of_ble_eq_true rfl⟩) hK hP hD hS xb_triv (fun _ _ _ => trivial) [37, 38, 39, 40, 41, 42, 43, 44, 45, 46, 47, 48, 49, 50, 51, 52, 53] [0, 1, 2, 3, 4, 5, 6, 7, 8, 9, 10, 11, 12, 13, 14, 15, 16, 17, 18, 19, 20, 21, 22, 23, 24, 25, 26, 27, 28, 29, 30, 31, 32, 33, 34, 35, 36] [0, 1, 2, 3, 4, 5, 6, 7, 8, 9, 10, 11, 12, 13, 14, 15, 16, 17, 18, 19, 20, 21, 22, 23, 24, 25, 26, 27, 28, 29, 30, 31, 32, 33, 34, 35, 36, 37, 38, 39, 40, 41, 42, 43, 44, 45, 46, 47, 48, 49, 50, 51, 52, 53] rfl rfl rfl rfl rfl rfl rfl 37 5 rfl rfl rfl rfl hl.1 rfl (Nat.le_of_ble_eq_true rfl) dL_law_1873 ⟨hc1, hc2⟩ (fun _ H locs hP hD hS => ?_)
  refine lv_istore (lv' := [(7, .int bb), (6, .int r), (0, .ref b), (1, .ref (ad 0)), (2, .ref (um 0)), (3, .ref qo), (4, .ref qd), (5, .int (nI i))]) hx hb dL_law_1876 hl (by decide) rfl (fun ls hl => ?_)
  refine lv_aload_n hx hb dL_law_1878 rfl (lv_at hl 4 rfl) ?_
  refine roVi1 (rest := []) (As := []) S (ctX5_thrown l G (um 0) (um 1) (um 2) (um 3) (um 4) (um 5) (um 6) (um 7) (um 8) (um 9) (um 10) (um 11) (um 12) (um 13) (um 14) (um 15) (um 16) r x.gain x.size u2 u3 u4 u5 x.parts x.isMinus x.readSpot x.isStar x.wantsNumber x.waiting x.shiftX x.shiftY x.times x.dotsLaid x.joinedLaid x.hash x.isThere x.v x.spotOf x.inMiddle x.tints x.buffer u6 u7 x.oldRanks x.part u8 u9 x.isMet x.metX x.metY x.line r rfl) (cwV 0 hts gL_law_X5_thrown rfl rfl rfl hvyX5_thrown ⟨Nat.le_of_ble_eq_true rfl, Nat.le_of_ble_eq_true rfl⟩) hK hP [37, 38, 39, 40, 41, 42, 43, 44, 45, 46, 47, 48, 49, 50, 51, 52, 53] rfl 37 5 rfl rfl rfl rfl hl.1 rfl (Nat.le_of_ble_eq_true rfl) dL_law_1879 ⟨hc1, hc2⟩ (fun _ => ?_)
  refine lv_iload hx hb dL_law_1882 (lv_at hl 1 rfl) ?_
  refine lv_icmp_eq (tgt := 1889) hx hb dL_law_1884 (by decide) (fun _ => ?_) (fun cn => absurd rfl cn)
  refine lv_iload hx hb dL_law_1889 (lv_at hl 1 rfl) ?_
  refine lv_if_ne (tgt := 1906) hx hb dL_law_1891 (by decide) (fun hr => ?_) (fun hr => ?_)
  · skip
    refine lv_goto (tgt := 2071) hx hb dL_law_1906 (by decide) ?_
    exact kk cl' (mkM r x.gain x.size u2 u3 u4 u5 x.parts x.isMinus x.readSpot x.isStar x.wantsNumber x.waiting x.shiftX x.shiftY x.times x.dotsLaid x.joinedLaid x.hash x.isThere x.v x.spotOf x.inMiddle x.tints x.buffer u6 u7 x.oldRanks x.part u8 u9 x.isMet x.metX x.metY x.line) f' fd H locs ⟨hP, hD, hS, hI'⟩ ls (lv_sub hl [2, 3, 4, 5, 6, 7] rfl)
  · skip
    refine lv_aload_n hx hb dL_law_1894 rfl (lv_at hl 5 rfl) ?_
    refine lv_iconst (v := 0) hx hb dL_law_1895 (by decide) ?_
    refine va_lald hx hb hK.1 hP 35 3 rfl rfl (i := 0) (vp_in_iff.mpr ⟨by decide, by decide⟩) dL_law_1896 ?_
    refine lv_iload hx hb dL_law_1897 (lv_at hl 0 rfl) ?_
    refine lv_i2l hx hb dL_law_1899 rfl ?_
    refine W.lcmp hx hb dL_law_1900 ?_
    have h00 : f' ((0 : Int32).toNatClampNeg) = bb.toInt64 := e3 hr
    refine lv_if_eq (tgt := 1906) hx hb dL_law_1901 (by decide) (fun _ => ?_) (fun cn => absurd (by show lg_cmp _ _ = 0; rw [h00]; exact lgc _) cn)
    refine lv_goto (tgt := 2071) hx hb dL_law_1906 (by decide) ?_
    exact kk cl' (mkM r x.gain x.size u2 u3 u4 u5 x.parts x.isMinus x.readSpot x.isStar x.wantsNumber x.waiting x.shiftX x.shiftY x.times x.dotsLaid x.joinedLaid x.hash x.isThere x.v x.spotOf x.inMiddle x.tints x.buffer u6 u7 x.oldRanks x.part u8 u9 x.isMet x.metX x.metY x.line) f' fd H locs ⟨hP, hD, hS, hI'⟩ ls (lv_sub hl [2, 3, 4, 5, 6, 7] rfl)
theorem hzyL_nearest : yL_nearest.cls ≠ "java/lang/invoke/MethodHandle" ∧ yL_nearest.cls ≠ "java/lang/invoke/VarHandle" ∧ (parseMethodDescriptor yL_nearest.desc).map (fun d => d.parameters.length) = some 6 := by decide +kernel
theorem hvyX5_nearest : yX5_nearest.cls = RX5 ∧ yX5_nearest.cls ≠ "java/lang/invoke/MethodHandle" ∧ yX5_nearest.cls ≠ "java/lang/invoke/VarHandle" ∧ (parseMethodDescriptor yX5_nearest.desc).map (fun d => d.parameters.length) = some 4 := ⟨rfl, by decide +kernel⟩
set_option maxHeartbeats 4000000 in
set_option maxRecDepth 100000 in
theorem law_c26 {p : Program} {l : Launch} {e : Env} {s : State} {m : MethodId} {below : List Frame} {meth : Method} {c : Code} {b L : Nat} {xs : Nat → Int32} {G : GG} {ad um : Nat → Nat} {qo qd : Nat} {Q : State → Prop} (hF : LF p l s m c b L xs G) {i : Nat} (hi : i + 7 ≤ L) {cl : Cls} {x : Mdl} {f : Nat → Int64} {fd : Nat → UInt64} {H : Heap} {locs : List Loc} (hI : LSt s G ad um qo qd cl x f fd H locs) {cells slots : Nat} (hc1 : cells + 1 ≤ 601024) (hc2 : slots + 6 ≤ 7293034) {ls : Array Slot} (hl : lv_has ls 9 (lvL b ad um qo qd i)) (kk : LKont p l e s m below meth c b G ad um qo qd i cells slots Q) : W p l e room_1 s m #[Value.ref b] below meth c H locs cells slots Q (F0 m 1909 ls []) := by
  obtain ⟨⟨hx, hb, hml, hown, hts, hX, hbl⟩, hK, hT, hL, hfl⟩ := id hF
  obtain ⟨hP, hD, hS, hI⟩ := hI
  have hbA : ¬ AL s b := Nat.not_le.mpr hbl
  have S : CallFix p m c cL_law 9 s #[Value.ref b] lw_tbl RL := ⟨hx, hb, hml, hown, hts⟩
  refine lv_aload_n hx hb dL_law_1909 rfl (lv_at hl 1 rfl) ?_
  refine lv_aload_n hx hb dL_law_1910 rfl (lv_at hl 0 rfl) ?_
  refine lv_iload hx hb dL_law_1911 (lv_at hl 5 rfl) ?_
  refine lv_iconst (v := 1) hx hb dL_law_1913 (by decide) ?_
  refine lv_iadd hx hb dL_law_1914 ?_
  refine va_sld hx hb hX hbl hbA hS (sc_in hi hL 1 (by decide)) dL_law_1915 ?_
  refine lv_aload_n hx hb dL_law_1916 rfl (lv_at hl 0 rfl) ?_
  refine lv_iload hx hb dL_law_1917 (lv_at hl 5 rfl) ?_
  refine lv_iconst (v := 2) hx hb dL_law_1919 (by decide) ?_
  refine lv_iadd hx hb dL_law_1920 ?_
  refine va_sld hx hb hX hbl hbA hS (sc_in hi hL 2 (by decide)) dL_law_1921 ?_
  refine lv_aload_n hx hb dL_law_1922 rfl (lv_at hl 0 rfl) ?_
  refine lv_iload hx hb dL_law_1923 (lv_at hl 5 rfl) ?_
  refine lv_iconst (v := 3) hx hb dL_law_1925 (by decide) ?_
  refine lv_iadd hx hb dL_law_1926 ?_
  refine va_sld hx hb hX hbl hbA hS (sc_in hi hL 3 (by decide)) dL_law_1927 ?_
  refine lv_aload_n hx hb dL_law_1928 rfl (lv_at hl 0 rfl) ?_
  refine lv_iload hx hb dL_law_1929 (lv_at hl 5 rfl) ?_
  refine lv_iconst (v := 4) hx hb dL_law_1931 (by decide) ?_
  refine lv_iadd hx hb dL_law_1932 ?_
  refine va_sld hx hb hX hbl hbA hS (sc_in hi hL 4 (by decide)) dL_law_1933 ?_
  refine lv_aload_n hx hb dL_law_1934 rfl (lv_at hl 3 rfl) ?_
  obtain ⟨r, cl', f', bb, e1, e2, e3, hI'⟩ := LW_nearest hI f (xs (nI i + 1).toNatClampNeg) (xs (nI i + 2).toNatClampNeg) (xs (nI i + 3).toNatClampNeg) (xs (nI i + 4).toNatClampNeg) 
  refine rwL (rest := []) (As := [.ref (ad 0), .int (xs (nI i + 1).toNatClampNeg), .int (xs (nI i + 2).toNatClampNeg), .int (xs (nI i + 3).toNatClampNeg), .int (xs (nI i + 4).toNatClampNeg), .ref qo]) (wr := wdD G qd fd ++ wdM G um x) (wf := wdL G ad um qo qd cl' x f' fd) S (lw_nearest l hfl G ad qo cl cl' f f' (xs (nI i + 1).toNatClampNeg) (xs (nI i + 2).toNatClampNeg) (xs (nI i + 3).toNatClampNeg) (xs (nI i + 4).toNatClampNeg) r e1) (vx_cwSW 6 hts gL_law_L_nearest rfl rfl rfl hzyL_nearest ⟨Nat.le_of_ble_eq_true rfl, Nat.le_of_ble_eq_true rfl⟩) hK hP hD hS hT [0, 1, 2, 3, 4, 5, 6, 7, 8, 9, 10, 11, 12, 13, 14, 15, 16, 17, 18, 19, 20, 21, 22, 23, 24, 25, 26, 27, 28, 29, 30, 31, 32, 33, 34, 35] [36, 37, 38, 39, 40, 41, 42, 43, 44, 45, 46, 47, 48, 49, 50, 51, 52, 53] [18, 19, 20, 21, 22, 23, 24, 25, 26, 27, 28, 29, 30, 31, 32, 33, 34, 35, 36, 37, 38, 39, 40, 41, 42, 43, 44, 45, 46, 47, 48, 49, 50, 51, 52, 53, 0, 1, 2, 3, 4, 5, 6, 7, 8, 9, 10, 11, 12, 13, 14, 15, 16, 17] rfl rfl rfl rfl rfl rfl rfl rfl hl.1 rfl (Nat.le_of_ble_eq_true rfl) dL_law_1935 ⟨hc1, hc2⟩ (fun _ H locs hP hD hS => ?_)
  refine lv_istore (lv' := [(6, .int r), (0, .ref b), (1, .ref (ad 0)), (2, .ref (um 0)), (3, .ref qo), (4, .ref qd), (5, .int (nI i))]) hx hb dL_law_1938 hl (by decide) rfl (fun ls hl => ?_)
  refine lv_aload_n hx hb dL_law_1940 rfl (lv_at hl 3 rfl) ?_
  refine lv_aload_n hx hb dL_law_1941 rfl (lv_at hl 1 rfl) ?_
  refine lv_iload hx hb dL_law_1942 (lv_at hl 6 rfl) ?_
  refine lv_iconst (v := 1) hx hb dL_law_1944 (by decide) ?_
  refine lv_iadd hx hb dL_law_1945 ?_
  refine va_sld hx hb hX hbl hbA hS (sc_in hi hL 1 (by decide)) dL_law_1946 ?_
  refine lv_aload_n hx hb dL_law_1947 rfl (lv_at hl 1 rfl) ?_
  refine lv_iload hx hb dL_law_1948 (lv_at hl 6 rfl) ?_
  refine lv_iconst (v := 2) hx hb dL_law_1950 (by decide) ?_
  refine lv_iadd hx hb dL_law_1951 ?_
  refine va_sld hx hb hX hbl hbA hS (sc_in hi hL 2 (by decide)) dL_law_1952 ?_
  refine lv_aload_n hx hb dL_law_1953 rfl (lv_at hl 1 rfl) ?_
  refine lv_iload hx hb dL_law_1954 (lv_at hl 6 rfl) ?_
  refine lv_iconst (v := 3) hx hb dL_law_1956 (by decide) ?_
  refine lv_iadd hx hb dL_law_1957 ?_
  refine va_sld hx hb hX hbl hbA hS (sc_in hi hL 3 (by decide)) dL_law_1958 ?_
  refine lv_aload_n hx hb dL_law_1959 rfl (lv_at hl 1 rfl) ?_
  refine lv_iload hx hb dL_law_1960 (lv_at hl 6 rfl) ?_
  refine lv_iconst (v := 4) hx hb dL_law_1962 (by decide) ?_
  refine lv_iadd hx hb dL_law_1963 ?_
  refine va_sld hx hb hX hbl hbA hS (sc_in hi hL 4 (by decide)) dL_law_1964 ?_
  refine rwV_back (rest := []) (As := [.int (xs (nI i + 1).toNatClampNeg), .int (xs (nI i + 2).toNatClampNeg), .int (xs (nI i + 3).toNatClampNeg), .int (xs (nI i + 4).toNatClampNeg)]) (wr := wdA G ad qo cl' f' ++ wdD G qd fd) (wf := wdL G ad um qo qd cl' (mkM r x.gain x.size x.w x.s x.h x.laidArea x.parts x.isMinus x.readSpot x.isStar x.wantsNumber x.waiting x.shiftX x.shiftY x.times x.dotsLaid x.joinedLaid x.hash x.isThere x.v x.spotOf x.inMiddle x.tints x.buffer x.values x.ranks x.oldRanks x.part x.allRanks x.bases x.isMet x.metX x.metY x.line) f' fd) S (ctX5_nearest l G (um 0) (um 1) (um 2) (um 3) (um 4) (um 5) (um 6) (um 7) (um 8) (um 9) (um 10) (um 11) (um 12) (um 13) (um 14) (um 15) (um 16) x.thrown x.gain x.size x.w x.s x.h x.laidArea x.parts x.isMinus x.readSpot x.isStar x.wantsNumber x.waiting x.shiftX x.shiftY x.times x.dotsLaid x.joinedLaid x.hash x.isThere x.v x.spotOf x.inMiddle x.tints x.buffer x.values x.ranks x.oldRanks x.part x.allRanks x.bases x.isMet x.metX x.metY x.line (xs (nI i + 1).toNatClampNeg) (xs (nI i + 2).toNatClampNeg) (xs (nI i + 3).toNatClampNeg) (xs (nI i + 4).toNatClampNeg) bb r  e2) (cwV 4 hts gL_law_X5_nearest rfl rfl rfl hvyX5_nearest ⟨Nat.le_of_ble_eq_true rfl, Nat.le_of_ble_eq_true rfl⟩) hK hP hD hS xb_triv (fun _ _ _ => trivial) [37, 38, 39, 40, 41, 42, 43, 44, 45, 46, 47, 48, 49, 50, 51, 52, 53] [0, 1, 2, 3, 4, 5, 6, 7, 8, 9, 10, 11, 12, 13, 14, 15, 16, 17, 18, 19, 20, 21, 22, 23, 24, 25, 26, 27, 28, 29, 30, 31, 32, 33, 34, 35, 36] [0, 1, 2, 3, 4, 5, 6, 7, 8, 9, 10, 11, 12, 13, 14, 15, 16, 17, 18, 19, 20, 21, 22, 23, 24, 25, 26, 27, 28, 29, 30, 31, 32, 33, 34, 35, 36, 37, 38, 39, 40, 41, 42, 43, 44, 45, 46, 47, 48, 49, 50, 51, 52, 53] rfl rfl rfl rfl rfl rfl rfl 37 5 rfl rfl rfl rfl hl.1 rfl (Nat.le_of_ble_eq_true rfl) dL_law_1965 ⟨hc1, hc2⟩ (fun _ H locs hP hD hS => ?_)
  refine lv_istore (lv' := [(7, .int bb), (6, .int r), (0, .ref b), (1, .ref (ad 0)), (2, .ref (um 0)), (3, .ref qo), (4, .ref qd), (5, .int (nI i))]) hx hb dL_law_1968 hl (by decide) rfl (fun ls hl => ?_)
  refine lv_aload_n hx hb dL_law_1970 rfl (lv_at hl 4 rfl) ?_
  refine roVi1 (rest := []) (As := []) S (ctX5_thrown l G (um 0) (um 1) (um 2) (um 3) (um 4) (um 5) (um 6) (um 7) (um 8) (um 9) (um 10) (um 11) (um 12) (um 13) (um 14) (um 15) (um 16) r x.gain x.size x.w x.s x.h x.laidArea x.parts x.isMinus x.readSpot x.isStar x.wantsNumber x.waiting x.shiftX x.shiftY x.times x.dotsLaid x.joinedLaid x.hash x.isThere x.v x.spotOf x.inMiddle x.tints x.buffer x.values x.ranks x.oldRanks x.part x.allRanks x.bases x.isMet x.metX x.metY x.line r rfl) (cwV 0 hts gL_law_X5_thrown rfl rfl rfl hvyX5_thrown ⟨Nat.le_of_ble_eq_true rfl, Nat.le_of_ble_eq_true rfl⟩) hK hP [37, 38, 39, 40, 41, 42, 43, 44, 45, 46, 47, 48, 49, 50, 51, 52, 53] rfl 37 5 rfl rfl rfl rfl hl.1 rfl (Nat.le_of_ble_eq_true rfl) dL_law_1971 ⟨hc1, hc2⟩ (fun _ => ?_)
  refine lv_iload hx hb dL_law_1974 (lv_at hl 1 rfl) ?_
  refine lv_icmp_eq (tgt := 1981) hx hb dL_law_1976 (by decide) (fun _ => ?_) (fun cn => absurd rfl cn)
  refine lv_iload hx hb dL_law_1981 (lv_at hl 1 rfl) ?_
  refine lv_if_ne (tgt := 1998) hx hb dL_law_1983 (by decide) (fun hr => ?_) (fun hr => ?_)
  · skip
    refine lv_goto (tgt := 2071) hx hb dL_law_1998 (by decide) ?_
    exact kk cl' (mkM r x.gain x.size x.w x.s x.h x.laidArea x.parts x.isMinus x.readSpot x.isStar x.wantsNumber x.waiting x.shiftX x.shiftY x.times x.dotsLaid x.joinedLaid x.hash x.isThere x.v x.spotOf x.inMiddle x.tints x.buffer x.values x.ranks x.oldRanks x.part x.allRanks x.bases x.isMet x.metX x.metY x.line) f' fd H locs ⟨hP, hD, hS, hI'⟩ ls (lv_sub hl [2, 3, 4, 5, 6, 7] rfl)
  · skip
    refine lv_aload_n hx hb dL_law_1986 rfl (lv_at hl 5 rfl) ?_
    refine lv_iconst (v := 0) hx hb dL_law_1987 (by decide) ?_
    refine va_lald hx hb hK.1 hP 35 3 rfl rfl (i := 0) (vp_in_iff.mpr ⟨by decide, by decide⟩) dL_law_1988 ?_
    refine lv_iload hx hb dL_law_1989 (lv_at hl 0 rfl) ?_
    refine lv_i2l hx hb dL_law_1991 rfl ?_
    refine W.lcmp hx hb dL_law_1992 ?_
    have h00 : f' ((0 : Int32).toNatClampNeg) = bb.toInt64 := e3 hr
    refine lv_if_eq (tgt := 1998) hx hb dL_law_1993 (by decide) (fun _ => ?_) (fun cn => absurd (by show lg_cmp _ _ = 0; rw [h00]; exact lgc _) cn)
    refine lv_goto (tgt := 2071) hx hb dL_law_1998 (by decide) ?_
    exact kk cl' (mkM r x.gain x.size x.w x.s x.h x.laidArea x.parts x.isMinus x.readSpot x.isStar x.wantsNumber x.waiting x.shiftX x.shiftY x.times x.dotsLaid x.joinedLaid x.hash x.isThere x.v x.spotOf x.inMiddle x.tints x.buffer x.values x.ranks x.oldRanks x.part x.allRanks x.bases x.isMet x.metX x.metY x.line) f' fd H locs ⟨hP, hD, hS, hI'⟩ ls (lv_sub hl [2, 3, 4, 5, 6, 7] rfl)
theorem hzyL_count : yL_count.cls ≠ "java/lang/invoke/MethodHandle" ∧ yL_count.cls ≠ "java/lang/invoke/VarHandle" ∧ (parseMethodDescriptor yL_count.desc).map (fun d => d.parameters.length) = some 3 := by decide +kernel
theorem hvyX5_count : yX5_count.cls = RX5 ∧ yX5_count.cls ≠ "java/lang/invoke/MethodHandle" ∧ yX5_count.cls ≠ "java/lang/invoke/VarHandle" ∧ (parseMethodDescriptor yX5_count.desc).map (fun d => d.parameters.length) = some 1 := ⟨rfl, by decide +kernel⟩
set_option maxHeartbeats 4000000 in
set_option maxRecDepth 100000 in
theorem law_c27 {p : Program} {l : Launch} {e : Env} {s : State} {m : MethodId} {below : List Frame} {meth : Method} {c : Code} {b L : Nat} {xs : Nat → Int32} {G : GG} {ad um : Nat → Nat} {qo qd : Nat} {Q : State → Prop} (hF : LF p l s m c b L xs G) {i : Nat} (hi : i + 7 ≤ L) {cl : Cls} {x : Mdl} {f : Nat → Int64} {fd : Nat → UInt64} {H : Heap} {locs : List Loc} (hI : LSt s G ad um qo qd cl x f fd H locs) {cells slots : Nat} (hc1 : cells + 1 ≤ 601024) (hc2 : slots + 6 ≤ 7293034) {ls : Array Slot} (hl : lv_has ls 9 (lvL b ad um qo qd i)) (kk : LKont p l e s m below meth c b G ad um qo qd i cells slots Q) : W p l e room_1 s m #[Value.ref b] below meth c H locs cells slots Q (F0 m 2001 ls []) := by
  obtain ⟨⟨hx, hb, hml, hown, hts, hX, hbl⟩, hK, hT, hL, hfl⟩ := id hF
  obtain ⟨hP, hD, hS, hI⟩ := hI
  have hbA : ¬ AL s b := Nat.not_le.mpr hbl
  have S : CallFix p m c cL_law 9 s #[Value.ref b] lw_tbl RL := ⟨hx, hb, hml, hown, hts⟩
  refine lv_aload_n hx hb dL_law_2001 rfl (lv_at hl 1 rfl) ?_
  refine lv_aload_n hx hb dL_law_2002 rfl (lv_at hl 0 rfl) ?_
  refine lv_iload hx hb dL_law_2003 (lv_at hl 5 rfl) ?_
  refine lv_iconst (v := 1) hx hb dL_law_2005 (by decide) ?_
  refine lv_iadd hx hb dL_law_2006 ?_
  refine va_sld hx hb hX hbl hbA hS (sc_in hi hL 1 (by decide)) dL_law_2007 ?_
  refine lv_aload_n hx hb dL_law_2008 rfl (lv_at hl 3 rfl) ?_
  obtain ⟨r, cl', f', bb, e1, e2, e3, hI'⟩ := LW_count hI f (xs (nI i + 1).toNatClampNeg) 
  refine rwL (rest := []) (As := [.ref (ad 0), .int (xs (nI i + 1).toNatClampNeg), .ref qo]) (wr := wdD G qd fd ++ wdM G um x) (wf := wdL G ad um qo qd cl' x f' fd) S (lw_count l hfl G ad qo cl cl' f f' (xs (nI i + 1).toNatClampNeg) r e1) (vx_cwSW 3 hts gL_law_L_count rfl rfl rfl hzyL_count ⟨Nat.le_of_ble_eq_true rfl, Nat.le_of_ble_eq_true rfl⟩) hK hP hD hS hT [0, 1, 2, 3, 4, 5, 6, 7, 8, 9, 10, 11, 12, 13, 14, 15, 16, 17, 18, 19, 20, 21, 22, 23, 24, 25, 26, 27, 28, 29, 30, 31, 32, 33, 34, 35] [36, 37, 38, 39, 40, 41, 42, 43, 44, 45, 46, 47, 48, 49, 50, 51, 52, 53] [18, 19, 20, 21, 22, 23, 24, 25, 26, 27, 28, 29, 30, 31, 32, 33, 34, 35, 36, 37, 38, 39, 40, 41, 42, 43, 44, 45, 46, 47, 48, 49, 50, 51, 52, 53, 0, 1, 2, 3, 4, 5, 6, 7, 8, 9, 10, 11, 12, 13, 14, 15, 16, 17] rfl rfl rfl rfl rfl rfl rfl rfl hl.1 rfl (Nat.le_of_ble_eq_true rfl) dL_law_2009 ⟨hc1, hc2⟩ (fun _ H locs hP hD hS => ?_)
  refine lv_istore (lv' := [(6, .int r), (0, .ref b), (1, .ref (ad 0)), (2, .ref (um 0)), (3, .ref qo), (4, .ref qd), (5, .int (nI i))]) hx hb dL_law_2012 hl (by decide) rfl (fun ls hl => ?_)
  refine lv_aload_n hx hb dL_law_2014 rfl (lv_at hl 3 rfl) ?_
  refine lv_aload_n hx hb dL_law_2015 rfl (lv_at hl 1 rfl) ?_
  refine lv_iload hx hb dL_law_2016 (lv_at hl 6 rfl) ?_
  refine lv_iconst (v := 1) hx hb dL_law_2018 (by decide) ?_
  refine lv_iadd hx hb dL_law_2019 ?_
  refine va_sld hx hb hX hbl hbA hS (sc_in hi hL 1 (by decide)) dL_law_2020 ?_
  refine rwV_back (rest := []) (As := [.int (xs (nI i + 1).toNatClampNeg)]) (wr := wdA G ad qo cl' f' ++ wdD G qd fd) (wf := wdL G ad um qo qd cl' (mkM r x.gain x.size x.w x.s x.h x.laidArea x.parts x.isMinus x.readSpot x.isStar x.wantsNumber x.waiting x.shiftX x.shiftY x.times x.dotsLaid x.joinedLaid x.hash x.isThere x.v x.spotOf x.inMiddle x.tints x.buffer x.values x.ranks x.oldRanks x.part x.allRanks x.bases x.isMet x.metX x.metY x.line) f' fd) S (ctX5_count l G (um 0) (um 1) (um 2) (um 3) (um 4) (um 5) (um 6) (um 7) (um 8) (um 9) (um 10) (um 11) (um 12) (um 13) (um 14) (um 15) (um 16) x.thrown x.gain x.size x.w x.s x.h x.laidArea x.parts x.isMinus x.readSpot x.isStar x.wantsNumber x.waiting x.shiftX x.shiftY x.times x.dotsLaid x.joinedLaid x.hash x.isThere x.v x.spotOf x.inMiddle x.tints x.buffer x.values x.ranks x.oldRanks x.part x.allRanks x.bases x.isMet x.metX x.metY x.line (xs (nI i + 1).toNatClampNeg) bb r  e2) (cwV 1 hts gL_law_X5_count rfl rfl rfl hvyX5_count ⟨Nat.le_of_ble_eq_true rfl, Nat.le_of_ble_eq_true rfl⟩) hK hP hD hS xb_triv (fun _ _ _ => trivial) [37, 38, 39, 40, 41, 42, 43, 44, 45, 46, 47, 48, 49, 50, 51, 52, 53] [0, 1, 2, 3, 4, 5, 6, 7, 8, 9, 10, 11, 12, 13, 14, 15, 16, 17, 18, 19, 20, 21, 22, 23, 24, 25, 26, 27, 28, 29, 30, 31, 32, 33, 34, 35, 36] [0, 1, 2, 3, 4, 5, 6, 7, 8, 9, 10, 11, 12, 13, 14, 15, 16, 17, 18, 19, 20, 21, 22, 23, 24, 25, 26, 27, 28, 29, 30, 31, 32, 33, 34, 35, 36, 37, 38, 39, 40, 41, 42, 43, 44, 45, 46, 47, 48, 49, 50, 51, 52, 53] rfl rfl rfl rfl rfl rfl rfl 37 5 rfl rfl rfl rfl hl.1 rfl (Nat.le_of_ble_eq_true rfl) dL_law_2021 ⟨hc1, hc2⟩ (fun _ H locs hP hD hS => ?_)
  refine lv_istore (lv' := [(7, .int bb), (6, .int r), (0, .ref b), (1, .ref (ad 0)), (2, .ref (um 0)), (3, .ref qo), (4, .ref qd), (5, .int (nI i))]) hx hb dL_law_2024 hl (by decide) rfl (fun ls hl => ?_)
  refine lv_aload_n hx hb dL_law_2026 rfl (lv_at hl 4 rfl) ?_
  refine roVi1 (rest := []) (As := []) S (ctX5_thrown l G (um 0) (um 1) (um 2) (um 3) (um 4) (um 5) (um 6) (um 7) (um 8) (um 9) (um 10) (um 11) (um 12) (um 13) (um 14) (um 15) (um 16) r x.gain x.size x.w x.s x.h x.laidArea x.parts x.isMinus x.readSpot x.isStar x.wantsNumber x.waiting x.shiftX x.shiftY x.times x.dotsLaid x.joinedLaid x.hash x.isThere x.v x.spotOf x.inMiddle x.tints x.buffer x.values x.ranks x.oldRanks x.part x.allRanks x.bases x.isMet x.metX x.metY x.line r rfl) (cwV 0 hts gL_law_X5_thrown rfl rfl rfl hvyX5_thrown ⟨Nat.le_of_ble_eq_true rfl, Nat.le_of_ble_eq_true rfl⟩) hK hP [37, 38, 39, 40, 41, 42, 43, 44, 45, 46, 47, 48, 49, 50, 51, 52, 53] rfl 37 5 rfl rfl rfl rfl hl.1 rfl (Nat.le_of_ble_eq_true rfl) dL_law_2027 ⟨hc1, hc2⟩ (fun _ => ?_)
  refine lv_iload hx hb dL_law_2030 (lv_at hl 1 rfl) ?_
  refine lv_icmp_eq (tgt := 2037) hx hb dL_law_2032 (by decide) (fun _ => ?_) (fun cn => absurd rfl cn)
  refine lv_iload hx hb dL_law_2037 (lv_at hl 1 rfl) ?_
  refine lv_if_ne (tgt := 2054) hx hb dL_law_2039 (by decide) (fun hr => ?_) (fun hr => ?_)
  · skip
    refine lv_goto (tgt := 2071) hx hb dL_law_2054 (by decide) ?_
    exact kk cl' (mkM r x.gain x.size x.w x.s x.h x.laidArea x.parts x.isMinus x.readSpot x.isStar x.wantsNumber x.waiting x.shiftX x.shiftY x.times x.dotsLaid x.joinedLaid x.hash x.isThere x.v x.spotOf x.inMiddle x.tints x.buffer x.values x.ranks x.oldRanks x.part x.allRanks x.bases x.isMet x.metX x.metY x.line) f' fd H locs ⟨hP, hD, hS, hI'⟩ ls (lv_sub hl [2, 3, 4, 5, 6, 7] rfl)
  · skip
    refine lv_aload_n hx hb dL_law_2042 rfl (lv_at hl 5 rfl) ?_
    refine lv_iconst (v := 0) hx hb dL_law_2043 (by decide) ?_
    refine va_lald hx hb hK.1 hP 35 3 rfl rfl (i := 0) (vp_in_iff.mpr ⟨by decide, by decide⟩) dL_law_2044 ?_
    refine lv_iload hx hb dL_law_2045 (lv_at hl 0 rfl) ?_
    refine lv_i2l hx hb dL_law_2047 rfl ?_
    refine W.lcmp hx hb dL_law_2048 ?_
    have h00 : f' ((0 : Int32).toNatClampNeg) = bb.toInt64 := e3 hr
    refine lv_if_eq (tgt := 2054) hx hb dL_law_2049 (by decide) (fun _ => ?_) (fun cn => absurd (by show lg_cmp _ _ = 0; rw [h00]; exact lgc _) cn)
    refine lv_goto (tgt := 2071) hx hb dL_law_2054 (by decide) ?_
    exact kk cl' (mkM r x.gain x.size x.w x.s x.h x.laidArea x.parts x.isMinus x.readSpot x.isStar x.wantsNumber x.waiting x.shiftX x.shiftY x.times x.dotsLaid x.joinedLaid x.hash x.isThere x.v x.spotOf x.inMiddle x.tints x.buffer x.values x.ranks x.oldRanks x.part x.allRanks x.bases x.isMet x.metX x.metY x.line) f' fd H locs ⟨hP, hD, hS, hI'⟩ ls (lv_sub hl [2, 3, 4, 5, 6, 7] rfl)
