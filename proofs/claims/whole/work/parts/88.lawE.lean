theorem hzyL_place : yL_place.cls ≠ "java/lang/invoke/MethodHandle" ∧ yL_place.cls ≠ "java/lang/invoke/VarHandle" ∧ (parseMethodDescriptor yL_place.desc).map (fun d => d.parameters.length) = some 5 := by decide +kernel
theorem hvyX5_place : yX5_place.cls = RX5 ∧ yX5_place.cls ≠ "java/lang/invoke/MethodHandle" ∧ yX5_place.cls ≠ "java/lang/invoke/VarHandle" ∧ (parseMethodDescriptor yX5_place.desc).map (fun d => d.parameters.length) = some 3 := ⟨rfl, by decide +kernel⟩
set_option maxHeartbeats 4000000 in
set_option maxRecDepth 100000 in
theorem law_c12 {p : Program} {l : Launch} {e : Env} {s : State} {m : MethodId} {below : List Frame} {meth : Method} {c : Code} {b L : Nat} {xs : Nat → Int32} {G : GG} {ad um : Nat → Nat} {qo qd : Nat} {Q : State → Prop} (hF : LF p l s m c b L xs G) {i : Nat} (hi : i + 7 ≤ L) {cl : Cls} {x : Mdl} {f : Nat → Int64} {fd : Nat → UInt64} {H : Heap} {locs : List Loc} (hI : LSt s G ad um qo qd cl x f fd H locs) {cells slots : Nat} (hc1 : cells + 1 ≤ 601024) (hc2 : slots + 6 ≤ 7293034) {ls : Array Slot} (hl : lv_has ls 9 (lvL b ad um qo qd i)) (kk : LKont p l e s m below meth c b G ad um qo qd i cells slots Q) : W p l e room_1 s m #[Value.ref b] below meth c H locs cells slots Q (F0 m 888 ls []) := by
  obtain ⟨⟨hx, hb, hml, hown, hts, hX, hbl⟩, hK, hT, hL, hfl⟩ := id hF
  obtain ⟨hP, hD, hS, hI⟩ := hI
  have hbA : ¬ AL s b := Nat.not_le.mpr hbl
  have S : CallFix p m c cL_law 9 s #[Value.ref b] lw_tbl RL := ⟨hx, hb, hml, hown, hts⟩
  refine lv_aload_n hx hb dL_law_888 rfl (lv_at hl 1 rfl) ?_
  refine lv_aload_n hx hb dL_law_889 rfl (lv_at hl 0 rfl) ?_
  refine lv_iload hx hb dL_law_890 (lv_at hl 5 rfl) ?_
  refine lv_iconst (v := 1) hx hb dL_law_892 (by decide) ?_
  refine lv_iadd hx hb dL_law_893 ?_
  refine va_sld hx hb hX hbl hbA hS (sc_in hi hL 1 (by decide)) dL_law_894 ?_
  refine lv_aload_n hx hb dL_law_895 rfl (lv_at hl 0 rfl) ?_
  refine lv_iload hx hb dL_law_896 (lv_at hl 5 rfl) ?_
  refine lv_iconst (v := 2) hx hb dL_law_898 (by decide) ?_
  refine lv_iadd hx hb dL_law_899 ?_
  refine va_sld hx hb hX hbl hbA hS (sc_in hi hL 2 (by decide)) dL_law_900 ?_
  refine lv_aload_n hx hb dL_law_901 rfl (lv_at hl 0 rfl) ?_
  refine lv_iload hx hb dL_law_902 (lv_at hl 5 rfl) ?_
  refine lv_iconst (v := 3) hx hb dL_law_904 (by decide) ?_
  refine lv_iadd hx hb dL_law_905 ?_
  refine va_sld hx hb hX hbl hbA hS (sc_in hi hL 3 (by decide)) dL_law_906 ?_
  refine lv_aload_n hx hb dL_law_907 rfl (lv_at hl 3 rfl) ?_
  obtain ⟨r, cl', f', bb, u2, u3, u4, e1, e2, e3, hI'⟩ := LW_place hI f (xs (nI i + 1).toNatClampNeg) (xs (nI i + 2).toNatClampNeg) (xs (nI i + 3).toNatClampNeg) x.w x.s x.h
  refine rwL (rest := []) (As := [.ref (ad 0), .int (xs (nI i + 1).toNatClampNeg), .int (xs (nI i + 2).toNatClampNeg), .int (xs (nI i + 3).toNatClampNeg), .ref qo]) (wr := wdD G qd fd ++ wdM G um x) (wf := wdL G ad um qo qd cl' x f' fd) S (lw_place l hfl G ad qo cl cl' f f' (xs (nI i + 1).toNatClampNeg) (xs (nI i + 2).toNatClampNeg) (xs (nI i + 3).toNatClampNeg) r e1) (vx_cwSW 5 hts gL_law_L_place rfl rfl rfl hzyL_place ⟨Nat.le_of_ble_eq_true rfl, Nat.le_of_ble_eq_true rfl⟩) hK hP hD hS hT [0, 1, 2, 3, 4, 5, 6, 7, 8, 9, 10, 11, 12, 13, 14, 15, 16, 17, 18, 19, 20, 21, 22, 23, 24, 25, 26, 27, 28, 29, 30, 31, 32, 33, 34, 35] [36, 37, 38, 39, 40, 41, 42, 43, 44, 45, 46, 47, 48, 49, 50, 51, 52, 53] [18, 19, 20, 21, 22, 23, 24, 25, 26, 27, 28, 29, 30, 31, 32, 33, 34, 35, 36, 37, 38, 39, 40, 41, 42, 43, 44, 45, 46, 47, 48, 49, 50, 51, 52, 53, 0, 1, 2, 3, 4, 5, 6, 7, 8, 9, 10, 11, 12, 13, 14, 15, 16, 17] rfl rfl rfl rfl rfl rfl rfl rfl hl.1 rfl (Nat.le_of_ble_eq_true rfl) dL_law_908 ⟨hc1, hc2⟩ (fun _ H locs hP hD hS => ?_)
  refine lv_istore (lv' := [(6, .int r), (0, .ref b), (1, .ref (ad 0)), (2, .ref (um 0)), (3, .ref qo), (4, .ref qd), (5, .int (nI i))]) hx hb dL_law_911 hl (by decide) rfl (fun ls hl => ?_)
  refine lv_aload_n hx hb dL_law_913 rfl (lv_at hl 3 rfl) ?_
  refine lv_aload_n hx hb dL_law_914 rfl (lv_at hl 1 rfl) ?_
  refine lv_iload hx hb dL_law_915 (lv_at hl 6 rfl) ?_
  refine lv_iconst (v := 1) hx hb dL_law_917 (by decide) ?_
  refine lv_iadd hx hb dL_law_918 ?_
  refine va_sld hx hb hX hbl hbA hS (sc_in hi hL 1 (by decide)) dL_law_919 ?_
  refine lv_aload_n hx hb dL_law_920 rfl (lv_at hl 1 rfl) ?_
  refine lv_iload hx hb dL_law_921 (lv_at hl 6 rfl) ?_
  refine lv_iconst (v := 2) hx hb dL_law_923 (by decide) ?_
  refine lv_iadd hx hb dL_law_924 ?_
  refine va_sld hx hb hX hbl hbA hS (sc_in hi hL 2 (by decide)) dL_law_925 ?_
  refine lv_aload_n hx hb dL_law_926 rfl (lv_at hl 1 rfl) ?_
  refine lv_iload hx hb dL_law_927 (lv_at hl 6 rfl) ?_
  refine lv_iconst (v := 3) hx hb dL_law_929 (by decide) ?_
  refine lv_iadd hx hb dL_law_930 ?_
  refine va_sld hx hb hX hbl hbA hS (sc_in hi hL 3 (by decide)) dL_law_931 ?_
  refine rwV_back (rest := []) (As := [.int (xs (nI i + 1).toNatClampNeg), .int (xs (nI i + 2).toNatClampNeg), .int (xs (nI i + 3).toNatClampNeg)]) (wr := wdA G ad qo cl' f' ++ wdD G qd fd) (wf := wdL G ad um qo qd cl' (mkM r x.gain x.size u2 u3 u4 x.laidArea x.parts x.isMinus x.readSpot x.isStar x.wantsNumber x.waiting x.shiftX x.shiftY x.times x.dotsLaid x.joinedLaid x.hash x.isThere x.v x.spotOf x.inMiddle x.tints x.buffer x.values x.ranks x.oldRanks x.part x.allRanks x.bases x.isMet x.metX x.metY x.line) f' fd) S (ctX5_place l G (um 0) (um 1) (um 2) (um 3) (um 4) (um 5) (um 6) (um 7) (um 8) (um 9) (um 10) (um 11) (um 12) (um 13) (um 14) (um 15) (um 16) x.thrown x.gain x.size x.w x.s x.h x.laidArea x.parts x.isMinus x.readSpot x.isStar x.wantsNumber x.waiting x.shiftX x.shiftY x.times x.dotsLaid x.joinedLaid x.hash x.isThere x.v x.spotOf x.inMiddle x.tints x.buffer x.values x.ranks x.oldRanks x.part x.allRanks x.bases x.isMet x.metX x.metY x.line (xs (nI i + 1).toNatClampNeg) (xs (nI i + 2).toNatClampNeg) (xs (nI i + 3).toNatClampNeg) bb r u2 u3 u4 e2) (cwV 3 hts gL_law_X5_place rfl rfl rfl hvyX5_place ⟨Nat.le_of_ble_eq_true rfl, Nat.le_of_ble_eq_true rfl⟩) hK hP hD hS xb_triv (fun _ _ _ => trivial) [37, 38, 39, 40, 41, 42, 43, 44, 45, 46, 47, 48, 49, 50, 51, 52, 53] [0, 1, 2, 3, 4, 5, 6, 7, 8, 9, 10, 11, 12, 13, 14, 15, 16, 17, 18, 19, 20, 21, 22, 23, 24, 25, 26, 27, 28, 29, 30, 31, 32, 33, 34, 35, 36] [0, 1, 2, 3, 4, 5, 6, 7, 8, 9, 10, 11, 12, 13, 14, 15, 16, 17, 18, 19, 20, 21, 22, 23, 24, 25, 26, 27, 28, 29, 30, 31, 32, 33, 34, 35, 36, 37, 38, 39, 40, 41, 42, 43, 44, 45, 46, 47, 48, 49, 50, 51, 52, 53] rfl rfl rfl rfl rfl rfl rfl 37 5 rfl rfl rfl rfl hl.1 rfl (Nat.le_of_ble_eq_true rfl) dL_law_932 ⟨hc1, hc2⟩ (fun _ H locs hP hD hS => ?_)
  refine lv_istore (lv' := [(7, .int bb), (6, .int r), (0, .ref b), (1, .ref (ad 0)), (2, .ref (um 0)), (3, .ref qo), (4, .ref qd), (5, .int (nI i))]) hx hb dL_law_935 hl (by decide) rfl (fun ls hl => ?_)
  refine lv_aload_n hx hb dL_law_937 rfl (lv_at hl 4 rfl) ?_
  refine roVi1 (rest := []) (As := []) S (ctX5_thrown l G (um 0) (um 1) (um 2) (um 3) (um 4) (um 5) (um 6) (um 7) (um 8) (um 9) (um 10) (um 11) (um 12) (um 13) (um 14) (um 15) (um 16) r x.gain x.size u2 u3 u4 x.laidArea x.parts x.isMinus x.readSpot x.isStar x.wantsNumber x.waiting x.shiftX x.shiftY x.times x.dotsLaid x.joinedLaid x.hash x.isThere x.v x.spotOf x.inMiddle x.tints x.buffer x.values x.ranks x.oldRanks x.part x.allRanks x.bases x.isMet x.metX x.metY x.line r rfl) (cwV 0 hts gL_law_X5_thrown rfl rfl rfl hvyX5_thrown ⟨Nat.le_of_ble_eq_true rfl, Nat.le_of_ble_eq_true rfl⟩) hK hP [37, 38, 39, 40, 41, 42, 43, 44, 45, 46, 47, 48, 49, 50, 51, 52, 53] rfl 37 5 rfl rfl rfl rfl hl.1 rfl (Nat.le_of_ble_eq_true rfl) dL_law_938 ⟨hc1, hc2⟩ (fun _ => ?_)
  refine lv_iload hx hb dL_law_941 (lv_at hl 1 rfl) ?_
  refine lv_icmp_eq (tgt := 948) hx hb dL_law_943 (by decide) (fun _ => ?_) (fun cn => absurd rfl cn)
  refine lv_iload hx hb dL_law_948 (lv_at hl 1 rfl) ?_
  refine lv_if_ne (tgt := 965) hx hb dL_law_950 (by decide) (fun hr => ?_) (fun hr => ?_)
  · skip
    refine lv_goto (tgt := 2071) hx hb dL_law_965 (by decide) ?_
    exact kk cl' (mkM r x.gain x.size u2 u3 u4 x.laidArea x.parts x.isMinus x.readSpot x.isStar x.wantsNumber x.waiting x.shiftX x.shiftY x.times x.dotsLaid x.joinedLaid x.hash x.isThere x.v x.spotOf x.inMiddle x.tints x.buffer x.values x.ranks x.oldRanks x.part x.allRanks x.bases x.isMet x.metX x.metY x.line) f' fd H locs ⟨hP, hD, hS, hI'⟩ ls (lv_sub hl [2, 3, 4, 5, 6, 7] rfl)
  · skip
    refine lv_aload_n hx hb dL_law_953 rfl (lv_at hl 5 rfl) ?_
    refine lv_iconst (v := 0) hx hb dL_law_954 (by decide) ?_
    refine va_lald hx hb hK.1 hP 35 3 rfl rfl (i := 0) (vp_in_iff.mpr ⟨by decide, by decide⟩) dL_law_955 ?_
    refine lv_iload hx hb dL_law_956 (lv_at hl 0 rfl) ?_
    refine lv_i2l hx hb dL_law_958 rfl ?_
    refine W.lcmp hx hb dL_law_959 ?_
    have h00 : f' ((0 : Int32).toNatClampNeg) = bb.toInt64 := e3 hr
    refine lv_if_eq (tgt := 965) hx hb dL_law_960 (by decide) (fun _ => ?_) (fun cn => absurd (by show lg_cmp _ _ = 0; rw [h00]; exact lgc _) cn)
    refine lv_goto (tgt := 2071) hx hb dL_law_965 (by decide) ?_
    exact kk cl' (mkM r x.gain x.size u2 u3 u4 x.laidArea x.parts x.isMinus x.readSpot x.isStar x.wantsNumber x.waiting x.shiftX x.shiftY x.times x.dotsLaid x.joinedLaid x.hash x.isThere x.v x.spotOf x.inMiddle x.tints x.buffer x.values x.ranks x.oldRanks x.part x.allRanks x.bases x.isMet x.metX x.metY x.line) f' fd H locs ⟨hP, hD, hS, hI'⟩ ls (lv_sub hl [2, 3, 4, 5, 6, 7] rfl)
theorem hzyL_growth : yL_growth.cls ≠ "java/lang/invoke/MethodHandle" ∧ yL_growth.cls ≠ "java/lang/invoke/VarHandle" ∧ (parseMethodDescriptor yL_growth.desc).map (fun d => d.parameters.length) = some 5 := by decide +kernel
theorem hvyX5_growth : yX5_growth.cls = RX5 ∧ yX5_growth.cls ≠ "java/lang/invoke/MethodHandle" ∧ yX5_growth.cls ≠ "java/lang/invoke/VarHandle" ∧ (parseMethodDescriptor yX5_growth.desc).map (fun d => d.parameters.length) = some 3 := ⟨rfl, by decide +kernel⟩
set_option maxHeartbeats 4000000 in
set_option maxRecDepth 100000 in
theorem law_c13 {p : Program} {l : Launch} {e : Env} {s : State} {m : MethodId} {below : List Frame} {meth : Method} {c : Code} {b L : Nat} {xs : Nat → Int32} {G : GG} {ad um : Nat → Nat} {qo qd : Nat} {Q : State → Prop} (hF : LF p l s m c b L xs G) {i : Nat} (hi : i + 7 ≤ L) {cl : Cls} {x : Mdl} {f : Nat → Int64} {fd : Nat → UInt64} {H : Heap} {locs : List Loc} (hI : LSt s G ad um qo qd cl x f fd H locs) {cells slots : Nat} (hc1 : cells + 1 ≤ 601024) (hc2 : slots + 6 ≤ 7293034) {ls : Array Slot} (hl : lv_has ls 9 (lvL b ad um qo qd i)) (kk : LKont p l e s m below meth c b G ad um qo qd i cells slots Q) : W p l e room_1 s m #[Value.ref b] below meth c H locs cells slots Q (F0 m 968 ls []) := by
  obtain ⟨⟨hx, hb, hml, hown, hts, hX, hbl⟩, hK, hT, hL, hfl⟩ := id hF
  obtain ⟨hP, hD, hS, hI⟩ := hI
  have hbA : ¬ AL s b := Nat.not_le.mpr hbl
  have S : CallFix p m c cL_law 9 s #[Value.ref b] lw_tbl RL := ⟨hx, hb, hml, hown, hts⟩
  refine lv_aload_n hx hb dL_law_968 rfl (lv_at hl 1 rfl) ?_
  refine lv_aload_n hx hb dL_law_969 rfl (lv_at hl 0 rfl) ?_
  refine lv_iload hx hb dL_law_970 (lv_at hl 5 rfl) ?_
  refine lv_iconst (v := 1) hx hb dL_law_972 (by decide) ?_
  refine lv_iadd hx hb dL_law_973 ?_
  refine va_sld hx hb hX hbl hbA hS (sc_in hi hL 1 (by decide)) dL_law_974 ?_
  refine lv_aload_n hx hb dL_law_975 rfl (lv_at hl 0 rfl) ?_
  refine lv_iload hx hb dL_law_976 (lv_at hl 5 rfl) ?_
  refine lv_iconst (v := 2) hx hb dL_law_978 (by decide) ?_
  refine lv_iadd hx hb dL_law_979 ?_
  refine va_sld hx hb hX hbl hbA hS (sc_in hi hL 2 (by decide)) dL_law_980 ?_
  refine lv_aload_n hx hb dL_law_981 rfl (lv_at hl 0 rfl) ?_
  refine lv_iload hx hb dL_law_982 (lv_at hl 5 rfl) ?_
  refine lv_iconst (v := 3) hx hb dL_law_984 (by decide) ?_
  refine lv_iadd hx hb dL_law_985 ?_
  refine va_sld hx hb hX hbl hbA hS (sc_in hi hL 3 (by decide)) dL_law_986 ?_
  refine lv_aload_n hx hb dL_law_987 rfl (lv_at hl 3 rfl) ?_
  obtain ⟨r, cl', f', bb, u2, u3, u4, u5, u6, u7, e1, e2, e3, hI'⟩ := LW_growth hI f (xs (nI i + 1).toNatClampNeg) (xs (nI i + 2).toNatClampNeg) (xs (nI i + 3).toNatClampNeg) x.w x.s x.h x.laidArea x.values x.ranks
  refine rwL (rest := []) (As := [.ref (ad 0), .int (xs (nI i + 1).toNatClampNeg), .int (xs (nI i + 2).toNatClampNeg), .int (xs (nI i + 3).toNatClampNeg), .ref qo]) (wr := wdD G qd fd ++ wdM G um x) (wf := wdL G ad um qo qd cl' x f' fd) S (lw_growth l hfl G ad qo cl cl' f f' (xs (nI i + 1).toNatClampNeg) (xs (nI i + 2).toNatClampNeg) (xs (nI i + 3).toNatClampNeg) r e1) (vx_cwSW 5 hts gL_law_L_growth rfl rfl rfl hzyL_growth ⟨Nat.le_of_ble_eq_true rfl, Nat.le_of_ble_eq_true rfl⟩) hK hP hD hS hT [0, 1, 2, 3, 4, 5, 6, 7, 8, 9, 10, 11, 12, 13, 14, 15, 16, 17, 18, 19, 20, 21, 22, 23, 24, 25, 26, 27, 28, 29, 30, 31, 32, 33, 34, 35] [36, 37, 38, 39, 40, 41, 42, 43, 44, 45, 46, 47, 48, 49, 50, 51, 52, 53] [18, 19, 20, 21, 22, 23, 24, 25, 26, 27, 28, 29, 30, 31, 32, 33, 34, 35, 36, 37, 38, 39, 40, 41, 42, 43, 44, 45, 46, 47, 48, 49, 50, 51, 52, 53, 0, 1, 2, 3, 4, 5, 6, 7, 8, 9, 10, 11, 12, 13, 14, 15, 16, 17] rfl rfl rfl rfl rfl rfl rfl rfl hl.1 rfl (Nat.le_of_ble_eq_true rfl) dL_law_988 ⟨hc1, hc2⟩ (fun _ H locs hP hD hS => ?_)
  refine lv_istore (lv' := [(6, .int r), (0, .ref b), (1, .ref (ad 0)), (2, .ref (um 0)), (3, .ref qo), (4, .ref qd), (5, .int (nI i))]) hx hb dL_law_991 hl (by decide) rfl (fun ls hl => ?_)
  refine lv_aload_n hx hb dL_law_993 rfl (lv_at hl 3 rfl) ?_
  refine lv_aload_n hx hb dL_law_994 rfl (lv_at hl 1 rfl) ?_
  refine lv_iload hx hb dL_law_995 (lv_at hl 6 rfl) ?_
  refine lv_iconst (v := 1) hx hb dL_law_997 (by decide) ?_
  refine lv_iadd hx hb dL_law_998 ?_
  refine va_sld hx hb hX hbl hbA hS (sc_in hi hL 1 (by decide)) dL_law_999 ?_
  refine lv_aload_n hx hb dL_law_1000 rfl (lv_at hl 1 rfl) ?_
  refine lv_iload hx hb dL_law_1001 (lv_at hl 6 rfl) ?_
  refine lv_iconst (v := 2) hx hb dL_law_1003 (by decide) ?_
  refine lv_iadd hx hb dL_law_1004 ?_
  refine va_sld hx hb hX hbl hbA hS (sc_in hi hL 2 (by decide)) dL_law_1005 ?_
  refine lv_aload_n hx hb dL_law_1006 rfl (lv_at hl 1 rfl) ?_
  refine lv_iload hx hb dL_law_1007 (lv_at hl 6 rfl) ?_
  refine lv_iconst (v := 3) hx hb dL_law_1009 (by decide) ?_
  refine lv_iadd hx hb dL_law_1010 ?_
  refine va_sld hx hb hX hbl hbA hS (sc_in hi hL 3 (by decide)) dL_law_1011 ?_
  refine rwV_back (rest := []) (As := [.int (xs (nI i + 1).toNatClampNeg), .int (xs (nI i + 2).toNatClampNeg), .int (xs (nI i + 3).toNatClampNeg)]) (wr := wdA G ad qo cl' f' ++ wdD G qd fd) (wf := wdL G ad um qo qd cl' (mkM r x.gain x.size u2 u3 u4 u5 x.parts x.isMinus x.readSpot x.isStar x.wantsNumber x.waiting x.shiftX x.shiftY x.times x.dotsLaid x.joinedLaid x.hash x.isThere x.v x.spotOf x.inMiddle x.tints x.buffer u6 u7 x.oldRanks x.part x.allRanks x.bases x.isMet x.metX x.metY x.line) f' fd) S (ctX5_growth l G (um 0) (um 1) (um 2) (um 3) (um 4) (um 5) (um 6) (um 7) (um 8) (um 9) (um 10) (um 11) (um 12) (um 13) (um 14) (um 15) (um 16) x.thrown x.gain x.size x.w x.s x.h x.laidArea x.parts x.isMinus x.readSpot x.isStar x.wantsNumber x.waiting x.shiftX x.shiftY x.times x.dotsLaid x.joinedLaid x.hash x.isThere x.v x.spotOf x.inMiddle x.tints x.buffer x.values x.ranks x.oldRanks x.part x.allRanks x.bases x.isMet x.metX x.metY x.line (xs (nI i + 1).toNatClampNeg) (xs (nI i + 2).toNatClampNeg) (xs (nI i + 3).toNatClampNeg) bb r u2 u3 u4 u5 u6 u7 e2) (cwV 3 hts gL_law_X5_growth rfl rfl rfl hvyX5_growth ⟨Nat.le_of_ble_eq_true rfl, Nat.le_of_ble_eq_true rfl⟩) hK hP hD hS xb_triv (fun _ _ _ => trivial) [37, 38, 39, 40, 41, 42, 43, 44, 45, 46, 47, 48, 49, 50, 51, 52, 53] [0, 1, 2, 3, 4, 5, 6, 7, 8, 9, 10, 11, 12, 13, 14, 15, 16, 17, 18, 19, 20, 21, 22, 23, 24, 25, 26, 27, 28, 29, 30, 31, 32, 33, 34, 35, 36] [0, 1, 2, 3, 4, 5, 6, 7, 8, 9, 10, 11, 12, 13, 14, 15, 16, 17, 18, 19, 20, 21, 22, 23, 24, 25, 26, 27, 28, 29, 30, 31, 32, 33, 34, 35, 36, 37, 38, 39, 40, 41, 42, 43, 44, 45, 46, 47, 48, 49, 50, 51, 52, 53] rfl rfl rfl rfl rfl rfl rfl 37 5 rfl rfl rfl rfl hl.1 rfl (Nat.le_of_ble_eq_true rfl) dL_law_1012 ⟨hc1, hc2⟩ (fun _ H locs hP hD hS => ?_)
  refine lv_istore (lv' := [(7, .int bb), (6, .int r), (0, .ref b), (1, .ref (ad 0)), (2, .ref (um 0)), (3, .ref qo), (4, .ref qd), (5, .int (nI i))]) hx hb dL_law_1015 hl (by decide) rfl (fun ls hl => ?_)
  refine lv_aload_n hx hb dL_law_1017 rfl (lv_at hl 4 rfl) ?_
  refine roVi1 (rest := []) (As := []) S (ctX5_thrown l G (um 0) (um 1) (um 2) (um 3) (um 4) (um 5) (um 6) (um 7) (um 8) (um 9) (um 10) (um 11) (um 12) (um 13) (um 14) (um 15) (um 16) r x.gain x.size u2 u3 u4 u5 x.parts x.isMinus x.readSpot x.isStar x.wantsNumber x.waiting x.shiftX x.shiftY x.times x.dotsLaid x.joinedLaid x.hash x.isThere x.v x.spotOf x.inMiddle x.tints x.buffer u6 u7 x.oldRanks x.part x.allRanks x.bases x.isMet x.metX x.metY x.line r rfl) (cwV 0 hts gL_law_X5_thrown rfl rfl rfl hvyX5_thrown ⟨Nat.le_of_ble_eq_true rfl, Nat.le_of_ble_eq_true rfl⟩) hK hP [37, 38, 39, 40, 41, 42, 43, 44, 45, 46, 47, 48, 49, 50, 51, 52, 53] rfl 37 5 rfl rfl rfl rfl hl.1 rfl (Nat.le_of_ble_eq_true rfl) dL_law_1018 ⟨hc1, hc2⟩ (fun _ => ?_)
  refine lv_iload hx hb dL_law_1021 (lv_at hl 1 rfl) ?_
  refine lv_icmp_eq (tgt := 1028) hx hb dL_law_1023 (by decide) (fun _ => ?_) (fun cn => absurd rfl cn)
  refine lv_iload hx hb dL_law_1028 (lv_at hl 1 rfl) ?_
  refine lv_if_ne (tgt := 1045) hx hb dL_law_1030 (by decide) (fun hr => ?_) (fun hr => ?_)
  · skip
    refine lv_goto (tgt := 2071) hx hb dL_law_1045 (by decide) ?_
    exact kk cl' (mkM r x.gain x.size u2 u3 u4 u5 x.parts x.isMinus x.readSpot x.isStar x.wantsNumber x.waiting x.shiftX x.shiftY x.times x.dotsLaid x.joinedLaid x.hash x.isThere x.v x.spotOf x.inMiddle x.tints x.buffer u6 u7 x.oldRanks x.part x.allRanks x.bases x.isMet x.metX x.metY x.line) f' fd H locs ⟨hP, hD, hS, hI'⟩ ls (lv_sub hl [2, 3, 4, 5, 6, 7] rfl)
  · skip
    refine lv_aload_n hx hb dL_law_1033 rfl (lv_at hl 5 rfl) ?_
    refine lv_iconst (v := 0) hx hb dL_law_1034 (by decide) ?_
    refine va_lald hx hb hK.1 hP 35 3 rfl rfl (i := 0) (vp_in_iff.mpr ⟨by decide, by decide⟩) dL_law_1035 ?_
    refine lv_iload hx hb dL_law_1036 (lv_at hl 0 rfl) ?_
    refine lv_i2l hx hb dL_law_1038 rfl ?_
    refine W.lcmp hx hb dL_law_1039 ?_
    have h00 : f' ((0 : Int32).toNatClampNeg) = bb.toInt64 := e3 hr
    refine lv_if_eq (tgt := 1045) hx hb dL_law_1040 (by decide) (fun _ => ?_) (fun cn => absurd (by show lg_cmp _ _ = 0; rw [h00]; exact lgc _) cn)
    refine lv_goto (tgt := 2071) hx hb dL_law_1045 (by decide) ?_
    exact kk cl' (mkM r x.gain x.size u2 u3 u4 u5 x.parts x.isMinus x.readSpot x.isStar x.wantsNumber x.waiting x.shiftX x.shiftY x.times x.dotsLaid x.joinedLaid x.hash x.isThere x.v x.spotOf x.inMiddle x.tints x.buffer u6 u7 x.oldRanks x.part x.allRanks x.bases x.isMet x.metX x.metY x.line) f' fd H locs ⟨hP, hD, hS, hI'⟩ ls (lv_sub hl [2, 3, 4, 5, 6, 7] rfl)
theorem hzyL_placeOf : yL_placeOf.cls ≠ "java/lang/invoke/MethodHandle" ∧ yL_placeOf.cls ≠ "java/lang/invoke/VarHandle" ∧ (parseMethodDescriptor yL_placeOf.desc).map (fun d => d.parameters.length) = some 4 := by decide +kernel
theorem hvyX5_placeOf : yX5_placeOf.cls = RX5 ∧ yX5_placeOf.cls ≠ "java/lang/invoke/MethodHandle" ∧ yX5_placeOf.cls ≠ "java/lang/invoke/VarHandle" ∧ (parseMethodDescriptor yX5_placeOf.desc).map (fun d => d.parameters.length) = some 2 := ⟨rfl, by decide +kernel⟩
set_option maxHeartbeats 4000000 in
set_option maxRecDepth 100000 in
theorem law_c14 {p : Program} {l : Launch} {e : Env} {s : State} {m : MethodId} {below : List Frame} {meth : Method} {c : Code} {b L : Nat} {xs : Nat → Int32} {G : GG} {ad um : Nat → Nat} {qo qd : Nat} {Q : State → Prop} (hF : LF p l s m c b L xs G) {i : Nat} (hi : i + 7 ≤ L) {cl : Cls} {x : Mdl} {f : Nat → Int64} {fd : Nat → UInt64} {H : Heap} {locs : List Loc} (hI : LSt s G ad um qo qd cl x f fd H locs) {cells slots : Nat} (hc1 : cells + 1 ≤ 601024) (hc2 : slots + 6 ≤ 7293034) {ls : Array Slot} (hl : lv_has ls 9 (lvL b ad um qo qd i)) (kk : LKont p l e s m below meth c b G ad um qo qd i cells slots Q) : W p l e room_1 s m #[Value.ref b] below meth c H locs cells slots Q (F0 m 1048 ls []) := by
  obtain ⟨⟨hx, hb, hml, hown, hts, hX, hbl⟩, hK, hT, hL, hfl⟩ := id hF
  obtain ⟨hP, hD, hS, hI⟩ := hI
  have hbA : ¬ AL s b := Nat.not_le.mpr hbl
  have S : CallFix p m c cL_law 9 s #[Value.ref b] lw_tbl RL := ⟨hx, hb, hml, hown, hts⟩
  refine lv_aload_n hx hb dL_law_1048 rfl (lv_at hl 1 rfl) ?_
  refine lv_aload_n hx hb dL_law_1049 rfl (lv_at hl 0 rfl) ?_
  refine lv_iload hx hb dL_law_1050 (lv_at hl 5 rfl) ?_
  refine lv_iconst (v := 1) hx hb dL_law_1052 (by decide) ?_
  refine lv_iadd hx hb dL_law_1053 ?_
  refine va_sld hx hb hX hbl hbA hS (sc_in hi hL 1 (by decide)) dL_law_1054 ?_
  refine lv_aload_n hx hb dL_law_1055 rfl (lv_at hl 0 rfl) ?_
  refine lv_iload hx hb dL_law_1056 (lv_at hl 5 rfl) ?_
  refine lv_iconst (v := 2) hx hb dL_law_1058 (by decide) ?_
  refine lv_iadd hx hb dL_law_1059 ?_
  refine va_sld hx hb hX hbl hbA hS (sc_in hi hL 2 (by decide)) dL_law_1060 ?_
  refine lv_aload_n hx hb dL_law_1061 rfl (lv_at hl 3 rfl) ?_
  obtain ⟨r, cl', f', bb, u2, u3, u4, u5, u6, u7, e1, e2, e3, hI'⟩ := LW_placeOf hI f (xs (nI i + 1).toNatClampNeg) (xs (nI i + 2).toNatClampNeg) x.w x.s x.h x.laidArea x.values x.ranks
  refine rwL (rest := []) (As := [.ref (ad 0), .int (xs (nI i + 1).toNatClampNeg), .int (xs (nI i + 2).toNatClampNeg), .ref qo]) (wr := wdD G qd fd ++ wdM G um x) (wf := wdL G ad um qo qd cl' x f' fd) S (lw_placeOf l hfl G ad qo cl cl' f f' (xs (nI i + 1).toNatClampNeg) (xs (nI i + 2).toNatClampNeg) r e1) (vx_cwSW 4 hts gL_law_L_placeOf rfl rfl rfl hzyL_placeOf ⟨Nat.le_of_ble_eq_true rfl, Nat.le_of_ble_eq_true rfl⟩) hK hP hD hS hT [0, 1, 2, 3, 4, 5, 6, 7, 8, 9, 10, 11, 12, 13, 14, 15, 16, 17, 18, 19, 20, 21, 22, 23, 24, 25, 26, 27, 28, 29, 30, 31, 32, 33, 34, 35] [36, 37, 38, 39, 40, 41, 42, 43, 44, 45, 46, 47, 48, 49, 50, 51, 52, 53] [18, 19, 20, 21, 22, 23, 24, 25, 26, 27, 28, 29, 30, 31, 32, 33, 34, 35, 36, 37, 38, 39, 40, 41, 42, 43, 44, 45, 46, 47, 48, 49, 50, 51, 52, 53, 0, 1, 2, 3, 4, 5, 6, 7, 8, 9, 10, 11, 12, 13, 14, 15, 16, 17] rfl rfl rfl rfl rfl rfl rfl rfl hl.1 rfl (Nat.le_of_ble_eq_true rfl) dL_law_1062 ⟨hc1, hc2⟩ (fun _ H locs hP hD hS => ?_)
  refine lv_istore (lv' := [(6, .int r), (0, .ref b), (1, .ref (ad 0)), (2, .ref (um 0)), (3, .ref qo), (4, .ref qd), (5, .int (nI i))]) hx hb dL_law_1065 hl (by decide) rfl (fun ls hl => ?_)
  refine lv_aload_n hx hb dL_law_1067 rfl (lv_at hl 3 rfl) ?_
  refine lv_aload_n hx hb dL_law_1068 rfl (lv_at hl 1 rfl) ?_
  refine lv_iload hx hb dL_law_1069 (lv_at hl 6 rfl) ?_
  refine lv_iconst (v := 1) hx hb dL_law_1071 (by decide) ?_
  refine lv_iadd hx hb dL_law_1072 ?_
  refine va_sld hx hb hX hbl hbA hS (sc_in hi hL 1 (by decide)) dL_law_1073 ?_
  refine lv_aload_n hx hb dL_law_1074 rfl (lv_at hl 1 rfl) ?_
  refine lv_iload hx hb dL_law_1075 (lv_at hl 6 rfl) ?_
  refine lv_iconst (v := 2) hx hb dL_law_1077 (by decide) ?_
  refine lv_iadd hx hb dL_law_1078 ?_
  refine va_sld hx hb hX hbl hbA hS (sc_in hi hL 2 (by decide)) dL_law_1079 ?_
  refine rwV_back (rest := []) (As := [.int (xs (nI i + 1).toNatClampNeg), .int (xs (nI i + 2).toNatClampNeg)]) (wr := wdA G ad qo cl' f' ++ wdD G qd fd) (wf := wdL G ad um qo qd cl' (mkM r x.gain x.size u2 u3 u4 u5 x.parts x.isMinus x.readSpot x.isStar x.wantsNumber x.waiting x.shiftX x.shiftY x.times x.dotsLaid x.joinedLaid x.hash x.isThere x.v x.spotOf x.inMiddle x.tints x.buffer u6 u7 x.oldRanks x.part x.allRanks x.bases x.isMet x.metX x.metY x.line) f' fd) S (ctX5_placeOf l G (um 0) (um 1) (um 2) (um 3) (um 4) (um 5) (um 6) (um 7) (um 8) (um 9) (um 10) (um 11) (um 12) (um 13) (um 14) (um 15) (um 16) x.thrown x.gain x.size x.w x.s x.h x.laidArea x.parts x.isMinus x.readSpot x.isStar x.wantsNumber x.waiting x.shiftX x.shiftY x.times x.dotsLaid x.joinedLaid x.hash x.isThere x.v x.spotOf x.inMiddle x.tints x.buffer x.values x.ranks x.oldRanks x.part x.allRanks x.bases x.isMet x.metX x.metY x.line (xs (nI i + 1).toNatClampNeg) (xs (nI i + 2).toNatClampNeg) bb r u2 u3 u4 u5 u6 u7 e2) (cwV 2 hts gL_law_X5_placeOf rfl rfl rfl hvyX5_placeOf ⟨Nat.le_of_ble_eq_true rfl, Nat.le_of_ble_eq_true rfl⟩) hK hP hD hS xb_triv (fun _ _ _ => trivial) [37, 38, 39, 40, 41, 42, 43, 44, 45, 46, 47, 48, 49, 50, 51, 52, 53] [0, 1, 2, 3, 4, 5, 6, 7, 8, 9, 10, 11, 12, 13, 14, 15, 16, 17, 18, 19, 20, 21, 22, 23, 24, 25, 26, 27, 28, 29, 30, 31, 32, 33, 34, 35, 36] [0, 1, 2, 3, 4, 5, 6, 7, 8, 9, 10, 11, 12, 13, 14, 15, 16, 17, 18, 19, 20, 21, 22, 23, 24, 25, 26, 27, 28, 29, 30, 31, 32, 33, 34, 35, 36, 37, 38, 39, 40, 41, 42, 43, 44, 45, 46, 47, 48, 49, 50, 51, 52, 53] rfl rfl rfl rfl rfl rfl rfl 37 5 rfl rfl rfl rfl hl.1 rfl (Nat.le_of_ble_eq_true rfl) dL_law_1080 ⟨hc1, hc2⟩ (fun _ H locs hP hD hS => ?_)
  refine lv_istore (lv' := [(7, .int bb), (6, .int r), (0, .ref b), (1, .ref (ad 0)), (2, .ref (um 0)), (3, .ref qo), (4, .ref qd), (5, .int (nI i))]) hx hb dL_law_1083 hl (by decide) rfl (fun ls hl => ?_)
  refine lv_aload_n hx hb dL_law_1085 rfl (lv_at hl 4 rfl) ?_
  refine roVi1 (rest := []) (As := []) S (ctX5_thrown l G (um 0) (um 1) (um 2) (um 3) (um 4) (um 5) (um 6) (um 7) (um 8) (um 9) (um 10) (um 11) (um 12) (um 13) (um 14) (um 15) (um 16) r x.gain x.size u2 u3 u4 u5 x.parts x.isMinus x.readSpot x.isStar x.wantsNumber x.waiting x.shiftX x.shiftY x.times x.dotsLaid x.joinedLaid x.hash x.isThere x.v x.spotOf x.inMiddle x.tints x.buffer u6 u7 x.oldRanks x.part x.allRanks x.bases x.isMet x.metX x.metY x.line r rfl) (cwV 0 hts gL_law_X5_thrown rfl rfl rfl hvyX5_thrown ⟨Nat.le_of_ble_eq_true rfl, Nat.le_of_ble_eq_true rfl⟩) hK hP [37, 38, 39, 40, 41, 42, 43, 44, 45, 46, 47, 48, 49, 50, 51, 52, 53] rfl 37 5 rfl rfl rfl rfl hl.1 rfl (Nat.le_of_ble_eq_true rfl) dL_law_1086 ⟨hc1, hc2⟩ (fun _ => ?_)
  refine lv_iload hx hb dL_law_1089 (lv_at hl 1 rfl) ?_
  refine lv_icmp_eq (tgt := 1096) hx hb dL_law_1091 (by decide) (fun _ => ?_) (fun cn => absurd rfl cn)
  refine lv_iload hx hb dL_law_1096 (lv_at hl 1 rfl) ?_
  refine lv_if_ne (tgt := 1113) hx hb dL_law_1098 (by decide) (fun hr => ?_) (fun hr => ?_)
  · skip
    refine lv_goto (tgt := 2071) hx hb dL_law_1113 (by decide) ?_
    exact kk cl' (mkM r x.gain x.size u2 u3 u4 u5 x.parts x.isMinus x.readSpot x.isStar x.wantsNumber x.waiting x.shiftX x.shiftY x.times x.dotsLaid x.joinedLaid x.hash x.isThere x.v x.spotOf x.inMiddle x.tints x.buffer u6 u7 x.oldRanks x.part x.allRanks x.bases x.isMet x.metX x.metY x.line) f' fd H locs ⟨hP, hD, hS, hI'⟩ ls (lv_sub hl [2, 3, 4, 5, 6, 7] rfl)
  · skip
    refine lv_aload_n hx hb dL_law_1101 rfl (lv_at hl 5 rfl) ?_
    refine lv_iconst (v := 0) hx hb dL_law_1102 (by decide) ?_
    refine va_lald hx hb hK.1 hP 35 3 rfl rfl (i := 0) (vp_in_iff.mpr ⟨by decide, by decide⟩) dL_law_1103 ?_
    refine lv_iload hx hb dL_law_1104 (lv_at hl 0 rfl) ?_
    refine lv_i2l hx hb dL_law_1106 rfl ?_
    refine W.lcmp hx hb dL_law_1107 ?_
    have h00 : f' ((0 : Int32).toNatClampNeg) = bb.toInt64 := e3 hr
    refine lv_if_eq (tgt := 1113) hx hb dL_law_1108 (by decide) (fun _ => ?_) (fun cn => absurd (by show lg_cmp _ _ = 0; rw [h00]; exact lgc _) cn)
    refine lv_goto (tgt := 2071) hx hb dL_law_1113 (by decide) ?_
    exact kk cl' (mkM r x.gain x.size u2 u3 u4 u5 x.parts x.isMinus x.readSpot x.isStar x.wantsNumber x.waiting x.shiftX x.shiftY x.times x.dotsLaid x.joinedLaid x.hash x.isThere x.v x.spotOf x.inMiddle x.tints x.buffer u6 u7 x.oldRanks x.part x.allRanks x.bases x.isMet x.metX x.metY x.line) f' fd H locs ⟨hP, hD, hS, hI'⟩ ls (lv_sub hl [2, 3, 4, 5, 6, 7] rfl)
theorem hzyL_pixel : yL_pixel.cls ≠ "java/lang/invoke/MethodHandle" ∧ yL_pixel.cls ≠ "java/lang/invoke/VarHandle" ∧ (parseMethodDescriptor yL_pixel.desc).map (fun d => d.parameters.length) = some 4 := by decide +kernel
theorem hvyX5_pixel : yX5_pixel.cls = RX5 ∧ yX5_pixel.cls ≠ "java/lang/invoke/MethodHandle" ∧ yX5_pixel.cls ≠ "java/lang/invoke/VarHandle" ∧ (parseMethodDescriptor yX5_pixel.desc).map (fun d => d.parameters.length) = some 2 := ⟨rfl, by decide +kernel⟩
set_option maxHeartbeats 4000000 in
set_option maxRecDepth 100000 in
theorem law_c15 {p : Program} {l : Launch} {e : Env} {s : State} {m : MethodId} {below : List Frame} {meth : Method} {c : Code} {b L : Nat} {xs : Nat → Int32} {G : GG} {ad um : Nat → Nat} {qo qd : Nat} {Q : State → Prop} (hF : LF p l s m c b L xs G) {i : Nat} (hi : i + 7 ≤ L) {cl : Cls} {x : Mdl} {f : Nat → Int64} {fd : Nat → UInt64} {H : Heap} {locs : List Loc} (hI : LSt s G ad um qo qd cl x f fd H locs) {cells slots : Nat} (hc1 : cells + 1 ≤ 601024) (hc2 : slots + 6 ≤ 7293034) {ls : Array Slot} (hl : lv_has ls 9 (lvL b ad um qo qd i)) (kk : LKont p l e s m below meth c b G ad um qo qd i cells slots Q) : W p l e room_1 s m #[Value.ref b] below meth c H locs cells slots Q (F0 m 1116 ls []) := by
  obtain ⟨⟨hx, hb, hml, hown, hts, hX, hbl⟩, hK, hT, hL, hfl⟩ := id hF
  obtain ⟨hP, hD, hS, hI⟩ := hI
  have hbA : ¬ AL s b := Nat.not_le.mpr hbl
  have S : CallFix p m c cL_law 9 s #[Value.ref b] lw_tbl RL := ⟨hx, hb, hml, hown, hts⟩
  refine lv_aload_n hx hb dL_law_1116 rfl (lv_at hl 1 rfl) ?_
  refine lv_aload_n hx hb dL_law_1117 rfl (lv_at hl 0 rfl) ?_
  refine lv_iload hx hb dL_law_1118 (lv_at hl 5 rfl) ?_
  refine lv_iconst (v := 1) hx hb dL_law_1120 (by decide) ?_
  refine lv_iadd hx hb dL_law_1121 ?_
  refine va_sld hx hb hX hbl hbA hS (sc_in hi hL 1 (by decide)) dL_law_1122 ?_
  refine lv_aload_n hx hb dL_law_1123 rfl (lv_at hl 0 rfl) ?_
  refine lv_iload hx hb dL_law_1124 (lv_at hl 5 rfl) ?_
  refine lv_iconst (v := 2) hx hb dL_law_1126 (by decide) ?_
  refine lv_iadd hx hb dL_law_1127 ?_
  refine va_sld hx hb hX hbl hbA hS (sc_in hi hL 2 (by decide)) dL_law_1128 ?_
  refine lv_aload_n hx hb dL_law_1129 rfl (lv_at hl 3 rfl) ?_
  obtain ⟨r, cl', f', bb, u2, u3, u4, u5, u6, u7, u8, u9, e1, e2, e3, hI'⟩ := LW_pixel hI f (xs (nI i + 1).toNatClampNeg) (xs (nI i + 2).toNatClampNeg) x.w x.s x.h x.laidArea x.values x.ranks x.allRanks x.bases
  refine rwL (rest := []) (As := [.ref (ad 0), .int (xs (nI i + 1).toNatClampNeg), .int (xs (nI i + 2).toNatClampNeg), .ref qo]) (wr := wdD G qd fd ++ wdM G um x) (wf := wdL G ad um qo qd cl' x f' fd) S (lw_pixel l hfl G ad qo cl cl' f f' (xs (nI i + 1).toNatClampNeg) (xs (nI i + 2).toNatClampNeg) r e1) (vx_cwSW 4 hts gL_law_L_pixel rfl rfl rfl hzyL_pixel ⟨Nat.le_of_ble_eq_true rfl, Nat.le_of_ble_eq_true rfl⟩) hK hP hD hS hT [0, 1, 2, 3, 4, 5, 6, 7, 8, 9, 10, 11, 12, 13, 14, 15, 16, 17, 18, 19, 20, 21, 22, 23, 24, 25, 26, 27, 28, 29, 30, 31, 32, 33, 34, 35] [36, 37, 38, 39, 40, 41, 42, 43, 44, 45, 46, 47, 48, 49, 50, 51, 52, 53] [18, 19, 20, 21, 22, 23, 24, 25, 26, 27, 28, 29, 30, 31, 32, 33, 34, 35, 36, 37, 38, 39, 40, 41, 42, 43, 44, 45, 46, 47, 48, 49, 50, 51, 52, 53, 0, 1, 2, 3, 4, 5, 6, 7, 8, 9, 10, 11, 12, 13, 14, 15, 16, 17] rfl rfl rfl rfl rfl rfl rfl rfl hl.1 rfl (Nat.le_of_ble_eq_true rfl) dL_law_1130 ⟨hc1, hc2⟩ (fun _ H locs hP hD hS => ?_)
  refine lv_istore (lv' := [(6, .int r), (0, .ref b), (1, .ref (ad 0)), (2, .ref (um 0)), (3, .ref qo), (4, .ref qd), (5, .int (nI i))]) hx hb dL_law_1133 hl (by decide) rfl (fun ls hl => ?_)
  refine lv_aload_n hx hb dL_law_1135 rfl (lv_at hl 3 rfl) ?_
  refine lv_aload_n hx hb dL_law_1136 rfl (lv_at hl 1 rfl) ?_
  refine lv_iload hx hb dL_law_1137 (lv_at hl 6 rfl) ?_
  refine lv_iconst (v := 1) hx hb dL_law_1139 (by decide) ?_
  refine lv_iadd hx hb dL_law_1140 ?_
  refine va_sld hx hb hX hbl hbA hS (sc_in hi hL 1 (by decide)) dL_law_1141 ?_
  refine lv_aload_n hx hb dL_law_1142 rfl (lv_at hl 1 rfl) ?_
  refine lv_iload hx hb dL_law_1143 (lv_at hl 6 rfl) ?_
  refine lv_iconst (v := 2) hx hb dL_law_1145 (by decide) ?_
  refine lv_iadd hx hb dL_law_1146 ?_
  refine va_sld hx hb hX hbl hbA hS (sc_in hi hL 2 (by decide)) dL_law_1147 ?_
  refine rwV_back (rest := []) (As := [.int (xs (nI i + 1).toNatClampNeg), .int (xs (nI i + 2).toNatClampNeg)]) (wr := wdA G ad qo cl' f' ++ wdD G qd fd) (wf := wdL G ad um qo qd cl' (mkM r x.gain x.size u2 u3 u4 u5 x.parts x.isMinus x.readSpot x.isStar x.wantsNumber x.waiting x.shiftX x.shiftY x.times x.dotsLaid x.joinedLaid x.hash x.isThere x.v x.spotOf x.inMiddle x.tints x.buffer u6 u7 x.oldRanks x.part u8 u9 x.isMet x.metX x.metY x.line) f' fd) S (ctX5_pixel l G (um 0) (um 1) (um 2) (um 3) (um 4) (um 5) (um 6) (um 7) (um 8) (um 9) (um 10) (um 11) (um 12) (um 13) (um 14) (um 15) (um 16) x.thrown x.gain x.size x.w x.s x.h x.laidArea x.parts x.isMinus x.readSpot x.isStar x.wantsNumber x.waiting x.shiftX x.shiftY x.times x.dotsLaid x.joinedLaid x.hash x.isThere x.v x.spotOf x.inMiddle x.tints x.buffer x.values x.ranks x.oldRanks x.part x.allRanks x.bases x.isMet x.metX x.metY x.line (xs (nI i + 1).toNatClampNeg) (xs (nI i + 2).toNatClampNeg) bb r u2 u3 u4 u5 u6 u7 u8 u9 e2) (cwV 2 hts gL_law_X5_pixel rfl rfl rfl hvyX5_pixel ⟨Nat.le_of_ble_eq_true rfl, Nat.le_of_ble_eq_true rfl⟩) hK hP hD hS xb_triv (fun _ _ _ => trivial) [37, 38, 39, 40, 41, 42, 43, 44, 45, 46, 47, 48, 49, 50, 51, 52, 53] [0, 1, 2, 3, 4, 5, 6, 7, 8, 9, 10, 11, 12, 13, 14, 15, 16, 17, 18, 19, 20, 21, 22, 23, 24, 25, 26, 27, 28, 29, 30, 31, 32, 33, 34, 35, 36] [0, 1, 2, 3, 4, 5, 6, 7, 8, 9, 10, 11, 12, 13, 14, 15, 16, 17, 18, 19, 20, 21, 22, 23, 24, 25, 26, 27, 28, 29, 30, 31, 32, 33, 34, 35, 36, 37, 38, 39, 40, 41, 42, 43, 44, 45, 46, 47, 48, 49, 50, 51, 52, 53] rfl rfl rfl rfl rfl rfl rfl 37 5 rfl rfl rfl rfl hl.1 rfl (Nat.le_of_ble_eq_true rfl) dL_law_1148 ⟨hc1, hc2⟩ (fun _ H locs hP hD hS => ?_)
  refine lv_istore (lv' := [(7, .int bb), (6, .int r), (0, .ref b), (1, .ref (ad 0)), (2, .ref (um 0)), (3, .ref qo), (4, .ref qd), (5, .int (nI i))]) hx hb dL_law_1151 hl (by decide) rfl (fun ls hl => ?_)
  refine lv_aload_n hx hb dL_law_1153 rfl (lv_at hl 4 rfl) ?_
  refine roVi1 (rest := []) (As := []) S (ctX5_thrown l G (um 0) (um 1) (um 2) (um 3) (um 4) (um 5) (um 6) (um 7) (um 8) (um 9) (um 10) (um 11) (um 12) (um 13) (um 14) (um 15) (um 16) r x.gain x.size u2 u3 u4 u5 x.parts x.isMinus x.readSpot x.isStar x.wantsNumber x.waiting x.shiftX x.shiftY x.times x.dotsLaid x.joinedLaid x.hash x.isThere x.v x.spotOf x.inMiddle x.tints x.buffer u6 u7 x.oldRanks x.part u8 u9 x.isMet x.metX x.metY x.line r rfl) (cwV 0 hts gL_law_X5_thrown rfl rfl rfl hvyX5_thrown ⟨Nat.le_of_ble_eq_true rfl, Nat.le_of_ble_eq_true rfl⟩) hK hP [37, 38, 39, 40, 41, 42, 43, 44, 45, 46, 47, 48, 49, 50, 51, 52, 53] rfl 37 5 rfl rfl rfl rfl hl.1 rfl (Nat.le_of_ble_eq_true rfl) dL_law_1154 ⟨hc1, hc2⟩ (fun _ => ?_)
  refine lv_iload hx hb dL_law_1157 (lv_at hl 1 rfl) ?_
  refine lv_icmp_eq (tgt := 1164) hx hb dL_law_1159 (by decide) (fun _ => ?_) (fun cn => absurd rfl cn)
  refine lv_iload hx hb dL_law_1164 (lv_at hl 1 rfl) ?_
  refine lv_if_ne (tgt := 1181) hx hb dL_law_1166 (by decide) (fun hr => ?_) (fun hr => ?_)
  · skip
    refine lv_goto (tgt := 2071) hx hb dL_law_1181 (by decide) ?_
    exact kk cl' (mkM r x.gain x.size u2 u3 u4 u5 x.parts x.isMinus x.readSpot x.isStar x.wantsNumber x.waiting x.shiftX x.shiftY x.times x.dotsLaid x.joinedLaid x.hash x.isThere x.v x.spotOf x.inMiddle x.tints x.buffer u6 u7 x.oldRanks x.part u8 u9 x.isMet x.metX x.metY x.line) f' fd H locs ⟨hP, hD, hS, hI'⟩ ls (lv_sub hl [2, 3, 4, 5, 6, 7] rfl)
  · skip
    refine lv_aload_n hx hb dL_law_1169 rfl (lv_at hl 5 rfl) ?_
    refine lv_iconst (v := 0) hx hb dL_law_1170 (by decide) ?_
    refine va_lald hx hb hK.1 hP 35 3 rfl rfl (i := 0) (vp_in_iff.mpr ⟨by decide, by decide⟩) dL_law_1171 ?_
    refine lv_iload hx hb dL_law_1172 (lv_at hl 0 rfl) ?_
    refine lv_i2l hx hb dL_law_1174 rfl ?_
    refine W.lcmp hx hb dL_law_1175 ?_
    have h00 : f' ((0 : Int32).toNatClampNeg) = bb.toInt64 := e3 hr
    refine lv_if_eq (tgt := 1181) hx hb dL_law_1176 (by decide) (fun _ => ?_) (fun cn => absurd (by show lg_cmp _ _ = 0; rw [h00]; exact lgc _) cn)
    refine lv_goto (tgt := 2071) hx hb dL_law_1181 (by decide) ?_
    exact kk cl' (mkM r x.gain x.size u2 u3 u4 u5 x.parts x.isMinus x.readSpot x.isStar x.wantsNumber x.waiting x.shiftX x.shiftY x.times x.dotsLaid x.joinedLaid x.hash x.isThere x.v x.spotOf x.inMiddle x.tints x.buffer u6 u7 x.oldRanks x.part u8 u9 x.isMet x.metX x.metY x.line) f' fd H locs ⟨hP, hD, hS, hI'⟩ ls (lv_sub hl [2, 3, 4, 5, 6, 7] rfl)
theorem hzyL_inked : yL_inked.cls ≠ "java/lang/invoke/MethodHandle" ∧ yL_inked.cls ≠ "java/lang/invoke/VarHandle" ∧ (parseMethodDescriptor yL_inked.desc).map (fun d => d.parameters.length) = some 7 := by decide +kernel
theorem hvyX5_inked : yX5_inked.cls = RX5 ∧ yX5_inked.cls ≠ "java/lang/invoke/MethodHandle" ∧ yX5_inked.cls ≠ "java/lang/invoke/VarHandle" ∧ (parseMethodDescriptor yX5_inked.desc).map (fun d => d.parameters.length) = some 5 := ⟨rfl, by decide +kernel⟩
set_option maxHeartbeats 4000000 in
set_option maxRecDepth 100000 in
theorem law_c16 {p : Program} {l : Launch} {e : Env} {s : State} {m : MethodId} {below : List Frame} {meth : Method} {c : Code} {b L : Nat} {xs : Nat → Int32} {G : GG} {ad um : Nat → Nat} {qo qd : Nat} {Q : State → Prop} (hF : LF p l s m c b L xs G) {i : Nat} (hi : i + 7 ≤ L) {cl : Cls} {x : Mdl} {f : Nat → Int64} {fd : Nat → UInt64} {H : Heap} {locs : List Loc} (hI : LSt s G ad um qo qd cl x f fd H locs) {cells slots : Nat} (hc1 : cells + 1 ≤ 601024) (hc2 : slots + 6 ≤ 7293034) {ls : Array Slot} (hl : lv_has ls 9 (lvL b ad um qo qd i)) (kk : LKont p l e s m below meth c b G ad um qo qd i cells slots Q) : W p l e room_1 s m #[Value.ref b] below meth c H locs cells slots Q (F0 m 1184 ls []) := by
  obtain ⟨⟨hx, hb, hml, hown, hts, hX, hbl⟩, hK, hT, hL, hfl⟩ := id hF
  obtain ⟨hP, hD, hS, hI⟩ := hI
  have hbA : ¬ AL s b := Nat.not_le.mpr hbl
  have S : CallFix p m c cL_law 9 s #[Value.ref b] lw_tbl RL := ⟨hx, hb, hml, hown, hts⟩
  refine lv_aload_n hx hb dL_law_1184 rfl (lv_at hl 1 rfl) ?_
  refine lv_aload_n hx hb dL_law_1185 rfl (lv_at hl 0 rfl) ?_
  refine lv_iload hx hb dL_law_1186 (lv_at hl 5 rfl) ?_
  refine lv_iconst (v := 1) hx hb dL_law_1188 (by decide) ?_
  refine lv_iadd hx hb dL_law_1189 ?_
  refine va_sld hx hb hX hbl hbA hS (sc_in hi hL 1 (by decide)) dL_law_1190 ?_
  refine lv_aload_n hx hb dL_law_1191 rfl (lv_at hl 0 rfl) ?_
  refine lv_iload hx hb dL_law_1192 (lv_at hl 5 rfl) ?_
  refine lv_iconst (v := 2) hx hb dL_law_1194 (by decide) ?_
  refine lv_iadd hx hb dL_law_1195 ?_
  refine va_sld hx hb hX hbl hbA hS (sc_in hi hL 2 (by decide)) dL_law_1196 ?_
  refine lv_aload_n hx hb dL_law_1197 rfl (lv_at hl 0 rfl) ?_
  refine lv_iload hx hb dL_law_1198 (lv_at hl 5 rfl) ?_
  refine lv_iconst (v := 3) hx hb dL_law_1200 (by decide) ?_
  refine lv_iadd hx hb dL_law_1201 ?_
  refine va_sld hx hb hX hbl hbA hS (sc_in hi hL 3 (by decide)) dL_law_1202 ?_
  refine lv_aload_n hx hb dL_law_1203 rfl (lv_at hl 0 rfl) ?_
  refine lv_iload hx hb dL_law_1204 (lv_at hl 5 rfl) ?_
  refine lv_iconst (v := 4) hx hb dL_law_1206 (by decide) ?_
  refine lv_iadd hx hb dL_law_1207 ?_
  refine va_sld hx hb hX hbl hbA hS (sc_in hi hL 4 (by decide)) dL_law_1208 ?_
  refine lv_aload_n hx hb dL_law_1209 rfl (lv_at hl 0 rfl) ?_
  refine lv_iload hx hb dL_law_1210 (lv_at hl 5 rfl) ?_
  refine lv_iconst (v := 5) hx hb dL_law_1212 (by decide) ?_
  refine lv_iadd hx hb dL_law_1213 ?_
  refine va_sld hx hb hX hbl hbA hS (sc_in hi hL 5 (by decide)) dL_law_1214 ?_
  refine lv_aload_n hx hb dL_law_1215 rfl (lv_at hl 3 rfl) ?_
  obtain ⟨r, cl', f', bb, u2, u3, u4, u5, u6, u7, u8, u9, e1, e2, e3, hI'⟩ := LW_inked hI f (xs (nI i + 1).toNatClampNeg) (xs (nI i + 2).toNatClampNeg) (xs (nI i + 3).toNatClampNeg) (xs (nI i + 4).toNatClampNeg) (xs (nI i + 5).toNatClampNeg) x.w x.s x.h x.laidArea x.values x.ranks x.allRanks x.bases
  refine rwL (rest := []) (As := [.ref (ad 0), .int (xs (nI i + 1).toNatClampNeg), .int (xs (nI i + 2).toNatClampNeg), .int (xs (nI i + 3).toNatClampNeg), .int (xs (nI i + 4).toNatClampNeg), .int (xs (nI i + 5).toNatClampNeg), .ref qo]) (wr := wdD G qd fd ++ wdM G um x) (wf := wdL G ad um qo qd cl' x f' fd) S (lw_inked l hfl G ad qo cl cl' f f' (xs (nI i + 1).toNatClampNeg) (xs (nI i + 2).toNatClampNeg) (xs (nI i + 3).toNatClampNeg) (xs (nI i + 4).toNatClampNeg) (xs (nI i + 5).toNatClampNeg) r e1) (vx_cwSW 7 hts gL_law_L_inked rfl rfl rfl hzyL_inked ⟨Nat.le_of_ble_eq_true rfl, Nat.le_of_ble_eq_true rfl⟩) hK hP hD hS hT [0, 1, 2, 3, 4, 5, 6, 7, 8, 9, 10, 11, 12, 13, 14, 15, 16, 17, 18, 19, 20, 21, 22, 23, 24, 25, 26, 27, 28, 29, 30, 31, 32, 33, 34, 35] [36, 37, 38, 39, 40, 41, 42, 43, 44, 45, 46, 47, 48, 49, 50, 51, 52, 53] [18, 19, 20, 21, 22, 23, 24, 25, 26, 27, 28, 29, 30, 31, 32, 33, 34, 35, 36, 37, 38, 39, 40, 41, 42, 43, 44, 45, 46, 47, 48, 49, 50, 51, 52, 53, 0, 1, 2, 3, 4, 5, 6, 7, 8, 9, 10, 11, 12, 13, 14, 15, 16, 17] rfl rfl rfl rfl rfl rfl rfl rfl hl.1 rfl (Nat.le_of_ble_eq_true rfl) dL_law_1216 ⟨hc1, hc2⟩ (fun _ H locs hP hD hS => ?_)
  refine lv_istore (lv' := [(6, .int r), (0, .ref b), (1, .ref (ad 0)), (2, .ref (um 0)), (3, .ref qo), (4, .ref qd), (5, .int (nI i))]) hx hb dL_law_1219 hl (by decide) rfl (fun ls hl => ?_)
  refine lv_aload_n hx hb dL_law_1221 rfl (lv_at hl 3 rfl) ?_
  refine lv_aload_n hx hb dL_law_1222 rfl (lv_at hl 1 rfl) ?_
  refine lv_iload hx hb dL_law_1223 (lv_at hl 6 rfl) ?_
  refine lv_iconst (v := 1) hx hb dL_law_1225 (by decide) ?_
  refine lv_iadd hx hb dL_law_1226 ?_
  refine va_sld hx hb hX hbl hbA hS (sc_in hi hL 1 (by decide)) dL_law_1227 ?_
  refine lv_aload_n hx hb dL_law_1228 rfl (lv_at hl 1 rfl) ?_
  refine lv_iload hx hb dL_law_1229 (lv_at hl 6 rfl) ?_
  refine lv_iconst (v := 2) hx hb dL_law_1231 (by decide) ?_
  refine lv_iadd hx hb dL_law_1232 ?_
  refine va_sld hx hb hX hbl hbA hS (sc_in hi hL 2 (by decide)) dL_law_1233 ?_
  refine lv_aload_n hx hb dL_law_1234 rfl (lv_at hl 1 rfl) ?_
  refine lv_iload hx hb dL_law_1235 (lv_at hl 6 rfl) ?_
  refine lv_iconst (v := 3) hx hb dL_law_1237 (by decide) ?_
  refine lv_iadd hx hb dL_law_1238 ?_
  refine va_sld hx hb hX hbl hbA hS (sc_in hi hL 3 (by decide)) dL_law_1239 ?_
  refine lv_aload_n hx hb dL_law_1240 rfl (lv_at hl 1 rfl) ?_
  refine lv_iload hx hb dL_law_1241 (lv_at hl 6 rfl) ?_
  refine lv_iconst (v := 4) hx hb dL_law_1243 (by decide) ?_
  refine lv_iadd hx hb dL_law_1244 ?_
  refine va_sld hx hb hX hbl hbA hS (sc_in hi hL 4 (by decide)) dL_law_1245 ?_
  refine lv_aload_n hx hb dL_law_1246 rfl (lv_at hl 1 rfl) ?_
  refine lv_iload hx hb dL_law_1247 (lv_at hl 6 rfl) ?_
  refine lv_iconst (v := 5) hx hb dL_law_1249 (by decide) ?_
  refine lv_iadd hx hb dL_law_1250 ?_
  refine va_sld hx hb hX hbl hbA hS (sc_in hi hL 5 (by decide)) dL_law_1251 ?_
  refine rwV_back (rest := []) (As := [.int (xs (nI i + 1).toNatClampNeg), .int (xs (nI i + 2).toNatClampNeg), .int (xs (nI i + 3).toNatClampNeg), .int (xs (nI i + 4).toNatClampNeg), .int (xs (nI i + 5).toNatClampNeg)]) (wr := wdA G ad qo cl' f' ++ wdD G qd fd) (wf := wdL G ad um qo qd cl' (mkM r x.gain x.size u2 u3 u4 u5 x.parts x.isMinus x.readSpot x.isStar x.wantsNumber x.waiting x.shiftX x.shiftY x.times x.dotsLaid x.joinedLaid x.hash x.isThere x.v x.spotOf x.inMiddle x.tints x.buffer u6 u7 x.oldRanks x.part u8 u9 x.isMet x.metX x.metY x.line) f' fd) S (ctX5_inked l G (um 0) (um 1) (um 2) (um 3) (um 4) (um 5) (um 6) (um 7) (um 8) (um 9) (um 10) (um 11) (um 12) (um 13) (um 14) (um 15) (um 16) x.thrown x.gain x.size x.w x.s x.h x.laidArea x.parts x.isMinus x.readSpot x.isStar x.wantsNumber x.waiting x.shiftX x.shiftY x.times x.dotsLaid x.joinedLaid x.hash x.isThere x.v x.spotOf x.inMiddle x.tints x.buffer x.values x.ranks x.oldRanks x.part x.allRanks x.bases x.isMet x.metX x.metY x.line (xs (nI i + 1).toNatClampNeg) (xs (nI i + 2).toNatClampNeg) (xs (nI i + 3).toNatClampNeg) (xs (nI i + 4).toNatClampNeg) (xs (nI i + 5).toNatClampNeg) bb r u2 u3 u4 u5 u6 u7 u8 u9 e2) (cwV 5 hts gL_law_X5_inked rfl rfl rfl hvyX5_inked ⟨Nat.le_of_ble_eq_true rfl, Nat.le_of_ble_eq_true rfl⟩) hK hP hD hS xb_triv (fun _ _ _ => trivial) [37, 38, 39, 40, 41, 42, 43, 44, 45, 46, 47, 48, 49, 50, 51, 52, 53] [0, 1, 2, 3, 4, 5, 6, 7, 8, 9, 10, 11, 12, 13, 14, 15, 16, 17, 18, 19, 20, 21, 22, 23, 24, 25, 26, 27, 28, 29, 30, 31, 32, 33, 34, 35, 36] [0, 1, 2, 3, 4, 5, 6, 7, 8, 9, 10, 11, 12, 13, 14, 15, 16, 17, 18, 19, 20, 21, 22, 23, 24, 25, 26, 27, 28, 29, 30, 31, 32, 33, 34, 35, 36, 37, 38, 39, 40, 41, 42, 43, 44, 45, 46, 47, 48, 49, 50, 51, 52, 53] rfl rfl rfl rfl rfl rfl rfl 37 5 rfl rfl rfl rfl hl.1 rfl (Nat.le_of_ble_eq_true rfl) dL_law_1252 ⟨hc1, hc2⟩ (fun _ H locs hP hD hS => ?_)
  refine lv_istore (lv' := [(7, .int bb), (6, .int r), (0, .ref b), (1, .ref (ad 0)), (2, .ref (um 0)), (3, .ref qo), (4, .ref qd), (5, .int (nI i))]) hx hb dL_law_1255 hl (by decide) rfl (fun ls hl => ?_)
  refine lv_aload_n hx hb dL_law_1257 rfl (lv_at hl 4 rfl) ?_
  refine roVi1 (rest := []) (As := []) S (ctX5_thrown l G (um 0) (um 1) (um 2) (um 3) (um 4) (um 5) (um 6) (um 7) (um 8) (um 9) (um 10) (um 11) (um 12) (um 13) (um 14) (um 15) (um 16) r x.gain x.size u2 u3 u4 u5 x.parts x.isMinus x.readSpot x.isStar x.wantsNumber x.waiting x.shiftX x.shiftY x.times x.dotsLaid x.joinedLaid x.hash x.isThere x.v x.spotOf x.inMiddle x.tints x.buffer u6 u7 x.oldRanks x.part u8 u9 x.isMet x.metX x.metY x.line r rfl) (cwV 0 hts gL_law_X5_thrown rfl rfl rfl hvyX5_thrown ⟨Nat.le_of_ble_eq_true rfl, Nat.le_of_ble_eq_true rfl⟩) hK hP [37, 38, 39, 40, 41, 42, 43, 44, 45, 46, 47, 48, 49, 50, 51, 52, 53] rfl 37 5 rfl rfl rfl rfl hl.1 rfl (Nat.le_of_ble_eq_true rfl) dL_law_1258 ⟨hc1, hc2⟩ (fun _ => ?_)
  refine lv_iload hx hb dL_law_1261 (lv_at hl 1 rfl) ?_
  refine lv_icmp_eq (tgt := 1268) hx hb dL_law_1263 (by decide) (fun _ => ?_) (fun cn => absurd rfl cn)
  refine lv_iload hx hb dL_law_1268 (lv_at hl 1 rfl) ?_
  refine lv_if_ne (tgt := 1285) hx hb dL_law_1270 (by decide) (fun hr => ?_) (fun hr => ?_)
  · skip
    refine lv_goto (tgt := 2071) hx hb dL_law_1285 (by decide) ?_
    exact kk cl' (mkM r x.gain x.size u2 u3 u4 u5 x.parts x.isMinus x.readSpot x.isStar x.wantsNumber x.waiting x.shiftX x.shiftY x.times x.dotsLaid x.joinedLaid x.hash x.isThere x.v x.spotOf x.inMiddle x.tints x.buffer u6 u7 x.oldRanks x.part u8 u9 x.isMet x.metX x.metY x.line) f' fd H locs ⟨hP, hD, hS, hI'⟩ ls (lv_sub hl [2, 3, 4, 5, 6, 7] rfl)
  · skip
    refine lv_aload_n hx hb dL_law_1273 rfl (lv_at hl 5 rfl) ?_
    refine lv_iconst (v := 0) hx hb dL_law_1274 (by decide) ?_
    refine va_lald hx hb hK.1 hP 35 3 rfl rfl (i := 0) (vp_in_iff.mpr ⟨by decide, by decide⟩) dL_law_1275 ?_
    refine lv_iload hx hb dL_law_1276 (lv_at hl 0 rfl) ?_
    refine lv_i2l hx hb dL_law_1278 rfl ?_
    refine W.lcmp hx hb dL_law_1279 ?_
    have h00 : f' ((0 : Int32).toNatClampNeg) = bb.toInt64 := e3 hr
    refine lv_if_eq (tgt := 1285) hx hb dL_law_1280 (by decide) (fun _ => ?_) (fun cn => absurd (by show lg_cmp _ _ = 0; rw [h00]; exact lgc _) cn)
    refine lv_goto (tgt := 2071) hx hb dL_law_1285 (by decide) ?_
    exact kk cl' (mkM r x.gain x.size u2 u3 u4 u5 x.parts x.isMinus x.readSpot x.isStar x.wantsNumber x.waiting x.shiftX x.shiftY x.times x.dotsLaid x.joinedLaid x.hash x.isThere x.v x.spotOf x.inMiddle x.tints x.buffer u6 u7 x.oldRanks x.part u8 u9 x.isMet x.metX x.metY x.line) f' fd H locs ⟨hP, hD, hS, hI'⟩ ls (lv_sub hl [2, 3, 4, 5, 6, 7] rfl)
theorem hzyL_dots : yL_dots.cls ≠ "java/lang/invoke/MethodHandle" ∧ yL_dots.cls ≠ "java/lang/invoke/VarHandle" ∧ (parseMethodDescriptor yL_dots.desc).map (fun d => d.parameters.length) = some 4 := by decide +kernel
theorem hvyX5_dots : yX5_dots.cls = RX5 ∧ yX5_dots.cls ≠ "java/lang/invoke/MethodHandle" ∧ yX5_dots.cls ≠ "java/lang/invoke/VarHandle" ∧ (parseMethodDescriptor yX5_dots.desc).map (fun d => d.parameters.length) = some 2 := ⟨rfl, by decide +kernel⟩
set_option maxHeartbeats 4000000 in
set_option maxRecDepth 100000 in
theorem law_c17 {p : Program} {l : Launch} {e : Env} {s : State} {m : MethodId} {below : List Frame} {meth : Method} {c : Code} {b L : Nat} {xs : Nat → Int32} {G : GG} {ad um : Nat → Nat} {qo qd : Nat} {Q : State → Prop} (hF : LF p l s m c b L xs G) {i : Nat} (hi : i + 7 ≤ L) {cl : Cls} {x : Mdl} {f : Nat → Int64} {fd : Nat → UInt64} {H : Heap} {locs : List Loc} (hI : LSt s G ad um qo qd cl x f fd H locs) {cells slots : Nat} (hc1 : cells + 1 ≤ 601024) (hc2 : slots + 6 ≤ 7293034) {ls : Array Slot} (hl : lv_has ls 9 (lvL b ad um qo qd i)) (kk : LKont p l e s m below meth c b G ad um qo qd i cells slots Q) : W p l e room_1 s m #[Value.ref b] below meth c H locs cells slots Q (F0 m 1288 ls []) := by
  obtain ⟨⟨hx, hb, hml, hown, hts, hX, hbl⟩, hK, hT, hL, hfl⟩ := id hF
  obtain ⟨hP, hD, hS, hI⟩ := hI
  have hbA : ¬ AL s b := Nat.not_le.mpr hbl
  have S : CallFix p m c cL_law 9 s #[Value.ref b] lw_tbl RL := ⟨hx, hb, hml, hown, hts⟩
  refine lv_aload_n hx hb dL_law_1288 rfl (lv_at hl 1 rfl) ?_
  refine lv_aload_n hx hb dL_law_1289 rfl (lv_at hl 0 rfl) ?_
  refine lv_iload hx hb dL_law_1290 (lv_at hl 5 rfl) ?_
  refine lv_iconst (v := 1) hx hb dL_law_1292 (by decide) ?_
  refine lv_iadd hx hb dL_law_1293 ?_
  refine va_sld hx hb hX hbl hbA hS (sc_in hi hL 1 (by decide)) dL_law_1294 ?_
  refine lv_aload_n hx hb dL_law_1295 rfl (lv_at hl 0 rfl) ?_
  refine lv_iload hx hb dL_law_1296 (lv_at hl 5 rfl) ?_
  refine lv_iconst (v := 2) hx hb dL_law_1298 (by decide) ?_
  refine lv_iadd hx hb dL_law_1299 ?_
  refine va_sld hx hb hX hbl hbA hS (sc_in hi hL 2 (by decide)) dL_law_1300 ?_
  refine lv_aload_n hx hb dL_law_1301 rfl (lv_at hl 3 rfl) ?_
  obtain ⟨r, cl', f', bb, u2, u3, u4, u5, u6, u7, u8, u9, u10, u11, u12, u13, u14, u15, u16, u17, e1, e2, e3, hI'⟩ := LW_dots hI f (xs (nI i + 1).toNatClampNeg) (xs (nI i + 2).toNatClampNeg) x.w x.s x.h x.laidArea x.waiting x.shiftX x.shiftY x.times x.dotsLaid x.joinedLaid x.values x.ranks x.isMet x.metX x.metY x.line
  refine rwL (rest := []) (As := [.ref (ad 0), .int (xs (nI i + 1).toNatClampNeg), .int (xs (nI i + 2).toNatClampNeg), .ref qo]) (wr := wdD G qd fd ++ wdM G um x) (wf := wdL G ad um qo qd cl' x f' fd) S (lw_dots l hfl G ad qo cl cl' f f' (xs (nI i + 1).toNatClampNeg) (xs (nI i + 2).toNatClampNeg) r e1) (vx_cwSW 4 hts gL_law_L_dots rfl rfl rfl hzyL_dots ⟨Nat.le_of_ble_eq_true rfl, Nat.le_of_ble_eq_true rfl⟩) hK hP hD hS hT [0, 1, 2, 3, 4, 5, 6, 7, 8, 9, 10, 11, 12, 13, 14, 15, 16, 17, 18, 19, 20, 21, 22, 23, 24, 25, 26, 27, 28, 29, 30, 31, 32, 33, 34, 35] [36, 37, 38, 39, 40, 41, 42, 43, 44, 45, 46, 47, 48, 49, 50, 51, 52, 53] [18, 19, 20, 21, 22, 23, 24, 25, 26, 27, 28, 29, 30, 31, 32, 33, 34, 35, 36, 37, 38, 39, 40, 41, 42, 43, 44, 45, 46, 47, 48, 49, 50, 51, 52, 53, 0, 1, 2, 3, 4, 5, 6, 7, 8, 9, 10, 11, 12, 13, 14, 15, 16, 17] rfl rfl rfl rfl rfl rfl rfl rfl hl.1 rfl (Nat.le_of_ble_eq_true rfl) dL_law_1302 ⟨hc1, hc2⟩ (fun _ H locs hP hD hS => ?_)
  refine lv_istore (lv' := [(6, .int r), (0, .ref b), (1, .ref (ad 0)), (2, .ref (um 0)), (3, .ref qo), (4, .ref qd), (5, .int (nI i))]) hx hb dL_law_1305 hl (by decide) rfl (fun ls hl => ?_)
  refine lv_aload_n hx hb dL_law_1307 rfl (lv_at hl 3 rfl) ?_
  refine lv_aload_n hx hb dL_law_1308 rfl (lv_at hl 1 rfl) ?_
  refine lv_iload hx hb dL_law_1309 (lv_at hl 6 rfl) ?_
  refine lv_iconst (v := 1) hx hb dL_law_1311 (by decide) ?_
  refine lv_iadd hx hb dL_law_1312 ?_
  refine va_sld hx hb hX hbl hbA hS (sc_in hi hL 1 (by decide)) dL_law_1313 ?_
  refine lv_aload_n hx hb dL_law_1314 rfl (lv_at hl 1 rfl) ?_
  refine lv_iload hx hb dL_law_1315 (lv_at hl 6 rfl) ?_
  refine lv_iconst (v := 2) hx hb dL_law_1317 (by decide) ?_
  refine lv_iadd hx hb dL_law_1318 ?_
  refine va_sld hx hb hX hbl hbA hS (sc_in hi hL 2 (by decide)) dL_law_1319 ?_
  refine rwV_back (rest := []) (As := [.int (xs (nI i + 1).toNatClampNeg), .int (xs (nI i + 2).toNatClampNeg)]) (wr := wdA G ad qo cl' f' ++ wdD G qd fd) (wf := wdL G ad um qo qd cl' (mkM r x.gain x.size u2 u3 u4 u5 x.parts x.isMinus x.readSpot x.isStar x.wantsNumber u6 u7 u8 u9 u10 u11 x.hash x.isThere x.v x.spotOf x.inMiddle x.tints x.buffer u12 u13 x.oldRanks x.part x.allRanks x.bases u14 u15 u16 u17) f' fd) S (ctX5_dots l G (um 0) (um 1) (um 2) (um 3) (um 4) (um 5) (um 6) (um 7) (um 8) (um 9) (um 10) (um 11) (um 12) (um 13) (um 14) (um 15) (um 16) x.thrown x.gain x.size x.w x.s x.h x.laidArea x.parts x.isMinus x.readSpot x.isStar x.wantsNumber x.waiting x.shiftX x.shiftY x.times x.dotsLaid x.joinedLaid x.hash x.isThere x.v x.spotOf x.inMiddle x.tints x.buffer x.values x.ranks x.oldRanks x.part x.allRanks x.bases x.isMet x.metX x.metY x.line (xs (nI i + 1).toNatClampNeg) (xs (nI i + 2).toNatClampNeg) bb r u2 u3 u4 u5 u6 u7 u8 u9 u10 u11 u12 u13 u14 u15 u16 u17 e2) (cwV 2 hts gL_law_X5_dots rfl rfl rfl hvyX5_dots ⟨Nat.le_of_ble_eq_true rfl, Nat.le_of_ble_eq_true rfl⟩) hK hP hD hS xb_triv (fun _ _ _ => trivial) [37, 38, 39, 40, 41, 42, 43, 44, 45, 46, 47, 48, 49, 50, 51, 52, 53] [0, 1, 2, 3, 4, 5, 6, 7, 8, 9, 10, 11, 12, 13, 14, 15, 16, 17, 18, 19, 20, 21, 22, 23, 24, 25, 26, 27, 28, 29, 30, 31, 32, 33, 34, 35, 36] [0, 1, 2, 3, 4, 5, 6, 7, 8, 9, 10, 11, 12, 13, 14, 15, 16, 17, 18, 19, 20, 21, 22, 23, 24, 25, 26, 27, 28, 29, 30, 31, 32, 33, 34, 35, 36, 37, 38, 39, 40, 41, 42, 43, 44, 45, 46, 47, 48, 49, 50, 51, 52, 53] rfl rfl rfl rfl rfl rfl rfl 37 5 rfl rfl rfl rfl hl.1 rfl (Nat.le_of_ble_eq_true rfl) dL_law_1320 ⟨hc1, hc2⟩ (fun _ H locs hP hD hS => ?_)
  refine lv_istore (lv' := [(7, .int bb), (6, .int r), (0, .ref b), (1, .ref (ad 0)), (2, .ref (um 0)), (3, .ref qo), (4, .ref qd), (5, .int (nI i))]) hx hb dL_law_1323 hl (by decide) rfl (fun ls hl => ?_)
  refine lv_aload_n hx hb dL_law_1325 rfl (lv_at hl 4 rfl) ?_
  refine roVi1 (rest := []) (As := []) S (ctX5_thrown l G (um 0) (um 1) (um 2) (um 3) (um 4) (um 5) (um 6) (um 7) (um 8) (um 9) (um 10) (um 11) (um 12) (um 13) (um 14) (um 15) (um 16) r x.gain x.size u2 u3 u4 u5 x.parts x.isMinus x.readSpot x.isStar x.wantsNumber u6 u7 u8 u9 u10 u11 x.hash x.isThere x.v x.spotOf x.inMiddle x.tints x.buffer u12 u13 x.oldRanks x.part x.allRanks x.bases u14 u15 u16 u17 r rfl) (cwV 0 hts gL_law_X5_thrown rfl rfl rfl hvyX5_thrown ⟨Nat.le_of_ble_eq_true rfl, Nat.le_of_ble_eq_true rfl⟩) hK hP [37, 38, 39, 40, 41, 42, 43, 44, 45, 46, 47, 48, 49, 50, 51, 52, 53] rfl 37 5 rfl rfl rfl rfl hl.1 rfl (Nat.le_of_ble_eq_true rfl) dL_law_1326 ⟨hc1, hc2⟩ (fun _ => ?_)
  refine lv_iload hx hb dL_law_1329 (lv_at hl 1 rfl) ?_
  refine lv_icmp_eq (tgt := 1336) hx hb dL_law_1331 (by decide) (fun _ => ?_) (fun cn => absurd rfl cn)
  refine lv_iload hx hb dL_law_1336 (lv_at hl 1 rfl) ?_
  refine lv_if_ne (tgt := 1353) hx hb dL_law_1338 (by decide) (fun hr => ?_) (fun hr => ?_)
  · skip
    refine lv_goto (tgt := 2071) hx hb dL_law_1353 (by decide) ?_
    exact kk cl' (mkM r x.gain x.size u2 u3 u4 u5 x.parts x.isMinus x.readSpot x.isStar x.wantsNumber u6 u7 u8 u9 u10 u11 x.hash x.isThere x.v x.spotOf x.inMiddle x.tints x.buffer u12 u13 x.oldRanks x.part x.allRanks x.bases u14 u15 u16 u17) f' fd H locs ⟨hP, hD, hS, hI'⟩ ls (lv_sub hl [2, 3, 4, 5, 6, 7] rfl)
  · skip
    refine lv_aload_n hx hb dL_law_1341 rfl (lv_at hl 5 rfl) ?_
    refine lv_iconst (v := 0) hx hb dL_law_1342 (by decide) ?_
    refine va_lald hx hb hK.1 hP 35 3 rfl rfl (i := 0) (vp_in_iff.mpr ⟨by decide, by decide⟩) dL_law_1343 ?_
    refine lv_iload hx hb dL_law_1344 (lv_at hl 0 rfl) ?_
    refine lv_i2l hx hb dL_law_1346 rfl ?_
    refine W.lcmp hx hb dL_law_1347 ?_
    have h00 : f' ((0 : Int32).toNatClampNeg) = bb.toInt64 := e3 hr
    refine lv_if_eq (tgt := 1353) hx hb dL_law_1348 (by decide) (fun _ => ?_) (fun cn => absurd (by show lg_cmp _ _ = 0; rw [h00]; exact lgc _) cn)
    refine lv_goto (tgt := 2071) hx hb dL_law_1353 (by decide) ?_
    exact kk cl' (mkM r x.gain x.size u2 u3 u4 u5 x.parts x.isMinus x.readSpot x.isStar x.wantsNumber u6 u7 u8 u9 u10 u11 x.hash x.isThere x.v x.spotOf x.inMiddle x.tints x.buffer u12 u13 x.oldRanks x.part x.allRanks x.bases u14 u15 u16 u17) f' fd H locs ⟨hP, hD, hS, hI'⟩ ls (lv_sub hl [2, 3, 4, 5, 6, 7] rfl)
theorem hzyL_joined : yL_joined.cls ≠ "java/lang/invoke/MethodHandle" ∧ yL_joined.cls ≠ "java/lang/invoke/VarHandle" ∧ (parseMethodDescriptor yL_joined.desc).map (fun d => d.parameters.length) = some 4 := by decide +kernel
theorem hvyX5_joined : yX5_joined.cls = RX5 ∧ yX5_joined.cls ≠ "java/lang/invoke/MethodHandle" ∧ yX5_joined.cls ≠ "java/lang/invoke/VarHandle" ∧ (parseMethodDescriptor yX5_joined.desc).map (fun d => d.parameters.length) = some 2 := ⟨rfl, by decide +kernel⟩
set_option maxHeartbeats 4000000 in
set_option maxRecDepth 100000 in
theorem law_c18 {p : Program} {l : Launch} {e : Env} {s : State} {m : MethodId} {below : List Frame} {meth : Method} {c : Code} {b L : Nat} {xs : Nat → Int32} {G : GG} {ad um : Nat → Nat} {qo qd : Nat} {Q : State → Prop} (hF : LF p l s m c b L xs G) {i : Nat} (hi : i + 7 ≤ L) {cl : Cls} {x : Mdl} {f : Nat → Int64} {fd : Nat → UInt64} {H : Heap} {locs : List Loc} (hI : LSt s G ad um qo qd cl x f fd H locs) {cells slots : Nat} (hc1 : cells + 1 ≤ 601024) (hc2 : slots + 6 ≤ 7293034) {ls : Array Slot} (hl : lv_has ls 9 (lvL b ad um qo qd i)) (kk : LKont p l e s m below meth c b G ad um qo qd i cells slots Q) : W p l e room_1 s m #[Value.ref b] below meth c H locs cells slots Q (F0 m 1356 ls []) := by
  obtain ⟨⟨hx, hb, hml, hown, hts, hX, hbl⟩, hK, hT, hL, hfl⟩ := id hF
  obtain ⟨hP, hD, hS, hI⟩ := hI
  have hbA : ¬ AL s b := Nat.not_le.mpr hbl
  have S : CallFix p m c cL_law 9 s #[Value.ref b] lw_tbl RL := ⟨hx, hb, hml, hown, hts⟩
  refine lv_aload_n hx hb dL_law_1356 rfl (lv_at hl 1 rfl) ?_
  refine lv_aload_n hx hb dL_law_1357 rfl (lv_at hl 0 rfl) ?_
  refine lv_iload hx hb dL_law_1358 (lv_at hl 5 rfl) ?_
  refine lv_iconst (v := 1) hx hb dL_law_1360 (by decide) ?_
  refine lv_iadd hx hb dL_law_1361 ?_
  refine va_sld hx hb hX hbl hbA hS (sc_in hi hL 1 (by decide)) dL_law_1362 ?_
  refine lv_aload_n hx hb dL_law_1363 rfl (lv_at hl 0 rfl) ?_
  refine lv_iload hx hb dL_law_1364 (lv_at hl 5 rfl) ?_
  refine lv_iconst (v := 2) hx hb dL_law_1366 (by decide) ?_
  refine lv_iadd hx hb dL_law_1367 ?_
  refine va_sld hx hb hX hbl hbA hS (sc_in hi hL 2 (by decide)) dL_law_1368 ?_
  refine lv_aload_n hx hb dL_law_1369 rfl (lv_at hl 3 rfl) ?_
  obtain ⟨r, cl', f', bb, u2, u3, u4, u5, u6, u7, u8, u9, u10, u11, u12, u13, u14, u15, u16, u17, e1, e2, e3, hI'⟩ := LW_joined hI f (xs (nI i + 1).toNatClampNeg) (xs (nI i + 2).toNatClampNeg) x.w x.s x.h x.laidArea x.waiting x.shiftX x.shiftY x.times x.dotsLaid x.joinedLaid x.values x.ranks x.isMet x.metX x.metY x.line
  refine rwL (rest := []) (As := [.ref (ad 0), .int (xs (nI i + 1).toNatClampNeg), .int (xs (nI i + 2).toNatClampNeg), .ref qo]) (wr := wdD G qd fd ++ wdM G um x) (wf := wdL G ad um qo qd cl' x f' fd) S (lw_joined l hfl G ad qo cl cl' f f' (xs (nI i + 1).toNatClampNeg) (xs (nI i + 2).toNatClampNeg) r e1) (vx_cwSW 4 hts gL_law_L_joined rfl rfl rfl hzyL_joined ⟨Nat.le_of_ble_eq_true rfl, Nat.le_of_ble_eq_true rfl⟩) hK hP hD hS hT [0, 1, 2, 3, 4, 5, 6, 7, 8, 9, 10, 11, 12, 13, 14, 15, 16, 17, 18, 19, 20, 21, 22, 23, 24, 25, 26, 27, 28, 29, 30, 31, 32, 33, 34, 35] [36, 37, 38, 39, 40, 41, 42, 43, 44, 45, 46, 47, 48, 49, 50, 51, 52, 53] [18, 19, 20, 21, 22, 23, 24, 25, 26, 27, 28, 29, 30, 31, 32, 33, 34, 35, 36, 37, 38, 39, 40, 41, 42, 43, 44, 45, 46, 47, 48, 49, 50, 51, 52, 53, 0, 1, 2, 3, 4, 5, 6, 7, 8, 9, 10, 11, 12, 13, 14, 15, 16, 17] rfl rfl rfl rfl rfl rfl rfl rfl hl.1 rfl (Nat.le_of_ble_eq_true rfl) dL_law_1370 ⟨hc1, hc2⟩ (fun _ H locs hP hD hS => ?_)
  refine lv_istore (lv' := [(6, .int r), (0, .ref b), (1, .ref (ad 0)), (2, .ref (um 0)), (3, .ref qo), (4, .ref qd), (5, .int (nI i))]) hx hb dL_law_1373 hl (by decide) rfl (fun ls hl => ?_)
  refine lv_aload_n hx hb dL_law_1375 rfl (lv_at hl 3 rfl) ?_
  refine lv_aload_n hx hb dL_law_1376 rfl (lv_at hl 1 rfl) ?_
  refine lv_iload hx hb dL_law_1377 (lv_at hl 6 rfl) ?_
  refine lv_iconst (v := 1) hx hb dL_law_1379 (by decide) ?_
  refine lv_iadd hx hb dL_law_1380 ?_
  refine va_sld hx hb hX hbl hbA hS (sc_in hi hL 1 (by decide)) dL_law_1381 ?_
  refine lv_aload_n hx hb dL_law_1382 rfl (lv_at hl 1 rfl) ?_
  refine lv_iload hx hb dL_law_1383 (lv_at hl 6 rfl) ?_
  refine lv_iconst (v := 2) hx hb dL_law_1385 (by decide) ?_
  refine lv_iadd hx hb dL_law_1386 ?_
  refine va_sld hx hb hX hbl hbA hS (sc_in hi hL 2 (by decide)) dL_law_1387 ?_
  refine rwV_back (rest := []) (As := [.int (xs (nI i + 1).toNatClampNeg), .int (xs (nI i + 2).toNatClampNeg)]) (wr := wdA G ad qo cl' f' ++ wdD G qd fd) (wf := wdL G ad um qo qd cl' (mkM r x.gain x.size u2 u3 u4 u5 x.parts x.isMinus x.readSpot x.isStar x.wantsNumber u6 u7 u8 u9 u10 u11 x.hash x.isThere x.v x.spotOf x.inMiddle x.tints x.buffer u12 u13 x.oldRanks x.part x.allRanks x.bases u14 u15 u16 u17) f' fd) S (ctX5_joined l G (um 0) (um 1) (um 2) (um 3) (um 4) (um 5) (um 6) (um 7) (um 8) (um 9) (um 10) (um 11) (um 12) (um 13) (um 14) (um 15) (um 16) x.thrown x.gain x.size x.w x.s x.h x.laidArea x.parts x.isMinus x.readSpot x.isStar x.wantsNumber x.waiting x.shiftX x.shiftY x.times x.dotsLaid x.joinedLaid x.hash x.isThere x.v x.spotOf x.inMiddle x.tints x.buffer x.values x.ranks x.oldRanks x.part x.allRanks x.bases x.isMet x.metX x.metY x.line (xs (nI i + 1).toNatClampNeg) (xs (nI i + 2).toNatClampNeg) bb r u2 u3 u4 u5 u6 u7 u8 u9 u10 u11 u12 u13 u14 u15 u16 u17 e2) (cwV 2 hts gL_law_X5_joined rfl rfl rfl hvyX5_joined ⟨Nat.le_of_ble_eq_true rfl, Nat.le_of_ble_eq_true rfl⟩) hK hP hD hS xb_triv (fun _ _ _ => trivial) [37, 38, 39, 40, 41, 42, 43, 44, 45, 46, 47, 48, 49, 50, 51, 52, 53] [0, 1, 2, 3, 4, 5, 6, 7, 8, 9, 10, 11, 12, 13, 14, 15, 16, 17, 18, 19, 20, 21, 22, 23, 24, 25, 26, 27, 28, 29, 30, 31, 32, 33, 34, 35, 36] [0, 1, 2, 3, 4, 5, 6, 7, 8, 9, 10, 11, 12, 13, 14, 15, 16, 17, 18, 19, 20, 21, 22, 23, 24, 25, 26, 27, 28, 29, 30, 31, 32, 33, 34, 35, 36, 37, 38, 39, 40, 41, 42, 43, 44, 45, 46, 47, 48, 49, 50, 51, 52, 53] rfl rfl rfl rfl rfl rfl rfl 37 5 rfl rfl rfl rfl hl.1 rfl (Nat.le_of_ble_eq_true rfl) dL_law_1388 ⟨hc1, hc2⟩ (fun _ H locs hP hD hS => ?_)
  refine lv_istore (lv' := [(7, .int bb), (6, .int r), (0, .ref b), (1, .ref (ad 0)), (2, .ref (um 0)), (3, .ref qo), (4, .ref qd), (5, .int (nI i))]) hx hb dL_law_1391 hl (by decide) rfl (fun ls hl => ?_)
  refine lv_aload_n hx hb dL_law_1393 rfl (lv_at hl 4 rfl) ?_
  refine roVi1 (rest := []) (As := []) S (ctX5_thrown l G (um 0) (um 1) (um 2) (um 3) (um 4) (um 5) (um 6) (um 7) (um 8) (um 9) (um 10) (um 11) (um 12) (um 13) (um 14) (um 15) (um 16) r x.gain x.size u2 u3 u4 u5 x.parts x.isMinus x.readSpot x.isStar x.wantsNumber u6 u7 u8 u9 u10 u11 x.hash x.isThere x.v x.spotOf x.inMiddle x.tints x.buffer u12 u13 x.oldRanks x.part x.allRanks x.bases u14 u15 u16 u17 r rfl) (cwV 0 hts gL_law_X5_thrown rfl rfl rfl hvyX5_thrown ⟨Nat.le_of_ble_eq_true rfl, Nat.le_of_ble_eq_true rfl⟩) hK hP [37, 38, 39, 40, 41, 42, 43, 44, 45, 46, 47, 48, 49, 50, 51, 52, 53] rfl 37 5 rfl rfl rfl rfl hl.1 rfl (Nat.le_of_ble_eq_true rfl) dL_law_1394 ⟨hc1, hc2⟩ (fun _ => ?_)
  refine lv_iload hx hb dL_law_1397 (lv_at hl 1 rfl) ?_
  refine lv_icmp_eq (tgt := 1404) hx hb dL_law_1399 (by decide) (fun _ => ?_) (fun cn => absurd rfl cn)
  refine lv_iload hx hb dL_law_1404 (lv_at hl 1 rfl) ?_
  refine lv_if_ne (tgt := 1421) hx hb dL_law_1406 (by decide) (fun hr => ?_) (fun hr => ?_)
  · skip
    refine lv_goto (tgt := 2071) hx hb dL_law_1421 (by decide) ?_
    exact kk cl' (mkM r x.gain x.size u2 u3 u4 u5 x.parts x.isMinus x.readSpot x.isStar x.wantsNumber u6 u7 u8 u9 u10 u11 x.hash x.isThere x.v x.spotOf x.inMiddle x.tints x.buffer u12 u13 x.oldRanks x.part x.allRanks x.bases u14 u15 u16 u17) f' fd H locs ⟨hP, hD, hS, hI'⟩ ls (lv_sub hl [2, 3, 4, 5, 6, 7] rfl)
  · skip
    refine lv_aload_n hx hb dL_law_1409 rfl (lv_at hl 5 rfl) ?_
    refine lv_iconst (v := 0) hx hb dL_law_1410 (by decide) ?_
    refine va_lald hx hb hK.1 hP 35 3 rfl rfl (i := 0) (vp_in_iff.mpr ⟨by decide, by decide⟩) dL_law_1411 ?_
    refine lv_iload hx hb dL_law_1412 (lv_at hl 0 rfl) ?_
    refine lv_i2l hx hb dL_law_1414 rfl ?_
    refine W.lcmp hx hb dL_law_1415 ?_
    have h00 : f' ((0 : Int32).toNatClampNeg) = bb.toInt64 := e3 hr
    refine lv_if_eq (tgt := 1421) hx hb dL_law_1416 (by decide) (fun _ => ?_) (fun cn => absurd (by show lg_cmp _ _ = 0; rw [h00]; exact lgc _) cn)
    refine lv_goto (tgt := 2071) hx hb dL_law_1421 (by decide) ?_
    exact kk cl' (mkM r x.gain x.size u2 u3 u4 u5 x.parts x.isMinus x.readSpot x.isStar x.wantsNumber u6 u7 u8 u9 u10 u11 x.hash x.isThere x.v x.spotOf x.inMiddle x.tints x.buffer u12 u13 x.oldRanks x.part x.allRanks x.bases u14 u15 u16 u17) f' fd H locs ⟨hP, hD, hS, hI'⟩ ls (lv_sub hl [2, 3, 4, 5, 6, 7] rfl)
theorem hzyL_firstJoined : yL_firstJoined.cls ≠ "java/lang/invoke/MethodHandle" ∧ yL_firstJoined.cls ≠ "java/lang/invoke/VarHandle" ∧ (parseMethodDescriptor yL_firstJoined.desc).map (fun d => d.parameters.length) = some 4 := by decide +kernel
theorem hvyX5_firstJoined : yX5_firstJoined.cls = RX5 ∧ yX5_firstJoined.cls ≠ "java/lang/invoke/MethodHandle" ∧ yX5_firstJoined.cls ≠ "java/lang/invoke/VarHandle" ∧ (parseMethodDescriptor yX5_firstJoined.desc).map (fun d => d.parameters.length) = some 2 := ⟨rfl, by decide +kernel⟩
set_option maxHeartbeats 4000000 in
set_option maxRecDepth 100000 in
theorem law_c19 {p : Program} {l : Launch} {e : Env} {s : State} {m : MethodId} {below : List Frame} {meth : Method} {c : Code} {b L : Nat} {xs : Nat → Int32} {G : GG} {ad um : Nat → Nat} {qo qd : Nat} {Q : State → Prop} (hF : LF p l s m c b L xs G) {i : Nat} (hi : i + 7 ≤ L) {cl : Cls} {x : Mdl} {f : Nat → Int64} {fd : Nat → UInt64} {H : Heap} {locs : List Loc} (hI : LSt s G ad um qo qd cl x f fd H locs) {cells slots : Nat} (hc1 : cells + 1 ≤ 601024) (hc2 : slots + 6 ≤ 7293034) {ls : Array Slot} (hl : lv_has ls 9 (lvL b ad um qo qd i)) (kk : LKont p l e s m below meth c b G ad um qo qd i cells slots Q) : W p l e room_1 s m #[Value.ref b] below meth c H locs cells slots Q (F0 m 1424 ls []) := by
  obtain ⟨⟨hx, hb, hml, hown, hts, hX, hbl⟩, hK, hT, hL, hfl⟩ := id hF
  obtain ⟨hP, hD, hS, hI⟩ := hI
  have hbA : ¬ AL s b := Nat.not_le.mpr hbl
  have S : CallFix p m c cL_law 9 s #[Value.ref b] lw_tbl RL := ⟨hx, hb, hml, hown, hts⟩
  refine lv_aload_n hx hb dL_law_1424 rfl (lv_at hl 1 rfl) ?_
  refine lv_aload_n hx hb dL_law_1425 rfl (lv_at hl 0 rfl) ?_
  refine lv_iload hx hb dL_law_1426 (lv_at hl 5 rfl) ?_
  refine lv_iconst (v := 1) hx hb dL_law_1428 (by decide) ?_
  refine lv_iadd hx hb dL_law_1429 ?_
  refine va_sld hx hb hX hbl hbA hS (sc_in hi hL 1 (by decide)) dL_law_1430 ?_
  refine lv_aload_n hx hb dL_law_1431 rfl (lv_at hl 0 rfl) ?_
  refine lv_iload hx hb dL_law_1432 (lv_at hl 5 rfl) ?_
  refine lv_iconst (v := 2) hx hb dL_law_1434 (by decide) ?_
  refine lv_iadd hx hb dL_law_1435 ?_
  refine va_sld hx hb hX hbl hbA hS (sc_in hi hL 2 (by decide)) dL_law_1436 ?_
  refine lv_aload_n hx hb dL_law_1437 rfl (lv_at hl 3 rfl) ?_
  obtain ⟨r, cl', f', bb, u2, u3, u4, u5, u6, u7, u8, u9, u10, u11, u12, u13, u14, u15, u16, u17, e1, e2, e3, hI'⟩ := LW_firstJoined hI f (xs (nI i + 1).toNatClampNeg) (xs (nI i + 2).toNatClampNeg) x.w x.s x.h x.laidArea x.waiting x.shiftX x.shiftY x.times x.dotsLaid x.joinedLaid x.values x.ranks x.isMet x.metX x.metY x.line
  refine rwL (rest := []) (As := [.ref (ad 0), .int (xs (nI i + 1).toNatClampNeg), .int (xs (nI i + 2).toNatClampNeg), .ref qo]) (wr := wdD G qd fd ++ wdM G um x) (wf := wdL G ad um qo qd cl' x f' fd) S (lw_firstJoined l hfl G ad qo cl cl' f f' (xs (nI i + 1).toNatClampNeg) (xs (nI i + 2).toNatClampNeg) r e1) (vx_cwSW 4 hts gL_law_L_firstJoined rfl rfl rfl hzyL_firstJoined ⟨Nat.le_of_ble_eq_true rfl, Nat.le_of_ble_eq_true rfl⟩) hK hP hD hS hT [0, 1, 2, 3, 4, 5, 6, 7, 8, 9, 10, 11, 12, 13, 14, 15, 16, 17, 18, 19, 20, 21, 22, 23, 24, 25, 26, 27, 28, 29, 30, 31, 32, 33, 34, 35] [36, 37, 38, 39, 40, 41, 42, 43, 44, 45, 46, 47, 48, 49, 50, 51, 52, 53] [18, 19, 20, 21, 22, 23, 24, 25, 26, 27, 28, 29, 30, 31, 32, 33, 34, 35, 36, 37, 38, 39, 40, 41, 42, 43, 44, 45, 46, 47, 48, 49, 50, 51, 52, 53, 0, 1, 2, 3, 4, 5, 6, 7, 8, 9, 10, 11, 12, 13, 14, 15, 16, 17] rfl rfl rfl rfl rfl rfl rfl rfl hl.1 rfl (Nat.le_of_ble_eq_true rfl) dL_law_1438 ⟨hc1, hc2⟩ (fun _ H locs hP hD hS => ?_)
  refine lv_istore (lv' := [(6, .int r), (0, .ref b), (1, .ref (ad 0)), (2, .ref (um 0)), (3, .ref qo), (4, .ref qd), (5, .int (nI i))]) hx hb dL_law_1441 hl (by decide) rfl (fun ls hl => ?_)
  refine lv_aload_n hx hb dL_law_1443 rfl (lv_at hl 3 rfl) ?_
  refine lv_aload_n hx hb dL_law_1444 rfl (lv_at hl 1 rfl) ?_
  refine lv_iload hx hb dL_law_1445 (lv_at hl 6 rfl) ?_
  refine lv_iconst (v := 1) hx hb dL_law_1447 (by decide) ?_
  refine lv_iadd hx hb dL_law_1448 ?_
  refine va_sld hx hb hX hbl hbA hS (sc_in hi hL 1 (by decide)) dL_law_1449 ?_
  refine lv_aload_n hx hb dL_law_1450 rfl (lv_at hl 1 rfl) ?_
  refine lv_iload hx hb dL_law_1451 (lv_at hl 6 rfl) ?_
  refine lv_iconst (v := 2) hx hb dL_law_1453 (by decide) ?_
  refine lv_iadd hx hb dL_law_1454 ?_
  refine va_sld hx hb hX hbl hbA hS (sc_in hi hL 2 (by decide)) dL_law_1455 ?_
  refine rwV_back (rest := []) (As := [.int (xs (nI i + 1).toNatClampNeg), .int (xs (nI i + 2).toNatClampNeg)]) (wr := wdA G ad qo cl' f' ++ wdD G qd fd) (wf := wdL G ad um qo qd cl' (mkM r x.gain x.size u2 u3 u4 u5 x.parts x.isMinus x.readSpot x.isStar x.wantsNumber u6 u7 u8 u9 u10 u11 x.hash x.isThere x.v x.spotOf x.inMiddle x.tints x.buffer u12 u13 x.oldRanks x.part x.allRanks x.bases u14 u15 u16 u17) f' fd) S (ctX5_firstJoined l G (um 0) (um 1) (um 2) (um 3) (um 4) (um 5) (um 6) (um 7) (um 8) (um 9) (um 10) (um 11) (um 12) (um 13) (um 14) (um 15) (um 16) x.thrown x.gain x.size x.w x.s x.h x.laidArea x.parts x.isMinus x.readSpot x.isStar x.wantsNumber x.waiting x.shiftX x.shiftY x.times x.dotsLaid x.joinedLaid x.hash x.isThere x.v x.spotOf x.inMiddle x.tints x.buffer x.values x.ranks x.oldRanks x.part x.allRanks x.bases x.isMet x.metX x.metY x.line (xs (nI i + 1).toNatClampNeg) (xs (nI i + 2).toNatClampNeg) bb r u2 u3 u4 u5 u6 u7 u8 u9 u10 u11 u12 u13 u14 u15 u16 u17 e2) (cwV 2 hts gL_law_X5_firstJoined rfl rfl rfl hvyX5_firstJoined ⟨Nat.le_of_ble_eq_true rfl, Nat.le_of_ble_eq_true rfl⟩) hK hP hD hS xb_triv (fun _ _ _ => trivial) [37, 38, 39, 40, 41, 42, 43, 44, 45, 46, 47, 48, 49, 50, 51, 52, 53] [0, 1, 2, 3, 4, 5, 6, 7, 8, 9, 10, 11, 12, 13, 14, 15, 16, 17, 18, 19, 20, 21, 22, 23, 24, 25, 26, 27, 28, 29, 30, 31, 32, 33, 34, 35, 36] [0, 1, 2, 3, 4, 5, 6, 7, 8, 9, 10, 11, 12, 13, 14, 15, 16, 17, 18, 19, 20, 21, 22, 23, 24, 25, 26, 27, 28, 29, 30, 31, 32, 33, 34, 35, 36, 37, 38, 39, 40, 41, 42, 43, 44, 45, 46, 47, 48, 49, 50, 51, 52, 53] rfl rfl rfl rfl rfl rfl rfl 37 5 rfl rfl rfl rfl hl.1 rfl (Nat.le_of_ble_eq_true rfl) dL_law_1456 ⟨hc1, hc2⟩ (fun _ H locs hP hD hS => ?_)
  refine lv_istore (lv' := [(7, .int bb), (6, .int r), (0, .ref b), (1, .ref (ad 0)), (2, .ref (um 0)), (3, .ref qo), (4, .ref qd), (5, .int (nI i))]) hx hb dL_law_1459 hl (by decide) rfl (fun ls hl => ?_)
  refine lv_aload_n hx hb dL_law_1461 rfl (lv_at hl 4 rfl) ?_
  refine roVi1 (rest := []) (As := []) S (ctX5_thrown l G (um 0) (um 1) (um 2) (um 3) (um 4) (um 5) (um 6) (um 7) (um 8) (um 9) (um 10) (um 11) (um 12) (um 13) (um 14) (um 15) (um 16) r x.gain x.size u2 u3 u4 u5 x.parts x.isMinus x.readSpot x.isStar x.wantsNumber u6 u7 u8 u9 u10 u11 x.hash x.isThere x.v x.spotOf x.inMiddle x.tints x.buffer u12 u13 x.oldRanks x.part x.allRanks x.bases u14 u15 u16 u17 r rfl) (cwV 0 hts gL_law_X5_thrown rfl rfl rfl hvyX5_thrown ⟨Nat.le_of_ble_eq_true rfl, Nat.le_of_ble_eq_true rfl⟩) hK hP [37, 38, 39, 40, 41, 42, 43, 44, 45, 46, 47, 48, 49, 50, 51, 52, 53] rfl 37 5 rfl rfl rfl rfl hl.1 rfl (Nat.le_of_ble_eq_true rfl) dL_law_1462 ⟨hc1, hc2⟩ (fun _ => ?_)
  refine lv_iload hx hb dL_law_1465 (lv_at hl 1 rfl) ?_
  refine lv_icmp_eq (tgt := 1472) hx hb dL_law_1467 (by decide) (fun _ => ?_) (fun cn => absurd rfl cn)
  refine lv_iload hx hb dL_law_1472 (lv_at hl 1 rfl) ?_
  refine lv_if_ne (tgt := 1489) hx hb dL_law_1474 (by decide) (fun hr => ?_) (fun hr => ?_)
  · skip
    refine lv_goto (tgt := 2071) hx hb dL_law_1489 (by decide) ?_
    exact kk cl' (mkM r x.gain x.size u2 u3 u4 u5 x.parts x.isMinus x.readSpot x.isStar x.wantsNumber u6 u7 u8 u9 u10 u11 x.hash x.isThere x.v x.spotOf x.inMiddle x.tints x.buffer u12 u13 x.oldRanks x.part x.allRanks x.bases u14 u15 u16 u17) f' fd H locs ⟨hP, hD, hS, hI'⟩ ls (lv_sub hl [2, 3, 4, 5, 6, 7] rfl)
  · skip
    refine lv_aload_n hx hb dL_law_1477 rfl (lv_at hl 5 rfl) ?_
    refine lv_iconst (v := 0) hx hb dL_law_1478 (by decide) ?_
    refine va_lald hx hb hK.1 hP 35 3 rfl rfl (i := 0) (vp_in_iff.mpr ⟨by decide, by decide⟩) dL_law_1479 ?_
    refine lv_iload hx hb dL_law_1480 (lv_at hl 0 rfl) ?_
    refine lv_i2l hx hb dL_law_1482 rfl ?_
    refine W.lcmp hx hb dL_law_1483 ?_
    have h00 : f' ((0 : Int32).toNatClampNeg) = bb.toInt64 := e3 hr
    refine lv_if_eq (tgt := 1489) hx hb dL_law_1484 (by decide) (fun _ => ?_) (fun cn => absurd (by show lg_cmp _ _ = 0; rw [h00]; exact lgc _) cn)
    refine lv_goto (tgt := 2071) hx hb dL_law_1489 (by decide) ?_
    exact kk cl' (mkM r x.gain x.size u2 u3 u4 u5 x.parts x.isMinus x.readSpot x.isStar x.wantsNumber u6 u7 u8 u9 u10 u11 x.hash x.isThere x.v x.spotOf x.inMiddle x.tints x.buffer u12 u13 x.oldRanks x.part x.allRanks x.bases u14 u15 u16 u17) f' fd H locs ⟨hP, hD, hS, hI'⟩ ls (lv_sub hl [2, 3, 4, 5, 6, 7] rfl)
theorem hzyL_strength : yL_strength.cls ≠ "java/lang/invoke/MethodHandle" ∧ yL_strength.cls ≠ "java/lang/invoke/VarHandle" ∧ (parseMethodDescriptor yL_strength.desc).map (fun d => d.parameters.length) = some 4 := by decide +kernel
theorem hvyX5_strength : yX5_strength.cls = RX5 ∧ yX5_strength.cls ≠ "java/lang/invoke/MethodHandle" ∧ yX5_strength.cls ≠ "java/lang/invoke/VarHandle" ∧ (parseMethodDescriptor yX5_strength.desc).map (fun d => d.parameters.length) = some 2 := ⟨rfl, by decide +kernel⟩
set_option maxHeartbeats 4000000 in
set_option maxRecDepth 100000 in
theorem law_c20 {p : Program} {l : Launch} {e : Env} {s : State} {m : MethodId} {below : List Frame} {meth : Method} {c : Code} {b L : Nat} {xs : Nat → Int32} {G : GG} {ad um : Nat → Nat} {qo qd : Nat} {Q : State → Prop} (hF : LF p l s m c b L xs G) {i : Nat} (hi : i + 7 ≤ L) {cl : Cls} {x : Mdl} {f : Nat → Int64} {fd : Nat → UInt64} {H : Heap} {locs : List Loc} (hI : LSt s G ad um qo qd cl x f fd H locs) {cells slots : Nat} (hc1 : cells + 1 ≤ 601024) (hc2 : slots + 6 ≤ 7293034) {ls : Array Slot} (hl : lv_has ls 9 (lvL b ad um qo qd i)) (kk : LKont p l e s m below meth c b G ad um qo qd i cells slots Q) : W p l e room_1 s m #[Value.ref b] below meth c H locs cells slots Q (F0 m 1492 ls []) := by
  obtain ⟨⟨hx, hb, hml, hown, hts, hX, hbl⟩, hK, hT, hL, hfl⟩ := id hF
  obtain ⟨hP, hD, hS, hI⟩ := hI
  have hbA : ¬ AL s b := Nat.not_le.mpr hbl
  have S : CallFix p m c cL_law 9 s #[Value.ref b] lw_tbl RL := ⟨hx, hb, hml, hown, hts⟩
  refine lv_aload_n hx hb dL_law_1492 rfl (lv_at hl 1 rfl) ?_
  refine lv_aload_n hx hb dL_law_1493 rfl (lv_at hl 0 rfl) ?_
  refine lv_iload hx hb dL_law_1494 (lv_at hl 5 rfl) ?_
  refine lv_iconst (v := 1) hx hb dL_law_1496 (by decide) ?_
  refine lv_iadd hx hb dL_law_1497 ?_
  refine va_sld hx hb hX hbl hbA hS (sc_in hi hL 1 (by decide)) dL_law_1498 ?_
  refine lv_aload_n hx hb dL_law_1499 rfl (lv_at hl 0 rfl) ?_
  refine lv_iload hx hb dL_law_1500 (lv_at hl 5 rfl) ?_
  refine lv_iconst (v := 2) hx hb dL_law_1502 (by decide) ?_
  refine lv_iadd hx hb dL_law_1503 ?_
  refine va_sld hx hb hX hbl hbA hS (sc_in hi hL 2 (by decide)) dL_law_1504 ?_
  refine lv_aload_n hx hb dL_law_1505 rfl (lv_at hl 3 rfl) ?_
  obtain ⟨r, cl', f', bb, u2, u3, u4, u5, u6, u7, e1, e2, e3, hI'⟩ := LW_strength hI f (xs (nI i + 1).toNatClampNeg) (xs (nI i + 2).toNatClampNeg) x.w x.s x.h x.laidArea x.values x.ranks
  refine rwL (rest := []) (As := [.ref (ad 0), .int (xs (nI i + 1).toNatClampNeg), .int (xs (nI i + 2).toNatClampNeg), .ref qo]) (wr := wdD G qd fd ++ wdM G um x) (wf := wdL G ad um qo qd cl' x f' fd) S (lw_strength l hfl G ad qo cl cl' f f' (xs (nI i + 1).toNatClampNeg) (xs (nI i + 2).toNatClampNeg) r e1) (vx_cwSW 4 hts gL_law_L_strength rfl rfl rfl hzyL_strength ⟨Nat.le_of_ble_eq_true rfl, Nat.le_of_ble_eq_true rfl⟩) hK hP hD hS hT [0, 1, 2, 3, 4, 5, 6, 7, 8, 9, 10, 11, 12, 13, 14, 15, 16, 17, 18, 19, 20, 21, 22, 23, 24, 25, 26, 27, 28, 29, 30, 31, 32, 33, 34, 35] [36, 37, 38, 39, 40, 41, 42, 43, 44, 45, 46, 47, 48, 49, 50, 51, 52, 53] [18, 19, 20, 21, 22, 23, 24, 25, 26, 27, 28, 29, 30, 31, 32, 33, 34, 35, 36, 37, 38, 39, 40, 41, 42, 43, 44, 45, 46, 47, 48, 49, 50, 51, 52, 53, 0, 1, 2, 3, 4, 5, 6, 7, 8, 9, 10, 11, 12, 13, 14, 15, 16, 17] rfl rfl rfl rfl rfl rfl rfl rfl hl.1 rfl (Nat.le_of_ble_eq_true rfl) dL_law_1506 ⟨hc1, hc2⟩ (fun _ H locs hP hD hS => ?_)
  refine lv_istore (lv' := [(6, .int r), (0, .ref b), (1, .ref (ad 0)), (2, .ref (um 0)), (3, .ref qo), (4, .ref qd), (5, .int (nI i))]) hx hb dL_law_1509 hl (by decide) rfl (fun ls hl => ?_)
  refine lv_aload_n hx hb dL_law_1511 rfl (lv_at hl 3 rfl) ?_
  refine lv_aload_n hx hb dL_law_1512 rfl (lv_at hl 1 rfl) ?_
  refine lv_iload hx hb dL_law_1513 (lv_at hl 6 rfl) ?_
  refine lv_iconst (v := 1) hx hb dL_law_1515 (by decide) ?_
  refine lv_iadd hx hb dL_law_1516 ?_
  refine va_sld hx hb hX hbl hbA hS (sc_in hi hL 1 (by decide)) dL_law_1517 ?_
  refine lv_aload_n hx hb dL_law_1518 rfl (lv_at hl 1 rfl) ?_
  refine lv_iload hx hb dL_law_1519 (lv_at hl 6 rfl) ?_
  refine lv_iconst (v := 2) hx hb dL_law_1521 (by decide) ?_
  refine lv_iadd hx hb dL_law_1522 ?_
  refine va_sld hx hb hX hbl hbA hS (sc_in hi hL 2 (by decide)) dL_law_1523 ?_
  refine rwV_back (rest := []) (As := [.int (xs (nI i + 1).toNatClampNeg), .int (xs (nI i + 2).toNatClampNeg)]) (wr := wdA G ad qo cl' f' ++ wdD G qd fd) (wf := wdL G ad um qo qd cl' (mkM r x.gain x.size u2 u3 u4 u5 x.parts x.isMinus x.readSpot x.isStar x.wantsNumber x.waiting x.shiftX x.shiftY x.times x.dotsLaid x.joinedLaid x.hash x.isThere x.v x.spotOf x.inMiddle x.tints x.buffer u6 u7 x.oldRanks x.part x.allRanks x.bases x.isMet x.metX x.metY x.line) f' fd) S (ctX5_strength l G (um 0) (um 1) (um 2) (um 3) (um 4) (um 5) (um 6) (um 7) (um 8) (um 9) (um 10) (um 11) (um 12) (um 13) (um 14) (um 15) (um 16) x.thrown x.gain x.size x.w x.s x.h x.laidArea x.parts x.isMinus x.readSpot x.isStar x.wantsNumber x.waiting x.shiftX x.shiftY x.times x.dotsLaid x.joinedLaid x.hash x.isThere x.v x.spotOf x.inMiddle x.tints x.buffer x.values x.ranks x.oldRanks x.part x.allRanks x.bases x.isMet x.metX x.metY x.line (xs (nI i + 1).toNatClampNeg) (xs (nI i + 2).toNatClampNeg) bb r u2 u3 u4 u5 u6 u7 e2) (cwV 2 hts gL_law_X5_strength rfl rfl rfl hvyX5_strength ⟨Nat.le_of_ble_eq_true rfl, Nat.le_of_ble_eq_true rfl⟩) hK hP hD hS xb_triv (fun _ _ _ => trivial) [37, 38, 39, 40, 41, 42, 43, 44, 45, 46, 47, 48, 49, 50, 51, 52, 53] [0, 1, 2, 3, 4, 5, 6, 7, 8, 9, 10, 11, 12, 13, 14, 15, 16, 17, 18, 19, 20, 21, 22, 23, 24, 25, 26, 27, 28, 29, 30, 31, 32, 33, 34, 35, 36] [0, 1, 2, 3, 4, 5, 6, 7, 8, 9, 10, 11, 12, 13, 14, 15, 16, 17, 18, 19, 20, 21, 22, 23, 24, 25, 26, 27, 28, 29, 30, 31, 32, 33, 34, 35, 36, 37, 38, 39, 40, 41, 42, 43, 44, 45, 46, 47, 48, 49, 50, 51, 52, 53] rfl rfl rfl rfl rfl rfl rfl 37 5 rfl rfl rfl rfl hl.1 rfl (Nat.le_of_ble_eq_true rfl) dL_law_1524 ⟨hc1, hc2⟩ (fun _ H locs hP hD hS => ?_)
  refine lv_istore (lv' := [(7, .int bb), (6, .int r), (0, .ref b), (1, .ref (ad 0)), (2, .ref (um 0)), (3, .ref qo), (4, .ref qd), (5, .int (nI i))]) hx hb dL_law_1527 hl (by decide) rfl (fun ls hl => ?_)
  refine lv_aload_n hx hb dL_law_1529 rfl (lv_at hl 4 rfl) ?_
  refine roVi1 (rest := []) (As := []) S (ctX5_thrown l G (um 0) (um 1) (um 2) (um 3) (um 4) (um 5) (um 6) (um 7) (um 8) (um 9) (um 10) (um 11) (um 12) (um 13) (um 14) (um 15) (um 16) r x.gain x.size u2 u3 u4 u5 x.parts x.isMinus x.readSpot x.isStar x.wantsNumber x.waiting x.shiftX x.shiftY x.times x.dotsLaid x.joinedLaid x.hash x.isThere x.v x.spotOf x.inMiddle x.tints x.buffer u6 u7 x.oldRanks x.part x.allRanks x.bases x.isMet x.metX x.metY x.line r rfl) (cwV 0 hts gL_law_X5_thrown rfl rfl rfl hvyX5_thrown ⟨Nat.le_of_ble_eq_true rfl, Nat.le_of_ble_eq_true rfl⟩) hK hP [37, 38, 39, 40, 41, 42, 43, 44, 45, 46, 47, 48, 49, 50, 51, 52, 53] rfl 37 5 rfl rfl rfl rfl hl.1 rfl (Nat.le_of_ble_eq_true rfl) dL_law_1530 ⟨hc1, hc2⟩ (fun _ => ?_)
  refine lv_iload hx hb dL_law_1533 (lv_at hl 1 rfl) ?_
  refine lv_icmp_eq (tgt := 1540) hx hb dL_law_1535 (by decide) (fun _ => ?_) (fun cn => absurd rfl cn)
  refine lv_iload hx hb dL_law_1540 (lv_at hl 1 rfl) ?_
  refine lv_if_ne (tgt := 1557) hx hb dL_law_1542 (by decide) (fun hr => ?_) (fun hr => ?_)
  · skip
    refine lv_goto (tgt := 2071) hx hb dL_law_1557 (by decide) ?_
    exact kk cl' (mkM r x.gain x.size u2 u3 u4 u5 x.parts x.isMinus x.readSpot x.isStar x.wantsNumber x.waiting x.shiftX x.shiftY x.times x.dotsLaid x.joinedLaid x.hash x.isThere x.v x.spotOf x.inMiddle x.tints x.buffer u6 u7 x.oldRanks x.part x.allRanks x.bases x.isMet x.metX x.metY x.line) f' fd H locs ⟨hP, hD, hS, hI'⟩ ls (lv_sub hl [2, 3, 4, 5, 6, 7] rfl)
  · skip
    refine lv_aload_n hx hb dL_law_1545 rfl (lv_at hl 5 rfl) ?_
    refine lv_iconst (v := 0) hx hb dL_law_1546 (by decide) ?_
    refine va_lald hx hb hK.1 hP 35 3 rfl rfl (i := 0) (vp_in_iff.mpr ⟨by decide, by decide⟩) dL_law_1547 ?_
    refine lv_iload hx hb dL_law_1548 (lv_at hl 0 rfl) ?_
    refine lv_i2l hx hb dL_law_1550 rfl ?_
    refine W.lcmp hx hb dL_law_1551 ?_
    have h00 : f' ((0 : Int32).toNatClampNeg) = bb.toInt64 := e3 hr
    refine lv_if_eq (tgt := 1557) hx hb dL_law_1552 (by decide) (fun _ => ?_) (fun cn => absurd (by show lg_cmp _ _ = 0; rw [h00]; exact lgc _) cn)
    refine lv_goto (tgt := 2071) hx hb dL_law_1557 (by decide) ?_
    exact kk cl' (mkM r x.gain x.size u2 u3 u4 u5 x.parts x.isMinus x.readSpot x.isStar x.wantsNumber x.waiting x.shiftX x.shiftY x.times x.dotsLaid x.joinedLaid x.hash x.isThere x.v x.spotOf x.inMiddle x.tints x.buffer u6 u7 x.oldRanks x.part x.allRanks x.bases x.isMet x.metX x.metY x.line) f' fd H locs ⟨hP, hD, hS, hI'⟩ ls (lv_sub hl [2, 3, 4, 5, 6, 7] rfl)
