theorem hzyL_load : yL_load.cls ≠ "java/lang/invoke/MethodHandle" ∧ yL_load.cls ≠ "java/lang/invoke/VarHandle" ∧ (parseMethodDescriptor yL_load.desc).map (fun d => d.parameters.length) = some 3 := by decide +kernel
theorem hvyX5_load : yX5_load.cls = RX5 ∧ yX5_load.cls ≠ "java/lang/invoke/MethodHandle" ∧ yX5_load.cls ≠ "java/lang/invoke/VarHandle" ∧ (parseMethodDescriptor yX5_load.desc).map (fun d => d.parameters.length) = some 1 := ⟨rfl, by decide +kernel⟩
set_option maxHeartbeats 4000000 in
set_option maxRecDepth 100000 in
theorem law_c3 {p : Program} {l : Launch} {e : Env} {s : State} {m : MethodId} {below : List Frame} {meth : Method} {c : Code} {b L : Nat} {xs : Nat → Int32} {G : GG} {ad um : Nat → Nat} {qo qd : Nat} {Q : State → Prop} (hF : LF p l s m c b L xs G) {i : Nat} (hi : i + 7 ≤ L) {cl : Cls} {x : Mdl} {f : Nat → Int64} {fd : Nat → UInt64} {H : Heap} {locs : List Loc} (hI : LSt s G ad um qo qd cl x f fd H locs) {cells slots : Nat} (hc1 : cells + 1 ≤ 601024) (hc2 : slots + 6 ≤ 7293034) {ls : Array Slot} (hl : lv_has ls 9 (lvL b ad um qo qd i)) (kk : LKont p l e s m below meth c b G ad um qo qd i cells slots Q) : W p l e room_1 s m #[Value.ref b] below meth c H locs cells slots Q (F0 m 258 ls []) := by
  obtain ⟨⟨hx, hb, hml, hown, hts, hX, hbl⟩, hK, hT, hL, hfl⟩ := id hF
  obtain ⟨hP, hD, hS, hI⟩ := hI
  have hbA : ¬ AL s b := Nat.not_le.mpr hbl
  have S : CallFix p m c cL_law 9 s #[Value.ref b] lw_tbl RL := ⟨hx, hb, hml, hown, hts⟩
  refine lv_aload_n hx hb dL_law_258 rfl (lv_at hl 1 rfl) ?_
  refine lv_aload_n hx hb dL_law_259 rfl (lv_at hl 0 rfl) ?_
  refine lv_iload hx hb dL_law_260 (lv_at hl 5 rfl) ?_
  refine lv_iconst (v := 1) hx hb dL_law_262 (by decide) ?_
  refine lv_iadd hx hb dL_law_263 ?_
  refine va_sld hx hb hX hbl hbA hS (sc_in hi hL 1 (by decide)) dL_law_264 ?_
  refine lv_aload_n hx hb dL_law_265 rfl (lv_at hl 3 rfl) ?_
  obtain ⟨r, cl', f', bb, u2, u3, u4, u5, u6, u7, u8, u9, u10, u11, u12, u13, e1, e2, e3, hI'⟩ := LW_load hI f (xs (nI i + 1).toNatClampNeg) x.part
  refine rwL (rest := []) (As := [.ref (ad 0), .int (xs (nI i + 1).toNatClampNeg), .ref qo]) (wr := wdD G qd fd ++ wdM G um x) (wf := wdL G ad um qo qd cl' x f' fd) S (lw_load l hfl G ad qo cl cl' f f' (xs (nI i + 1).toNatClampNeg) r e1 (fun _ _ _ _ _ _ _ h => complete_z h) (fun _ _ _ _ _ _ _ h => complete_z h) (fun _ _ _ _ _ _ _ h => complete_z h) (fun _ _ _ _ _ _ _ h => complete_z h) (fun _ _ _ _ _ _ _ h => complete_z h) (fun _ _ _ _ _ _ _ h => complete_z h)) (vx_cwSW 3 hts gL_law_L_load rfl rfl rfl hzyL_load ⟨Nat.le_of_ble_eq_true rfl, Nat.le_of_ble_eq_true rfl⟩) hK hP hD hS hT [0, 1, 2, 3, 4, 5, 6, 7, 8, 9, 10, 11, 12, 13, 14, 15, 16, 17, 18, 19, 20, 21, 22, 23, 24, 25, 26, 27, 28, 29, 30, 31, 32, 33, 34, 35] [36, 37, 38, 39, 40, 41, 42, 43, 44, 45, 46, 47, 48, 49, 50, 51, 52, 53] [18, 19, 20, 21, 22, 23, 24, 25, 26, 27, 28, 29, 30, 31, 32, 33, 34, 35, 36, 37, 38, 39, 40, 41, 42, 43, 44, 45, 46, 47, 48, 49, 50, 51, 52, 53, 0, 1, 2, 3, 4, 5, 6, 7, 8, 9, 10, 11, 12, 13, 14, 15, 16, 17] rfl rfl rfl rfl rfl rfl rfl rfl hl.1 rfl (Nat.le_of_ble_eq_true rfl) dL_law_266 ⟨hc1, hc2⟩ (fun _ H locs hP hD hS => ?_)
  refine lv_istore (lv' := [(6, .int r), (0, .ref b), (1, .ref (ad 0)), (2, .ref (um 0)), (3, .ref qo), (4, .ref qd), (5, .int (nI i))]) hx hb dL_law_269 hl (by decide) rfl (fun ls hl => ?_)
  refine lv_aload_n hx hb dL_law_271 rfl (lv_at hl 3 rfl) ?_
  refine lv_aload_n hx hb dL_law_272 rfl (lv_at hl 1 rfl) ?_
  refine lv_iload hx hb dL_law_273 (lv_at hl 6 rfl) ?_
  refine lv_iconst (v := 1) hx hb dL_law_275 (by decide) ?_
  refine lv_iadd hx hb dL_law_276 ?_
  refine va_sld hx hb hX hbl hbA hS (sc_in hi hL 1 (by decide)) dL_law_277 ?_
  refine rwV_back (rest := []) (As := [.int (xs (nI i + 1).toNatClampNeg)]) (wr := wdA G ad qo cl' f' ++ wdD G qd fd) (wf := wdL G ad um qo qd cl' (mkM r x.gain u2 x.w x.s x.h x.laidArea u3 u4 u5 u6 u7 x.waiting x.shiftX x.shiftY x.times x.dotsLaid x.joinedLaid x.hash u8 u9 u10 u11 u12 x.buffer x.values x.ranks x.oldRanks u13 x.allRanks x.bases x.isMet x.metX x.metY x.line) f' fd) S (ctX5_load l G (um 0) (um 1) (um 2) (um 3) (um 4) (um 5) (um 6) (um 7) (um 8) (um 9) (um 10) (um 11) (um 12) (um 13) (um 14) (um 15) (um 16) x.thrown x.gain x.size x.w x.s x.h x.laidArea x.parts x.isMinus x.readSpot x.isStar x.wantsNumber x.waiting x.shiftX x.shiftY x.times x.dotsLaid x.joinedLaid x.hash x.isThere x.v x.spotOf x.inMiddle x.tints x.buffer x.values x.ranks x.oldRanks x.part x.allRanks x.bases x.isMet x.metX x.metY x.line (xs (nI i + 1).toNatClampNeg) bb r u2 u3 u4 u5 u6 u7 u8 u9 u10 u11 u12 u13 e2) (cwV 1 hts gL_law_X5_load rfl rfl rfl hvyX5_load ⟨Nat.le_of_ble_eq_true rfl, Nat.le_of_ble_eq_true rfl⟩) hK hP hD hS xb_triv (fun _ _ _ => trivial) [37, 38, 39, 40, 41, 42, 43, 44, 45, 46, 47, 48, 49, 50, 51, 52, 53] [0, 1, 2, 3, 4, 5, 6, 7, 8, 9, 10, 11, 12, 13, 14, 15, 16, 17, 18, 19, 20, 21, 22, 23, 24, 25, 26, 27, 28, 29, 30, 31, 32, 33, 34, 35, 36] [0, 1, 2, 3, 4, 5, 6, 7, 8, 9, 10, 11, 12, 13, 14, 15, 16, 17, 18, 19, 20, 21, 22, 23, 24, 25, 26, 27, 28, 29, 30, 31, 32, 33, 34, 35, 36, 37, 38, 39, 40, 41, 42, 43, 44, 45, 46, 47, 48, 49, 50, 51, 52, 53] rfl rfl rfl rfl rfl rfl rfl 37 5 rfl rfl rfl rfl hl.1 rfl (Nat.le_of_ble_eq_true rfl) dL_law_278 ⟨hc1, hc2⟩ (fun _ H locs hP hD hS => ?_)
  refine lv_istore (lv' := [(7, .int bb), (6, .int r), (0, .ref b), (1, .ref (ad 0)), (2, .ref (um 0)), (3, .ref qo), (4, .ref qd), (5, .int (nI i))]) hx hb dL_law_281 hl (by decide) rfl (fun ls hl => ?_)
  refine lv_aload_n hx hb dL_law_283 rfl (lv_at hl 4 rfl) ?_
  refine roVi1 (rest := []) (As := []) S (ctX5_thrown l G (um 0) (um 1) (um 2) (um 3) (um 4) (um 5) (um 6) (um 7) (um 8) (um 9) (um 10) (um 11) (um 12) (um 13) (um 14) (um 15) (um 16) r x.gain u2 x.w x.s x.h x.laidArea u3 u4 u5 u6 u7 x.waiting x.shiftX x.shiftY x.times x.dotsLaid x.joinedLaid x.hash u8 u9 u10 u11 u12 x.buffer x.values x.ranks x.oldRanks u13 x.allRanks x.bases x.isMet x.metX x.metY x.line r rfl) (cwV 0 hts gL_law_X5_thrown rfl rfl rfl hvyX5_thrown ⟨Nat.le_of_ble_eq_true rfl, Nat.le_of_ble_eq_true rfl⟩) hK hP [37, 38, 39, 40, 41, 42, 43, 44, 45, 46, 47, 48, 49, 50, 51, 52, 53] rfl 37 5 rfl rfl rfl rfl hl.1 rfl (Nat.le_of_ble_eq_true rfl) dL_law_284 ⟨hc1, hc2⟩ (fun _ => ?_)
  refine lv_iload hx hb dL_law_287 (lv_at hl 1 rfl) ?_
  refine lv_icmp_eq (tgt := 294) hx hb dL_law_289 (by decide) (fun _ => ?_) (fun cn => absurd rfl cn)
  refine lv_iload hx hb dL_law_294 (lv_at hl 1 rfl) ?_
  refine lv_if_ne (tgt := 311) hx hb dL_law_296 (by decide) (fun hr => ?_) (fun hr => ?_)
  · skip
    refine lv_goto (tgt := 2071) hx hb dL_law_311 (by decide) ?_
    exact kk cl' (mkM r x.gain u2 x.w x.s x.h x.laidArea u3 u4 u5 u6 u7 x.waiting x.shiftX x.shiftY x.times x.dotsLaid x.joinedLaid x.hash u8 u9 u10 u11 u12 x.buffer x.values x.ranks x.oldRanks u13 x.allRanks x.bases x.isMet x.metX x.metY x.line) f' fd H locs ⟨hP, hD, hS, hI'⟩ ls (lv_sub hl [2, 3, 4, 5, 6, 7] rfl)
  · skip
    refine lv_aload_n hx hb dL_law_299 rfl (lv_at hl 5 rfl) ?_
    refine lv_iconst (v := 0) hx hb dL_law_300 (by decide) ?_
    refine va_lald hx hb hK.1 hP 35 3 rfl rfl (i := 0) (vp_in_iff.mpr ⟨by decide, by decide⟩) dL_law_301 ?_
    refine lv_iload hx hb dL_law_302 (lv_at hl 0 rfl) ?_
    refine lv_i2l hx hb dL_law_304 rfl ?_
    refine W.lcmp hx hb dL_law_305 ?_
    have h00 : f' ((0 : Int32).toNatClampNeg) = bb.toInt64 := e3 hr
    refine lv_if_eq (tgt := 311) hx hb dL_law_306 (by decide) (fun _ => ?_) (fun cn => absurd (by show lg_cmp _ _ = 0; rw [h00]; exact lgc _) cn)
    refine lv_goto (tgt := 2071) hx hb dL_law_311 (by decide) ?_
    exact kk cl' (mkM r x.gain u2 x.w x.s x.h x.laidArea u3 u4 u5 u6 u7 x.waiting x.shiftX x.shiftY x.times x.dotsLaid x.joinedLaid x.hash u8 u9 u10 u11 u12 x.buffer x.values x.ranks x.oldRanks u13 x.allRanks x.bases x.isMet x.metX x.metY x.line) f' fd H locs ⟨hP, hD, hS, hI'⟩ ls (lv_sub hl [2, 3, 4, 5, 6, 7] rfl)
theorem hzyL_setScreen : yL_setScreen.cls ≠ "java/lang/invoke/MethodHandle" ∧ yL_setScreen.cls ≠ "java/lang/invoke/VarHandle" ∧ (parseMethodDescriptor yL_setScreen.desc).map (fun d => d.parameters.length) = some 8 := by decide +kernel
theorem hvyX5_setScreen : yX5_setScreen.cls = RX5 ∧ yX5_setScreen.cls ≠ "java/lang/invoke/MethodHandle" ∧ yX5_setScreen.cls ≠ "java/lang/invoke/VarHandle" ∧ (parseMethodDescriptor yX5_setScreen.desc).map (fun d => d.parameters.length) = some 6 := ⟨rfl, by decide +kernel⟩
set_option maxHeartbeats 4000000 in
set_option maxRecDepth 100000 in
theorem law_c4 {p : Program} {l : Launch} {e : Env} {s : State} {m : MethodId} {below : List Frame} {meth : Method} {c : Code} {b L : Nat} {xs : Nat → Int32} {G : GG} {ad um : Nat → Nat} {qo qd : Nat} {Q : State → Prop} (hF : LF p l s m c b L xs G) {i : Nat} (hi : i + 7 ≤ L) {cl : Cls} {x : Mdl} {f : Nat → Int64} {fd : Nat → UInt64} {H : Heap} {locs : List Loc} (hI : LSt s G ad um qo qd cl x f fd H locs) {cells slots : Nat} (hc1 : cells + 1 ≤ 601024) (hc2 : slots + 6 ≤ 7293034) {ls : Array Slot} (hl : lv_has ls 9 (lvL b ad um qo qd i)) (kk : LKont p l e s m below meth c b G ad um qo qd i cells slots Q) : W p l e room_1 s m #[Value.ref b] below meth c H locs cells slots Q (F0 m 314 ls []) := by
  obtain ⟨⟨hx, hb, hml, hown, hts, hX, hbl⟩, hK, hT, hL, hfl⟩ := id hF
  obtain ⟨hP, hD, hS, hI⟩ := hI
  have hbA : ¬ AL s b := Nat.not_le.mpr hbl
  have S : CallFix p m c cL_law 9 s #[Value.ref b] lw_tbl RL := ⟨hx, hb, hml, hown, hts⟩
  refine lv_aload_n hx hb dL_law_314 rfl (lv_at hl 1 rfl) ?_
  refine lv_aload_n hx hb dL_law_315 rfl (lv_at hl 0 rfl) ?_
  refine lv_iload hx hb dL_law_316 (lv_at hl 5 rfl) ?_
  refine lv_iconst (v := 1) hx hb dL_law_318 (by decide) ?_
  refine lv_iadd hx hb dL_law_319 ?_
  refine va_sld hx hb hX hbl hbA hS (sc_in hi hL 1 (by decide)) dL_law_320 ?_
  refine lv_aload_n hx hb dL_law_321 rfl (lv_at hl 0 rfl) ?_
  refine lv_iload hx hb dL_law_322 (lv_at hl 5 rfl) ?_
  refine lv_iconst (v := 2) hx hb dL_law_324 (by decide) ?_
  refine lv_iadd hx hb dL_law_325 ?_
  refine va_sld hx hb hX hbl hbA hS (sc_in hi hL 2 (by decide)) dL_law_326 ?_
  refine lv_aload_n hx hb dL_law_327 rfl (lv_at hl 0 rfl) ?_
  refine lv_iload hx hb dL_law_328 (lv_at hl 5 rfl) ?_
  refine lv_iconst (v := 3) hx hb dL_law_330 (by decide) ?_
  refine lv_iadd hx hb dL_law_331 ?_
  refine va_sld hx hb hX hbl hbA hS (sc_in hi hL 3 (by decide)) dL_law_332 ?_
  refine lv_aload_n hx hb dL_law_333 rfl (lv_at hl 0 rfl) ?_
  refine lv_iload hx hb dL_law_334 (lv_at hl 5 rfl) ?_
  refine lv_iconst (v := 4) hx hb dL_law_336 (by decide) ?_
  refine lv_iadd hx hb dL_law_337 ?_
  refine va_sld hx hb hX hbl hbA hS (sc_in hi hL 4 (by decide)) dL_law_338 ?_
  refine lv_aload_n hx hb dL_law_339 rfl (lv_at hl 0 rfl) ?_
  refine lv_iload hx hb dL_law_340 (lv_at hl 5 rfl) ?_
  refine lv_iconst (v := 5) hx hb dL_law_342 (by decide) ?_
  refine lv_iadd hx hb dL_law_343 ?_
  refine va_sld hx hb hX hbl hbA hS (sc_in hi hL 5 (by decide)) dL_law_344 ?_
  refine lv_aload_n hx hb dL_law_345 rfl (lv_at hl 0 rfl) ?_
  refine lv_iload hx hb dL_law_346 (lv_at hl 5 rfl) ?_
  refine lv_bipush (v := 6) hx hb dL_law_348 (by decide) ?_
  refine lv_iadd hx hb dL_law_350 ?_
  refine va_sld hx hb hX hbl hbA hS (sc_in hi hL 6 (by decide)) dL_law_351 ?_
  refine lv_aload_n hx hb dL_law_352 rfl (lv_at hl 3 rfl) ?_
  obtain ⟨r, cl', f', bb, u2, u3, u4, u5, u6, e1, e2, e3, hI'⟩ := LW_setScreen hI f (xs (nI i + 1).toNatClampNeg) (xs (nI i + 2).toNatClampNeg) (xs (nI i + 3).toNatClampNeg) (xs (nI i + 4).toNatClampNeg) (xs (nI i + 5).toNatClampNeg) (xs (nI i + 6).toNatClampNeg) 
  refine rwL (rest := []) (As := [.ref (ad 0), .int (xs (nI i + 1).toNatClampNeg), .int (xs (nI i + 2).toNatClampNeg), .int (xs (nI i + 3).toNatClampNeg), .int (xs (nI i + 4).toNatClampNeg), .int (xs (nI i + 5).toNatClampNeg), .int (xs (nI i + 6).toNatClampNeg), .ref qo]) (wr := wdD G qd fd ++ wdM G um x) (wf := wdL G ad um qo qd cl' x f' fd) S (lw_setScreen l hfl G ad qo cl cl' f f' (xs (nI i + 1).toNatClampNeg) (xs (nI i + 2).toNatClampNeg) (xs (nI i + 3).toNatClampNeg) (xs (nI i + 4).toNatClampNeg) (xs (nI i + 5).toNatClampNeg) (xs (nI i + 6).toNatClampNeg) r e1) (vx_cwSW 8 hts gL_law_L_setScreen rfl rfl rfl hzyL_setScreen ⟨Nat.le_of_ble_eq_true rfl, Nat.le_of_ble_eq_true rfl⟩) hK hP hD hS hT [0, 1, 2, 3, 4, 5, 6, 7, 8, 9, 10, 11, 12, 13, 14, 15, 16, 17, 18, 19, 20, 21, 22, 23, 24, 25, 26, 27, 28, 29, 30, 31, 32, 33, 34, 35] [36, 37, 38, 39, 40, 41, 42, 43, 44, 45, 46, 47, 48, 49, 50, 51, 52, 53] [18, 19, 20, 21, 22, 23, 24, 25, 26, 27, 28, 29, 30, 31, 32, 33, 34, 35, 36, 37, 38, 39, 40, 41, 42, 43, 44, 45, 46, 47, 48, 49, 50, 51, 52, 53, 0, 1, 2, 3, 4, 5, 6, 7, 8, 9, 10, 11, 12, 13, 14, 15, 16, 17] rfl rfl rfl rfl rfl rfl rfl rfl hl.1 rfl (Nat.le_of_ble_eq_true rfl) dL_law_353 ⟨hc1, hc2⟩ (fun _ H locs hP hD hS => ?_)
  refine lv_istore (lv' := [(6, .int r), (0, .ref b), (1, .ref (ad 0)), (2, .ref (um 0)), (3, .ref qo), (4, .ref qd), (5, .int (nI i))]) hx hb dL_law_356 hl (by decide) rfl (fun ls hl => ?_)
  refine lv_aload_n hx hb dL_law_358 rfl (lv_at hl 3 rfl) ?_
  refine lv_aload_n hx hb dL_law_359 rfl (lv_at hl 1 rfl) ?_
  refine lv_iload hx hb dL_law_360 (lv_at hl 6 rfl) ?_
  refine lv_iconst (v := 1) hx hb dL_law_362 (by decide) ?_
  refine lv_iadd hx hb dL_law_363 ?_
  refine va_sld hx hb hX hbl hbA hS (sc_in hi hL 1 (by decide)) dL_law_364 ?_
  refine lv_aload_n hx hb dL_law_365 rfl (lv_at hl 1 rfl) ?_
  refine lv_iload hx hb dL_law_366 (lv_at hl 6 rfl) ?_
  refine lv_iconst (v := 2) hx hb dL_law_368 (by decide) ?_
  refine lv_iadd hx hb dL_law_369 ?_
  refine va_sld hx hb hX hbl hbA hS (sc_in hi hL 2 (by decide)) dL_law_370 ?_
  refine lv_aload_n hx hb dL_law_371 rfl (lv_at hl 1 rfl) ?_
  refine lv_iload hx hb dL_law_372 (lv_at hl 6 rfl) ?_
  refine lv_iconst (v := 3) hx hb dL_law_374 (by decide) ?_
  refine lv_iadd hx hb dL_law_375 ?_
  refine va_sld hx hb hX hbl hbA hS (sc_in hi hL 3 (by decide)) dL_law_376 ?_
  refine lv_aload_n hx hb dL_law_377 rfl (lv_at hl 1 rfl) ?_
  refine lv_iload hx hb dL_law_378 (lv_at hl 6 rfl) ?_
  refine lv_iconst (v := 4) hx hb dL_law_380 (by decide) ?_
  refine lv_iadd hx hb dL_law_381 ?_
  refine va_sld hx hb hX hbl hbA hS (sc_in hi hL 4 (by decide)) dL_law_382 ?_
  refine lv_aload_n hx hb dL_law_383 rfl (lv_at hl 1 rfl) ?_
  refine lv_iload hx hb dL_law_384 (lv_at hl 6 rfl) ?_
  refine lv_iconst (v := 5) hx hb dL_law_386 (by decide) ?_
  refine lv_iadd hx hb dL_law_387 ?_
  refine va_sld hx hb hX hbl hbA hS (sc_in hi hL 5 (by decide)) dL_law_388 ?_
  refine lv_aload_n hx hb dL_law_389 rfl (lv_at hl 1 rfl) ?_
  refine lv_iload hx hb dL_law_390 (lv_at hl 6 rfl) ?_
  refine lv_bipush (v := 6) hx hb dL_law_392 (by decide) ?_
  refine lv_iadd hx hb dL_law_394 ?_
  refine va_sld hx hb hX hbl hbA hS (sc_in hi hL 6 (by decide)) dL_law_395 ?_
  refine rwV_back (rest := []) (As := [.int (xs (nI i + 1).toNatClampNeg), .int (xs (nI i + 2).toNatClampNeg), .int (xs (nI i + 3).toNatClampNeg), .int (xs (nI i + 4).toNatClampNeg), .int (xs (nI i + 5).toNatClampNeg), .int (xs (nI i + 6).toNatClampNeg)]) (wr := wdA G ad qo cl' f' ++ wdD G qd fd) (wf := wdL G ad um qo qd cl' (mkM r x.gain x.size x.w x.s x.h x.laidArea x.parts x.isMinus x.readSpot x.isStar x.wantsNumber x.waiting x.shiftX x.shiftY x.times x.dotsLaid x.joinedLaid x.hash u2 u3 u4 u5 u6 x.buffer x.values x.ranks x.oldRanks x.part x.allRanks x.bases x.isMet x.metX x.metY x.line) f' fd) S (ctX5_setScreen l G (um 0) (um 1) (um 2) (um 3) (um 4) (um 5) (um 6) (um 7) (um 8) (um 9) (um 10) (um 11) (um 12) (um 13) (um 14) (um 15) (um 16) x.thrown x.gain x.size x.w x.s x.h x.laidArea x.parts x.isMinus x.readSpot x.isStar x.wantsNumber x.waiting x.shiftX x.shiftY x.times x.dotsLaid x.joinedLaid x.hash x.isThere x.v x.spotOf x.inMiddle x.tints x.buffer x.values x.ranks x.oldRanks x.part x.allRanks x.bases x.isMet x.metX x.metY x.line (xs (nI i + 1).toNatClampNeg) (xs (nI i + 2).toNatClampNeg) (xs (nI i + 3).toNatClampNeg) (xs (nI i + 4).toNatClampNeg) (xs (nI i + 5).toNatClampNeg) (xs (nI i + 6).toNatClampNeg) bb r u2 u3 u4 u5 u6 e2) (cwV 6 hts gL_law_X5_setScreen rfl rfl rfl hvyX5_setScreen ⟨Nat.le_of_ble_eq_true rfl, Nat.le_of_ble_eq_true rfl⟩) hK hP hD hS xb_triv (fun _ _ _ => trivial) [37, 38, 39, 40, 41, 42, 43, 44, 45, 46, 47, 48, 49, 50, 51, 52, 53] [0, 1, 2, 3, 4, 5, 6, 7, 8, 9, 10, 11, 12, 13, 14, 15, 16, 17, 18, 19, 20, 21, 22, 23, 24, 25, 26, 27, 28, 29, 30, 31, 32, 33, 34, 35, 36] [0, 1, 2, 3, 4, 5, 6, 7, 8, 9, 10, 11, 12, 13, 14, 15, 16, 17, 18, 19, 20, 21, 22, 23, 24, 25, 26, 27, 28, 29, 30, 31, 32, 33, 34, 35, 36, 37, 38, 39, 40, 41, 42, 43, 44, 45, 46, 47, 48, 49, 50, 51, 52, 53] rfl rfl rfl rfl rfl rfl rfl 37 5 rfl rfl rfl rfl hl.1 rfl (Nat.le_of_ble_eq_true rfl) dL_law_396 ⟨hc1, hc2⟩ (fun _ H locs hP hD hS => ?_)
  refine lv_istore (lv' := [(7, .int bb), (6, .int r), (0, .ref b), (1, .ref (ad 0)), (2, .ref (um 0)), (3, .ref qo), (4, .ref qd), (5, .int (nI i))]) hx hb dL_law_399 hl (by decide) rfl (fun ls hl => ?_)
  refine lv_aload_n hx hb dL_law_401 rfl (lv_at hl 4 rfl) ?_
  refine roVi1 (rest := []) (As := []) S (ctX5_thrown l G (um 0) (um 1) (um 2) (um 3) (um 4) (um 5) (um 6) (um 7) (um 8) (um 9) (um 10) (um 11) (um 12) (um 13) (um 14) (um 15) (um 16) r x.gain x.size x.w x.s x.h x.laidArea x.parts x.isMinus x.readSpot x.isStar x.wantsNumber x.waiting x.shiftX x.shiftY x.times x.dotsLaid x.joinedLaid x.hash u2 u3 u4 u5 u6 x.buffer x.values x.ranks x.oldRanks x.part x.allRanks x.bases x.isMet x.metX x.metY x.line r rfl) (cwV 0 hts gL_law_X5_thrown rfl rfl rfl hvyX5_thrown ⟨Nat.le_of_ble_eq_true rfl, Nat.le_of_ble_eq_true rfl⟩) hK hP [37, 38, 39, 40, 41, 42, 43, 44, 45, 46, 47, 48, 49, 50, 51, 52, 53] rfl 37 5 rfl rfl rfl rfl hl.1 rfl (Nat.le_of_ble_eq_true rfl) dL_law_402 ⟨hc1, hc2⟩ (fun _ => ?_)
  refine lv_iload hx hb dL_law_405 (lv_at hl 1 rfl) ?_
  refine lv_icmp_eq (tgt := 412) hx hb dL_law_407 (by decide) (fun _ => ?_) (fun cn => absurd rfl cn)
  refine lv_iload hx hb dL_law_412 (lv_at hl 1 rfl) ?_
  refine lv_if_ne (tgt := 429) hx hb dL_law_414 (by decide) (fun hr => ?_) (fun hr => ?_)
  · skip
    refine lv_goto (tgt := 2071) hx hb dL_law_429 (by decide) ?_
    exact kk cl' (mkM r x.gain x.size x.w x.s x.h x.laidArea x.parts x.isMinus x.readSpot x.isStar x.wantsNumber x.waiting x.shiftX x.shiftY x.times x.dotsLaid x.joinedLaid x.hash u2 u3 u4 u5 u6 x.buffer x.values x.ranks x.oldRanks x.part x.allRanks x.bases x.isMet x.metX x.metY x.line) f' fd H locs ⟨hP, hD, hS, hI'⟩ ls (lv_sub hl [2, 3, 4, 5, 6, 7] rfl)
  · skip
    refine lv_aload_n hx hb dL_law_417 rfl (lv_at hl 5 rfl) ?_
    refine lv_iconst (v := 0) hx hb dL_law_418 (by decide) ?_
    refine va_lald hx hb hK.1 hP 35 3 rfl rfl (i := 0) (vp_in_iff.mpr ⟨by decide, by decide⟩) dL_law_419 ?_
    refine lv_iload hx hb dL_law_420 (lv_at hl 0 rfl) ?_
    refine lv_i2l hx hb dL_law_422 rfl ?_
    refine W.lcmp hx hb dL_law_423 ?_
    have h00 : f' ((0 : Int32).toNatClampNeg) = bb.toInt64 := e3 hr
    refine lv_if_eq (tgt := 429) hx hb dL_law_424 (by decide) (fun _ => ?_) (fun cn => absurd (by show lg_cmp _ _ = 0; rw [h00]; exact lgc _) cn)
    refine lv_goto (tgt := 2071) hx hb dL_law_429 (by decide) ?_
    exact kk cl' (mkM r x.gain x.size x.w x.s x.h x.laidArea x.parts x.isMinus x.readSpot x.isStar x.wantsNumber x.waiting x.shiftX x.shiftY x.times x.dotsLaid x.joinedLaid x.hash u2 u3 u4 u5 u6 x.buffer x.values x.ranks x.oldRanks x.part x.allRanks x.bases x.isMet x.metX x.metY x.line) f' fd H locs ⟨hP, hD, hS, hI'⟩ ls (lv_sub hl [2, 3, 4, 5, 6, 7] rfl)
theorem hzyL_remove : yL_remove.cls ≠ "java/lang/invoke/MethodHandle" ∧ yL_remove.cls ≠ "java/lang/invoke/VarHandle" ∧ (parseMethodDescriptor yL_remove.desc).map (fun d => d.parameters.length) = some 3 := by decide +kernel
theorem hvyX5_remove : yX5_remove.cls = RX5 ∧ yX5_remove.cls ≠ "java/lang/invoke/MethodHandle" ∧ yX5_remove.cls ≠ "java/lang/invoke/VarHandle" ∧ (parseMethodDescriptor yX5_remove.desc).map (fun d => d.parameters.length) = some 1 := ⟨rfl, by decide +kernel⟩
set_option maxHeartbeats 4000000 in
set_option maxRecDepth 100000 in
theorem law_c5 {p : Program} {l : Launch} {e : Env} {s : State} {m : MethodId} {below : List Frame} {meth : Method} {c : Code} {b L : Nat} {xs : Nat → Int32} {G : GG} {ad um : Nat → Nat} {qo qd : Nat} {Q : State → Prop} (hF : LF p l s m c b L xs G) {i : Nat} (hi : i + 7 ≤ L) {cl : Cls} {x : Mdl} {f : Nat → Int64} {fd : Nat → UInt64} {H : Heap} {locs : List Loc} (hI : LSt s G ad um qo qd cl x f fd H locs) {cells slots : Nat} (hc1 : cells + 1 ≤ 601024) (hc2 : slots + 6 ≤ 7293034) {ls : Array Slot} (hl : lv_has ls 9 (lvL b ad um qo qd i)) (kk : LKont p l e s m below meth c b G ad um qo qd i cells slots Q) : W p l e room_1 s m #[Value.ref b] below meth c H locs cells slots Q (F0 m 432 ls []) := by
  obtain ⟨⟨hx, hb, hml, hown, hts, hX, hbl⟩, hK, hT, hL, hfl⟩ := id hF
  obtain ⟨hP, hD, hS, hI⟩ := hI
  have hbA : ¬ AL s b := Nat.not_le.mpr hbl
  have S : CallFix p m c cL_law 9 s #[Value.ref b] lw_tbl RL := ⟨hx, hb, hml, hown, hts⟩
  refine lv_aload_n hx hb dL_law_432 rfl (lv_at hl 1 rfl) ?_
  refine lv_aload_n hx hb dL_law_433 rfl (lv_at hl 0 rfl) ?_
  refine lv_iload hx hb dL_law_434 (lv_at hl 5 rfl) ?_
  refine lv_iconst (v := 1) hx hb dL_law_436 (by decide) ?_
  refine lv_iadd hx hb dL_law_437 ?_
  refine va_sld hx hb hX hbl hbA hS (sc_in hi hL 1 (by decide)) dL_law_438 ?_
  refine lv_aload_n hx hb dL_law_439 rfl (lv_at hl 3 rfl) ?_
  obtain ⟨r, cl', f', bb, u2, e1, e2, e3, hI'⟩ := LW_remove hI f (xs (nI i + 1).toNatClampNeg) 
  refine rwL (rest := []) (As := [.ref (ad 0), .int (xs (nI i + 1).toNatClampNeg), .ref qo]) (wr := wdD G qd fd ++ wdM G um x) (wf := wdL G ad um qo qd cl' x f' fd) S (lw_remove l hfl G ad qo cl cl' f f' (xs (nI i + 1).toNatClampNeg) r e1) (vx_cwSW 3 hts gL_law_L_remove rfl rfl rfl hzyL_remove ⟨Nat.le_of_ble_eq_true rfl, Nat.le_of_ble_eq_true rfl⟩) hK hP hD hS hT [0, 1, 2, 3, 4, 5, 6, 7, 8, 9, 10, 11, 12, 13, 14, 15, 16, 17, 18, 19, 20, 21, 22, 23, 24, 25, 26, 27, 28, 29, 30, 31, 32, 33, 34, 35] [36, 37, 38, 39, 40, 41, 42, 43, 44, 45, 46, 47, 48, 49, 50, 51, 52, 53] [18, 19, 20, 21, 22, 23, 24, 25, 26, 27, 28, 29, 30, 31, 32, 33, 34, 35, 36, 37, 38, 39, 40, 41, 42, 43, 44, 45, 46, 47, 48, 49, 50, 51, 52, 53, 0, 1, 2, 3, 4, 5, 6, 7, 8, 9, 10, 11, 12, 13, 14, 15, 16, 17] rfl rfl rfl rfl rfl rfl rfl rfl hl.1 rfl (Nat.le_of_ble_eq_true rfl) dL_law_440 ⟨hc1, hc2⟩ (fun _ H locs hP hD hS => ?_)
  refine lv_istore (lv' := [(6, .int r), (0, .ref b), (1, .ref (ad 0)), (2, .ref (um 0)), (3, .ref qo), (4, .ref qd), (5, .int (nI i))]) hx hb dL_law_443 hl (by decide) rfl (fun ls hl => ?_)
  refine lv_aload_n hx hb dL_law_445 rfl (lv_at hl 3 rfl) ?_
  refine lv_aload_n hx hb dL_law_446 rfl (lv_at hl 1 rfl) ?_
  refine lv_iload hx hb dL_law_447 (lv_at hl 6 rfl) ?_
  refine lv_iconst (v := 1) hx hb dL_law_449 (by decide) ?_
  refine lv_iadd hx hb dL_law_450 ?_
  refine va_sld hx hb hX hbl hbA hS (sc_in hi hL 1 (by decide)) dL_law_451 ?_
  refine rwV_back (rest := []) (As := [.int (xs (nI i + 1).toNatClampNeg)]) (wr := wdA G ad qo cl' f' ++ wdD G qd fd) (wf := wdL G ad um qo qd cl' (mkM r x.gain x.size x.w x.s x.h x.laidArea x.parts x.isMinus x.readSpot x.isStar x.wantsNumber x.waiting x.shiftX x.shiftY x.times x.dotsLaid x.joinedLaid x.hash u2 x.v x.spotOf x.inMiddle x.tints x.buffer x.values x.ranks x.oldRanks x.part x.allRanks x.bases x.isMet x.metX x.metY x.line) f' fd) S (ctX5_remove l G (um 0) (um 1) (um 2) (um 3) (um 4) (um 5) (um 6) (um 7) (um 8) (um 9) (um 10) (um 11) (um 12) (um 13) (um 14) (um 15) (um 16) x.thrown x.gain x.size x.w x.s x.h x.laidArea x.parts x.isMinus x.readSpot x.isStar x.wantsNumber x.waiting x.shiftX x.shiftY x.times x.dotsLaid x.joinedLaid x.hash x.isThere x.v x.spotOf x.inMiddle x.tints x.buffer x.values x.ranks x.oldRanks x.part x.allRanks x.bases x.isMet x.metX x.metY x.line (xs (nI i + 1).toNatClampNeg) bb r u2 e2) (cwV 1 hts gL_law_X5_remove rfl rfl rfl hvyX5_remove ⟨Nat.le_of_ble_eq_true rfl, Nat.le_of_ble_eq_true rfl⟩) hK hP hD hS xb_triv (fun _ _ _ => trivial) [37, 38, 39, 40, 41, 42, 43, 44, 45, 46, 47, 48, 49, 50, 51, 52, 53] [0, 1, 2, 3, 4, 5, 6, 7, 8, 9, 10, 11, 12, 13, 14, 15, 16, 17, 18, 19, 20, 21, 22, 23, 24, 25, 26, 27, 28, 29, 30, 31, 32, 33, 34, 35, 36] [0, 1, 2, 3, 4, 5, 6, 7, 8, 9, 10, 11, 12, 13, 14, 15, 16, 17, 18, 19, 20, 21, 22, 23, 24, 25, 26, 27, 28, 29, 30, 31, 32, 33, 34, 35, 36, 37, 38, 39, 40, 41, 42, 43, 44, 45, 46, 47, 48, 49, 50, 51, 52, 53] rfl rfl rfl rfl rfl rfl rfl 37 5 rfl rfl rfl rfl hl.1 rfl (Nat.le_of_ble_eq_true rfl) dL_law_452 ⟨hc1, hc2⟩ (fun _ H locs hP hD hS => ?_)
  refine lv_istore (lv' := [(7, .int bb), (6, .int r), (0, .ref b), (1, .ref (ad 0)), (2, .ref (um 0)), (3, .ref qo), (4, .ref qd), (5, .int (nI i))]) hx hb dL_law_455 hl (by decide) rfl (fun ls hl => ?_)
  refine lv_aload_n hx hb dL_law_457 rfl (lv_at hl 4 rfl) ?_
  refine roVi1 (rest := []) (As := []) S (ctX5_thrown l G (um 0) (um 1) (um 2) (um 3) (um 4) (um 5) (um 6) (um 7) (um 8) (um 9) (um 10) (um 11) (um 12) (um 13) (um 14) (um 15) (um 16) r x.gain x.size x.w x.s x.h x.laidArea x.parts x.isMinus x.readSpot x.isStar x.wantsNumber x.waiting x.shiftX x.shiftY x.times x.dotsLaid x.joinedLaid x.hash u2 x.v x.spotOf x.inMiddle x.tints x.buffer x.values x.ranks x.oldRanks x.part x.allRanks x.bases x.isMet x.metX x.metY x.line r rfl) (cwV 0 hts gL_law_X5_thrown rfl rfl rfl hvyX5_thrown ⟨Nat.le_of_ble_eq_true rfl, Nat.le_of_ble_eq_true rfl⟩) hK hP [37, 38, 39, 40, 41, 42, 43, 44, 45, 46, 47, 48, 49, 50, 51, 52, 53] rfl 37 5 rfl rfl rfl rfl hl.1 rfl (Nat.le_of_ble_eq_true rfl) dL_law_458 ⟨hc1, hc2⟩ (fun _ => ?_)
  refine lv_iload hx hb dL_law_461 (lv_at hl 1 rfl) ?_
  refine lv_icmp_eq (tgt := 468) hx hb dL_law_463 (by decide) (fun _ => ?_) (fun cn => absurd rfl cn)
  refine lv_iload hx hb dL_law_468 (lv_at hl 1 rfl) ?_
  refine lv_if_ne (tgt := 485) hx hb dL_law_470 (by decide) (fun hr => ?_) (fun hr => ?_)
  · skip
    refine lv_goto (tgt := 2071) hx hb dL_law_485 (by decide) ?_
    exact kk cl' (mkM r x.gain x.size x.w x.s x.h x.laidArea x.parts x.isMinus x.readSpot x.isStar x.wantsNumber x.waiting x.shiftX x.shiftY x.times x.dotsLaid x.joinedLaid x.hash u2 x.v x.spotOf x.inMiddle x.tints x.buffer x.values x.ranks x.oldRanks x.part x.allRanks x.bases x.isMet x.metX x.metY x.line) f' fd H locs ⟨hP, hD, hS, hI'⟩ ls (lv_sub hl [2, 3, 4, 5, 6, 7] rfl)
  · skip
    refine lv_aload_n hx hb dL_law_473 rfl (lv_at hl 5 rfl) ?_
    refine lv_iconst (v := 0) hx hb dL_law_474 (by decide) ?_
    refine va_lald hx hb hK.1 hP 35 3 rfl rfl (i := 0) (vp_in_iff.mpr ⟨by decide, by decide⟩) dL_law_475 ?_
    refine lv_iload hx hb dL_law_476 (lv_at hl 0 rfl) ?_
    refine lv_i2l hx hb dL_law_478 rfl ?_
    refine W.lcmp hx hb dL_law_479 ?_
    have h00 : f' ((0 : Int32).toNatClampNeg) = bb.toInt64 := e3 hr
    refine lv_if_eq (tgt := 485) hx hb dL_law_480 (by decide) (fun _ => ?_) (fun cn => absurd (by show lg_cmp _ _ = 0; rw [h00]; exact lgc _) cn)
    refine lv_goto (tgt := 2071) hx hb dL_law_485 (by decide) ?_
    exact kk cl' (mkM r x.gain x.size x.w x.s x.h x.laidArea x.parts x.isMinus x.readSpot x.isStar x.wantsNumber x.waiting x.shiftX x.shiftY x.times x.dotsLaid x.joinedLaid x.hash u2 x.v x.spotOf x.inMiddle x.tints x.buffer x.values x.ranks x.oldRanks x.part x.allRanks x.bases x.isMet x.metX x.metY x.line) f' fd H locs ⟨hP, hD, hS, hI'⟩ ls (lv_sub hl [2, 3, 4, 5, 6, 7] rfl)
theorem hzyL_setCenter : yL_setCenter.cls ≠ "java/lang/invoke/MethodHandle" ∧ yL_setCenter.cls ≠ "java/lang/invoke/VarHandle" ∧ (parseMethodDescriptor yL_setCenter.desc).map (fun d => d.parameters.length) = some 4 := by decide +kernel
theorem hvyX5_setCenter : yX5_setCenter.cls = RX5 ∧ yX5_setCenter.cls ≠ "java/lang/invoke/MethodHandle" ∧ yX5_setCenter.cls ≠ "java/lang/invoke/VarHandle" ∧ (parseMethodDescriptor yX5_setCenter.desc).map (fun d => d.parameters.length) = some 2 := ⟨rfl, by decide +kernel⟩
set_option maxHeartbeats 4000000 in
set_option maxRecDepth 100000 in
theorem law_c6 {p : Program} {l : Launch} {e : Env} {s : State} {m : MethodId} {below : List Frame} {meth : Method} {c : Code} {b L : Nat} {xs : Nat → Int32} {G : GG} {ad um : Nat → Nat} {qo qd : Nat} {Q : State → Prop} (hF : LF p l s m c b L xs G) {i : Nat} (hi : i + 7 ≤ L) {cl : Cls} {x : Mdl} {f : Nat → Int64} {fd : Nat → UInt64} {H : Heap} {locs : List Loc} (hI : LSt s G ad um qo qd cl x f fd H locs) {cells slots : Nat} (hc1 : cells + 1 ≤ 601024) (hc2 : slots + 6 ≤ 7293034) {ls : Array Slot} (hl : lv_has ls 9 (lvL b ad um qo qd i)) (kk : LKont p l e s m below meth c b G ad um qo qd i cells slots Q) : W p l e room_1 s m #[Value.ref b] below meth c H locs cells slots Q (F0 m 488 ls []) := by
  obtain ⟨⟨hx, hb, hml, hown, hts, hX, hbl⟩, hK, hT, hL, hfl⟩ := id hF
  obtain ⟨hP, hD, hS, hI⟩ := hI
  have hbA : ¬ AL s b := Nat.not_le.mpr hbl
  have S : CallFix p m c cL_law 9 s #[Value.ref b] lw_tbl RL := ⟨hx, hb, hml, hown, hts⟩
  refine lv_aload_n hx hb dL_law_488 rfl (lv_at hl 1 rfl) ?_
  refine lv_aload_n hx hb dL_law_489 rfl (lv_at hl 0 rfl) ?_
  refine lv_iload hx hb dL_law_490 (lv_at hl 5 rfl) ?_
  refine lv_iconst (v := 1) hx hb dL_law_492 (by decide) ?_
  refine lv_iadd hx hb dL_law_493 ?_
  refine va_sld hx hb hX hbl hbA hS (sc_in hi hL 1 (by decide)) dL_law_494 ?_
  refine lv_aload_n hx hb dL_law_495 rfl (lv_at hl 0 rfl) ?_
  refine lv_iload hx hb dL_law_496 (lv_at hl 5 rfl) ?_
  refine lv_iconst (v := 2) hx hb dL_law_498 (by decide) ?_
  refine lv_iadd hx hb dL_law_499 ?_
  refine va_sld hx hb hX hbl hbA hS (sc_in hi hL 2 (by decide)) dL_law_500 ?_
  refine lv_if_eq (tgt := 508) hx hb dL_law_501 (by decide) (fun cz => ?_) (fun cz => ?_)
  · skip
    refine lv_iconst (v := 0) hx hb dL_law_508 (by decide) ?_
    refine lv_aload_n hx hb dL_law_509 rfl (lv_at hl 3 rfl) ?_
    obtain ⟨r, cl', f', bb, u2, u3, u4, u5, u6, u7, u8, u9, e1, e2, e3, hI'⟩ := LW_setCenter hI f (xs (nI i + 1).toNatClampNeg) 0 (m := 0) (Or.inl rfl) iI_0 x.w x.s x.h x.laidArea x.values x.ranks x.oldRanks
    refine rwL (rest := []) (As := [.ref (ad 0), .int (xs (nI i + 1).toNatClampNeg), .int 0, .ref qo]) (wr := wdD G qd fd ++ wdM G um x) (wf := wdL G ad um qo qd cl' x f' fd) S (lw_setCenter l hfl G ad qo cl cl' f f' (xs (nI i + 1).toNatClampNeg) 0 r e1 (Or.inl rfl)) (vx_cwSW 4 hts gL_law_L_setCenter rfl rfl rfl hzyL_setCenter ⟨Nat.le_of_ble_eq_true rfl, Nat.le_of_ble_eq_true rfl⟩) hK hP hD hS hT [0, 1, 2, 3, 4, 5, 6, 7, 8, 9, 10, 11, 12, 13, 14, 15, 16, 17, 18, 19, 20, 21, 22, 23, 24, 25, 26, 27, 28, 29, 30, 31, 32, 33, 34, 35] [36, 37, 38, 39, 40, 41, 42, 43, 44, 45, 46, 47, 48, 49, 50, 51, 52, 53] [18, 19, 20, 21, 22, 23, 24, 25, 26, 27, 28, 29, 30, 31, 32, 33, 34, 35, 36, 37, 38, 39, 40, 41, 42, 43, 44, 45, 46, 47, 48, 49, 50, 51, 52, 53, 0, 1, 2, 3, 4, 5, 6, 7, 8, 9, 10, 11, 12, 13, 14, 15, 16, 17] rfl rfl rfl rfl rfl rfl rfl rfl hl.1 rfl (Nat.le_of_ble_eq_true rfl) dL_law_510 ⟨hc1, hc2⟩ (fun _ H locs hP hD hS => ?_)
    refine lv_istore (lv' := [(6, .int r), (0, .ref b), (1, .ref (ad 0)), (2, .ref (um 0)), (3, .ref qo), (4, .ref qd), (5, .int (nI i))]) hx hb dL_law_513 hl (by decide) rfl (fun ls hl => ?_)
    refine lv_aload_n hx hb dL_law_515 rfl (lv_at hl 3 rfl) ?_
    refine lv_aload_n hx hb dL_law_516 rfl (lv_at hl 1 rfl) ?_
    refine lv_iload hx hb dL_law_517 (lv_at hl 6 rfl) ?_
    refine lv_iconst (v := 1) hx hb dL_law_519 (by decide) ?_
    refine lv_iadd hx hb dL_law_520 ?_
    refine va_sld hx hb hX hbl hbA hS (sc_in hi hL 1 (by decide)) dL_law_521 ?_
    refine lv_aload_n hx hb dL_law_522 rfl (lv_at hl 1 rfl) ?_
    refine lv_iload hx hb dL_law_523 (lv_at hl 6 rfl) ?_
    refine lv_iconst (v := 2) hx hb dL_law_525 (by decide) ?_
    refine lv_iadd hx hb dL_law_526 ?_
    refine va_sld hx hb hX hbl hbA hS (sc_in hi hL 2 (by decide)) dL_law_527 ?_
    refine lv_if_eq (tgt := 535) hx hb dL_law_528 (by decide) (fun _ => ?_) (fun cn => absurd cz cn)
    refine lv_iconst (v := 0) hx hb dL_law_535 (by decide) ?_
    refine rwV_back (rest := []) (As := [.int (xs (nI i + 1).toNatClampNeg), .int 0]) (wr := wdA G ad qo cl' f' ++ wdD G qd fd) (wf := wdL G ad um qo qd cl' (mkM r x.gain x.size u2 u3 u4 u5 x.parts x.isMinus x.readSpot x.isStar x.wantsNumber x.waiting x.shiftX x.shiftY x.times x.dotsLaid x.joinedLaid x.hash x.isThere x.v x.spotOf u6 x.tints x.buffer u7 u8 u9 x.part x.allRanks x.bases x.isMet x.metX x.metY x.line) f' fd) S (ctX5_setCenter l G (um 0) (um 1) (um 2) (um 3) (um 4) (um 5) (um 6) (um 7) (um 8) (um 9) (um 10) (um 11) (um 12) (um 13) (um 14) (um 15) (um 16) x.thrown x.gain x.size x.w x.s x.h x.laidArea x.parts x.isMinus x.readSpot x.isStar x.wantsNumber x.waiting x.shiftX x.shiftY x.times x.dotsLaid x.joinedLaid x.hash x.isThere x.v x.spotOf x.inMiddle x.tints x.buffer x.values x.ranks x.oldRanks x.part x.allRanks x.bases x.isMet x.metX x.metY x.line (xs (nI i + 1).toNatClampNeg) 0 bb r u2 u3 u4 u5 u6 u7 u8 u9 e2) (cwV 2 hts gL_law_X5_setCenter rfl rfl rfl hvyX5_setCenter ⟨Nat.le_of_ble_eq_true rfl, Nat.le_of_ble_eq_true rfl⟩) hK hP hD hS xb_triv (fun _ _ _ => trivial) [37, 38, 39, 40, 41, 42, 43, 44, 45, 46, 47, 48, 49, 50, 51, 52, 53] [0, 1, 2, 3, 4, 5, 6, 7, 8, 9, 10, 11, 12, 13, 14, 15, 16, 17, 18, 19, 20, 21, 22, 23, 24, 25, 26, 27, 28, 29, 30, 31, 32, 33, 34, 35, 36] [0, 1, 2, 3, 4, 5, 6, 7, 8, 9, 10, 11, 12, 13, 14, 15, 16, 17, 18, 19, 20, 21, 22, 23, 24, 25, 26, 27, 28, 29, 30, 31, 32, 33, 34, 35, 36, 37, 38, 39, 40, 41, 42, 43, 44, 45, 46, 47, 48, 49, 50, 51, 52, 53] rfl rfl rfl rfl rfl rfl rfl 37 5 rfl rfl rfl rfl hl.1 rfl (Nat.le_of_ble_eq_true rfl) dL_law_536 ⟨hc1, hc2⟩ (fun _ H locs hP hD hS => ?_)
    refine lv_istore (lv' := [(7, .int bb), (6, .int r), (0, .ref b), (1, .ref (ad 0)), (2, .ref (um 0)), (3, .ref qo), (4, .ref qd), (5, .int (nI i))]) hx hb dL_law_539 hl (by decide) rfl (fun ls hl => ?_)
    refine lv_aload_n hx hb dL_law_541 rfl (lv_at hl 4 rfl) ?_
    refine roVi1 (rest := []) (As := []) S (ctX5_thrown l G (um 0) (um 1) (um 2) (um 3) (um 4) (um 5) (um 6) (um 7) (um 8) (um 9) (um 10) (um 11) (um 12) (um 13) (um 14) (um 15) (um 16) r x.gain x.size u2 u3 u4 u5 x.parts x.isMinus x.readSpot x.isStar x.wantsNumber x.waiting x.shiftX x.shiftY x.times x.dotsLaid x.joinedLaid x.hash x.isThere x.v x.spotOf u6 x.tints x.buffer u7 u8 u9 x.part x.allRanks x.bases x.isMet x.metX x.metY x.line r rfl) (cwV 0 hts gL_law_X5_thrown rfl rfl rfl hvyX5_thrown ⟨Nat.le_of_ble_eq_true rfl, Nat.le_of_ble_eq_true rfl⟩) hK hP [37, 38, 39, 40, 41, 42, 43, 44, 45, 46, 47, 48, 49, 50, 51, 52, 53] rfl 37 5 rfl rfl rfl rfl hl.1 rfl (Nat.le_of_ble_eq_true rfl) dL_law_542 ⟨hc1, hc2⟩ (fun _ => ?_)
    refine lv_iload hx hb dL_law_545 (lv_at hl 1 rfl) ?_
    refine lv_icmp_eq (tgt := 552) hx hb dL_law_547 (by decide) (fun _ => ?_) (fun cn => absurd rfl cn)
    refine lv_iload hx hb dL_law_552 (lv_at hl 1 rfl) ?_
    refine lv_if_ne (tgt := 569) hx hb dL_law_554 (by decide) (fun hr => ?_) (fun hr => ?_)
    · skip
      refine lv_goto (tgt := 2071) hx hb dL_law_569 (by decide) ?_
      exact kk cl' (mkM r x.gain x.size u2 u3 u4 u5 x.parts x.isMinus x.readSpot x.isStar x.wantsNumber x.waiting x.shiftX x.shiftY x.times x.dotsLaid x.joinedLaid x.hash x.isThere x.v x.spotOf u6 x.tints x.buffer u7 u8 u9 x.part x.allRanks x.bases x.isMet x.metX x.metY x.line) f' fd H locs ⟨hP, hD, hS, hI'⟩ ls (lv_sub hl [2, 3, 4, 5, 6, 7] rfl)
    · skip
      refine lv_aload_n hx hb dL_law_557 rfl (lv_at hl 5 rfl) ?_
      refine lv_iconst (v := 0) hx hb dL_law_558 (by decide) ?_
      refine va_lald hx hb hK.1 hP 35 3 rfl rfl (i := 0) (vp_in_iff.mpr ⟨by decide, by decide⟩) dL_law_559 ?_
      refine lv_iload hx hb dL_law_560 (lv_at hl 0 rfl) ?_
      refine lv_i2l hx hb dL_law_562 rfl ?_
      refine W.lcmp hx hb dL_law_563 ?_
      have h00 : f' ((0 : Int32).toNatClampNeg) = bb.toInt64 := e3 hr
      refine lv_if_eq (tgt := 569) hx hb dL_law_564 (by decide) (fun _ => ?_) (fun cn => absurd (by show lg_cmp _ _ = 0; rw [h00]; exact lgc _) cn)
      refine lv_goto (tgt := 2071) hx hb dL_law_569 (by decide) ?_
      exact kk cl' (mkM r x.gain x.size u2 u3 u4 u5 x.parts x.isMinus x.readSpot x.isStar x.wantsNumber x.waiting x.shiftX x.shiftY x.times x.dotsLaid x.joinedLaid x.hash x.isThere x.v x.spotOf u6 x.tints x.buffer u7 u8 u9 x.part x.allRanks x.bases x.isMet x.metX x.metY x.line) f' fd H locs ⟨hP, hD, hS, hI'⟩ ls (lv_sub hl [2, 3, 4, 5, 6, 7] rfl)
  · skip
    refine lv_iconst (v := 1) hx hb dL_law_504 (by decide) ?_
    refine lv_goto (tgt := 509) hx hb dL_law_505 (by decide) ?_
    refine lv_aload_n hx hb dL_law_509 rfl (lv_at hl 3 rfl) ?_
    obtain ⟨r, cl', f', bb, u2, u3, u4, u5, u6, u7, u8, u9, e1, e2, e3, hI'⟩ := LW_setCenter hI f (xs (nI i + 1).toNatClampNeg) 1 (m := 1) (Or.inr rfl) iI_1 x.w x.s x.h x.laidArea x.values x.ranks x.oldRanks
    refine rwL (rest := []) (As := [.ref (ad 0), .int (xs (nI i + 1).toNatClampNeg), .int 1, .ref qo]) (wr := wdD G qd fd ++ wdM G um x) (wf := wdL G ad um qo qd cl' x f' fd) S (lw_setCenter l hfl G ad qo cl cl' f f' (xs (nI i + 1).toNatClampNeg) 1 r e1 (Or.inr rfl)) (vx_cwSW 4 hts gL_law_L_setCenter rfl rfl rfl hzyL_setCenter ⟨Nat.le_of_ble_eq_true rfl, Nat.le_of_ble_eq_true rfl⟩) hK hP hD hS hT [0, 1, 2, 3, 4, 5, 6, 7, 8, 9, 10, 11, 12, 13, 14, 15, 16, 17, 18, 19, 20, 21, 22, 23, 24, 25, 26, 27, 28, 29, 30, 31, 32, 33, 34, 35] [36, 37, 38, 39, 40, 41, 42, 43, 44, 45, 46, 47, 48, 49, 50, 51, 52, 53] [18, 19, 20, 21, 22, 23, 24, 25, 26, 27, 28, 29, 30, 31, 32, 33, 34, 35, 36, 37, 38, 39, 40, 41, 42, 43, 44, 45, 46, 47, 48, 49, 50, 51, 52, 53, 0, 1, 2, 3, 4, 5, 6, 7, 8, 9, 10, 11, 12, 13, 14, 15, 16, 17] rfl rfl rfl rfl rfl rfl rfl rfl hl.1 rfl (Nat.le_of_ble_eq_true rfl) dL_law_510 ⟨hc1, hc2⟩ (fun _ H locs hP hD hS => ?_)
    refine lv_istore (lv' := [(6, .int r), (0, .ref b), (1, .ref (ad 0)), (2, .ref (um 0)), (3, .ref qo), (4, .ref qd), (5, .int (nI i))]) hx hb dL_law_513 hl (by decide) rfl (fun ls hl => ?_)
    refine lv_aload_n hx hb dL_law_515 rfl (lv_at hl 3 rfl) ?_
    refine lv_aload_n hx hb dL_law_516 rfl (lv_at hl 1 rfl) ?_
    refine lv_iload hx hb dL_law_517 (lv_at hl 6 rfl) ?_
    refine lv_iconst (v := 1) hx hb dL_law_519 (by decide) ?_
    refine lv_iadd hx hb dL_law_520 ?_
    refine va_sld hx hb hX hbl hbA hS (sc_in hi hL 1 (by decide)) dL_law_521 ?_
    refine lv_aload_n hx hb dL_law_522 rfl (lv_at hl 1 rfl) ?_
    refine lv_iload hx hb dL_law_523 (lv_at hl 6 rfl) ?_
    refine lv_iconst (v := 2) hx hb dL_law_525 (by decide) ?_
    refine lv_iadd hx hb dL_law_526 ?_
    refine va_sld hx hb hX hbl hbA hS (sc_in hi hL 2 (by decide)) dL_law_527 ?_
    refine lv_if_eq (tgt := 535) hx hb dL_law_528 (by decide) (fun cn => absurd cn cz) (fun _ => ?_)
    refine lv_iconst (v := 1) hx hb dL_law_531 (by decide) ?_
    refine lv_goto (tgt := 536) hx hb dL_law_532 (by decide) ?_
    refine rwV_back (rest := []) (As := [.int (xs (nI i + 1).toNatClampNeg), .int 1]) (wr := wdA G ad qo cl' f' ++ wdD G qd fd) (wf := wdL G ad um qo qd cl' (mkM r x.gain x.size u2 u3 u4 u5 x.parts x.isMinus x.readSpot x.isStar x.wantsNumber x.waiting x.shiftX x.shiftY x.times x.dotsLaid x.joinedLaid x.hash x.isThere x.v x.spotOf u6 x.tints x.buffer u7 u8 u9 x.part x.allRanks x.bases x.isMet x.metX x.metY x.line) f' fd) S (ctX5_setCenter l G (um 0) (um 1) (um 2) (um 3) (um 4) (um 5) (um 6) (um 7) (um 8) (um 9) (um 10) (um 11) (um 12) (um 13) (um 14) (um 15) (um 16) x.thrown x.gain x.size x.w x.s x.h x.laidArea x.parts x.isMinus x.readSpot x.isStar x.wantsNumber x.waiting x.shiftX x.shiftY x.times x.dotsLaid x.joinedLaid x.hash x.isThere x.v x.spotOf x.inMiddle x.tints x.buffer x.values x.ranks x.oldRanks x.part x.allRanks x.bases x.isMet x.metX x.metY x.line (xs (nI i + 1).toNatClampNeg) 1 bb r u2 u3 u4 u5 u6 u7 u8 u9 e2) (cwV 2 hts gL_law_X5_setCenter rfl rfl rfl hvyX5_setCenter ⟨Nat.le_of_ble_eq_true rfl, Nat.le_of_ble_eq_true rfl⟩) hK hP hD hS xb_triv (fun _ _ _ => trivial) [37, 38, 39, 40, 41, 42, 43, 44, 45, 46, 47, 48, 49, 50, 51, 52, 53] [0, 1, 2, 3, 4, 5, 6, 7, 8, 9, 10, 11, 12, 13, 14, 15, 16, 17, 18, 19, 20, 21, 22, 23, 24, 25, 26, 27, 28, 29, 30, 31, 32, 33, 34, 35, 36] [0, 1, 2, 3, 4, 5, 6, 7, 8, 9, 10, 11, 12, 13, 14, 15, 16, 17, 18, 19, 20, 21, 22, 23, 24, 25, 26, 27, 28, 29, 30, 31, 32, 33, 34, 35, 36, 37, 38, 39, 40, 41, 42, 43, 44, 45, 46, 47, 48, 49, 50, 51, 52, 53] rfl rfl rfl rfl rfl rfl rfl 37 5 rfl rfl rfl rfl hl.1 rfl (Nat.le_of_ble_eq_true rfl) dL_law_536 ⟨hc1, hc2⟩ (fun _ H locs hP hD hS => ?_)
    refine lv_istore (lv' := [(7, .int bb), (6, .int r), (0, .ref b), (1, .ref (ad 0)), (2, .ref (um 0)), (3, .ref qo), (4, .ref qd), (5, .int (nI i))]) hx hb dL_law_539 hl (by decide) rfl (fun ls hl => ?_)
    refine lv_aload_n hx hb dL_law_541 rfl (lv_at hl 4 rfl) ?_
    refine roVi1 (rest := []) (As := []) S (ctX5_thrown l G (um 0) (um 1) (um 2) (um 3) (um 4) (um 5) (um 6) (um 7) (um 8) (um 9) (um 10) (um 11) (um 12) (um 13) (um 14) (um 15) (um 16) r x.gain x.size u2 u3 u4 u5 x.parts x.isMinus x.readSpot x.isStar x.wantsNumber x.waiting x.shiftX x.shiftY x.times x.dotsLaid x.joinedLaid x.hash x.isThere x.v x.spotOf u6 x.tints x.buffer u7 u8 u9 x.part x.allRanks x.bases x.isMet x.metX x.metY x.line r rfl) (cwV 0 hts gL_law_X5_thrown rfl rfl rfl hvyX5_thrown ⟨Nat.le_of_ble_eq_true rfl, Nat.le_of_ble_eq_true rfl⟩) hK hP [37, 38, 39, 40, 41, 42, 43, 44, 45, 46, 47, 48, 49, 50, 51, 52, 53] rfl 37 5 rfl rfl rfl rfl hl.1 rfl (Nat.le_of_ble_eq_true rfl) dL_law_542 ⟨hc1, hc2⟩ (fun _ => ?_)
    refine lv_iload hx hb dL_law_545 (lv_at hl 1 rfl) ?_
    refine lv_icmp_eq (tgt := 552) hx hb dL_law_547 (by decide) (fun _ => ?_) (fun cn => absurd rfl cn)
    refine lv_iload hx hb dL_law_552 (lv_at hl 1 rfl) ?_
    refine lv_if_ne (tgt := 569) hx hb dL_law_554 (by decide) (fun hr => ?_) (fun hr => ?_)
    · skip
      refine lv_goto (tgt := 2071) hx hb dL_law_569 (by decide) ?_
      exact kk cl' (mkM r x.gain x.size u2 u3 u4 u5 x.parts x.isMinus x.readSpot x.isStar x.wantsNumber x.waiting x.shiftX x.shiftY x.times x.dotsLaid x.joinedLaid x.hash x.isThere x.v x.spotOf u6 x.tints x.buffer u7 u8 u9 x.part x.allRanks x.bases x.isMet x.metX x.metY x.line) f' fd H locs ⟨hP, hD, hS, hI'⟩ ls (lv_sub hl [2, 3, 4, 5, 6, 7] rfl)
    · skip
      refine lv_aload_n hx hb dL_law_557 rfl (lv_at hl 5 rfl) ?_
      refine lv_iconst (v := 0) hx hb dL_law_558 (by decide) ?_
      refine va_lald hx hb hK.1 hP 35 3 rfl rfl (i := 0) (vp_in_iff.mpr ⟨by decide, by decide⟩) dL_law_559 ?_
      refine lv_iload hx hb dL_law_560 (lv_at hl 0 rfl) ?_
      refine lv_i2l hx hb dL_law_562 rfl ?_
      refine W.lcmp hx hb dL_law_563 ?_
      have h00 : f' ((0 : Int32).toNatClampNeg) = bb.toInt64 := e3 hr
      refine lv_if_eq (tgt := 569) hx hb dL_law_564 (by decide) (fun _ => ?_) (fun cn => absurd (by show lg_cmp _ _ = 0; rw [h00]; exact lgc _) cn)
      refine lv_goto (tgt := 2071) hx hb dL_law_569 (by decide) ?_
      exact kk cl' (mkM r x.gain x.size u2 u3 u4 u5 x.parts x.isMinus x.readSpot x.isStar x.wantsNumber x.waiting x.shiftX x.shiftY x.times x.dotsLaid x.joinedLaid x.hash x.isThere x.v x.spotOf u6 x.tints x.buffer u7 u8 u9 x.part x.allRanks x.bases x.isMet x.metX x.metY x.line) f' fd H locs ⟨hP, hD, hS, hI'⟩ ls (lv_sub hl [2, 3, 4, 5, 6, 7] rfl)
theorem hzyL_turn : yL_turn.cls ≠ "java/lang/invoke/MethodHandle" ∧ yL_turn.cls ≠ "java/lang/invoke/VarHandle" ∧ (parseMethodDescriptor yL_turn.desc).map (fun d => d.parameters.length) = some 4 := by decide +kernel
theorem hvyX5_turn : yX5_turn.cls = RX5 ∧ yX5_turn.cls ≠ "java/lang/invoke/MethodHandle" ∧ yX5_turn.cls ≠ "java/lang/invoke/VarHandle" ∧ (parseMethodDescriptor yX5_turn.desc).map (fun d => d.parameters.length) = some 2 := ⟨rfl, by decide +kernel⟩
set_option maxHeartbeats 4000000 in
set_option maxRecDepth 100000 in
theorem law_c7 {p : Program} {l : Launch} {e : Env} {s : State} {m : MethodId} {below : List Frame} {meth : Method} {c : Code} {b L : Nat} {xs : Nat → Int32} {G : GG} {ad um : Nat → Nat} {qo qd : Nat} {Q : State → Prop} (hF : LF p l s m c b L xs G) {i : Nat} (hi : i + 7 ≤ L) {cl : Cls} {x : Mdl} {f : Nat → Int64} {fd : Nat → UInt64} {H : Heap} {locs : List Loc} (hI : LSt s G ad um qo qd cl x f fd H locs) {cells slots : Nat} (hc1 : cells + 1 ≤ 601024) (hc2 : slots + 6 ≤ 7293034) {ls : Array Slot} (hl : lv_has ls 9 (lvL b ad um qo qd i)) (kk : LKont p l e s m below meth c b G ad um qo qd i cells slots Q) : W p l e room_1 s m #[Value.ref b] below meth c H locs cells slots Q (F0 m 572 ls []) := by
  obtain ⟨⟨hx, hb, hml, hown, hts, hX, hbl⟩, hK, hT, hL, hfl⟩ := id hF
  obtain ⟨hP, hD, hS, hI⟩ := hI
  have hbA : ¬ AL s b := Nat.not_le.mpr hbl
  have S : CallFix p m c cL_law 9 s #[Value.ref b] lw_tbl RL := ⟨hx, hb, hml, hown, hts⟩
  refine lv_aload_n hx hb dL_law_572 rfl (lv_at hl 1 rfl) ?_
  refine lv_aload_n hx hb dL_law_573 rfl (lv_at hl 0 rfl) ?_
  refine lv_iload hx hb dL_law_574 (lv_at hl 5 rfl) ?_
  refine lv_iconst (v := 1) hx hb dL_law_576 (by decide) ?_
  refine lv_iadd hx hb dL_law_577 ?_
  refine va_sld hx hb hX hbl hbA hS (sc_in hi hL 1 (by decide)) dL_law_578 ?_
  refine lv_aload_n hx hb dL_law_579 rfl (lv_at hl 0 rfl) ?_
  refine lv_iload hx hb dL_law_580 (lv_at hl 5 rfl) ?_
  refine lv_iconst (v := 2) hx hb dL_law_582 (by decide) ?_
  refine lv_iadd hx hb dL_law_583 ?_
  refine va_sld hx hb hX hbl hbA hS (sc_in hi hL 2 (by decide)) dL_law_584 ?_
  refine lv_aload_n hx hb dL_law_585 rfl (lv_at hl 3 rfl) ?_
  obtain ⟨r, cl', f', bb, u2, u3, u4, u5, u6, u7, u8, u9, e1, e2, e3, hI'⟩ := LW_turn hI f (xs (nI i + 1).toNatClampNeg) (xs (nI i + 2).toNatClampNeg) x.w x.s x.h x.laidArea x.values x.ranks x.oldRanks
  refine rwL (rest := []) (As := [.ref (ad 0), .int (xs (nI i + 1).toNatClampNeg), .int (xs (nI i + 2).toNatClampNeg), .ref qo]) (wr := wdD G qd fd ++ wdM G um x) (wf := wdL G ad um qo qd cl' x f' fd) S (lw_turn l hfl G ad qo cl cl' f f' (xs (nI i + 1).toNatClampNeg) (xs (nI i + 2).toNatClampNeg) r e1) (vx_cwSW 4 hts gL_law_L_turn rfl rfl rfl hzyL_turn ⟨Nat.le_of_ble_eq_true rfl, Nat.le_of_ble_eq_true rfl⟩) hK hP hD hS hT [0, 1, 2, 3, 4, 5, 6, 7, 8, 9, 10, 11, 12, 13, 14, 15, 16, 17, 18, 19, 20, 21, 22, 23, 24, 25, 26, 27, 28, 29, 30, 31, 32, 33, 34, 35] [36, 37, 38, 39, 40, 41, 42, 43, 44, 45, 46, 47, 48, 49, 50, 51, 52, 53] [18, 19, 20, 21, 22, 23, 24, 25, 26, 27, 28, 29, 30, 31, 32, 33, 34, 35, 36, 37, 38, 39, 40, 41, 42, 43, 44, 45, 46, 47, 48, 49, 50, 51, 52, 53, 0, 1, 2, 3, 4, 5, 6, 7, 8, 9, 10, 11, 12, 13, 14, 15, 16, 17] rfl rfl rfl rfl rfl rfl rfl rfl hl.1 rfl (Nat.le_of_ble_eq_true rfl) dL_law_586 ⟨hc1, hc2⟩ (fun _ H locs hP hD hS => ?_)
  refine lv_istore (lv' := [(6, .int r), (0, .ref b), (1, .ref (ad 0)), (2, .ref (um 0)), (3, .ref qo), (4, .ref qd), (5, .int (nI i))]) hx hb dL_law_589 hl (by decide) rfl (fun ls hl => ?_)
  refine lv_aload_n hx hb dL_law_591 rfl (lv_at hl 3 rfl) ?_
  refine lv_aload_n hx hb dL_law_592 rfl (lv_at hl 1 rfl) ?_
  refine lv_iload hx hb dL_law_593 (lv_at hl 6 rfl) ?_
  refine lv_iconst (v := 1) hx hb dL_law_595 (by decide) ?_
  refine lv_iadd hx hb dL_law_596 ?_
  refine va_sld hx hb hX hbl hbA hS (sc_in hi hL 1 (by decide)) dL_law_597 ?_
  refine lv_aload_n hx hb dL_law_598 rfl (lv_at hl 1 rfl) ?_
  refine lv_iload hx hb dL_law_599 (lv_at hl 6 rfl) ?_
  refine lv_iconst (v := 2) hx hb dL_law_601 (by decide) ?_
  refine lv_iadd hx hb dL_law_602 ?_
  refine va_sld hx hb hX hbl hbA hS (sc_in hi hL 2 (by decide)) dL_law_603 ?_
  refine rwV_back (rest := []) (As := [.int (xs (nI i + 1).toNatClampNeg), .int (xs (nI i + 2).toNatClampNeg)]) (wr := wdA G ad qo cl' f' ++ wdD G qd fd) (wf := wdL G ad um qo qd cl' (mkM r x.gain x.size u2 u3 u4 u5 x.parts x.isMinus x.readSpot x.isStar x.wantsNumber x.waiting x.shiftX x.shiftY x.times x.dotsLaid x.joinedLaid x.hash x.isThere u6 x.spotOf x.inMiddle x.tints x.buffer u7 u8 u9 x.part x.allRanks x.bases x.isMet x.metX x.metY x.line) f' fd) S (ctX5_turn l G (um 0) (um 1) (um 2) (um 3) (um 4) (um 5) (um 6) (um 7) (um 8) (um 9) (um 10) (um 11) (um 12) (um 13) (um 14) (um 15) (um 16) x.thrown x.gain x.size x.w x.s x.h x.laidArea x.parts x.isMinus x.readSpot x.isStar x.wantsNumber x.waiting x.shiftX x.shiftY x.times x.dotsLaid x.joinedLaid x.hash x.isThere x.v x.spotOf x.inMiddle x.tints x.buffer x.values x.ranks x.oldRanks x.part x.allRanks x.bases x.isMet x.metX x.metY x.line (xs (nI i + 1).toNatClampNeg) (xs (nI i + 2).toNatClampNeg) bb r u2 u3 u4 u5 u6 u7 u8 u9 e2) (cwV 2 hts gL_law_X5_turn rfl rfl rfl hvyX5_turn ⟨Nat.le_of_ble_eq_true rfl, Nat.le_of_ble_eq_true rfl⟩) hK hP hD hS xb_triv (fun _ _ _ => trivial) [37, 38, 39, 40, 41, 42, 43, 44, 45, 46, 47, 48, 49, 50, 51, 52, 53] [0, 1, 2, 3, 4, 5, 6, 7, 8, 9, 10, 11, 12, 13, 14, 15, 16, 17, 18, 19, 20, 21, 22, 23, 24, 25, 26, 27, 28, 29, 30, 31, 32, 33, 34, 35, 36] [0, 1, 2, 3, 4, 5, 6, 7, 8, 9, 10, 11, 12, 13, 14, 15, 16, 17, 18, 19, 20, 21, 22, 23, 24, 25, 26, 27, 28, 29, 30, 31, 32, 33, 34, 35, 36, 37, 38, 39, 40, 41, 42, 43, 44, 45, 46, 47, 48, 49, 50, 51, 52, 53] rfl rfl rfl rfl rfl rfl rfl 37 5 rfl rfl rfl rfl hl.1 rfl (Nat.le_of_ble_eq_true rfl) dL_law_604 ⟨hc1, hc2⟩ (fun _ H locs hP hD hS => ?_)
  refine lv_istore (lv' := [(7, .int bb), (6, .int r), (0, .ref b), (1, .ref (ad 0)), (2, .ref (um 0)), (3, .ref qo), (4, .ref qd), (5, .int (nI i))]) hx hb dL_law_607 hl (by decide) rfl (fun ls hl => ?_)
  refine lv_aload_n hx hb dL_law_609 rfl (lv_at hl 4 rfl) ?_
  refine roVi1 (rest := []) (As := []) S (ctX5_thrown l G (um 0) (um 1) (um 2) (um 3) (um 4) (um 5) (um 6) (um 7) (um 8) (um 9) (um 10) (um 11) (um 12) (um 13) (um 14) (um 15) (um 16) r x.gain x.size u2 u3 u4 u5 x.parts x.isMinus x.readSpot x.isStar x.wantsNumber x.waiting x.shiftX x.shiftY x.times x.dotsLaid x.joinedLaid x.hash x.isThere u6 x.spotOf x.inMiddle x.tints x.buffer u7 u8 u9 x.part x.allRanks x.bases x.isMet x.metX x.metY x.line r rfl) (cwV 0 hts gL_law_X5_thrown rfl rfl rfl hvyX5_thrown ⟨Nat.le_of_ble_eq_true rfl, Nat.le_of_ble_eq_true rfl⟩) hK hP [37, 38, 39, 40, 41, 42, 43, 44, 45, 46, 47, 48, 49, 50, 51, 52, 53] rfl 37 5 rfl rfl rfl rfl hl.1 rfl (Nat.le_of_ble_eq_true rfl) dL_law_610 ⟨hc1, hc2⟩ (fun _ => ?_)
  refine lv_iload hx hb dL_law_613 (lv_at hl 1 rfl) ?_
  refine lv_icmp_eq (tgt := 620) hx hb dL_law_615 (by decide) (fun _ => ?_) (fun cn => absurd rfl cn)
  refine lv_iload hx hb dL_law_620 (lv_at hl 1 rfl) ?_
  refine lv_if_ne (tgt := 637) hx hb dL_law_622 (by decide) (fun hr => ?_) (fun hr => ?_)
  · skip
    refine lv_goto (tgt := 2071) hx hb dL_law_637 (by decide) ?_
    exact kk cl' (mkM r x.gain x.size u2 u3 u4 u5 x.parts x.isMinus x.readSpot x.isStar x.wantsNumber x.waiting x.shiftX x.shiftY x.times x.dotsLaid x.joinedLaid x.hash x.isThere u6 x.spotOf x.inMiddle x.tints x.buffer u7 u8 u9 x.part x.allRanks x.bases x.isMet x.metX x.metY x.line) f' fd H locs ⟨hP, hD, hS, hI'⟩ ls (lv_sub hl [2, 3, 4, 5, 6, 7] rfl)
  · skip
    refine lv_aload_n hx hb dL_law_625 rfl (lv_at hl 5 rfl) ?_
    refine lv_iconst (v := 0) hx hb dL_law_626 (by decide) ?_
    refine va_lald hx hb hK.1 hP 35 3 rfl rfl (i := 0) (vp_in_iff.mpr ⟨by decide, by decide⟩) dL_law_627 ?_
    refine lv_iload hx hb dL_law_628 (lv_at hl 0 rfl) ?_
    refine lv_i2l hx hb dL_law_630 rfl ?_
    refine W.lcmp hx hb dL_law_631 ?_
    have h00 : f' ((0 : Int32).toNatClampNeg) = bb.toInt64 := e3 hr
    refine lv_if_eq (tgt := 637) hx hb dL_law_632 (by decide) (fun _ => ?_) (fun cn => absurd (by show lg_cmp _ _ = 0; rw [h00]; exact lgc _) cn)
    refine lv_goto (tgt := 2071) hx hb dL_law_637 (by decide) ?_
    exact kk cl' (mkM r x.gain x.size u2 u3 u4 u5 x.parts x.isMinus x.readSpot x.isStar x.wantsNumber x.waiting x.shiftX x.shiftY x.times x.dotsLaid x.joinedLaid x.hash x.isThere u6 x.spotOf x.inMiddle x.tints x.buffer u7 u8 u9 x.part x.allRanks x.bases x.isMet x.metX x.metY x.line) f' fd H locs ⟨hP, hD, hS, hI'⟩ ls (lv_sub hl [2, 3, 4, 5, 6, 7] rfl)
theorem hzyL_shorten : yL_shorten.cls ≠ "java/lang/invoke/MethodHandle" ∧ yL_shorten.cls ≠ "java/lang/invoke/VarHandle" ∧ (parseMethodDescriptor yL_shorten.desc).map (fun d => d.parameters.length) = some 3 := by decide +kernel
theorem hvyX5_shorten : yX5_shorten.cls = RX5 ∧ yX5_shorten.cls ≠ "java/lang/invoke/MethodHandle" ∧ yX5_shorten.cls ≠ "java/lang/invoke/VarHandle" ∧ (parseMethodDescriptor yX5_shorten.desc).map (fun d => d.parameters.length) = some 1 := ⟨rfl, by decide +kernel⟩
set_option maxHeartbeats 4000000 in
set_option maxRecDepth 100000 in
theorem law_c8 {p : Program} {l : Launch} {e : Env} {s : State} {m : MethodId} {below : List Frame} {meth : Method} {c : Code} {b L : Nat} {xs : Nat → Int32} {G : GG} {ad um : Nat → Nat} {qo qd : Nat} {Q : State → Prop} (hF : LF p l s m c b L xs G) {i : Nat} (hi : i + 7 ≤ L) {cl : Cls} {x : Mdl} {f : Nat → Int64} {fd : Nat → UInt64} {H : Heap} {locs : List Loc} (hI : LSt s G ad um qo qd cl x f fd H locs) {cells slots : Nat} (hc1 : cells + 1 ≤ 601024) (hc2 : slots + 6 ≤ 7293034) {ls : Array Slot} (hl : lv_has ls 9 (lvL b ad um qo qd i)) (kk : LKont p l e s m below meth c b G ad um qo qd i cells slots Q) : W p l e room_1 s m #[Value.ref b] below meth c H locs cells slots Q (F0 m 640 ls []) := by
  obtain ⟨⟨hx, hb, hml, hown, hts, hX, hbl⟩, hK, hT, hL, hfl⟩ := id hF
  obtain ⟨hP, hD, hS, hI⟩ := hI
  have hbA : ¬ AL s b := Nat.not_le.mpr hbl
  have S : CallFix p m c cL_law 9 s #[Value.ref b] lw_tbl RL := ⟨hx, hb, hml, hown, hts⟩
  refine lv_aload_n hx hb dL_law_640 rfl (lv_at hl 1 rfl) ?_
  refine lv_aload_n hx hb dL_law_641 rfl (lv_at hl 0 rfl) ?_
  refine lv_iload hx hb dL_law_642 (lv_at hl 5 rfl) ?_
  refine lv_iconst (v := 1) hx hb dL_law_644 (by decide) ?_
  refine lv_iadd hx hb dL_law_645 ?_
  refine va_sld hx hb hX hbl hbA hS (sc_in hi hL 1 (by decide)) dL_law_646 ?_
  refine lv_aload_n hx hb dL_law_647 rfl (lv_at hl 3 rfl) ?_
  obtain ⟨r, cl', f', bb, u2, e1, e2, e3, hI'⟩ := LW_shorten hI f (xs (nI i + 1).toNatClampNeg) 
  refine rwL (rest := []) (As := [.ref (ad 0), .int (xs (nI i + 1).toNatClampNeg), .ref qo]) (wr := wdD G qd fd ++ wdM G um x) (wf := wdL G ad um qo qd cl' x f' fd) S (lw_shorten l hfl G ad qo cl cl' f f' (xs (nI i + 1).toNatClampNeg) r e1) (vx_cwSW 3 hts gL_law_L_shorten rfl rfl rfl hzyL_shorten ⟨Nat.le_of_ble_eq_true rfl, Nat.le_of_ble_eq_true rfl⟩) hK hP hD hS hT [0, 1, 2, 3, 4, 5, 6, 7, 8, 9, 10, 11, 12, 13, 14, 15, 16, 17, 18, 19, 20, 21, 22, 23, 24, 25, 26, 27, 28, 29, 30, 31, 32, 33, 34, 35] [36, 37, 38, 39, 40, 41, 42, 43, 44, 45, 46, 47, 48, 49, 50, 51, 52, 53] [18, 19, 20, 21, 22, 23, 24, 25, 26, 27, 28, 29, 30, 31, 32, 33, 34, 35, 36, 37, 38, 39, 40, 41, 42, 43, 44, 45, 46, 47, 48, 49, 50, 51, 52, 53, 0, 1, 2, 3, 4, 5, 6, 7, 8, 9, 10, 11, 12, 13, 14, 15, 16, 17] rfl rfl rfl rfl rfl rfl rfl rfl hl.1 rfl (Nat.le_of_ble_eq_true rfl) dL_law_648 ⟨hc1, hc2⟩ (fun _ H locs hP hD hS => ?_)
  refine lv_istore (lv' := [(6, .int r), (0, .ref b), (1, .ref (ad 0)), (2, .ref (um 0)), (3, .ref qo), (4, .ref qd), (5, .int (nI i))]) hx hb dL_law_651 hl (by decide) rfl (fun ls hl => ?_)
  refine lv_aload_n hx hb dL_law_653 rfl (lv_at hl 3 rfl) ?_
  refine lv_aload_n hx hb dL_law_654 rfl (lv_at hl 1 rfl) ?_
  refine lv_iload hx hb dL_law_655 (lv_at hl 6 rfl) ?_
  refine lv_iconst (v := 1) hx hb dL_law_657 (by decide) ?_
  refine lv_iadd hx hb dL_law_658 ?_
  refine va_sld hx hb hX hbl hbA hS (sc_in hi hL 1 (by decide)) dL_law_659 ?_
  refine rwV_back (rest := []) (As := [.int (xs (nI i + 1).toNatClampNeg)]) (wr := wdA G ad qo cl' f' ++ wdD G qd fd) (wf := wdL G ad um qo qd cl' (mkM r x.gain x.size x.w x.s x.h x.laidArea x.parts x.isMinus x.readSpot x.isStar x.wantsNumber x.waiting x.shiftX x.shiftY x.times x.dotsLaid x.joinedLaid x.hash x.isThere u2 x.spotOf x.inMiddle x.tints x.buffer x.values x.ranks x.oldRanks x.part x.allRanks x.bases x.isMet x.metX x.metY x.line) f' fd) S (ctX5_shorten l G (um 0) (um 1) (um 2) (um 3) (um 4) (um 5) (um 6) (um 7) (um 8) (um 9) (um 10) (um 11) (um 12) (um 13) (um 14) (um 15) (um 16) x.thrown x.gain x.size x.w x.s x.h x.laidArea x.parts x.isMinus x.readSpot x.isStar x.wantsNumber x.waiting x.shiftX x.shiftY x.times x.dotsLaid x.joinedLaid x.hash x.isThere x.v x.spotOf x.inMiddle x.tints x.buffer x.values x.ranks x.oldRanks x.part x.allRanks x.bases x.isMet x.metX x.metY x.line (xs (nI i + 1).toNatClampNeg) bb r u2 e2) (cwV 1 hts gL_law_X5_shorten rfl rfl rfl hvyX5_shorten ⟨Nat.le_of_ble_eq_true rfl, Nat.le_of_ble_eq_true rfl⟩) hK hP hD hS xb_triv (fun _ _ _ => trivial) [37, 38, 39, 40, 41, 42, 43, 44, 45, 46, 47, 48, 49, 50, 51, 52, 53] [0, 1, 2, 3, 4, 5, 6, 7, 8, 9, 10, 11, 12, 13, 14, 15, 16, 17, 18, 19, 20, 21, 22, 23, 24, 25, 26, 27, 28, 29, 30, 31, 32, 33, 34, 35, 36] [0, 1, 2, 3, 4, 5, 6, 7, 8, 9, 10, 11, 12, 13, 14, 15, 16, 17, 18, 19, 20, 21, 22, 23, 24, 25, 26, 27, 28, 29, 30, 31, 32, 33, 34, 35, 36, 37, 38, 39, 40, 41, 42, 43, 44, 45, 46, 47, 48, 49, 50, 51, 52, 53] rfl rfl rfl rfl rfl rfl rfl 37 5 rfl rfl rfl rfl hl.1 rfl (Nat.le_of_ble_eq_true rfl) dL_law_660 ⟨hc1, hc2⟩ (fun _ H locs hP hD hS => ?_)
  refine lv_istore (lv' := [(7, .int bb), (6, .int r), (0, .ref b), (1, .ref (ad 0)), (2, .ref (um 0)), (3, .ref qo), (4, .ref qd), (5, .int (nI i))]) hx hb dL_law_663 hl (by decide) rfl (fun ls hl => ?_)
  refine lv_aload_n hx hb dL_law_665 rfl (lv_at hl 4 rfl) ?_
  refine roVi1 (rest := []) (As := []) S (ctX5_thrown l G (um 0) (um 1) (um 2) (um 3) (um 4) (um 5) (um 6) (um 7) (um 8) (um 9) (um 10) (um 11) (um 12) (um 13) (um 14) (um 15) (um 16) r x.gain x.size x.w x.s x.h x.laidArea x.parts x.isMinus x.readSpot x.isStar x.wantsNumber x.waiting x.shiftX x.shiftY x.times x.dotsLaid x.joinedLaid x.hash x.isThere u2 x.spotOf x.inMiddle x.tints x.buffer x.values x.ranks x.oldRanks x.part x.allRanks x.bases x.isMet x.metX x.metY x.line r rfl) (cwV 0 hts gL_law_X5_thrown rfl rfl rfl hvyX5_thrown ⟨Nat.le_of_ble_eq_true rfl, Nat.le_of_ble_eq_true rfl⟩) hK hP [37, 38, 39, 40, 41, 42, 43, 44, 45, 46, 47, 48, 49, 50, 51, 52, 53] rfl 37 5 rfl rfl rfl rfl hl.1 rfl (Nat.le_of_ble_eq_true rfl) dL_law_666 ⟨hc1, hc2⟩ (fun _ => ?_)
  refine lv_iload hx hb dL_law_669 (lv_at hl 1 rfl) ?_
  refine lv_icmp_eq (tgt := 676) hx hb dL_law_671 (by decide) (fun _ => ?_) (fun cn => absurd rfl cn)
  refine lv_iload hx hb dL_law_676 (lv_at hl 1 rfl) ?_
  refine lv_if_ne (tgt := 693) hx hb dL_law_678 (by decide) (fun hr => ?_) (fun hr => ?_)
  · skip
    refine lv_goto (tgt := 2071) hx hb dL_law_693 (by decide) ?_
    exact kk cl' (mkM r x.gain x.size x.w x.s x.h x.laidArea x.parts x.isMinus x.readSpot x.isStar x.wantsNumber x.waiting x.shiftX x.shiftY x.times x.dotsLaid x.joinedLaid x.hash x.isThere u2 x.spotOf x.inMiddle x.tints x.buffer x.values x.ranks x.oldRanks x.part x.allRanks x.bases x.isMet x.metX x.metY x.line) f' fd H locs ⟨hP, hD, hS, hI'⟩ ls (lv_sub hl [2, 3, 4, 5, 6, 7] rfl)
  · skip
    refine lv_aload_n hx hb dL_law_681 rfl (lv_at hl 5 rfl) ?_
    refine lv_iconst (v := 0) hx hb dL_law_682 (by decide) ?_
    refine va_lald hx hb hK.1 hP 35 3 rfl rfl (i := 0) (vp_in_iff.mpr ⟨by decide, by decide⟩) dL_law_683 ?_
    refine lv_iload hx hb dL_law_684 (lv_at hl 0 rfl) ?_
    refine lv_i2l hx hb dL_law_686 rfl ?_
    refine W.lcmp hx hb dL_law_687 ?_
    have h00 : f' ((0 : Int32).toNatClampNeg) = bb.toInt64 := e3 hr
    refine lv_if_eq (tgt := 693) hx hb dL_law_688 (by decide) (fun _ => ?_) (fun cn => absurd (by show lg_cmp _ _ = 0; rw [h00]; exact lgc _) cn)
    refine lv_goto (tgt := 2071) hx hb dL_law_693 (by decide) ?_
    exact kk cl' (mkM r x.gain x.size x.w x.s x.h x.laidArea x.parts x.isMinus x.readSpot x.isStar x.wantsNumber x.waiting x.shiftX x.shiftY x.times x.dotsLaid x.joinedLaid x.hash x.isThere u2 x.spotOf x.inMiddle x.tints x.buffer x.values x.ranks x.oldRanks x.part x.allRanks x.bases x.isMet x.metX x.metY x.line) f' fd H locs ⟨hP, hD, hS, hI'⟩ ls (lv_sub hl [2, 3, 4, 5, 6, 7] rfl)
theorem hzyL_setTint : yL_setTint.cls ≠ "java/lang/invoke/MethodHandle" ∧ yL_setTint.cls ≠ "java/lang/invoke/VarHandle" ∧ (parseMethodDescriptor yL_setTint.desc).map (fun d => d.parameters.length) = some 4 := by decide +kernel
theorem hvyX5_setTint : yX5_setTint.cls = RX5 ∧ yX5_setTint.cls ≠ "java/lang/invoke/MethodHandle" ∧ yX5_setTint.cls ≠ "java/lang/invoke/VarHandle" ∧ (parseMethodDescriptor yX5_setTint.desc).map (fun d => d.parameters.length) = some 2 := ⟨rfl, by decide +kernel⟩
set_option maxHeartbeats 4000000 in
set_option maxRecDepth 100000 in
theorem law_c9 {p : Program} {l : Launch} {e : Env} {s : State} {m : MethodId} {below : List Frame} {meth : Method} {c : Code} {b L : Nat} {xs : Nat → Int32} {G : GG} {ad um : Nat → Nat} {qo qd : Nat} {Q : State → Prop} (hF : LF p l s m c b L xs G) {i : Nat} (hi : i + 7 ≤ L) {cl : Cls} {x : Mdl} {f : Nat → Int64} {fd : Nat → UInt64} {H : Heap} {locs : List Loc} (hI : LSt s G ad um qo qd cl x f fd H locs) {cells slots : Nat} (hc1 : cells + 1 ≤ 601024) (hc2 : slots + 6 ≤ 7293034) {ls : Array Slot} (hl : lv_has ls 9 (lvL b ad um qo qd i)) (kk : LKont p l e s m below meth c b G ad um qo qd i cells slots Q) : W p l e room_1 s m #[Value.ref b] below meth c H locs cells slots Q (F0 m 696 ls []) := by
  obtain ⟨⟨hx, hb, hml, hown, hts, hX, hbl⟩, hK, hT, hL, hfl⟩ := id hF
  obtain ⟨hP, hD, hS, hI⟩ := hI
  have hbA : ¬ AL s b := Nat.not_le.mpr hbl
  have S : CallFix p m c cL_law 9 s #[Value.ref b] lw_tbl RL := ⟨hx, hb, hml, hown, hts⟩
  refine lv_aload_n hx hb dL_law_696 rfl (lv_at hl 1 rfl) ?_
  refine lv_aload_n hx hb dL_law_697 rfl (lv_at hl 0 rfl) ?_
  refine lv_iload hx hb dL_law_698 (lv_at hl 5 rfl) ?_
  refine lv_iconst (v := 1) hx hb dL_law_700 (by decide) ?_
  refine lv_iadd hx hb dL_law_701 ?_
  refine va_sld hx hb hX hbl hbA hS (sc_in hi hL 1 (by decide)) dL_law_702 ?_
  refine lv_aload_n hx hb dL_law_703 rfl (lv_at hl 0 rfl) ?_
  refine lv_iload hx hb dL_law_704 (lv_at hl 5 rfl) ?_
  refine lv_iconst (v := 2) hx hb dL_law_706 (by decide) ?_
  refine lv_iadd hx hb dL_law_707 ?_
  refine va_sld hx hb hX hbl hbA hS (sc_in hi hL 2 (by decide)) dL_law_708 ?_
  refine lv_aload_n hx hb dL_law_709 rfl (lv_at hl 3 rfl) ?_
  obtain ⟨r, cl', f', bb, u2, e1, e2, e3, hI'⟩ := LW_setTint hI f (xs (nI i + 1).toNatClampNeg) (xs (nI i + 2).toNatClampNeg) 
  refine rwL (rest := []) (As := [.ref (ad 0), .int (xs (nI i + 1).toNatClampNeg), .int (xs (nI i + 2).toNatClampNeg), .ref qo]) (wr := wdD G qd fd ++ wdM G um x) (wf := wdL G ad um qo qd cl' x f' fd) S (lw_setTint l hfl G ad qo cl cl' f f' (xs (nI i + 1).toNatClampNeg) (xs (nI i + 2).toNatClampNeg) r e1) (vx_cwSW 4 hts gL_law_L_setTint rfl rfl rfl hzyL_setTint ⟨Nat.le_of_ble_eq_true rfl, Nat.le_of_ble_eq_true rfl⟩) hK hP hD hS hT [0, 1, 2, 3, 4, 5, 6, 7, 8, 9, 10, 11, 12, 13, 14, 15, 16, 17, 18, 19, 20, 21, 22, 23, 24, 25, 26, 27, 28, 29, 30, 31, 32, 33, 34, 35] [36, 37, 38, 39, 40, 41, 42, 43, 44, 45, 46, 47, 48, 49, 50, 51, 52, 53] [18, 19, 20, 21, 22, 23, 24, 25, 26, 27, 28, 29, 30, 31, 32, 33, 34, 35, 36, 37, 38, 39, 40, 41, 42, 43, 44, 45, 46, 47, 48, 49, 50, 51, 52, 53, 0, 1, 2, 3, 4, 5, 6, 7, 8, 9, 10, 11, 12, 13, 14, 15, 16, 17] rfl rfl rfl rfl rfl rfl rfl rfl hl.1 rfl (Nat.le_of_ble_eq_true rfl) dL_law_710 ⟨hc1, hc2⟩ (fun _ H locs hP hD hS => ?_)
  refine lv_istore (lv' := [(6, .int r), (0, .ref b), (1, .ref (ad 0)), (2, .ref (um 0)), (3, .ref qo), (4, .ref qd), (5, .int (nI i))]) hx hb dL_law_713 hl (by decide) rfl (fun ls hl => ?_)
  refine lv_aload_n hx hb dL_law_715 rfl (lv_at hl 3 rfl) ?_
  refine lv_aload_n hx hb dL_law_716 rfl (lv_at hl 1 rfl) ?_
  refine lv_iload hx hb dL_law_717 (lv_at hl 6 rfl) ?_
  refine lv_iconst (v := 1) hx hb dL_law_719 (by decide) ?_
  refine lv_iadd hx hb dL_law_720 ?_
  refine va_sld hx hb hX hbl hbA hS (sc_in hi hL 1 (by decide)) dL_law_721 ?_
  refine lv_aload_n hx hb dL_law_722 rfl (lv_at hl 1 rfl) ?_
  refine lv_iload hx hb dL_law_723 (lv_at hl 6 rfl) ?_
  refine lv_iconst (v := 2) hx hb dL_law_725 (by decide) ?_
  refine lv_iadd hx hb dL_law_726 ?_
  refine va_sld hx hb hX hbl hbA hS (sc_in hi hL 2 (by decide)) dL_law_727 ?_
  refine rwV_back (rest := []) (As := [.int (xs (nI i + 1).toNatClampNeg), .int (xs (nI i + 2).toNatClampNeg)]) (wr := wdA G ad qo cl' f' ++ wdD G qd fd) (wf := wdL G ad um qo qd cl' (mkM r x.gain x.size x.w x.s x.h x.laidArea x.parts x.isMinus x.readSpot x.isStar x.wantsNumber x.waiting x.shiftX x.shiftY x.times x.dotsLaid x.joinedLaid x.hash x.isThere x.v x.spotOf x.inMiddle u2 x.buffer x.values x.ranks x.oldRanks x.part x.allRanks x.bases x.isMet x.metX x.metY x.line) f' fd) S (ctX5_setTint l G (um 0) (um 1) (um 2) (um 3) (um 4) (um 5) (um 6) (um 7) (um 8) (um 9) (um 10) (um 11) (um 12) (um 13) (um 14) (um 15) (um 16) x.thrown x.gain x.size x.w x.s x.h x.laidArea x.parts x.isMinus x.readSpot x.isStar x.wantsNumber x.waiting x.shiftX x.shiftY x.times x.dotsLaid x.joinedLaid x.hash x.isThere x.v x.spotOf x.inMiddle x.tints x.buffer x.values x.ranks x.oldRanks x.part x.allRanks x.bases x.isMet x.metX x.metY x.line (xs (nI i + 1).toNatClampNeg) (xs (nI i + 2).toNatClampNeg) bb r u2 e2) (cwV 2 hts gL_law_X5_setTint rfl rfl rfl hvyX5_setTint ⟨Nat.le_of_ble_eq_true rfl, Nat.le_of_ble_eq_true rfl⟩) hK hP hD hS xb_triv (fun _ _ _ => trivial) [37, 38, 39, 40, 41, 42, 43, 44, 45, 46, 47, 48, 49, 50, 51, 52, 53] [0, 1, 2, 3, 4, 5, 6, 7, 8, 9, 10, 11, 12, 13, 14, 15, 16, 17, 18, 19, 20, 21, 22, 23, 24, 25, 26, 27, 28, 29, 30, 31, 32, 33, 34, 35, 36] [0, 1, 2, 3, 4, 5, 6, 7, 8, 9, 10, 11, 12, 13, 14, 15, 16, 17, 18, 19, 20, 21, 22, 23, 24, 25, 26, 27, 28, 29, 30, 31, 32, 33, 34, 35, 36, 37, 38, 39, 40, 41, 42, 43, 44, 45, 46, 47, 48, 49, 50, 51, 52, 53] rfl rfl rfl rfl rfl rfl rfl 37 5 rfl rfl rfl rfl hl.1 rfl (Nat.le_of_ble_eq_true rfl) dL_law_728 ⟨hc1, hc2⟩ (fun _ H locs hP hD hS => ?_)
  refine lv_istore (lv' := [(7, .int bb), (6, .int r), (0, .ref b), (1, .ref (ad 0)), (2, .ref (um 0)), (3, .ref qo), (4, .ref qd), (5, .int (nI i))]) hx hb dL_law_731 hl (by decide) rfl (fun ls hl => ?_)
  refine lv_aload_n hx hb dL_law_733 rfl (lv_at hl 4 rfl) ?_
  refine roVi1 (rest := []) (As := []) S (ctX5_thrown l G (um 0) (um 1) (um 2) (um 3) (um 4) (um 5) (um 6) (um 7) (um 8) (um 9) (um 10) (um 11) (um 12) (um 13) (um 14) (um 15) (um 16) r x.gain x.size x.w x.s x.h x.laidArea x.parts x.isMinus x.readSpot x.isStar x.wantsNumber x.waiting x.shiftX x.shiftY x.times x.dotsLaid x.joinedLaid x.hash x.isThere x.v x.spotOf x.inMiddle u2 x.buffer x.values x.ranks x.oldRanks x.part x.allRanks x.bases x.isMet x.metX x.metY x.line r rfl) (cwV 0 hts gL_law_X5_thrown rfl rfl rfl hvyX5_thrown ⟨Nat.le_of_ble_eq_true rfl, Nat.le_of_ble_eq_true rfl⟩) hK hP [37, 38, 39, 40, 41, 42, 43, 44, 45, 46, 47, 48, 49, 50, 51, 52, 53] rfl 37 5 rfl rfl rfl rfl hl.1 rfl (Nat.le_of_ble_eq_true rfl) dL_law_734 ⟨hc1, hc2⟩ (fun _ => ?_)
  refine lv_iload hx hb dL_law_737 (lv_at hl 1 rfl) ?_
  refine lv_icmp_eq (tgt := 744) hx hb dL_law_739 (by decide) (fun _ => ?_) (fun cn => absurd rfl cn)
  refine lv_iload hx hb dL_law_744 (lv_at hl 1 rfl) ?_
  refine lv_if_ne (tgt := 761) hx hb dL_law_746 (by decide) (fun hr => ?_) (fun hr => ?_)
  · skip
    refine lv_goto (tgt := 2071) hx hb dL_law_761 (by decide) ?_
    exact kk cl' (mkM r x.gain x.size x.w x.s x.h x.laidArea x.parts x.isMinus x.readSpot x.isStar x.wantsNumber x.waiting x.shiftX x.shiftY x.times x.dotsLaid x.joinedLaid x.hash x.isThere x.v x.spotOf x.inMiddle u2 x.buffer x.values x.ranks x.oldRanks x.part x.allRanks x.bases x.isMet x.metX x.metY x.line) f' fd H locs ⟨hP, hD, hS, hI'⟩ ls (lv_sub hl [2, 3, 4, 5, 6, 7] rfl)
  · skip
    refine lv_aload_n hx hb dL_law_749 rfl (lv_at hl 5 rfl) ?_
    refine lv_iconst (v := 0) hx hb dL_law_750 (by decide) ?_
    refine va_lald hx hb hK.1 hP 35 3 rfl rfl (i := 0) (vp_in_iff.mpr ⟨by decide, by decide⟩) dL_law_751 ?_
    refine lv_iload hx hb dL_law_752 (lv_at hl 0 rfl) ?_
    refine lv_i2l hx hb dL_law_754 rfl ?_
    refine W.lcmp hx hb dL_law_755 ?_
    have h00 : f' ((0 : Int32).toNatClampNeg) = bb.toInt64 := e3 hr
    refine lv_if_eq (tgt := 761) hx hb dL_law_756 (by decide) (fun _ => ?_) (fun cn => absurd (by show lg_cmp _ _ = 0; rw [h00]; exact lgc _) cn)
    refine lv_goto (tgt := 2071) hx hb dL_law_761 (by decide) ?_
    exact kk cl' (mkM r x.gain x.size x.w x.s x.h x.laidArea x.parts x.isMinus x.readSpot x.isStar x.wantsNumber x.waiting x.shiftX x.shiftY x.times x.dotsLaid x.joinedLaid x.hash x.isThere x.v x.spotOf x.inMiddle u2 x.buffer x.values x.ranks x.oldRanks x.part x.allRanks x.bases x.isMet x.metX x.metY x.line) f' fd H locs ⟨hP, hD, hS, hI'⟩ ls (lv_sub hl [2, 3, 4, 5, 6, 7] rfl)
theorem hzyL_setGain : yL_setGain.cls ≠ "java/lang/invoke/MethodHandle" ∧ yL_setGain.cls ≠ "java/lang/invoke/VarHandle" ∧ (parseMethodDescriptor yL_setGain.desc).map (fun d => d.parameters.length) = some 3 := by decide +kernel
theorem hvyX5_setGain : yX5_setGain.cls = RX5 ∧ yX5_setGain.cls ≠ "java/lang/invoke/MethodHandle" ∧ yX5_setGain.cls ≠ "java/lang/invoke/VarHandle" ∧ (parseMethodDescriptor yX5_setGain.desc).map (fun d => d.parameters.length) = some 1 := ⟨rfl, by decide +kernel⟩
set_option maxHeartbeats 4000000 in
set_option maxRecDepth 100000 in
theorem law_c10 {p : Program} {l : Launch} {e : Env} {s : State} {m : MethodId} {below : List Frame} {meth : Method} {c : Code} {b L : Nat} {xs : Nat → Int32} {G : GG} {ad um : Nat → Nat} {qo qd : Nat} {Q : State → Prop} (hF : LF p l s m c b L xs G) {i : Nat} (hi : i + 7 ≤ L) {cl : Cls} {x : Mdl} {f : Nat → Int64} {fd : Nat → UInt64} {H : Heap} {locs : List Loc} (hI : LSt s G ad um qo qd cl x f fd H locs) {cells slots : Nat} (hc1 : cells + 1 ≤ 601024) (hc2 : slots + 6 ≤ 7293034) {ls : Array Slot} (hl : lv_has ls 9 (lvL b ad um qo qd i)) (kk : LKont p l e s m below meth c b G ad um qo qd i cells slots Q) : W p l e room_1 s m #[Value.ref b] below meth c H locs cells slots Q (F0 m 764 ls []) := by
  obtain ⟨⟨hx, hb, hml, hown, hts, hX, hbl⟩, hK, hT, hL, hfl⟩ := id hF
  obtain ⟨hP, hD, hS, hI⟩ := hI
  have hbA : ¬ AL s b := Nat.not_le.mpr hbl
  have S : CallFix p m c cL_law 9 s #[Value.ref b] lw_tbl RL := ⟨hx, hb, hml, hown, hts⟩
  refine lv_aload_n hx hb dL_law_764 rfl (lv_at hl 1 rfl) ?_
  refine lv_aload_n hx hb dL_law_765 rfl (lv_at hl 0 rfl) ?_
  refine lv_iload hx hb dL_law_766 (lv_at hl 5 rfl) ?_
  refine lv_iconst (v := 1) hx hb dL_law_768 (by decide) ?_
  refine lv_iadd hx hb dL_law_769 ?_
  refine va_sld hx hb hX hbl hbA hS (sc_in hi hL 1 (by decide)) dL_law_770 ?_
  refine lv_aload_n hx hb dL_law_771 rfl (lv_at hl 3 rfl) ?_
  obtain ⟨r, cl', f', bb, u2, e1, e2, e3, hI'⟩ := LW_setGain hI f (xs (nI i + 1).toNatClampNeg) 
  refine rwL (rest := []) (As := [.ref (ad 0), .int (xs (nI i + 1).toNatClampNeg), .ref qo]) (wr := wdD G qd fd ++ wdM G um x) (wf := wdL G ad um qo qd cl' x f' fd) S (lw_setGain l hfl G ad qo cl cl' f f' (xs (nI i + 1).toNatClampNeg) r e1) (vx_cwSW 3 hts gL_law_L_setGain rfl rfl rfl hzyL_setGain ⟨Nat.le_of_ble_eq_true rfl, Nat.le_of_ble_eq_true rfl⟩) hK hP hD hS hT [0, 1, 2, 3, 4, 5, 6, 7, 8, 9, 10, 11, 12, 13, 14, 15, 16, 17, 18, 19, 20, 21, 22, 23, 24, 25, 26, 27, 28, 29, 30, 31, 32, 33, 34, 35] [36, 37, 38, 39, 40, 41, 42, 43, 44, 45, 46, 47, 48, 49, 50, 51, 52, 53] [18, 19, 20, 21, 22, 23, 24, 25, 26, 27, 28, 29, 30, 31, 32, 33, 34, 35, 36, 37, 38, 39, 40, 41, 42, 43, 44, 45, 46, 47, 48, 49, 50, 51, 52, 53, 0, 1, 2, 3, 4, 5, 6, 7, 8, 9, 10, 11, 12, 13, 14, 15, 16, 17] rfl rfl rfl rfl rfl rfl rfl rfl hl.1 rfl (Nat.le_of_ble_eq_true rfl) dL_law_772 ⟨hc1, hc2⟩ (fun _ H locs hP hD hS => ?_)
  refine lv_istore (lv' := [(6, .int r), (0, .ref b), (1, .ref (ad 0)), (2, .ref (um 0)), (3, .ref qo), (4, .ref qd), (5, .int (nI i))]) hx hb dL_law_775 hl (by decide) rfl (fun ls hl => ?_)
  refine lv_aload_n hx hb dL_law_777 rfl (lv_at hl 3 rfl) ?_
  refine lv_aload_n hx hb dL_law_778 rfl (lv_at hl 1 rfl) ?_
  refine lv_iload hx hb dL_law_779 (lv_at hl 6 rfl) ?_
  refine lv_iconst (v := 1) hx hb dL_law_781 (by decide) ?_
  refine lv_iadd hx hb dL_law_782 ?_
  refine va_sld hx hb hX hbl hbA hS (sc_in hi hL 1 (by decide)) dL_law_783 ?_
  refine rwV_back (rest := []) (As := [.int (xs (nI i + 1).toNatClampNeg)]) (wr := wdA G ad qo cl' f' ++ wdD G qd fd) (wf := wdL G ad um qo qd cl' (mkM r u2 x.size x.w x.s x.h x.laidArea x.parts x.isMinus x.readSpot x.isStar x.wantsNumber x.waiting x.shiftX x.shiftY x.times x.dotsLaid x.joinedLaid x.hash x.isThere x.v x.spotOf x.inMiddle x.tints x.buffer x.values x.ranks x.oldRanks x.part x.allRanks x.bases x.isMet x.metX x.metY x.line) f' fd) S (ctX5_setGain l G (um 0) (um 1) (um 2) (um 3) (um 4) (um 5) (um 6) (um 7) (um 8) (um 9) (um 10) (um 11) (um 12) (um 13) (um 14) (um 15) (um 16) x.thrown x.gain x.size x.w x.s x.h x.laidArea x.parts x.isMinus x.readSpot x.isStar x.wantsNumber x.waiting x.shiftX x.shiftY x.times x.dotsLaid x.joinedLaid x.hash x.isThere x.v x.spotOf x.inMiddle x.tints x.buffer x.values x.ranks x.oldRanks x.part x.allRanks x.bases x.isMet x.metX x.metY x.line (xs (nI i + 1).toNatClampNeg) bb r u2 e2) (cwV 1 hts gL_law_X5_setGain rfl rfl rfl hvyX5_setGain ⟨Nat.le_of_ble_eq_true rfl, Nat.le_of_ble_eq_true rfl⟩) hK hP hD hS xb_triv (fun _ _ _ => trivial) [37, 38, 39, 40, 41, 42, 43, 44, 45, 46, 47, 48, 49, 50, 51, 52, 53] [0, 1, 2, 3, 4, 5, 6, 7, 8, 9, 10, 11, 12, 13, 14, 15, 16, 17, 18, 19, 20, 21, 22, 23, 24, 25, 26, 27, 28, 29, 30, 31, 32, 33, 34, 35, 36] [0, 1, 2, 3, 4, 5, 6, 7, 8, 9, 10, 11, 12, 13, 14, 15, 16, 17, 18, 19, 20, 21, 22, 23, 24, 25, 26, 27, 28, 29, 30, 31, 32, 33, 34, 35, 36, 37, 38, 39, 40, 41, 42, 43, 44, 45, 46, 47, 48, 49, 50, 51, 52, 53] rfl rfl rfl rfl rfl rfl rfl 37 5 rfl rfl rfl rfl hl.1 rfl (Nat.le_of_ble_eq_true rfl) dL_law_784 ⟨hc1, hc2⟩ (fun _ H locs hP hD hS => ?_)
  refine lv_istore (lv' := [(7, .int bb), (6, .int r), (0, .ref b), (1, .ref (ad 0)), (2, .ref (um 0)), (3, .ref qo), (4, .ref qd), (5, .int (nI i))]) hx hb dL_law_787 hl (by decide) rfl (fun ls hl => ?_)
  refine lv_aload_n hx hb dL_law_789 rfl (lv_at hl 4 rfl) ?_
  refine roVi1 (rest := []) (As := []) S (ctX5_thrown l G (um 0) (um 1) (um 2) (um 3) (um 4) (um 5) (um 6) (um 7) (um 8) (um 9) (um 10) (um 11) (um 12) (um 13) (um 14) (um 15) (um 16) r u2 x.size x.w x.s x.h x.laidArea x.parts x.isMinus x.readSpot x.isStar x.wantsNumber x.waiting x.shiftX x.shiftY x.times x.dotsLaid x.joinedLaid x.hash x.isThere x.v x.spotOf x.inMiddle x.tints x.buffer x.values x.ranks x.oldRanks x.part x.allRanks x.bases x.isMet x.metX x.metY x.line r rfl) (cwV 0 hts gL_law_X5_thrown rfl rfl rfl hvyX5_thrown ⟨Nat.le_of_ble_eq_true rfl, Nat.le_of_ble_eq_true rfl⟩) hK hP [37, 38, 39, 40, 41, 42, 43, 44, 45, 46, 47, 48, 49, 50, 51, 52, 53] rfl 37 5 rfl rfl rfl rfl hl.1 rfl (Nat.le_of_ble_eq_true rfl) dL_law_790 ⟨hc1, hc2⟩ (fun _ => ?_)
  refine lv_iload hx hb dL_law_793 (lv_at hl 1 rfl) ?_
  refine lv_icmp_eq (tgt := 800) hx hb dL_law_795 (by decide) (fun _ => ?_) (fun cn => absurd rfl cn)
  refine lv_iload hx hb dL_law_800 (lv_at hl 1 rfl) ?_
  refine lv_if_ne (tgt := 817) hx hb dL_law_802 (by decide) (fun hr => ?_) (fun hr => ?_)
  · skip
    refine lv_goto (tgt := 2071) hx hb dL_law_817 (by decide) ?_
    exact kk cl' (mkM r u2 x.size x.w x.s x.h x.laidArea x.parts x.isMinus x.readSpot x.isStar x.wantsNumber x.waiting x.shiftX x.shiftY x.times x.dotsLaid x.joinedLaid x.hash x.isThere x.v x.spotOf x.inMiddle x.tints x.buffer x.values x.ranks x.oldRanks x.part x.allRanks x.bases x.isMet x.metX x.metY x.line) f' fd H locs ⟨hP, hD, hS, hI'⟩ ls (lv_sub hl [2, 3, 4, 5, 6, 7] rfl)
  · skip
    refine lv_aload_n hx hb dL_law_805 rfl (lv_at hl 5 rfl) ?_
    refine lv_iconst (v := 0) hx hb dL_law_806 (by decide) ?_
    refine va_lald hx hb hK.1 hP 35 3 rfl rfl (i := 0) (vp_in_iff.mpr ⟨by decide, by decide⟩) dL_law_807 ?_
    refine lv_iload hx hb dL_law_808 (lv_at hl 0 rfl) ?_
    refine lv_i2l hx hb dL_law_810 rfl ?_
    refine W.lcmp hx hb dL_law_811 ?_
    have h00 : f' ((0 : Int32).toNatClampNeg) = bb.toInt64 := e3 hr
    refine lv_if_eq (tgt := 817) hx hb dL_law_812 (by decide) (fun _ => ?_) (fun cn => absurd (by show lg_cmp _ _ = 0; rw [h00]; exact lgc _) cn)
    refine lv_goto (tgt := 2071) hx hb dL_law_817 (by decide) ?_
    exact kk cl' (mkM r u2 x.size x.w x.s x.h x.laidArea x.parts x.isMinus x.readSpot x.isStar x.wantsNumber x.waiting x.shiftX x.shiftY x.times x.dotsLaid x.joinedLaid x.hash x.isThere x.v x.spotOf x.inMiddle x.tints x.buffer x.values x.ranks x.oldRanks x.part x.allRanks x.bases x.isMet x.metX x.metY x.line) f' fd H locs ⟨hP, hD, hS, hI'⟩ ls (lv_sub hl [2, 3, 4, 5, 6, 7] rfl)
theorem hzyL_screen : yL_screen.cls ≠ "java/lang/invoke/MethodHandle" ∧ yL_screen.cls ≠ "java/lang/invoke/VarHandle" ∧ (parseMethodDescriptor yL_screen.desc).map (fun d => d.parameters.length) = some 4 := by decide +kernel
theorem hvyX5_screen : yX5_screen.cls = RX5 ∧ yX5_screen.cls ≠ "java/lang/invoke/MethodHandle" ∧ yX5_screen.cls ≠ "java/lang/invoke/VarHandle" ∧ (parseMethodDescriptor yX5_screen.desc).map (fun d => d.parameters.length) = some 2 := ⟨rfl, by decide +kernel⟩
set_option maxHeartbeats 4000000 in
set_option maxRecDepth 100000 in
theorem law_c11 {p : Program} {l : Launch} {e : Env} {s : State} {m : MethodId} {below : List Frame} {meth : Method} {c : Code} {b L : Nat} {xs : Nat → Int32} {G : GG} {ad um : Nat → Nat} {qo qd : Nat} {Q : State → Prop} (hF : LF p l s m c b L xs G) {i : Nat} (hi : i + 7 ≤ L) {cl : Cls} {x : Mdl} {f : Nat → Int64} {fd : Nat → UInt64} {H : Heap} {locs : List Loc} (hI : LSt s G ad um qo qd cl x f fd H locs) {cells slots : Nat} (hc1 : cells + 1 ≤ 601024) (hc2 : slots + 6 ≤ 7293034) {ls : Array Slot} (hl : lv_has ls 9 (lvL b ad um qo qd i)) (kk : LKont p l e s m below meth c b G ad um qo qd i cells slots Q) : W p l e room_1 s m #[Value.ref b] below meth c H locs cells slots Q (F0 m 820 ls []) := by
  obtain ⟨⟨hx, hb, hml, hown, hts, hX, hbl⟩, hK, hT, hL, hfl⟩ := id hF
  obtain ⟨hP, hD, hS, hI⟩ := hI
  have hbA : ¬ AL s b := Nat.not_le.mpr hbl
  have S : CallFix p m c cL_law 9 s #[Value.ref b] lw_tbl RL := ⟨hx, hb, hml, hown, hts⟩
  refine lv_aload_n hx hb dL_law_820 rfl (lv_at hl 1 rfl) ?_
  refine lv_aload_n hx hb dL_law_821 rfl (lv_at hl 0 rfl) ?_
  refine lv_iload hx hb dL_law_822 (lv_at hl 5 rfl) ?_
  refine lv_iconst (v := 1) hx hb dL_law_824 (by decide) ?_
  refine lv_iadd hx hb dL_law_825 ?_
  refine va_sld hx hb hX hbl hbA hS (sc_in hi hL 1 (by decide)) dL_law_826 ?_
  refine lv_aload_n hx hb dL_law_827 rfl (lv_at hl 0 rfl) ?_
  refine lv_iload hx hb dL_law_828 (lv_at hl 5 rfl) ?_
  refine lv_iconst (v := 2) hx hb dL_law_830 (by decide) ?_
  refine lv_iadd hx hb dL_law_831 ?_
  refine va_sld hx hb hX hbl hbA hS (sc_in hi hL 2 (by decide)) dL_law_832 ?_
  refine lv_aload_n hx hb dL_law_833 rfl (lv_at hl 3 rfl) ?_
  obtain ⟨r, cl', f', bb, u2, u3, u4, e1, e2, e3, hI'⟩ := LW_screen hI f (xs (nI i + 1).toNatClampNeg) (xs (nI i + 2).toNatClampNeg) x.w x.s x.h
  refine rwL (rest := []) (As := [.ref (ad 0), .int (xs (nI i + 1).toNatClampNeg), .int (xs (nI i + 2).toNatClampNeg), .ref qo]) (wr := wdD G qd fd ++ wdM G um x) (wf := wdL G ad um qo qd cl' x f' fd) S (lw_screen l hfl G ad qo cl cl' f f' (xs (nI i + 1).toNatClampNeg) (xs (nI i + 2).toNatClampNeg) r e1) (vx_cwSW 4 hts gL_law_L_screen rfl rfl rfl hzyL_screen ⟨Nat.le_of_ble_eq_true rfl, Nat.le_of_ble_eq_true rfl⟩) hK hP hD hS hT [0, 1, 2, 3, 4, 5, 6, 7, 8, 9, 10, 11, 12, 13, 14, 15, 16, 17, 18, 19, 20, 21, 22, 23, 24, 25, 26, 27, 28, 29, 30, 31, 32, 33, 34, 35] [36, 37, 38, 39, 40, 41, 42, 43, 44, 45, 46, 47, 48, 49, 50, 51, 52, 53] [18, 19, 20, 21, 22, 23, 24, 25, 26, 27, 28, 29, 30, 31, 32, 33, 34, 35, 36, 37, 38, 39, 40, 41, 42, 43, 44, 45, 46, 47, 48, 49, 50, 51, 52, 53, 0, 1, 2, 3, 4, 5, 6, 7, 8, 9, 10, 11, 12, 13, 14, 15, 16, 17] rfl rfl rfl rfl rfl rfl rfl rfl hl.1 rfl (Nat.le_of_ble_eq_true rfl) dL_law_834 ⟨hc1, hc2⟩ (fun _ H locs hP hD hS => ?_)
  refine lv_istore (lv' := [(6, .int r), (0, .ref b), (1, .ref (ad 0)), (2, .ref (um 0)), (3, .ref qo), (4, .ref qd), (5, .int (nI i))]) hx hb dL_law_837 hl (by decide) rfl (fun ls hl => ?_)
  refine lv_aload_n hx hb dL_law_839 rfl (lv_at hl 3 rfl) ?_
  refine lv_aload_n hx hb dL_law_840 rfl (lv_at hl 1 rfl) ?_
  refine lv_iload hx hb dL_law_841 (lv_at hl 6 rfl) ?_
  refine lv_iconst (v := 1) hx hb dL_law_843 (by decide) ?_
  refine lv_iadd hx hb dL_law_844 ?_
  refine va_sld hx hb hX hbl hbA hS (sc_in hi hL 1 (by decide)) dL_law_845 ?_
  refine lv_aload_n hx hb dL_law_846 rfl (lv_at hl 1 rfl) ?_
  refine lv_iload hx hb dL_law_847 (lv_at hl 6 rfl) ?_
  refine lv_iconst (v := 2) hx hb dL_law_849 (by decide) ?_
  refine lv_iadd hx hb dL_law_850 ?_
  refine va_sld hx hb hX hbl hbA hS (sc_in hi hL 2 (by decide)) dL_law_851 ?_
  refine rwV_back (rest := []) (As := [.int (xs (nI i + 1).toNatClampNeg), .int (xs (nI i + 2).toNatClampNeg)]) (wr := wdA G ad qo cl' f' ++ wdD G qd fd) (wf := wdL G ad um qo qd cl' (mkM r x.gain x.size u2 u3 u4 x.laidArea x.parts x.isMinus x.readSpot x.isStar x.wantsNumber x.waiting x.shiftX x.shiftY x.times x.dotsLaid x.joinedLaid x.hash x.isThere x.v x.spotOf x.inMiddle x.tints x.buffer x.values x.ranks x.oldRanks x.part x.allRanks x.bases x.isMet x.metX x.metY x.line) f' fd) S (ctX5_screen l G (um 0) (um 1) (um 2) (um 3) (um 4) (um 5) (um 6) (um 7) (um 8) (um 9) (um 10) (um 11) (um 12) (um 13) (um 14) (um 15) (um 16) x.thrown x.gain x.size x.w x.s x.h x.laidArea x.parts x.isMinus x.readSpot x.isStar x.wantsNumber x.waiting x.shiftX x.shiftY x.times x.dotsLaid x.joinedLaid x.hash x.isThere x.v x.spotOf x.inMiddle x.tints x.buffer x.values x.ranks x.oldRanks x.part x.allRanks x.bases x.isMet x.metX x.metY x.line (xs (nI i + 1).toNatClampNeg) (xs (nI i + 2).toNatClampNeg) bb r u2 u3 u4 e2) (cwV 2 hts gL_law_X5_screen rfl rfl rfl hvyX5_screen ⟨Nat.le_of_ble_eq_true rfl, Nat.le_of_ble_eq_true rfl⟩) hK hP hD hS xb_triv (fun _ _ _ => trivial) [37, 38, 39, 40, 41, 42, 43, 44, 45, 46, 47, 48, 49, 50, 51, 52, 53] [0, 1, 2, 3, 4, 5, 6, 7, 8, 9, 10, 11, 12, 13, 14, 15, 16, 17, 18, 19, 20, 21, 22, 23, 24, 25, 26, 27, 28, 29, 30, 31, 32, 33, 34, 35, 36] [0, 1, 2, 3, 4, 5, 6, 7, 8, 9, 10, 11, 12, 13, 14, 15, 16, 17, 18, 19, 20, 21, 22, 23, 24, 25, 26, 27, 28, 29, 30, 31, 32, 33, 34, 35, 36, 37, 38, 39, 40, 41, 42, 43, 44, 45, 46, 47, 48, 49, 50, 51, 52, 53] rfl rfl rfl rfl rfl rfl rfl 37 5 rfl rfl rfl rfl hl.1 rfl (Nat.le_of_ble_eq_true rfl) dL_law_852 ⟨hc1, hc2⟩ (fun _ H locs hP hD hS => ?_)
  refine lv_istore (lv' := [(7, .int bb), (6, .int r), (0, .ref b), (1, .ref (ad 0)), (2, .ref (um 0)), (3, .ref qo), (4, .ref qd), (5, .int (nI i))]) hx hb dL_law_855 hl (by decide) rfl (fun ls hl => ?_)
  refine lv_aload_n hx hb dL_law_857 rfl (lv_at hl 4 rfl) ?_
  refine roVi1 (rest := []) (As := []) S (ctX5_thrown l G (um 0) (um 1) (um 2) (um 3) (um 4) (um 5) (um 6) (um 7) (um 8) (um 9) (um 10) (um 11) (um 12) (um 13) (um 14) (um 15) (um 16) r x.gain x.size u2 u3 u4 x.laidArea x.parts x.isMinus x.readSpot x.isStar x.wantsNumber x.waiting x.shiftX x.shiftY x.times x.dotsLaid x.joinedLaid x.hash x.isThere x.v x.spotOf x.inMiddle x.tints x.buffer x.values x.ranks x.oldRanks x.part x.allRanks x.bases x.isMet x.metX x.metY x.line r rfl) (cwV 0 hts gL_law_X5_thrown rfl rfl rfl hvyX5_thrown ⟨Nat.le_of_ble_eq_true rfl, Nat.le_of_ble_eq_true rfl⟩) hK hP [37, 38, 39, 40, 41, 42, 43, 44, 45, 46, 47, 48, 49, 50, 51, 52, 53] rfl 37 5 rfl rfl rfl rfl hl.1 rfl (Nat.le_of_ble_eq_true rfl) dL_law_858 ⟨hc1, hc2⟩ (fun _ => ?_)
  refine lv_iload hx hb dL_law_861 (lv_at hl 1 rfl) ?_
  refine lv_icmp_eq (tgt := 868) hx hb dL_law_863 (by decide) (fun _ => ?_) (fun cn => absurd rfl cn)
  refine lv_iload hx hb dL_law_868 (lv_at hl 1 rfl) ?_
  refine lv_if_ne (tgt := 885) hx hb dL_law_870 (by decide) (fun hr => ?_) (fun hr => ?_)
  · skip
    refine lv_goto (tgt := 2071) hx hb dL_law_885 (by decide) ?_
    exact kk cl' (mkM r x.gain x.size u2 u3 u4 x.laidArea x.parts x.isMinus x.readSpot x.isStar x.wantsNumber x.waiting x.shiftX x.shiftY x.times x.dotsLaid x.joinedLaid x.hash x.isThere x.v x.spotOf x.inMiddle x.tints x.buffer x.values x.ranks x.oldRanks x.part x.allRanks x.bases x.isMet x.metX x.metY x.line) f' fd H locs ⟨hP, hD, hS, hI'⟩ ls (lv_sub hl [2, 3, 4, 5, 6, 7] rfl)
  · skip
    refine lv_aload_n hx hb dL_law_873 rfl (lv_at hl 5 rfl) ?_
    refine lv_iconst (v := 0) hx hb dL_law_874 (by decide) ?_
    refine va_lald hx hb hK.1 hP 35 3 rfl rfl (i := 0) (vp_in_iff.mpr ⟨by decide, by decide⟩) dL_law_875 ?_
    refine lv_iload hx hb dL_law_876 (lv_at hl 0 rfl) ?_
    refine lv_i2l hx hb dL_law_878 rfl ?_
    refine W.lcmp hx hb dL_law_879 ?_
    have h00 : f' ((0 : Int32).toNatClampNeg) = bb.toInt64 := e3 hr
    refine lv_if_eq (tgt := 885) hx hb dL_law_880 (by decide) (fun _ => ?_) (fun cn => absurd (by show lg_cmp _ _ = 0; rw [h00]; exact lgc _) cn)
    refine lv_goto (tgt := 2071) hx hb dL_law_885 (by decide) ?_
    exact kk cl' (mkM r x.gain x.size u2 u3 u4 x.laidArea x.parts x.isMinus x.readSpot x.isStar x.wantsNumber x.waiting x.shiftX x.shiftY x.times x.dotsLaid x.joinedLaid x.hash x.isThere x.v x.spotOf x.inMiddle x.tints x.buffer x.values x.ranks x.oldRanks x.part x.allRanks x.bases x.isMet x.metX x.metY x.line) f' fd H locs ⟨hP, hD, hS, hI'⟩ ls (lv_sub hl [2, 3, 4, 5, 6, 7] rfl)
