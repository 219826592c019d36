-- contracts of the law's wrappers (laid by program)
abbrev rmL_setScreen : Room := { frames := 8, cells := 1, slots := 6, locals := 167 }
theorem hsX4_setScreen : yX4_setScreen.cls ≠ "java/lang/invoke/MethodHandle" ∧ yX4_setScreen.cls ≠ "java/lang/invoke/VarHandle" ∧ (parseMethodDescriptor yX4_setScreen.desc).map (fun d => d.parameters.length) = some 6 := by decide +kernel
theorem hvX4_setScreen : yX4_setScreen.cls = RX4 ∧ yX4_setScreen.cls ≠ "java/lang/invoke/MethodHandle" ∧ yX4_setScreen.cls ≠ "java/lang/invoke/VarHandle" ∧ (parseMethodDescriptor yX4_setScreen.desc).map (fun d => d.parameters.length) = some 6 := ⟨rfl, hsX4_setScreen⟩
theorem lkL_setScreen_c20 : Cond.classLink RL 20 "java/lang/IndexOutOfBoundsException" ∈ wsL_setScreen := List.mem_of_getElem? (i := 1) rfl
theorem lkL_setScreen_c13 : Cond.classLink RL 13 "java/lang/IllegalArgumentException" ∈ wsL_setScreen := List.mem_of_getElem? (i := 2) rfl
set_option maxHeartbeats 4000000 in
set_option maxRecDepth 100000 in
theorem lw_setScreen (l : Launch) (hfl : l.stackTraces = false) (G : GG) (ad : Nat → Nat) (qo : Nat) (c c' : Cls) (f f' : Nat → Int64) (a0 : Int32) (a1 : Int32) (a2 : Int32) (a3 : Int32) (a4 : Int32) (a5 : Int32) (r0 : Int32) (h : lm_setScreen c f a0 a1 a2 a3 a4 a5 = some (r0, c', f')) : Met l yL_setScreen wsL_setScreen rmL_setScreen (va_Pc [.ref (ad 0), .int a0, .int a1, .int a2, .int a3, .int a4, .int a5, .ref qo] (PreD G (wdF G ad c ++ [(qo, .inl (G.2 3, 1, .inr (.inl f)))]) (XL (wdF G ad c ++ [(qo, .inl (G.2 3, 1, .inr (.inl f)))])))) (QwA G (va_A0 (wdF G ad c ++ [(qo, .inl (G.2 3, 1, .inr (.inl f)))])) (wdF G ad c' ++ [(qo, .inl (G.2 3, 1, .inr (.inl f')))]) (some (.int r0)) True) 1 6 (va_A0 (wdF G ad c ++ [(qo, .inl (G.2 3, 1, .inr (.inl f)))])) := by
  refine of_lw (cc := cL_setScreen) (maxL := 9) (hh := [(0, 18, 21, 20), (0, 18, 25, 13)]) (by decide) rfl (Nat.le_of_ble_eq_true rfl) ?_
  intro p e s m args below meth c1 ls Q A S htab hl hP hD hS hK hT hN hX hA hret
  obtain ⟨H, hH⟩ : ∃ H, H = s.heap := ⟨_, rfl⟩
  obtain ⟨locs, hlocs⟩ : ∃ L : List Loc, L = [] := ⟨_, rfl⟩
  rw [← hlocs]
  rw [← hlocs] at hS
  have hP : va_P G.1 vwCl (wdF G ad c ++ [(qo, .inl (G.2 3, 1, .inr (.inl f)))]) H := by rw [hH]; exact hP
  have hS : va_S A s.heap H locs := by rw [hH]; exact hS
  have hT : TT A s H := by rw [hH]; exact hT
  suffices hgo : W p l e rmL_setScreen s m args below meth c1 H locs 0 0 Q (F0 m 0 ls []) by rw [hH] at hgo; exact hgo
  have S : CallFix p m c1 cL_setScreen 9 s args wsL_setScreen RL := S
  obtain ⟨hx, hb, hml, hown, hts⟩ := id S
  have hl : lv_has ls 9 [(0, .ref (ad 0)), (1, .int a0), (2, .int a1), (3, .int a2), (4, .int a3), (5, .int a4), (6, .int a5), (7, .ref qo)] := hl
  unfold lm_setScreen at h
  refine lv_aload hx hb dL_setScreen_0 (lv_at hl 7 rfl) ?_
  refine lv_iconst (v := 0) hx hb dL_setScreen_2 (by decide) ?_
  refine lv_aload_n hx hb dL_setScreen_3 rfl (lv_at hl 0 rfl) ?_
  refine lv_iload_n hx hb dL_setScreen_4 rfl (lv_at hl 1 rfl) ?_
  refine lv_iload_n hx hb dL_setScreen_5 rfl (lv_at hl 2 rfl) ?_
  refine lv_iload_n hx hb dL_setScreen_6 rfl (lv_at hl 3 rfl) ?_
  refine lv_iload hx hb dL_setScreen_7 (lv_at hl 4 rfl) ?_
  refine lv_iload hx hb dL_setScreen_9 (lv_at hl 5 rfl) ?_
  refine lv_iload hx hb dL_setScreen_11 (lv_at hl 6 rfl) ?_
  by_cases hs_a0 : a0 = 0
  · replace h := ite_t hs_a0 h
    rcases lq_e h with ⟨k0, gx, h⟩ | ⟨gx, h⟩
    · by_cases hk1 : k0 = 1
      · subst hk1
        cases h
        refine lwC (k := 1) (rest := [.int 0, .ref qo]) (As := [.int a0, .int a1, .int a2, .int a3, .int a4, .int a5]) S (by decide) (cxX4_setScreen l hfl G (ad 0) (ad 1) (ad 11) (ad 12) (ad 13) (ad 14) (ad 15) (ad 16) (ad 17) (ad 18) (ad 2) (ad 5) (ad 10) c.gain (ad 11) (ad 19) (ad 27) c.s0.pr c.s0.a c.s0.b c.s0.c c.s0.d c.s0.sp c.s0.mi c.s0.ti c.s0.w c.s0.s c.s0.h c.s0.va c.s0.ov c.s0.ra c.s0.ol c.s0.od c.s0.ne a0 a1 a2 a3 a4 a5 1 gx 0 (by decide) (by rw [hs_a0]; decide) rfl) (cwV 6 hts gL_setScreen_X4_setScreen rfl rfl rfl hvX4_setScreen ⟨Nat.le_of_ble_eq_true rfl, Nat.le_of_ble_eq_true rfl⟩) hK hT hP hD hS [0, 1, 11, 12, 13, 14, 15, 16, 17, 18] rfl 0 4 rfl rfl rfl rfl hl.1 rfl (Nat.le_of_ble_eq_true rfl) dL_setScreen_13 ⟨Nat.le_of_ble_eq_true rfl, Nat.le_of_ble_eq_true rfl⟩ [{ startPc := 0, endPc := 18, handlerPc := 21, catchType := 20 }] { startPc := 0, endPc := 18, handlerPc := 25, catchType := 13 } [] (by rw [htab]; rfl) (tp_cons (nm := exn 3) (by decide) (hts (.classLink RL 20 "java/lang/IndexOutOfBoundsException") lkL_setScreen_c20) (hN 1 (by decide) 3 (by decide) (by decide)) tp_nil) rfl (by decide) (hts (.classLink RL 13 "java/lang/IllegalArgumentException") lkL_setScreen_c13) rfl (fun H locs q hP hD hS => ?_)
        refine lv_astore (lv' := [(8, .ref q), (0, .ref (ad 0)), (1, .int a0), (2, .int a1), (3, .int a2), (4, .int a3), (5, .int a4), (6, .int a5), (7, .ref qo)]) hx hb dL_setScreen_25 hl (by decide) rfl (fun ls hl => ?_)
        refine lv_iconst (v := 2) hx hb dL_setScreen_27 (by decide) ?_
        exact hret _ _ _ _ _ rfl hP hD hS dL_setScreen_28
      replace h := ite_f hk1 h
      by_cases hk3 : k0 = 3
      · subst hk3
        cases h
        refine lwC (k := 3) (rest := [.int 0, .ref qo]) (As := [.int a0, .int a1, .int a2, .int a3, .int a4, .int a5]) S (by decide) (cxX4_setScreen l hfl G (ad 0) (ad 1) (ad 11) (ad 12) (ad 13) (ad 14) (ad 15) (ad 16) (ad 17) (ad 18) (ad 2) (ad 5) (ad 10) c.gain (ad 11) (ad 19) (ad 27) c.s0.pr c.s0.a c.s0.b c.s0.c c.s0.d c.s0.sp c.s0.mi c.s0.ti c.s0.w c.s0.s c.s0.h c.s0.va c.s0.ov c.s0.ra c.s0.ol c.s0.od c.s0.ne a0 a1 a2 a3 a4 a5 3 gx 0 (by decide) (by rw [hs_a0]; decide) rfl) (cwV 6 hts gL_setScreen_X4_setScreen rfl rfl rfl hvX4_setScreen ⟨Nat.le_of_ble_eq_true rfl, Nat.le_of_ble_eq_true rfl⟩) hK hT hP hD hS [0, 1, 11, 12, 13, 14, 15, 16, 17, 18] rfl 0 4 rfl rfl rfl rfl hl.1 rfl (Nat.le_of_ble_eq_true rfl) dL_setScreen_13 ⟨Nat.le_of_ble_eq_true rfl, Nat.le_of_ble_eq_true rfl⟩ [] { startPc := 0, endPc := 18, handlerPc := 21, catchType := 20 } [{ startPc := 0, endPc := 18, handlerPc := 25, catchType := 13 }] (by rw [htab]; rfl) tp_nil rfl (by decide) (hts (.classLink RL 20 "java/lang/IndexOutOfBoundsException") lkL_setScreen_c20) rfl (fun H locs q hP hD hS => ?_)
        refine lv_astore (lv' := [(8, .ref q), (0, .ref (ad 0)), (1, .int a0), (2, .int a1), (3, .int a2), (4, .int a3), (5, .int a4), (6, .int a5), (7, .ref qo)]) hx hb dL_setScreen_21 hl (by decide) rfl (fun ls hl => ?_)
        refine lv_iconst (v := 1) hx hb dL_setScreen_23 (by decide) ?_
        exact hret _ _ _ _ _ rfl hP hD hS dL_setScreen_24
      cases (ite_f hk3 h)
    · obtain ⟨o0, o1, o2, o3, o4, o5, o6, o7, o8, o9, o10, o11, o12, o13, o14, o15, o16, o17, g, h⟩ := bnd18_e h
      cases h
      refine rwV_back (rest := [.int 0, .ref qo]) (As := [.int a0, .int a1, .int a2, .int a3, .int a4, .int a5]) (wr := List.filterMap (fun i => (wdF G ad c ++ [(qo, .inl (G.2 3, 1, .inr (.inl f)))])[i]?) [2, 3, 4, 5, 6, 7, 8, 9, 10, 19, 20, 21, 22, 23, 24, 25, 26, 27, 28, 29, 30, 31, 32, 33, 34, 35]) (wf := wdF G ad (mkC c.gain c.il c.ip c.ia c.ig c.is c.im c.ic c.iq c.dn c.dm c.dj c.dt c.dx c.dy c.dr c.dv c.dw c.dq c.fw c.fs c.fh (mkS o1 o2 o3 o4 o5 o6 o7 o8 o9 o10 o11 o12 o13 o14 o15 o16 o17) c.s1 c.s2) ++ [(qo, .inl (G.2 3, 1, .inr (.inl f)))]) S (ctX4_setScreen l G (ad 0) (ad 1) (ad 11) (ad 12) (ad 13) (ad 14) (ad 15) (ad 16) (ad 17) (ad 18) (ad 2) (ad 5) (ad 10) c.gain (ad 11) (ad 19) (ad 27) c.s0.pr c.s0.a c.s0.b c.s0.c c.s0.d c.s0.sp c.s0.mi c.s0.ti c.s0.w c.s0.s c.s0.h c.s0.va c.s0.ov c.s0.ra c.s0.ol c.s0.od c.s0.ne a0 a1 a2 a3 a4 a5 o0 o1 o2 o3 o4 o5 o6 o7 o8 o9 o10 o11 o12 o13 o14 o15 o16 o17 g 0 (by decide) (by rw [hs_a0]; decide) rfl) (cwV 6 hts gL_setScreen_X4_setScreen rfl rfl rfl hvX4_setScreen ⟨Nat.le_of_ble_eq_true rfl, Nat.le_of_ble_eq_true rfl⟩) hK hP hD hS (SK.blind _) (fun U hU hW => SK.call hX hA hD hS [0, 1, 11, 12, 13, 14, 15, 16, 17, 18] rfl hU hW) [0, 1, 11, 12, 13, 14, 15, 16, 17, 18] [2, 3, 4, 5, 6, 7, 8, 9, 10, 19, 20, 21, 22, 23, 24, 25, 26, 27, 28, 29, 30, 31, 32, 33, 34, 35] [26, 27, 0, 1, 2, 3, 4, 5, 6, 7, 8, 28, 29, 30, 31, 32, 33, 34, 35, 9, 10, 11, 12, 13, 14, 15, 16, 17, 18, 19, 20, 21, 22, 23, 24, 25] rfl rfl rfl rfl rfl rfl rfl 0 4 rfl rfl rfl rfl hl.1 rfl (Nat.le_of_ble_eq_true rfl) dL_setScreen_13 ⟨Nat.zero_le _, Nat.zero_le _⟩ (fun _ H locs hP hD hS => ?_)
      refine lv_i2l hx hb dL_setScreen_16 rfl ?_
      refine va_last hx hb hK.1 hP hD hS 35 3 rfl rfl (i := 0) (vp_in_iff.mpr ⟨by decide, by decide⟩) dL_setScreen_17 (fun H locs hP hD hS => ?_)
      refine lv_goto (tgt := 29) hx hb dL_setScreen_18 (by decide) ?_
      refine lv_iconst (v := 0) hx hb dL_setScreen_29 (by decide) ?_
      refine W.widen (k := 1) (n := 6) (by omega) (by omega) ?_
      exact hret _ _ _ _ _ rfl hP hD hS dL_setScreen_30
  replace h := ite_f hs_a0 h
  have hn_a00 := hs_a0
  clear hs_a0
  by_cases hs_a0 : a0 = 1
  · replace h := ite_t hs_a0 h
    rcases lq_e h with ⟨k0, gx, h⟩ | ⟨gx, h⟩
    · by_cases hk1 : k0 = 1
      · subst hk1
        cases h
        refine lwC (k := 1) (rest := [.int 0, .ref qo]) (As := [.int a0, .int a1, .int a2, .int a3, .int a4, .int a5]) S (by decide) (cxX4_setScreen l hfl G (ad 0) (ad 1) (ad 19) (ad 20) (ad 21) (ad 22) (ad 23) (ad 24) (ad 25) (ad 26) (ad 2) (ad 5) (ad 10) c.gain (ad 11) (ad 19) (ad 27) c.s1.pr c.s1.a c.s1.b c.s1.c c.s1.d c.s1.sp c.s1.mi c.s1.ti c.s1.w c.s1.s c.s1.h c.s1.va c.s1.ov c.s1.ra c.s1.ol c.s1.od c.s1.ne a0 a1 a2 a3 a4 a5 1 gx 1 (by decide) (by rw [hs_a0]; decide) rfl) (cwV 6 hts gL_setScreen_X4_setScreen rfl rfl rfl hvX4_setScreen ⟨Nat.le_of_ble_eq_true rfl, Nat.le_of_ble_eq_true rfl⟩) hK hT hP hD hS [0, 1, 19, 20, 21, 22, 23, 24, 25, 26] rfl 0 4 rfl rfl rfl rfl hl.1 rfl (Nat.le_of_ble_eq_true rfl) dL_setScreen_13 ⟨Nat.le_of_ble_eq_true rfl, Nat.le_of_ble_eq_true rfl⟩ [{ startPc := 0, endPc := 18, handlerPc := 21, catchType := 20 }] { startPc := 0, endPc := 18, handlerPc := 25, catchType := 13 } [] (by rw [htab]; rfl) (tp_cons (nm := exn 3) (by decide) (hts (.classLink RL 20 "java/lang/IndexOutOfBoundsException") lkL_setScreen_c20) (hN 1 (by decide) 3 (by decide) (by decide)) tp_nil) rfl (by decide) (hts (.classLink RL 13 "java/lang/IllegalArgumentException") lkL_setScreen_c13) rfl (fun H locs q hP hD hS => ?_)
        refine lv_astore (lv' := [(8, .ref q), (0, .ref (ad 0)), (1, .int a0), (2, .int a1), (3, .int a2), (4, .int a3), (5, .int a4), (6, .int a5), (7, .ref qo)]) hx hb dL_setScreen_25 hl (by decide) rfl (fun ls hl => ?_)
        refine lv_iconst (v := 2) hx hb dL_setScreen_27 (by decide) ?_
        exact hret _ _ _ _ _ rfl hP hD hS dL_setScreen_28
      replace h := ite_f hk1 h
      by_cases hk3 : k0 = 3
      · subst hk3
        cases h
        refine lwC (k := 3) (rest := [.int 0, .ref qo]) (As := [.int a0, .int a1, .int a2, .int a3, .int a4, .int a5]) S (by decide) (cxX4_setScreen l hfl G (ad 0) (ad 1) (ad 19) (ad 20) (ad 21) (ad 22) (ad 23) (ad 24) (ad 25) (ad 26) (ad 2) (ad 5) (ad 10) c.gain (ad 11) (ad 19) (ad 27) c.s1.pr c.s1.a c.s1.b c.s1.c c.s1.d c.s1.sp c.s1.mi c.s1.ti c.s1.w c.s1.s c.s1.h c.s1.va c.s1.ov c.s1.ra c.s1.ol c.s1.od c.s1.ne a0 a1 a2 a3 a4 a5 3 gx 1 (by decide) (by rw [hs_a0]; decide) rfl) (cwV 6 hts gL_setScreen_X4_setScreen rfl rfl rfl hvX4_setScreen ⟨Nat.le_of_ble_eq_true rfl, Nat.le_of_ble_eq_true rfl⟩) hK hT hP hD hS [0, 1, 19, 20, 21, 22, 23, 24, 25, 26] rfl 0 4 rfl rfl rfl rfl hl.1 rfl (Nat.le_of_ble_eq_true rfl) dL_setScreen_13 ⟨Nat.le_of_ble_eq_true rfl, Nat.le_of_ble_eq_true rfl⟩ [] { startPc := 0, endPc := 18, handlerPc := 21, catchType := 20 } [{ startPc := 0, endPc := 18, handlerPc := 25, catchType := 13 }] (by rw [htab]; rfl) tp_nil rfl (by decide) (hts (.classLink RL 20 "java/lang/IndexOutOfBoundsException") lkL_setScreen_c20) rfl (fun H locs q hP hD hS => ?_)
        refine lv_astore (lv' := [(8, .ref q), (0, .ref (ad 0)), (1, .int a0), (2, .int a1), (3, .int a2), (4, .int a3), (5, .int a4), (6, .int a5), (7, .ref qo)]) hx hb dL_setScreen_21 hl (by decide) rfl (fun ls hl => ?_)
        refine lv_iconst (v := 1) hx hb dL_setScreen_23 (by decide) ?_
        exact hret _ _ _ _ _ rfl hP hD hS dL_setScreen_24
      cases (ite_f hk3 h)
    · obtain ⟨o0, o1, o2, o3, o4, o5, o6, o7, o8, o9, o10, o11, o12, o13, o14, o15, o16, o17, g, h⟩ := bnd18_e h
      cases h
      refine rwV_back (rest := [.int 0, .ref qo]) (As := [.int a0, .int a1, .int a2, .int a3, .int a4, .int a5]) (wr := List.filterMap (fun i => (wdF G ad c ++ [(qo, .inl (G.2 3, 1, .inr (.inl f)))])[i]?) [2, 3, 4, 5, 6, 7, 8, 9, 10, 11, 12, 13, 14, 15, 16, 17, 18, 27, 28, 29, 30, 31, 32, 33, 34, 35]) (wf := wdF G ad (mkC c.gain c.il c.ip c.ia c.ig c.is c.im c.ic c.iq c.dn c.dm c.dj c.dt c.dx c.dy c.dr c.dv c.dw c.dq c.fw c.fs c.fh c.s0 (mkS o1 o2 o3 o4 o5 o6 o7 o8 o9 o10 o11 o12 o13 o14 o15 o16 o17) c.s2) ++ [(qo, .inl (G.2 3, 1, .inr (.inl f)))]) S (ctX4_setScreen l G (ad 0) (ad 1) (ad 19) (ad 20) (ad 21) (ad 22) (ad 23) (ad 24) (ad 25) (ad 26) (ad 2) (ad 5) (ad 10) c.gain (ad 11) (ad 19) (ad 27) c.s1.pr c.s1.a c.s1.b c.s1.c c.s1.d c.s1.sp c.s1.mi c.s1.ti c.s1.w c.s1.s c.s1.h c.s1.va c.s1.ov c.s1.ra c.s1.ol c.s1.od c.s1.ne a0 a1 a2 a3 a4 a5 o0 o1 o2 o3 o4 o5 o6 o7 o8 o9 o10 o11 o12 o13 o14 o15 o16 o17 g 1 (by decide) (by rw [hs_a0]; decide) rfl) (cwV 6 hts gL_setScreen_X4_setScreen rfl rfl rfl hvX4_setScreen ⟨Nat.le_of_ble_eq_true rfl, Nat.le_of_ble_eq_true rfl⟩) hK hP hD hS (SK.blind _) (fun U hU hW => SK.call hX hA hD hS [0, 1, 19, 20, 21, 22, 23, 24, 25, 26] rfl hU hW) [0, 1, 19, 20, 21, 22, 23, 24, 25, 26] [2, 3, 4, 5, 6, 7, 8, 9, 10, 11, 12, 13, 14, 15, 16, 17, 18, 27, 28, 29, 30, 31, 32, 33, 34, 35] [26, 27, 0, 1, 2, 3, 4, 5, 6, 7, 8, 9, 10, 11, 12, 13, 14, 15, 16, 28, 29, 30, 31, 32, 33, 34, 35, 17, 18, 19, 20, 21, 22, 23, 24, 25] rfl rfl rfl rfl rfl rfl rfl 0 4 rfl rfl rfl rfl hl.1 rfl (Nat.le_of_ble_eq_true rfl) dL_setScreen_13 ⟨Nat.zero_le _, Nat.zero_le _⟩ (fun _ H locs hP hD hS => ?_)
      refine lv_i2l hx hb dL_setScreen_16 rfl ?_
      refine va_last hx hb hK.1 hP hD hS 35 3 rfl rfl (i := 0) (vp_in_iff.mpr ⟨by decide, by decide⟩) dL_setScreen_17 (fun H locs hP hD hS => ?_)
      refine lv_goto (tgt := 29) hx hb dL_setScreen_18 (by decide) ?_
      refine lv_iconst (v := 0) hx hb dL_setScreen_29 (by decide) ?_
      refine W.widen (k := 1) (n := 6) (by omega) (by omega) ?_
      exact hret _ _ _ _ _ rfl hP hD hS dL_setScreen_30
  replace h := ite_f hs_a0 h
  have hn_a01 := hs_a0
  clear hs_a0
  by_cases hs_a0 : a0 = 2
  · replace h := ite_t hs_a0 h
    rcases lq_e h with ⟨k0, gx, h⟩ | ⟨gx, h⟩
    · by_cases hk1 : k0 = 1
      · subst hk1
        cases h
        refine lwC (k := 1) (rest := [.int 0, .ref qo]) (As := [.int a0, .int a1, .int a2, .int a3, .int a4, .int a5]) S (by decide) (cxX4_setScreen l hfl G (ad 0) (ad 1) (ad 27) (ad 28) (ad 29) (ad 30) (ad 31) (ad 32) (ad 33) (ad 34) (ad 2) (ad 5) (ad 10) c.gain (ad 11) (ad 19) (ad 27) c.s2.pr c.s2.a c.s2.b c.s2.c c.s2.d c.s2.sp c.s2.mi c.s2.ti c.s2.w c.s2.s c.s2.h c.s2.va c.s2.ov c.s2.ra c.s2.ol c.s2.od c.s2.ne a0 a1 a2 a3 a4 a5 1 gx 2 (by decide) (by rw [hs_a0]; decide) rfl) (cwV 6 hts gL_setScreen_X4_setScreen rfl rfl rfl hvX4_setScreen ⟨Nat.le_of_ble_eq_true rfl, Nat.le_of_ble_eq_true rfl⟩) hK hT hP hD hS [0, 1, 27, 28, 29, 30, 31, 32, 33, 34] rfl 0 4 rfl rfl rfl rfl hl.1 rfl (Nat.le_of_ble_eq_true rfl) dL_setScreen_13 ⟨Nat.le_of_ble_eq_true rfl, Nat.le_of_ble_eq_true rfl⟩ [{ startPc := 0, endPc := 18, handlerPc := 21, catchType := 20 }] { startPc := 0, endPc := 18, handlerPc := 25, catchType := 13 } [] (by rw [htab]; rfl) (tp_cons (nm := exn 3) (by decide) (hts (.classLink RL 20 "java/lang/IndexOutOfBoundsException") lkL_setScreen_c20) (hN 1 (by decide) 3 (by decide) (by decide)) tp_nil) rfl (by decide) (hts (.classLink RL 13 "java/lang/IllegalArgumentException") lkL_setScreen_c13) rfl (fun H locs q hP hD hS => ?_)
        refine lv_astore (lv' := [(8, .ref q), (0, .ref (ad 0)), (1, .int a0), (2, .int a1), (3, .int a2), (4, .int a3), (5, .int a4), (6, .int a5), (7, .ref qo)]) hx hb dL_setScreen_25 hl (by decide) rfl (fun ls hl => ?_)
        refine lv_iconst (v := 2) hx hb dL_setScreen_27 (by decide) ?_
        exact hret _ _ _ _ _ rfl hP hD hS dL_setScreen_28
      replace h := ite_f hk1 h
      by_cases hk3 : k0 = 3
      · subst hk3
        cases h
        refine lwC (k := 3) (rest := [.int 0, .ref qo]) (As := [.int a0, .int a1, .int a2, .int a3, .int a4, .int a5]) S (by decide) (cxX4_setScreen l hfl G (ad 0) (ad 1) (ad 27) (ad 28) (ad 29) (ad 30) (ad 31) (ad 32) (ad 33) (ad 34) (ad 2) (ad 5) (ad 10) c.gain (ad 11) (ad 19) (ad 27) c.s2.pr c.s2.a c.s2.b c.s2.c c.s2.d c.s2.sp c.s2.mi c.s2.ti c.s2.w c.s2.s c.s2.h c.s2.va c.s2.ov c.s2.ra c.s2.ol c.s2.od c.s2.ne a0 a1 a2 a3 a4 a5 3 gx 2 (by decide) (by rw [hs_a0]; decide) rfl) (cwV 6 hts gL_setScreen_X4_setScreen rfl rfl rfl hvX4_setScreen ⟨Nat.le_of_ble_eq_true rfl, Nat.le_of_ble_eq_true rfl⟩) hK hT hP hD hS [0, 1, 27, 28, 29, 30, 31, 32, 33, 34] rfl 0 4 rfl rfl rfl rfl hl.1 rfl (Nat.le_of_ble_eq_true rfl) dL_setScreen_13 ⟨Nat.le_of_ble_eq_true rfl, Nat.le_of_ble_eq_true rfl⟩ [] { startPc := 0, endPc := 18, handlerPc := 21, catchType := 20 } [{ startPc := 0, endPc := 18, handlerPc := 25, catchType := 13 }] (by rw [htab]; rfl) tp_nil rfl (by decide) (hts (.classLink RL 20 "java/lang/IndexOutOfBoundsException") lkL_setScreen_c20) rfl (fun H locs q hP hD hS => ?_)
        refine lv_astore (lv' := [(8, .ref q), (0, .ref (ad 0)), (1, .int a0), (2, .int a1), (3, .int a2), (4, .int a3), (5, .int a4), (6, .int a5), (7, .ref qo)]) hx hb dL_setScreen_21 hl (by decide) rfl (fun ls hl => ?_)
        refine lv_iconst (v := 1) hx hb dL_setScreen_23 (by decide) ?_
        exact hret _ _ _ _ _ rfl hP hD hS dL_setScreen_24
      cases (ite_f hk3 h)
    · obtain ⟨o0, o1, o2, o3, o4, o5, o6, o7, o8, o9, o10, o11, o12, o13, o14, o15, o16, o17, g, h⟩ := bnd18_e h
      cases h
      refine rwV_back (rest := [.int 0, .ref qo]) (As := [.int a0, .int a1, .int a2, .int a3, .int a4, .int a5]) (wr := List.filterMap (fun i => (wdF G ad c ++ [(qo, .inl (G.2 3, 1, .inr (.inl f)))])[i]?) [2, 3, 4, 5, 6, 7, 8, 9, 10, 11, 12, 13, 14, 15, 16, 17, 18, 19, 20, 21, 22, 23, 24, 25, 26, 35]) (wf := wdF G ad (mkC c.gain c.il c.ip c.ia c.ig c.is c.im c.ic c.iq c.dn c.dm c.dj c.dt c.dx c.dy c.dr c.dv c.dw c.dq c.fw c.fs c.fh c.s0 c.s1 (mkS o1 o2 o3 o4 o5 o6 o7 o8 o9 o10 o11 o12 o13 o14 o15 o16 o17)) ++ [(qo, .inl (G.2 3, 1, .inr (.inl f)))]) S (ctX4_setScreen l G (ad 0) (ad 1) (ad 27) (ad 28) (ad 29) (ad 30) (ad 31) (ad 32) (ad 33) (ad 34) (ad 2) (ad 5) (ad 10) c.gain (ad 11) (ad 19) (ad 27) c.s2.pr c.s2.a c.s2.b c.s2.c c.s2.d c.s2.sp c.s2.mi c.s2.ti c.s2.w c.s2.s c.s2.h c.s2.va c.s2.ov c.s2.ra c.s2.ol c.s2.od c.s2.ne a0 a1 a2 a3 a4 a5 o0 o1 o2 o3 o4 o5 o6 o7 o8 o9 o10 o11 o12 o13 o14 o15 o16 o17 g 2 (by decide) (by rw [hs_a0]; decide) rfl) (cwV 6 hts gL_setScreen_X4_setScreen rfl rfl rfl hvX4_setScreen ⟨Nat.le_of_ble_eq_true rfl, Nat.le_of_ble_eq_true rfl⟩) hK hP hD hS (SK.blind _) (fun U hU hW => SK.call hX hA hD hS [0, 1, 27, 28, 29, 30, 31, 32, 33, 34] rfl hU hW) [0, 1, 27, 28, 29, 30, 31, 32, 33, 34] [2, 3, 4, 5, 6, 7, 8, 9, 10, 11, 12, 13, 14, 15, 16, 17, 18, 19, 20, 21, 22, 23, 24, 25, 26, 35] [26, 27, 0, 1, 2, 3, 4, 5, 6, 7, 8, 9, 10, 11, 12, 13, 14, 15, 16, 17, 18, 19, 20, 21, 22, 23, 24, 28, 29, 30, 31, 32, 33, 34, 35, 25] rfl rfl rfl rfl rfl rfl rfl 0 4 rfl rfl rfl rfl hl.1 rfl (Nat.le_of_ble_eq_true rfl) dL_setScreen_13 ⟨Nat.zero_le _, Nat.zero_le _⟩ (fun _ H locs hP hD hS => ?_)
      refine lv_i2l hx hb dL_setScreen_16 rfl ?_
      refine va_last hx hb hK.1 hP hD hS 35 3 rfl rfl (i := 0) (vp_in_iff.mpr ⟨by decide, by decide⟩) dL_setScreen_17 (fun H locs hP hD hS => ?_)
      refine lv_goto (tgt := 29) hx hb dL_setScreen_18 (by decide) ?_
      refine lv_iconst (v := 0) hx hb dL_setScreen_29 (by decide) ?_
      refine W.widen (k := 1) (n := 6) (by omega) (by omega) ?_
      exact hret _ _ _ _ _ rfl hP hD hS dL_setScreen_30
  replace h := ite_f hs_a0 h
  have hn_a02 := hs_a0
  clear hs_a0
  have ho_a0 := slot_out hn_a00 hn_a01 hn_a02
  cases h
  refine lwC (k := 3) (rest := [.int 0, .ref qo]) (As := [.int a0, .int a1, .int a2, .int a3, .int a4, .int a5]) S (by decide) (cxX4_setScreeno l hfl G (ad 0) (ad 1) (ad 2) (ad 5) (ad 10) c.gain (ad 11) (ad 19) (ad 27) a0 a1 a2 a3 a4 a5 ho_a0) (cwV 6 hts gL_setScreen_X4_setScreen rfl rfl rfl hvX4_setScreen ⟨Nat.le_of_ble_eq_true rfl, Nat.le_of_ble_eq_true rfl⟩) hK hT hP hD hS [0, 1] rfl 0 4 rfl rfl rfl rfl hl.1 rfl (Nat.le_of_ble_eq_true rfl) dL_setScreen_13 ⟨Nat.le_of_ble_eq_true rfl, Nat.le_of_ble_eq_true rfl⟩ [] { startPc := 0, endPc := 18, handlerPc := 21, catchType := 20 } [{ startPc := 0, endPc := 18, handlerPc := 25, catchType := 13 }] (by rw [htab]; rfl) tp_nil rfl (by decide) (hts (.classLink RL 20 "java/lang/IndexOutOfBoundsException") lkL_setScreen_c20) rfl (fun H locs q hP hD hS => ?_)
  refine lv_astore (lv' := [(8, .ref q), (0, .ref (ad 0)), (1, .int a0), (2, .int a1), (3, .int a2), (4, .int a3), (5, .int a4), (6, .int a5), (7, .ref qo)]) hx hb dL_setScreen_21 hl (by decide) rfl (fun ls hl => ?_)
  refine lv_iconst (v := 1) hx hb dL_setScreen_23 (by decide) ?_
  exact hret _ _ _ _ _ rfl hP hD hS dL_setScreen_24
abbrev rmL_turn : Room := { frames := 8, cells := 1, slots := 6, locals := 163 }
theorem hsX4_turn : yX4_turn.cls ≠ "java/lang/invoke/MethodHandle" ∧ yX4_turn.cls ≠ "java/lang/invoke/VarHandle" ∧ (parseMethodDescriptor yX4_turn.desc).map (fun d => d.parameters.length) = some 2 := by decide +kernel
theorem hvX4_turn : yX4_turn.cls = RX4 ∧ yX4_turn.cls ≠ "java/lang/invoke/MethodHandle" ∧ yX4_turn.cls ≠ "java/lang/invoke/VarHandle" ∧ (parseMethodDescriptor yX4_turn.desc).map (fun d => d.parameters.length) = some 2 := ⟨rfl, hsX4_turn⟩
theorem lkL_turn_c20 : Cond.classLink RL 20 "java/lang/IndexOutOfBoundsException" ∈ wsL_turn := List.mem_of_getElem? (i := 1) rfl
theorem lkL_turn_c13 : Cond.classLink RL 13 "java/lang/IllegalArgumentException" ∈ wsL_turn := List.mem_of_getElem? (i := 2) rfl
theorem lkL_turn_c15 : Cond.classLink RL 15 "java/lang/IllegalStateException" ∈ wsL_turn := List.mem_of_getElem? (i := 3) rfl
set_option maxHeartbeats 4000000 in
set_option maxRecDepth 100000 in
theorem lw_turn (l : Launch) (hfl : l.stackTraces = false) (G : GG) (ad : Nat → Nat) (qo : Nat) (c c' : Cls) (f f' : Nat → Int64) (a0 : Int32) (a1 : Int32) (r0 : Int32) (h : lm_turn c f a0 a1 = some (r0, c', f')) : Met l yL_turn wsL_turn rmL_turn (va_Pc [.ref (ad 0), .int a0, .int a1, .ref qo] (PreD G (wdF G ad c ++ [(qo, .inl (G.2 3, 1, .inr (.inl f)))]) (XL (wdF G ad c ++ [(qo, .inl (G.2 3, 1, .inr (.inl f)))])))) (QwA G (va_A0 (wdF G ad c ++ [(qo, .inl (G.2 3, 1, .inr (.inl f)))])) (wdF G ad c' ++ [(qo, .inl (G.2 3, 1, .inr (.inl f')))]) (some (.int r0)) True) 1 6 (va_A0 (wdF G ad c ++ [(qo, .inl (G.2 3, 1, .inr (.inl f)))])) := by
  refine of_lw (cc := cL_turn) (maxL := 5) (hh := [(0, 10, 13, 20), (0, 10, 17, 13), (0, 10, 21, 15)]) (by decide) rfl (Nat.le_of_ble_eq_true rfl) ?_
  intro p e s m args below meth c1 ls Q A S htab hl hP hD hS hK hT hN hX hA hret
  obtain ⟨H, hH⟩ : ∃ H, H = s.heap := ⟨_, rfl⟩
  obtain ⟨locs, hlocs⟩ : ∃ L : List Loc, L = [] := ⟨_, rfl⟩
  rw [← hlocs]
  rw [← hlocs] at hS
  have hP : va_P G.1 vwCl (wdF G ad c ++ [(qo, .inl (G.2 3, 1, .inr (.inl f)))]) H := by rw [hH]; exact hP
  have hS : va_S A s.heap H locs := by rw [hH]; exact hS
  have hT : TT A s H := by rw [hH]; exact hT
  suffices hgo : W p l e rmL_turn s m args below meth c1 H locs 0 0 Q (F0 m 0 ls []) by rw [hH] at hgo; exact hgo
  have S : CallFix p m c1 cL_turn 5 s args wsL_turn RL := S
  obtain ⟨hx, hb, hml, hown, hts⟩ := id S
  have hl : lv_has ls 5 [(0, .ref (ad 0)), (1, .int a0), (2, .int a1), (3, .ref qo)] := hl
  unfold lm_turn at h
  refine lv_aload_n hx hb dL_turn_0 rfl (lv_at hl 3 rfl) ?_
  refine lv_iconst (v := 0) hx hb dL_turn_1 (by decide) ?_
  refine lv_aload_n hx hb dL_turn_2 rfl (lv_at hl 0 rfl) ?_
  refine lv_iload_n hx hb dL_turn_3 rfl (lv_at hl 1 rfl) ?_
  refine lv_iload_n hx hb dL_turn_4 rfl (lv_at hl 2 rfl) ?_
  by_cases hs_a0 : a0 = 0
  · replace h := ite_t hs_a0 h
    rcases lq_e h with ⟨k0, gx, h⟩ | ⟨gx, h⟩
    · by_cases hk1 : k0 = 1
      · subst hk1
        cases h
        refine lwC (k := 1) (rest := [.int 0, .ref qo]) (As := [.int a0, .int a1]) S (by decide) (cxX4_turn l hfl G (ad 0) (ad 1) (ad 11) (ad 12) (ad 13) (ad 14) (ad 15) (ad 16) (ad 17) (ad 18) (ad 2) (ad 5) (ad 10) c.gain (ad 11) (ad 19) (ad 27) c.s0.pr c.s0.a c.s0.b c.s0.c c.s0.d c.s0.sp c.s0.mi c.s0.ti c.s0.w c.s0.s c.s0.h c.s0.va c.s0.ov c.s0.ra c.s0.ol c.s0.od c.s0.ne a0 a1 1 gx 0 (by decide) (by rw [hs_a0]; decide) rfl) (cwV 2 hts gL_turn_X4_turn rfl rfl rfl hvX4_turn ⟨Nat.le_of_ble_eq_true rfl, Nat.le_of_ble_eq_true rfl⟩) hK hT hP hD hS [0, 1, 11, 12, 13, 14, 15, 16, 17, 18] rfl 0 4 rfl rfl rfl rfl hl.1 rfl (Nat.le_of_ble_eq_true rfl) dL_turn_5 ⟨Nat.le_of_ble_eq_true rfl, Nat.le_of_ble_eq_true rfl⟩ [{ startPc := 0, endPc := 10, handlerPc := 13, catchType := 20 }] { startPc := 0, endPc := 10, handlerPc := 17, catchType := 13 } [{ startPc := 0, endPc := 10, handlerPc := 21, catchType := 15 }] (by rw [htab]; rfl) (tp_cons (nm := exn 3) (by decide) (hts (.classLink RL 20 "java/lang/IndexOutOfBoundsException") lkL_turn_c20) (hN 1 (by decide) 3 (by decide) (by decide)) tp_nil) rfl (by decide) (hts (.classLink RL 13 "java/lang/IllegalArgumentException") lkL_turn_c13) rfl (fun H locs q hP hD hS => ?_)
        refine lv_astore (lv' := [(4, .ref q), (0, .ref (ad 0)), (1, .int a0), (2, .int a1), (3, .ref qo)]) hx hb dL_turn_17 hl (by decide) rfl (fun ls hl => ?_)
        refine lv_iconst (v := 2) hx hb dL_turn_19 (by decide) ?_
        exact hret _ _ _ _ _ rfl hP hD hS dL_turn_20
      replace h := ite_f hk1 h
      by_cases hk2 : k0 = 2
      · subst hk2
        cases h
        refine lwC (k := 2) (rest := [.int 0, .ref qo]) (As := [.int a0, .int a1]) S (by decide) (cxX4_turn l hfl G (ad 0) (ad 1) (ad 11) (ad 12) (ad 13) (ad 14) (ad 15) (ad 16) (ad 17) (ad 18) (ad 2) (ad 5) (ad 10) c.gain (ad 11) (ad 19) (ad 27) c.s0.pr c.s0.a c.s0.b c.s0.c c.s0.d c.s0.sp c.s0.mi c.s0.ti c.s0.w c.s0.s c.s0.h c.s0.va c.s0.ov c.s0.ra c.s0.ol c.s0.od c.s0.ne a0 a1 2 gx 0 (by decide) (by rw [hs_a0]; decide) rfl) (cwV 2 hts gL_turn_X4_turn rfl rfl rfl hvX4_turn ⟨Nat.le_of_ble_eq_true rfl, Nat.le_of_ble_eq_true rfl⟩) hK hT hP hD hS [0, 1, 11, 12, 13, 14, 15, 16, 17, 18] rfl 0 4 rfl rfl rfl rfl hl.1 rfl (Nat.le_of_ble_eq_true rfl) dL_turn_5 ⟨Nat.le_of_ble_eq_true rfl, Nat.le_of_ble_eq_true rfl⟩ [{ startPc := 0, endPc := 10, handlerPc := 13, catchType := 20 }, { startPc := 0, endPc := 10, handlerPc := 17, catchType := 13 }] { startPc := 0, endPc := 10, handlerPc := 21, catchType := 15 } [] (by rw [htab]; rfl) (tp_cons (nm := exn 3) (by decide) (hts (.classLink RL 20 "java/lang/IndexOutOfBoundsException") lkL_turn_c20) (hN 2 (by decide) 3 (by decide) (by decide)) (tp_cons (nm := exn 1) (by decide) (hts (.classLink RL 13 "java/lang/IllegalArgumentException") lkL_turn_c13) (hN 2 (by decide) 1 (by decide) (by decide)) tp_nil)) rfl (by decide) (hts (.classLink RL 15 "java/lang/IllegalStateException") lkL_turn_c15) rfl (fun H locs q hP hD hS => ?_)
        refine lv_astore (lv' := [(4, .ref q), (0, .ref (ad 0)), (1, .int a0), (2, .int a1), (3, .ref qo)]) hx hb dL_turn_21 hl (by decide) rfl (fun ls hl => ?_)
        refine lv_iconst (v := 3) hx hb dL_turn_23 (by decide) ?_
        exact hret _ _ _ _ _ rfl hP hD hS dL_turn_24
      replace h := ite_f hk2 h
      by_cases hk3 : k0 = 3
      · subst hk3
        cases h
        refine lwC (k := 3) (rest := [.int 0, .ref qo]) (As := [.int a0, .int a1]) S (by decide) (cxX4_turn l hfl G (ad 0) (ad 1) (ad 11) (ad 12) (ad 13) (ad 14) (ad 15) (ad 16) (ad 17) (ad 18) (ad 2) (ad 5) (ad 10) c.gain (ad 11) (ad 19) (ad 27) c.s0.pr c.s0.a c.s0.b c.s0.c c.s0.d c.s0.sp c.s0.mi c.s0.ti c.s0.w c.s0.s c.s0.h c.s0.va c.s0.ov c.s0.ra c.s0.ol c.s0.od c.s0.ne a0 a1 3 gx 0 (by decide) (by rw [hs_a0]; decide) rfl) (cwV 2 hts gL_turn_X4_turn rfl rfl rfl hvX4_turn ⟨Nat.le_of_ble_eq_true rfl, Nat.le_of_ble_eq_true rfl⟩) hK hT hP hD hS [0, 1, 11, 12, 13, 14, 15, 16, 17, 18] rfl 0 4 rfl rfl rfl rfl hl.1 rfl (Nat.le_of_ble_eq_true rfl) dL_turn_5 ⟨Nat.le_of_ble_eq_true rfl, Nat.le_of_ble_eq_true rfl⟩ [] { startPc := 0, endPc := 10, handlerPc := 13, catchType := 20 } [{ startPc := 0, endPc := 10, handlerPc := 17, catchType := 13 }, { startPc := 0, endPc := 10, handlerPc := 21, catchType := 15 }] (by rw [htab]; rfl) tp_nil rfl (by decide) (hts (.classLink RL 20 "java/lang/IndexOutOfBoundsException") lkL_turn_c20) rfl (fun H locs q hP hD hS => ?_)
        refine lv_astore (lv' := [(4, .ref q), (0, .ref (ad 0)), (1, .int a0), (2, .int a1), (3, .ref qo)]) hx hb dL_turn_13 hl (by decide) rfl (fun ls hl => ?_)
        refine lv_iconst (v := 1) hx hb dL_turn_15 (by decide) ?_
        exact hret _ _ _ _ _ rfl hP hD hS dL_turn_16
      cases (ite_f hk3 h)
    · obtain ⟨o0, o1, o2, o3, o4, o5, o6, o7, o8, o9, o10, o11, o12, o13, g, h⟩ := bnd14_e h
      cases h
      refine rwV_back (rest := [.int 0, .ref qo]) (As := [.int a0, .int a1]) (wr := List.filterMap (fun i => (wdF G ad c ++ [(qo, .inl (G.2 3, 1, .inr (.inl f)))])[i]?) [2, 3, 4, 5, 6, 7, 8, 9, 10, 19, 20, 21, 22, 23, 24, 25, 26, 27, 28, 29, 30, 31, 32, 33, 34, 35]) (wf := wdF G ad (mkC c.gain c.il c.ip c.ia c.ig c.is c.im c.ic c.iq c.dn c.dm c.dj c.dt c.dx c.dy c.dr c.dv c.dw c.dq c.fw c.fs c.fh (mkS c.s0.pr o1 o2 o3 o4 c.s0.sp c.s0.mi c.s0.ti o5 o6 o7 o8 o9 o10 o11 o12 o13) c.s1 c.s2) ++ [(qo, .inl (G.2 3, 1, .inr (.inl f)))]) S (ctX4_turn l G (ad 0) (ad 1) (ad 11) (ad 12) (ad 13) (ad 14) (ad 15) (ad 16) (ad 17) (ad 18) (ad 2) (ad 5) (ad 10) c.gain (ad 11) (ad 19) (ad 27) c.s0.pr c.s0.a c.s0.b c.s0.c c.s0.d c.s0.sp c.s0.mi c.s0.ti c.s0.w c.s0.s c.s0.h c.s0.va c.s0.ov c.s0.ra c.s0.ol c.s0.od c.s0.ne a0 a1 o0 o1 o2 o3 o4 o5 o6 o7 o8 o9 o10 o11 o12 o13 g 0 (by decide) (by rw [hs_a0]; decide) rfl) (cwV 2 hts gL_turn_X4_turn rfl rfl rfl hvX4_turn ⟨Nat.le_of_ble_eq_true rfl, Nat.le_of_ble_eq_true rfl⟩) hK hP hD hS (SK.blind _) (fun U hU hW => SK.call hX hA hD hS [0, 1, 11, 12, 13, 14, 15, 16, 17, 18] rfl hU hW) [0, 1, 11, 12, 13, 14, 15, 16, 17, 18] [2, 3, 4, 5, 6, 7, 8, 9, 10, 19, 20, 21, 22, 23, 24, 25, 26, 27, 28, 29, 30, 31, 32, 33, 34, 35] [26, 27, 0, 1, 2, 3, 4, 5, 6, 7, 8, 28, 29, 30, 31, 32, 33, 34, 35, 9, 10, 11, 12, 13, 14, 15, 16, 17, 18, 19, 20, 21, 22, 23, 24, 25] rfl rfl rfl rfl rfl rfl rfl 0 4 rfl rfl rfl rfl hl.1 rfl (Nat.le_of_ble_eq_true rfl) dL_turn_5 ⟨Nat.zero_le _, Nat.zero_le _⟩ (fun _ H locs hP hD hS => ?_)
      refine lv_i2l hx hb dL_turn_8 rfl ?_
      refine va_last hx hb hK.1 hP hD hS 35 3 rfl rfl (i := 0) (vp_in_iff.mpr ⟨by decide, by decide⟩) dL_turn_9 (fun H locs hP hD hS => ?_)
      refine lv_goto (tgt := 25) hx hb dL_turn_10 (by decide) ?_
      refine lv_iconst (v := 0) hx hb dL_turn_25 (by decide) ?_
      refine W.widen (k := 1) (n := 6) (by omega) (by omega) ?_
      exact hret _ _ _ _ _ rfl hP hD hS dL_turn_26
  replace h := ite_f hs_a0 h
  have hn_a00 := hs_a0
  clear hs_a0
  by_cases hs_a0 : a0 = 1
  · replace h := ite_t hs_a0 h
    rcases lq_e h with ⟨k0, gx, h⟩ | ⟨gx, h⟩
    · by_cases hk1 : k0 = 1
      · subst hk1
        cases h
        refine lwC (k := 1) (rest := [.int 0, .ref qo]) (As := [.int a0, .int a1]) S (by decide) (cxX4_turn l hfl G (ad 0) (ad 1) (ad 19) (ad 20) (ad 21) (ad 22) (ad 23) (ad 24) (ad 25) (ad 26) (ad 2) (ad 5) (ad 10) c.gain (ad 11) (ad 19) (ad 27) c.s1.pr c.s1.a c.s1.b c.s1.c c.s1.d c.s1.sp c.s1.mi c.s1.ti c.s1.w c.s1.s c.s1.h c.s1.va c.s1.ov c.s1.ra c.s1.ol c.s1.od c.s1.ne a0 a1 1 gx 1 (by decide) (by rw [hs_a0]; decide) rfl) (cwV 2 hts gL_turn_X4_turn rfl rfl rfl hvX4_turn ⟨Nat.le_of_ble_eq_true rfl, Nat.le_of_ble_eq_true rfl⟩) hK hT hP hD hS [0, 1, 19, 20, 21, 22, 23, 24, 25, 26] rfl 0 4 rfl rfl rfl rfl hl.1 rfl (Nat.le_of_ble_eq_true rfl) dL_turn_5 ⟨Nat.le_of_ble_eq_true rfl, Nat.le_of_ble_eq_true rfl⟩ [{ startPc := 0, endPc := 10, handlerPc := 13, catchType := 20 }] { startPc := 0, endPc := 10, handlerPc := 17, catchType := 13 } [{ startPc := 0, endPc := 10, handlerPc := 21, catchType := 15 }] (by rw [htab]; rfl) (tp_cons (nm := exn 3) (by decide) (hts (.classLink RL 20 "java/lang/IndexOutOfBoundsException") lkL_turn_c20) (hN 1 (by decide) 3 (by decide) (by decide)) tp_nil) rfl (by decide) (hts (.classLink RL 13 "java/lang/IllegalArgumentException") lkL_turn_c13) rfl (fun H locs q hP hD hS => ?_)
        refine lv_astore (lv' := [(4, .ref q), (0, .ref (ad 0)), (1, .int a0), (2, .int a1), (3, .ref qo)]) hx hb dL_turn_17 hl (by decide) rfl (fun ls hl => ?_)
        refine lv_iconst (v := 2) hx hb dL_turn_19 (by decide) ?_
        exact hret _ _ _ _ _ rfl hP hD hS dL_turn_20
      replace h := ite_f hk1 h
      by_cases hk2 : k0 = 2
      · subst hk2
        cases h
        refine lwC (k := 2) (rest := [.int 0, .ref qo]) (As := [.int a0, .int a1]) S (by decide) (cxX4_turn l hfl G (ad 0) (ad 1) (ad 19) (ad 20) (ad 21) (ad 22) (ad 23) (ad 24) (ad 25) (ad 26) (ad 2) (ad 5) (ad 10) c.gain (ad 11) (ad 19) (ad 27) c.s1.pr c.s1.a c.s1.b c.s1.c c.s1.d c.s1.sp c.s1.mi c.s1.ti c.s1.w c.s1.s c.s1.h c.s1.va c.s1.ov c.s1.ra c.s1.ol c.s1.od c.s1.ne a0 a1 2 gx 1 (by decide) (by rw [hs_a0]; decide) rfl) (cwV 2 hts gL_turn_X4_turn rfl rfl rfl hvX4_turn ⟨Nat.le_of_ble_eq_true rfl, Nat.le_of_ble_eq_true rfl⟩) hK hT hP hD hS [0, 1, 19, 20, 21, 22, 23, 24, 25, 26] rfl 0 4 rfl rfl rfl rfl hl.1 rfl (Nat.le_of_ble_eq_true rfl) dL_turn_5 ⟨Nat.le_of_ble_eq_true rfl, Nat.le_of_ble_eq_true rfl⟩ [{ startPc := 0, endPc := 10, handlerPc := 13, catchType := 20 }, { startPc := 0, endPc := 10, handlerPc := 17, catchType := 13 }] { startPc := 0, endPc := 10, handlerPc := 21, catchType := 15 } [] (by rw [htab]; rfl) (tp_cons (nm := exn 3) (by decide) (hts (.classLink RL 20 "java/lang/IndexOutOfBoundsException") lkL_turn_c20) (hN 2 (by decide) 3 (by decide) (by decide)) (tp_cons (nm := exn 1) (by decide) (hts (.classLink RL 13 "java/lang/IllegalArgumentException") lkL_turn_c13) (hN 2 (by decide) 1 (by decide) (by decide)) tp_nil)) rfl (by decide) (hts (.classLink RL 15 "java/lang/IllegalStateException") lkL_turn_c15) rfl (fun H locs q hP hD hS => ?_)
        refine lv_astore (lv' := [(4, .ref q), (0, .ref (ad 0)), (1, .int a0), (2, .int a1), (3, .ref qo)]) hx hb dL_turn_21 hl (by decide) rfl (fun ls hl => ?_)
        refine lv_iconst (v := 3) hx hb dL_turn_23 (by decide) ?_
        exact hret _ _ _ _ _ rfl hP hD hS dL_turn_24
      replace h := ite_f hk2 h
      by_cases hk3 : k0 = 3
      · subst hk3
        cases h
        refine lwC (k := 3) (rest := [.int 0, .ref qo]) (As := [.int a0, .int a1]) S (by decide) (cxX4_turn l hfl G (ad 0) (ad 1) (ad 19) (ad 20) (ad 21) (ad 22) (ad 23) (ad 24) (ad 25) (ad 26) (ad 2) (ad 5) (ad 10) c.gain (ad 11) (ad 19) (ad 27) c.s1.pr c.s1.a c.s1.b c.s1.c c.s1.d c.s1.sp c.s1.mi c.s1.ti c.s1.w c.s1.s c.s1.h c.s1.va c.s1.ov c.s1.ra c.s1.ol c.s1.od c.s1.ne a0 a1 3 gx 1 (by decide) (by rw [hs_a0]; decide) rfl) (cwV 2 hts gL_turn_X4_turn rfl rfl rfl hvX4_turn ⟨Nat.le_of_ble_eq_true rfl, Nat.le_of_ble_eq_true rfl⟩) hK hT hP hD hS [0, 1, 19, 20, 21, 22, 23, 24, 25, 26] rfl 0 4 rfl rfl rfl rfl hl.1 rfl (Nat.le_of_ble_eq_true rfl) dL_turn_5 ⟨Nat.le_of_ble_eq_true rfl, Nat.le_of_ble_eq_true rfl⟩ [] { startPc := 0, endPc := 10, handlerPc := 13, catchType := 20 } [{ startPc := 0, endPc := 10, handlerPc := 17, catchType := 13 }, { startPc := 0, endPc := 10, handlerPc := 21, catchType := 15 }] (by rw [htab]; rfl) tp_nil rfl (by decide) (hts (.classLink RL 20 "java/lang/IndexOutOfBoundsException") lkL_turn_c20) rfl (fun H locs q hP hD hS => ?_)
        refine lv_astore (lv' := [(4, .ref q), (0, .ref (ad 0)), (1, .int a0), (2, .int a1), (3, .ref qo)]) hx hb dL_turn_13 hl (by decide) rfl (fun ls hl => ?_)
        refine lv_iconst (v := 1) hx hb dL_turn_15 (by decide) ?_
        exact hret _ _ _ _ _ rfl hP hD hS dL_turn_16
      cases (ite_f hk3 h)
    · obtain ⟨o0, o1, o2, o3, o4, o5, o6, o7, o8, o9, o10, o11, o12, o13, g, h⟩ := bnd14_e h
      cases h
      refine rwV_back (rest := [.int 0, .ref qo]) (As := [.int a0, .int a1]) (wr := List.filterMap (fun i => (wdF G ad c ++ [(qo, .inl (G.2 3, 1, .inr (.inl f)))])[i]?) [2, 3, 4, 5, 6, 7, 8, 9, 10, 11, 12, 13, 14, 15, 16, 17, 18, 27, 28, 29, 30, 31, 32, 33, 34, 35]) (wf := wdF G ad (mkC c.gain c.il c.ip c.ia c.ig c.is c.im c.ic c.iq c.dn c.dm c.dj c.dt c.dx c.dy c.dr c.dv c.dw c.dq c.fw c.fs c.fh c.s0 (mkS c.s1.pr o1 o2 o3 o4 c.s1.sp c.s1.mi c.s1.ti o5 o6 o7 o8 o9 o10 o11 o12 o13) c.s2) ++ [(qo, .inl (G.2 3, 1, .inr (.inl f)))]) S (ctX4_turn l G (ad 0) (ad 1) (ad 19) (ad 20) (ad 21) (ad 22) (ad 23) (ad 24) (ad 25) (ad 26) (ad 2) (ad 5) (ad 10) c.gain (ad 11) (ad 19) (ad 27) c.s1.pr c.s1.a c.s1.b c.s1.c c.s1.d c.s1.sp c.s1.mi c.s1.ti c.s1.w c.s1.s c.s1.h c.s1.va c.s1.ov c.s1.ra c.s1.ol c.s1.od c.s1.ne a0 a1 o0 o1 o2 o3 o4 o5 o6 o7 o8 o9 o10 o11 o12 o13 g 1 (by decide) (by rw [hs_a0]; decide) rfl) (cwV 2 hts gL_turn_X4_turn rfl rfl rfl hvX4_turn ⟨Nat.le_of_ble_eq_true rfl, Nat.le_of_ble_eq_true rfl⟩) hK hP hD hS (SK.blind _) (fun U hU hW => SK.call hX hA hD hS [0, 1, 19, 20, 21, 22, 23, 24, 25, 26] rfl hU hW) [0, 1, 19, 20, 21, 22, 23, 24, 25, 26] [2, 3, 4, 5, 6, 7, 8, 9, 10, 11, 12, 13, 14, 15, 16, 17, 18, 27, 28, 29, 30, 31, 32, 33, 34, 35] [26, 27, 0, 1, 2, 3, 4, 5, 6, 7, 8, 9, 10, 11, 12, 13, 14, 15, 16, 28, 29, 30, 31, 32, 33, 34, 35, 17, 18, 19, 20, 21, 22, 23, 24, 25] rfl rfl rfl rfl rfl rfl rfl 0 4 rfl rfl rfl rfl hl.1 rfl (Nat.le_of_ble_eq_true rfl) dL_turn_5 ⟨Nat.zero_le _, Nat.zero_le _⟩ (fun _ H locs hP hD hS => ?_)
      refine lv_i2l hx hb dL_turn_8 rfl ?_
      refine va_last hx hb hK.1 hP hD hS 35 3 rfl rfl (i := 0) (vp_in_iff.mpr ⟨by decide, by decide⟩) dL_turn_9 (fun H locs hP hD hS => ?_)
      refine lv_goto (tgt := 25) hx hb dL_turn_10 (by decide) ?_
      refine lv_iconst (v := 0) hx hb dL_turn_25 (by decide) ?_
      refine W.widen (k := 1) (n := 6) (by omega) (by omega) ?_
      exact hret _ _ _ _ _ rfl hP hD hS dL_turn_26
  replace h := ite_f hs_a0 h
  have hn_a01 := hs_a0
  clear hs_a0
  by_cases hs_a0 : a0 = 2
  · replace h := ite_t hs_a0 h
    rcases lq_e h with ⟨k0, gx, h⟩ | ⟨gx, h⟩
    · by_cases hk1 : k0 = 1
      · subst hk1
        cases h
        refine lwC (k := 1) (rest := [.int 0, .ref qo]) (As := [.int a0, .int a1]) S (by decide) (cxX4_turn l hfl G (ad 0) (ad 1) (ad 27) (ad 28) (ad 29) (ad 30) (ad 31) (ad 32) (ad 33) (ad 34) (ad 2) (ad 5) (ad 10) c.gain (ad 11) (ad 19) (ad 27) c.s2.pr c.s2.a c.s2.b c.s2.c c.s2.d c.s2.sp c.s2.mi c.s2.ti c.s2.w c.s2.s c.s2.h c.s2.va c.s2.ov c.s2.ra c.s2.ol c.s2.od c.s2.ne a0 a1 1 gx 2 (by decide) (by rw [hs_a0]; decide) rfl) (cwV 2 hts gL_turn_X4_turn rfl rfl rfl hvX4_turn ⟨Nat.le_of_ble_eq_true rfl, Nat.le_of_ble_eq_true rfl⟩) hK hT hP hD hS [0, 1, 27, 28, 29, 30, 31, 32, 33, 34] rfl 0 4 rfl rfl rfl rfl hl.1 rfl (Nat.le_of_ble_eq_true rfl) dL_turn_5 ⟨Nat.le_of_ble_eq_true rfl, Nat.le_of_ble_eq_true rfl⟩ [{ startPc := 0, endPc := 10, handlerPc := 13, catchType := 20 }] { startPc := 0, endPc := 10, handlerPc := 17, catchType := 13 } [{ startPc := 0, endPc := 10, handlerPc := 21, catchType := 15 }] (by rw [htab]; rfl) (tp_cons (nm := exn 3) (by decide) (hts (.classLink RL 20 "java/lang/IndexOutOfBoundsException") lkL_turn_c20) (hN 1 (by decide) 3 (by decide) (by decide)) tp_nil) rfl (by decide) (hts (.classLink RL 13 "java/lang/IllegalArgumentException") lkL_turn_c13) rfl (fun H locs q hP hD hS => ?_)
        refine lv_astore (lv' := [(4, .ref q), (0, .ref (ad 0)), (1, .int a0), (2, .int a1), (3, .ref qo)]) hx hb dL_turn_17 hl (by decide) rfl (fun ls hl => ?_)
        refine lv_iconst (v := 2) hx hb dL_turn_19 (by decide) ?_
        exact hret _ _ _ _ _ rfl hP hD hS dL_turn_20
      replace h := ite_f hk1 h
      by_cases hk2 : k0 = 2
      · subst hk2
        cases h
        refine lwC (k := 2) (rest := [.int 0, .ref qo]) (As := [.int a0, .int a1]) S (by decide) (cxX4_turn l hfl G (ad 0) (ad 1) (ad 27) (ad 28) (ad 29) (ad 30) (ad 31) (ad 32) (ad 33) (ad 34) (ad 2) (ad 5) (ad 10) c.gain (ad 11) (ad 19) (ad 27) c.s2.pr c.s2.a c.s2.b c.s2.c c.s2.d c.s2.sp c.s2.mi c.s2.ti c.s2.w c.s2.s c.s2.h c.s2.va c.s2.ov c.s2.ra c.s2.ol c.s2.od c.s2.ne a0 a1 2 gx 2 (by decide) (by rw [hs_a0]; decide) rfl) (cwV 2 hts gL_turn_X4_turn rfl rfl rfl hvX4_turn ⟨Nat.le_of_ble_eq_true rfl, Nat.le_of_ble_eq_true rfl⟩) hK hT hP hD hS [0, 1, 27, 28, 29, 30, 31, 32, 33, 34] rfl 0 4 rfl rfl rfl rfl hl.1 rfl (Nat.le_of_ble_eq_true rfl) dL_turn_5 ⟨Nat.le_of_ble_eq_true rfl, Nat.le_of_ble_eq_true rfl⟩ [{ startPc := 0, endPc := 10, handlerPc := 13, catchType := 20 }, { startPc := 0, endPc := 10, handlerPc := 17, catchType := 13 }] { startPc := 0, endPc := 10, handlerPc := 21, catchType := 15 } [] (by rw [htab]; rfl) (tp_cons (nm := exn 3) (by decide) (hts (.classLink RL 20 "java/lang/IndexOutOfBoundsException") lkL_turn_c20) (hN 2 (by decide) 3 (by decide) (by decide)) (tp_cons (nm := exn 1) (by decide) (hts (.classLink RL 13 "java/lang/IllegalArgumentException") lkL_turn_c13) (hN 2 (by decide) 1 (by decide) (by decide)) tp_nil)) rfl (by decide) (hts (.classLink RL 15 "java/lang/IllegalStateException") lkL_turn_c15) rfl (fun H locs q hP hD hS => ?_)
        refine lv_astore (lv' := [(4, .ref q), (0, .ref (ad 0)), (1, .int a0), (2, .int a1), (3, .ref qo)]) hx hb dL_turn_21 hl (by decide) rfl (fun ls hl => ?_)
        refine lv_iconst (v := 3) hx hb dL_turn_23 (by decide) ?_
        exact hret _ _ _ _ _ rfl hP hD hS dL_turn_24
      replace h := ite_f hk2 h
      by_cases hk3 : k0 = 3
      · subst hk3
        cases h
        refine lwC (k := 3) (rest := [.int 0, .ref qo]) (As := [.int a0, .int a1]) S (by decide) (cxX4_turn l hfl G (ad 0) (ad 1) (ad 27) (ad 28) (ad 29) (ad 30) (ad 31) (ad 32) (ad 33) (ad 34) (ad 2) (ad 5) (ad 10) c.gain (ad 11) (ad 19) (ad 27) c.s2.pr c.s2.a c.s2.b c.s2.c c.s2.d c.s2.sp c.s2.mi c.s2.ti c.s2.w c.s2.s c.s2.h c.s2.va c.s2.ov c.s2.ra c.s2.ol c.s2.od c.s2.ne a0 a1 3 gx 2 (by decide) (by rw [hs_a0]; decide) rfl) (cwV 2 hts gL_turn_X4_turn rfl rfl rfl hvX4_turn ⟨Nat.le_of_ble_eq_true rfl, Nat.le_of_ble_eq_true rfl⟩) hK hT hP hD hS [0, 1, 27, 28, 29, 30, 31, 32, 33, 34] rfl 0 4 rfl rfl rfl rfl hl.1 rfl (Nat.le_of_ble_eq_true rfl) dL_turn_5 ⟨Nat.le_of_ble_eq_true rfl, Nat.le_of_ble_eq_true rfl⟩ [] { startPc := 0, endPc := 10, handlerPc := 13, catchType := 20 } [{ startPc := 0, endPc := 10, handlerPc := 17, catchType := 13 }, { startPc := 0, endPc := 10, handlerPc := 21, catchType := 15 }] (by rw [htab]; rfl) tp_nil rfl (by decide) (hts (.classLink RL 20 "java/lang/IndexOutOfBoundsException") lkL_turn_c20) rfl (fun H locs q hP hD hS => ?_)
        refine lv_astore (lv' := [(4, .ref q), (0, .ref (ad 0)), (1, .int a0), (2, .int a1), (3, .ref qo)]) hx hb dL_turn_13 hl (by decide) rfl (fun ls hl => ?_)
        refine lv_iconst (v := 1) hx hb dL_turn_15 (by decide) ?_
        exact hret _ _ _ _ _ rfl hP hD hS dL_turn_16
      cases (ite_f hk3 h)
    · obtain ⟨o0, o1, o2, o3, o4, o5, o6, o7, o8, o9, o10, o11, o12, o13, g, h⟩ := bnd14_e h
      cases h
      refine rwV_back (rest := [.int 0, .ref qo]) (As := [.int a0, .int a1]) (wr := List.filterMap (fun i => (wdF G ad c ++ [(qo, .inl (G.2 3, 1, .inr (.inl f)))])[i]?) [2, 3, 4, 5, 6, 7, 8, 9, 10, 11, 12, 13, 14, 15, 16, 17, 18, 19, 20, 21, 22, 23, 24, 25, 26, 35]) (wf := wdF G ad (mkC c.gain c.il c.ip c.ia c.ig c.is c.im c.ic c.iq c.dn c.dm c.dj c.dt c.dx c.dy c.dr c.dv c.dw c.dq c.fw c.fs c.fh c.s0 c.s1 (mkS c.s2.pr o1 o2 o3 o4 c.s2.sp c.s2.mi c.s2.ti o5 o6 o7 o8 o9 o10 o11 o12 o13)) ++ [(qo, .inl (G.2 3, 1, .inr (.inl f)))]) S (ctX4_turn l G (ad 0) (ad 1) (ad 27) (ad 28) (ad 29) (ad 30) (ad 31) (ad 32) (ad 33) (ad 34) (ad 2) (ad 5) (ad 10) c.gain (ad 11) (ad 19) (ad 27) c.s2.pr c.s2.a c.s2.b c.s2.c c.s2.d c.s2.sp c.s2.mi c.s2.ti c.s2.w c.s2.s c.s2.h c.s2.va c.s2.ov c.s2.ra c.s2.ol c.s2.od c.s2.ne a0 a1 o0 o1 o2 o3 o4 o5 o6 o7 o8 o9 o10 o11 o12 o13 g 2 (by decide) (by rw [hs_a0]; decide) rfl) (cwV 2 hts gL_turn_X4_turn rfl rfl rfl hvX4_turn ⟨Nat.le_of_ble_eq_true rfl, Nat.le_of_ble_eq_true rfl⟩) hK hP hD hS (SK.blind _) (fun U hU hW => SK.call hX hA hD hS [0, 1, 27, 28, 29, 30, 31, 32, 33, 34] rfl hU hW) [0, 1, 27, 28, 29, 30, 31, 32, 33, 34] [2, 3, 4, 5, 6, 7, 8, 9, 10, 11, 12, 13, 14, 15, 16, 17, 18, 19, 20, 21, 22, 23, 24, 25, 26, 35] [26, 27, 0, 1, 2, 3, 4, 5, 6, 7, 8, 9, 10, 11, 12, 13, 14, 15, 16, 17, 18, 19, 20, 21, 22, 23, 24, 28, 29, 30, 31, 32, 33, 34, 35, 25] rfl rfl rfl rfl rfl rfl rfl 0 4 rfl rfl rfl rfl hl.1 rfl (Nat.le_of_ble_eq_true rfl) dL_turn_5 ⟨Nat.zero_le _, Nat.zero_le _⟩ (fun _ H locs hP hD hS => ?_)
      refine lv_i2l hx hb dL_turn_8 rfl ?_
      refine va_last hx hb hK.1 hP hD hS 35 3 rfl rfl (i := 0) (vp_in_iff.mpr ⟨by decide, by decide⟩) dL_turn_9 (fun H locs hP hD hS => ?_)
      refine lv_goto (tgt := 25) hx hb dL_turn_10 (by decide) ?_
      refine lv_iconst (v := 0) hx hb dL_turn_25 (by decide) ?_
      refine W.widen (k := 1) (n := 6) (by omega) (by omega) ?_
      exact hret _ _ _ _ _ rfl hP hD hS dL_turn_26
  replace h := ite_f hs_a0 h
  have hn_a02 := hs_a0
  clear hs_a0
  have ho_a0 := slot_out hn_a00 hn_a01 hn_a02
  cases h
  refine lwC (k := 3) (rest := [.int 0, .ref qo]) (As := [.int a0, .int a1]) S (by decide) (cxX4_turno l hfl G (ad 0) (ad 1) (ad 2) (ad 5) (ad 10) c.gain (ad 11) (ad 19) (ad 27) a0 a1 ho_a0) (cwV 2 hts gL_turn_X4_turn rfl rfl rfl hvX4_turn ⟨Nat.le_of_ble_eq_true rfl, Nat.le_of_ble_eq_true rfl⟩) hK hT hP hD hS [0, 1] rfl 0 4 rfl rfl rfl rfl hl.1 rfl (Nat.le_of_ble_eq_true rfl) dL_turn_5 ⟨Nat.le_of_ble_eq_true rfl, Nat.le_of_ble_eq_true rfl⟩ [] { startPc := 0, endPc := 10, handlerPc := 13, catchType := 20 } [{ startPc := 0, endPc := 10, handlerPc := 17, catchType := 13 }, { startPc := 0, endPc := 10, handlerPc := 21, catchType := 15 }] (by rw [htab]; rfl) tp_nil rfl (by decide) (hts (.classLink RL 20 "java/lang/IndexOutOfBoundsException") lkL_turn_c20) rfl (fun H locs q hP hD hS => ?_)
  refine lv_astore (lv' := [(4, .ref q), (0, .ref (ad 0)), (1, .int a0), (2, .int a1), (3, .ref qo)]) hx hb dL_turn_13 hl (by decide) rfl (fun ls hl => ?_)
  refine lv_iconst (v := 1) hx hb dL_turn_15 (by decide) ?_
  exact hret _ _ _ _ _ rfl hP hD hS dL_turn_16
abbrev rmL_setGain : Room := { frames := 8, cells := 1, slots := 6, locals := 132 }
theorem hsX4_setGain : yX4_setGain.cls ≠ "java/lang/invoke/MethodHandle" ∧ yX4_setGain.cls ≠ "java/lang/invoke/VarHandle" ∧ (parseMethodDescriptor yX4_setGain.desc).map (fun d => d.parameters.length) = some 1 := by decide +kernel
theorem hvX4_setGain : yX4_setGain.cls = RX4 ∧ yX4_setGain.cls ≠ "java/lang/invoke/MethodHandle" ∧ yX4_setGain.cls ≠ "java/lang/invoke/VarHandle" ∧ (parseMethodDescriptor yX4_setGain.desc).map (fun d => d.parameters.length) = some 1 := ⟨rfl, hsX4_setGain⟩
theorem lkL_setGain_c13 : Cond.classLink RL 13 "java/lang/IllegalArgumentException" ∈ wsL_setGain := List.mem_of_getElem? (i := 1) rfl
set_option maxHeartbeats 4000000 in
set_option maxRecDepth 100000 in
theorem lw_setGain (l : Launch) (hfl : l.stackTraces = false) (G : GG) (ad : Nat → Nat) (qo : Nat) (c c' : Cls) (f f' : Nat → Int64) (a0 : Int32) (r0 : Int32) (h : lm_setGain c f a0 = some (r0, c', f')) : Met l yL_setGain wsL_setGain rmL_setGain (va_Pc [.ref (ad 0), .int a0, .ref qo] (PreD G (wdF G ad c ++ [(qo, .inl (G.2 3, 1, .inr (.inl f)))]) (XL (wdF G ad c ++ [(qo, .inl (G.2 3, 1, .inr (.inl f)))])))) (QwA G (va_A0 (wdF G ad c ++ [(qo, .inl (G.2 3, 1, .inr (.inl f)))])) (wdF G ad c' ++ [(qo, .inl (G.2 3, 1, .inr (.inl f')))]) (some (.int r0)) True) 1 6 (va_A0 (wdF G ad c ++ [(qo, .inl (G.2 3, 1, .inr (.inl f)))])) := by
  refine of_lw (cc := cL_setGain) (maxL := 4) (hh := [(0, 9, 12, 13)]) (by decide) rfl (Nat.le_of_ble_eq_true rfl) ?_
  intro p e s m args below meth c1 ls Q A S htab hl hP hD hS hK hT hN hX hA hret
  obtain ⟨H, hH⟩ : ∃ H, H = s.heap := ⟨_, rfl⟩
  obtain ⟨locs, hlocs⟩ : ∃ L : List Loc, L = [] := ⟨_, rfl⟩
  rw [← hlocs]
  rw [← hlocs] at hS
  have hP : va_P G.1 vwCl (wdF G ad c ++ [(qo, .inl (G.2 3, 1, .inr (.inl f)))]) H := by rw [hH]; exact hP
  have hS : va_S A s.heap H locs := by rw [hH]; exact hS
  have hT : TT A s H := by rw [hH]; exact hT
  suffices hgo : W p l e rmL_setGain s m args below meth c1 H locs 0 0 Q (F0 m 0 ls []) by rw [hH] at hgo; exact hgo
  have S : CallFix p m c1 cL_setGain 4 s args wsL_setGain RL := S
  obtain ⟨hx, hb, hml, hown, hts⟩ := id S
  have hl : lv_has ls 4 [(0, .ref (ad 0)), (1, .int a0), (2, .ref qo)] := hl
  unfold lm_setGain at h
  refine lv_aload_n hx hb dL_setGain_0 rfl (lv_at hl 2 rfl) ?_
  refine lv_iconst (v := 0) hx hb dL_setGain_1 (by decide) ?_
  refine lv_aload_n hx hb dL_setGain_2 rfl (lv_at hl 0 rfl) ?_
  refine lv_iload_n hx hb dL_setGain_3 rfl (lv_at hl 1 rfl) ?_
  rcases lq_e h with ⟨k0, gx, h⟩ | ⟨gx, h⟩
  · by_cases hk1 : k0 = 1
    · subst hk1
      cases h
      refine lwC (k := 1) (rest := [.int 0, .ref qo]) (As := [.int a0]) S (by decide) (cxX4_setGain l hfl G (ad 0) (ad 1) (ad 2) (ad 5) (ad 10) c.gain (ad 11) (ad 19) (ad 27) a0 1 gx) (cwV 1 hts gL_setGain_X4_setGain rfl rfl rfl hvX4_setGain ⟨Nat.le_of_ble_eq_true rfl, Nat.le_of_ble_eq_true rfl⟩) hK hT hP hD hS [0, 1] rfl 0 4 rfl rfl rfl rfl hl.1 rfl (Nat.le_of_ble_eq_true rfl) dL_setGain_4 ⟨Nat.le_of_ble_eq_true rfl, Nat.le_of_ble_eq_true rfl⟩ [] { startPc := 0, endPc := 9, handlerPc := 12, catchType := 13 } [] (by rw [htab]; rfl) tp_nil rfl (by decide) (hts (.classLink RL 13 "java/lang/IllegalArgumentException") lkL_setGain_c13) rfl (fun H locs q hP hD hS => ?_)
      refine lv_astore_n (lv' := [(3, .ref q), (0, .ref (ad 0)), (1, .int a0), (2, .ref qo)]) hx hb dL_setGain_12 rfl hl (by decide) rfl (fun ls hl => ?_)
      refine lv_iconst (v := 1) hx hb dL_setGain_13 (by decide) ?_
      exact hret _ _ _ _ _ rfl hP hD hS dL_setGain_14
    cases (ite_f hk1 h)
  · obtain ⟨o0, o1, g, h⟩ := bnd2_e h
    cases h
    refine rwV_back (rest := [.int 0, .ref qo]) (As := [.int a0]) (wr := List.filterMap (fun i => (wdF G ad c ++ [(qo, .inl (G.2 3, 1, .inr (.inl f)))])[i]?) [2, 3, 4, 5, 6, 7, 8, 9, 10, 11, 12, 13, 14, 15, 16, 17, 18, 19, 20, 21, 22, 23, 24, 25, 26, 27, 28, 29, 30, 31, 32, 33, 34, 35]) (wf := wdF G ad (mkC o1 c.il c.ip c.ia c.ig c.is c.im c.ic c.iq c.dn c.dm c.dj c.dt c.dx c.dy c.dr c.dv c.dw c.dq c.fw c.fs c.fh c.s0 c.s1 c.s2) ++ [(qo, .inl (G.2 3, 1, .inr (.inl f)))]) S (ctX4_setGain l G (ad 0) (ad 1) (ad 2) (ad 5) (ad 10) c.gain (ad 11) (ad 19) (ad 27) a0 o0 o1 g) (cwV 1 hts gL_setGain_X4_setGain rfl rfl rfl hvX4_setGain ⟨Nat.le_of_ble_eq_true rfl, Nat.le_of_ble_eq_true rfl⟩) hK hP hD hS xb_triv (fun _ _ _ => trivial) [0, 1] [2, 3, 4, 5, 6, 7, 8, 9, 10, 11, 12, 13, 14, 15, 16, 17, 18, 19, 20, 21, 22, 23, 24, 25, 26, 27, 28, 29, 30, 31, 32, 33, 34, 35] [34, 35, 0, 1, 2, 3, 4, 5, 6, 7, 8, 9, 10, 11, 12, 13, 14, 15, 16, 17, 18, 19, 20, 21, 22, 23, 24, 25, 26, 27, 28, 29, 30, 31, 32, 33] rfl rfl rfl rfl rfl rfl rfl 0 4 rfl rfl rfl rfl hl.1 rfl (Nat.le_of_ble_eq_true rfl) dL_setGain_4 ⟨Nat.zero_le _, Nat.zero_le _⟩ (fun _ H locs hP hD hS => ?_)
    refine lv_i2l hx hb dL_setGain_7 rfl ?_
    refine va_last hx hb hK.1 hP hD hS 35 3 rfl rfl (i := 0) (vp_in_iff.mpr ⟨by decide, by decide⟩) dL_setGain_8 (fun H locs hP hD hS => ?_)
    refine lv_goto (tgt := 15) hx hb dL_setGain_9 (by decide) ?_
    refine lv_iconst (v := 0) hx hb dL_setGain_15 (by decide) ?_
    refine W.widen (k := 1) (n := 6) (by omega) (by omega) ?_
    exact hret _ _ _ _ _ rfl hP hD hS dL_setGain_16
abbrev rmL_growth : Room := { frames := 8, cells := 1, slots := 6, locals := 135 }
theorem hsX4_growth : yX4_growth.cls ≠ "java/lang/invoke/MethodHandle" ∧ yX4_growth.cls ≠ "java/lang/invoke/VarHandle" ∧ (parseMethodDescriptor yX4_growth.desc).map (fun d => d.parameters.length) = some 3 := by decide +kernel
theorem hvX4_growth : yX4_growth.cls = RX4 ∧ yX4_growth.cls ≠ "java/lang/invoke/MethodHandle" ∧ yX4_growth.cls ≠ "java/lang/invoke/VarHandle" ∧ (parseMethodDescriptor yX4_growth.desc).map (fun d => d.parameters.length) = some 3 := ⟨rfl, hsX4_growth⟩
theorem lkL_growth_c20 : Cond.classLink RL 20 "java/lang/IndexOutOfBoundsException" ∈ wsL_growth := List.mem_of_getElem? (i := 1) rfl
theorem lkL_growth_c13 : Cond.classLink RL 13 "java/lang/IllegalArgumentException" ∈ wsL_growth := List.mem_of_getElem? (i := 2) rfl
theorem lkL_growth_c15 : Cond.classLink RL 15 "java/lang/IllegalStateException" ∈ wsL_growth := List.mem_of_getElem? (i := 3) rfl
set_option maxHeartbeats 4000000 in
set_option maxRecDepth 100000 in
theorem lw_growth (l : Launch) (hfl : l.stackTraces = false) (G : GG) (ad : Nat → Nat) (qo : Nat) (c c' : Cls) (f f' : Nat → Int64) (a0 : Int32) (a1 : Int32) (a2 : Int32) (r0 : Int32) (h : lm_growth c f a0 a1 a2 = some (r0, c', f')) : Met l yL_growth wsL_growth rmL_growth (va_Pc [.ref (ad 0), .int a0, .int a1, .int a2, .ref qo] (PreD G (wdF G ad c ++ [(qo, .inl (G.2 3, 1, .inr (.inl f)))]) (XL (wdF G ad c ++ [(qo, .inl (G.2 3, 1, .inr (.inl f)))])))) (QwA G (va_A0 (wdF G ad c ++ [(qo, .inl (G.2 3, 1, .inr (.inl f)))])) (wdF G ad c' ++ [(qo, .inl (G.2 3, 1, .inr (.inl f')))]) (some (.int r0)) True) 1 6 (va_A0 (wdF G ad c ++ [(qo, .inl (G.2 3, 1, .inr (.inl f)))])) := by
  refine of_lw (cc := cL_growth) (maxL := 6) (hh := [(0, 12, 15, 20), (0, 12, 19, 13), (0, 12, 23, 15)]) (by decide) rfl (Nat.le_of_ble_eq_true rfl) ?_
  intro p e s m args below meth c1 ls Q A S htab hl hP hD hS hK hT hN hX hA hret
  obtain ⟨H, hH⟩ : ∃ H, H = s.heap := ⟨_, rfl⟩
  obtain ⟨locs, hlocs⟩ : ∃ L : List Loc, L = [] := ⟨_, rfl⟩
  rw [← hlocs]
  rw [← hlocs] at hS
  have hP : va_P G.1 vwCl (wdF G ad c ++ [(qo, .inl (G.2 3, 1, .inr (.inl f)))]) H := by rw [hH]; exact hP
  have hS : va_S A s.heap H locs := by rw [hH]; exact hS
  have hT : TT A s H := by rw [hH]; exact hT
  suffices hgo : W p l e rmL_growth s m args below meth c1 H locs 0 0 Q (F0 m 0 ls []) by rw [hH] at hgo; exact hgo
  have S : CallFix p m c1 cL_growth 6 s args wsL_growth RL := S
  obtain ⟨hx, hb, hml, hown, hts⟩ := id S
  have hl : lv_has ls 6 [(0, .ref (ad 0)), (1, .int a0), (2, .int a1), (3, .int a2), (4, .ref qo)] := hl
  unfold lm_growth at h
  refine lv_aload hx hb dL_growth_0 (lv_at hl 4 rfl) ?_
  refine lv_iconst (v := 0) hx hb dL_growth_2 (by decide) ?_
  refine lv_aload_n hx hb dL_growth_3 rfl (lv_at hl 0 rfl) ?_
  refine lv_iload_n hx hb dL_growth_4 rfl (lv_at hl 1 rfl) ?_
  refine lv_iload_n hx hb dL_growth_5 rfl (lv_at hl 2 rfl) ?_
  refine lv_iload_n hx hb dL_growth_6 rfl (lv_at hl 3 rfl) ?_
  by_cases hs_a0 : a0 = 0
  · replace h := ite_t hs_a0 h
    rcases lq_e h with ⟨k0, gx, h⟩ | ⟨gx, h⟩
    · by_cases hk1 : k0 = 1
      · subst hk1
        cases h
        refine lwC (k := 1) (rest := [.int 0, .ref qo]) (As := [.int a0, .int a1, .int a2]) S (by decide) (cxX4_growth l hfl G (ad 0) (ad 1) (ad 11) (ad 12) (ad 13) (ad 14) (ad 15) (ad 16) (ad 17) (ad 18) (ad 2) (ad 5) (ad 10) c.gain (ad 11) (ad 19) (ad 27) c.s0.pr c.s0.a c.s0.b c.s0.c c.s0.d c.s0.sp c.s0.mi c.s0.ti c.s0.w c.s0.s c.s0.h c.s0.va c.s0.ov c.s0.ra c.s0.ol c.s0.od c.s0.ne a0 a1 a2 1 gx 0 (by decide) (by rw [hs_a0]; decide) rfl) (cwV 3 hts gL_growth_X4_growth rfl rfl rfl hvX4_growth ⟨Nat.le_of_ble_eq_true rfl, Nat.le_of_ble_eq_true rfl⟩) hK hT hP hD hS [0, 1, 11, 12, 13, 14, 15, 16, 17, 18] rfl 0 4 rfl rfl rfl rfl hl.1 rfl (Nat.le_of_ble_eq_true rfl) dL_growth_7 ⟨Nat.le_of_ble_eq_true rfl, Nat.le_of_ble_eq_true rfl⟩ [{ startPc := 0, endPc := 12, handlerPc := 15, catchType := 20 }] { startPc := 0, endPc := 12, handlerPc := 19, catchType := 13 } [{ startPc := 0, endPc := 12, handlerPc := 23, catchType := 15 }] (by rw [htab]; rfl) (tp_cons (nm := exn 3) (by decide) (hts (.classLink RL 20 "java/lang/IndexOutOfBoundsException") lkL_growth_c20) (hN 1 (by decide) 3 (by decide) (by decide)) tp_nil) rfl (by decide) (hts (.classLink RL 13 "java/lang/IllegalArgumentException") lkL_growth_c13) rfl (fun H locs q hP hD hS => ?_)
        refine lv_astore (lv' := [(5, .ref q), (0, .ref (ad 0)), (1, .int a0), (2, .int a1), (3, .int a2), (4, .ref qo)]) hx hb dL_growth_19 hl (by decide) rfl (fun ls hl => ?_)
        refine lv_iconst (v := 2) hx hb dL_growth_21 (by decide) ?_
        exact hret _ _ _ _ _ rfl hP hD hS dL_growth_22
      replace h := ite_f hk1 h
      by_cases hk2 : k0 = 2
      · subst hk2
        cases h
        refine lwC (k := 2) (rest := [.int 0, .ref qo]) (As := [.int a0, .int a1, .int a2]) S (by decide) (cxX4_growth l hfl G (ad 0) (ad 1) (ad 11) (ad 12) (ad 13) (ad 14) (ad 15) (ad 16) (ad 17) (ad 18) (ad 2) (ad 5) (ad 10) c.gain (ad 11) (ad 19) (ad 27) c.s0.pr c.s0.a c.s0.b c.s0.c c.s0.d c.s0.sp c.s0.mi c.s0.ti c.s0.w c.s0.s c.s0.h c.s0.va c.s0.ov c.s0.ra c.s0.ol c.s0.od c.s0.ne a0 a1 a2 2 gx 0 (by decide) (by rw [hs_a0]; decide) rfl) (cwV 3 hts gL_growth_X4_growth rfl rfl rfl hvX4_growth ⟨Nat.le_of_ble_eq_true rfl, Nat.le_of_ble_eq_true rfl⟩) hK hT hP hD hS [0, 1, 11, 12, 13, 14, 15, 16, 17, 18] rfl 0 4 rfl rfl rfl rfl hl.1 rfl (Nat.le_of_ble_eq_true rfl) dL_growth_7 ⟨Nat.le_of_ble_eq_true rfl, Nat.le_of_ble_eq_true rfl⟩ [{ startPc := 0, endPc := 12, handlerPc := 15, catchType := 20 }, { startPc := 0, endPc := 12, handlerPc := 19, catchType := 13 }] { startPc := 0, endPc := 12, handlerPc := 23, catchType := 15 } [] (by rw [htab]; rfl) (tp_cons (nm := exn 3) (by decide) (hts (.classLink RL 20 "java/lang/IndexOutOfBoundsException") lkL_growth_c20) (hN 2 (by decide) 3 (by decide) (by decide)) (tp_cons (nm := exn 1) (by decide) (hts (.classLink RL 13 "java/lang/IllegalArgumentException") lkL_growth_c13) (hN 2 (by decide) 1 (by decide) (by decide)) tp_nil)) rfl (by decide) (hts (.classLink RL 15 "java/lang/IllegalStateException") lkL_growth_c15) rfl (fun H locs q hP hD hS => ?_)
        refine lv_astore (lv' := [(5, .ref q), (0, .ref (ad 0)), (1, .int a0), (2, .int a1), (3, .int a2), (4, .ref qo)]) hx hb dL_growth_23 hl (by decide) rfl (fun ls hl => ?_)
        refine lv_iconst (v := 3) hx hb dL_growth_25 (by decide) ?_
        exact hret _ _ _ _ _ rfl hP hD hS dL_growth_26
      replace h := ite_f hk2 h
      by_cases hk3 : k0 = 3
      · subst hk3
        cases h
        refine lwC (k := 3) (rest := [.int 0, .ref qo]) (As := [.int a0, .int a1, .int a2]) S (by decide) (cxX4_growth l hfl G (ad 0) (ad 1) (ad 11) (ad 12) (ad 13) (ad 14) (ad 15) (ad 16) (ad 17) (ad 18) (ad 2) (ad 5) (ad 10) c.gain (ad 11) (ad 19) (ad 27) c.s0.pr c.s0.a c.s0.b c.s0.c c.s0.d c.s0.sp c.s0.mi c.s0.ti c.s0.w c.s0.s c.s0.h c.s0.va c.s0.ov c.s0.ra c.s0.ol c.s0.od c.s0.ne a0 a1 a2 3 gx 0 (by decide) (by rw [hs_a0]; decide) rfl) (cwV 3 hts gL_growth_X4_growth rfl rfl rfl hvX4_growth ⟨Nat.le_of_ble_eq_true rfl, Nat.le_of_ble_eq_true rfl⟩) hK hT hP hD hS [0, 1, 11, 12, 13, 14, 15, 16, 17, 18] rfl 0 4 rfl rfl rfl rfl hl.1 rfl (Nat.le_of_ble_eq_true rfl) dL_growth_7 ⟨Nat.le_of_ble_eq_true rfl, Nat.le_of_ble_eq_true rfl⟩ [] { startPc := 0, endPc := 12, handlerPc := 15, catchType := 20 } [{ startPc := 0, endPc := 12, handlerPc := 19, catchType := 13 }, { startPc := 0, endPc := 12, handlerPc := 23, catchType := 15 }] (by rw [htab]; rfl) tp_nil rfl (by decide) (hts (.classLink RL 20 "java/lang/IndexOutOfBoundsException") lkL_growth_c20) rfl (fun H locs q hP hD hS => ?_)
        refine lv_astore (lv' := [(5, .ref q), (0, .ref (ad 0)), (1, .int a0), (2, .int a1), (3, .int a2), (4, .ref qo)]) hx hb dL_growth_15 hl (by decide) rfl (fun ls hl => ?_)
        refine lv_iconst (v := 1) hx hb dL_growth_17 (by decide) ?_
        exact hret _ _ _ _ _ rfl hP hD hS dL_growth_18
      cases (ite_f hk3 h)
    · obtain ⟨o0, g, h⟩ := bnd1_e h
      cases h
      refine roVi1 (rest := [.int 0, .ref qo]) (As := [.int a0, .int a1, .int a2]) S (ctX4_growth l G (ad 0) (ad 1) (ad 11) (ad 12) (ad 13) (ad 14) (ad 15) (ad 16) (ad 17) (ad 18) (ad 2) (ad 5) (ad 10) c.gain (ad 11) (ad 19) (ad 27) c.s0.pr c.s0.a c.s0.b c.s0.c c.s0.d c.s0.sp c.s0.mi c.s0.ti c.s0.w c.s0.s c.s0.h c.s0.va c.s0.ov c.s0.ra c.s0.ol c.s0.od c.s0.ne a0 a1 a2 o0 g 0 (by decide) (by rw [hs_a0]; decide) rfl) (cwV 3 hts gL_growth_X4_growth rfl rfl rfl hvX4_growth ⟨Nat.le_of_ble_eq_true rfl, Nat.le_of_ble_eq_true rfl⟩) hK hP [0, 1, 11, 12, 13, 14, 15, 16, 17, 18] rfl 0 4 rfl rfl rfl rfl hl.1 rfl (Nat.le_of_ble_eq_true rfl) dL_growth_7 ⟨Nat.zero_le _, Nat.zero_le _⟩ (fun _ => ?_)
      refine lv_i2l hx hb dL_growth_10 rfl ?_
      refine va_last hx hb hK.1 hP hD hS 35 3 rfl rfl (i := 0) (vp_in_iff.mpr ⟨by decide, by decide⟩) dL_growth_11 (fun H locs hP hD hS => ?_)
      refine lv_goto (tgt := 27) hx hb dL_growth_12 (by decide) ?_
      refine lv_iconst (v := 0) hx hb dL_growth_27 (by decide) ?_
      refine W.widen (k := 1) (n := 6) (by omega) (by omega) ?_
      exact hret _ _ _ _ _ rfl hP hD hS dL_growth_28
  replace h := ite_f hs_a0 h
  have hn_a00 := hs_a0
  clear hs_a0
  by_cases hs_a0 : a0 = 1
  · replace h := ite_t hs_a0 h
    rcases lq_e h with ⟨k0, gx, h⟩ | ⟨gx, h⟩
    · by_cases hk1 : k0 = 1
      · subst hk1
        cases h
        refine lwC (k := 1) (rest := [.int 0, .ref qo]) (As := [.int a0, .int a1, .int a2]) S (by decide) (cxX4_growth l hfl G (ad 0) (ad 1) (ad 19) (ad 20) (ad 21) (ad 22) (ad 23) (ad 24) (ad 25) (ad 26) (ad 2) (ad 5) (ad 10) c.gain (ad 11) (ad 19) (ad 27) c.s1.pr c.s1.a c.s1.b c.s1.c c.s1.d c.s1.sp c.s1.mi c.s1.ti c.s1.w c.s1.s c.s1.h c.s1.va c.s1.ov c.s1.ra c.s1.ol c.s1.od c.s1.ne a0 a1 a2 1 gx 1 (by decide) (by rw [hs_a0]; decide) rfl) (cwV 3 hts gL_growth_X4_growth rfl rfl rfl hvX4_growth ⟨Nat.le_of_ble_eq_true rfl, Nat.le_of_ble_eq_true rfl⟩) hK hT hP hD hS [0, 1, 19, 20, 21, 22, 23, 24, 25, 26] rfl 0 4 rfl rfl rfl rfl hl.1 rfl (Nat.le_of_ble_eq_true rfl) dL_growth_7 ⟨Nat.le_of_ble_eq_true rfl, Nat.le_of_ble_eq_true rfl⟩ [{ startPc := 0, endPc := 12, handlerPc := 15, catchType := 20 }] { startPc := 0, endPc := 12, handlerPc := 19, catchType := 13 } [{ startPc := 0, endPc := 12, handlerPc := 23, catchType := 15 }] (by rw [htab]; rfl) (tp_cons (nm := exn 3) (by decide) (hts (.classLink RL 20 "java/lang/IndexOutOfBoundsException") lkL_growth_c20) (hN 1 (by decide) 3 (by decide) (by decide)) tp_nil) rfl (by decide) (hts (.classLink RL 13 "java/lang/IllegalArgumentException") lkL_growth_c13) rfl (fun H locs q hP hD hS => ?_)
        refine lv_astore (lv' := [(5, .ref q), (0, .ref (ad 0)), (1, .int a0), (2, .int a1), (3, .int a2), (4, .ref qo)]) hx hb dL_growth_19 hl (by decide) rfl (fun ls hl => ?_)
        refine lv_iconst (v := 2) hx hb dL_growth_21 (by decide) ?_
        exact hret _ _ _ _ _ rfl hP hD hS dL_growth_22
      replace h := ite_f hk1 h
      by_cases hk2 : k0 = 2
      · subst hk2
        cases h
        refine lwC (k := 2) (rest := [.int 0, .ref qo]) (As := [.int a0, .int a1, .int a2]) S (by decide) (cxX4_growth l hfl G (ad 0) (ad 1) (ad 19) (ad 20) (ad 21) (ad 22) (ad 23) (ad 24) (ad 25) (ad 26) (ad 2) (ad 5) (ad 10) c.gain (ad 11) (ad 19) (ad 27) c.s1.pr c.s1.a c.s1.b c.s1.c c.s1.d c.s1.sp c.s1.mi c.s1.ti c.s1.w c.s1.s c.s1.h c.s1.va c.s1.ov c.s1.ra c.s1.ol c.s1.od c.s1.ne a0 a1 a2 2 gx 1 (by decide) (by rw [hs_a0]; decide) rfl) (cwV 3 hts gL_growth_X4_growth rfl rfl rfl hvX4_growth ⟨Nat.le_of_ble_eq_true rfl, Nat.le_of_ble_eq_true rfl⟩) hK hT hP hD hS [0, 1, 19, 20, 21, 22, 23, 24, 25, 26] rfl 0 4 rfl rfl rfl rfl hl.1 rfl (Nat.le_of_ble_eq_true rfl) dL_growth_7 ⟨Nat.le_of_ble_eq_true rfl, Nat.le_of_ble_eq_true rfl⟩ [{ startPc := 0, endPc := 12, handlerPc := 15, catchType := 20 }, { startPc := 0, endPc := 12, handlerPc := 19, catchType := 13 }] { startPc := 0, endPc := 12, handlerPc := 23, catchType := 15 } [] (by rw [htab]; rfl) (tp_cons (nm := exn 3) (by decide) (hts (.classLink RL 20 "java/lang/IndexOutOfBoundsException") lkL_growth_c20) (hN 2 (by decide) 3 (by decide) (by decide)) (tp_cons (nm := exn 1) (by decide) (hts (.classLink RL 13 "java/lang/IllegalArgumentException") lkL_growth_c13) (hN 2 (by decide) 1 (by decide) (by decide)) tp_nil)) rfl (by decide) (hts (.classLink RL 15 "java/lang/IllegalStateException") lkL_growth_c15) rfl (fun H locs q hP hD hS => ?_)
        refine lv_astore (lv' := [(5, .ref q), (0, .ref (ad 0)), (1, .int a0), (2, .int a1), (3, .int a2), (4, .ref qo)]) hx hb dL_growth_23 hl (by decide) rfl (fun ls hl => ?_)
        refine lv_iconst (v := 3) hx hb dL_growth_25 (by decide) ?_
        exact hret _ _ _ _ _ rfl hP hD hS dL_growth_26
      replace h := ite_f hk2 h
      by_cases hk3 : k0 = 3
      · subst hk3
        cases h
        refine lwC (k := 3) (rest := [.int 0, .ref qo]) (As := [.int a0, .int a1, .int a2]) S (by decide) (cxX4_growth l hfl G (ad 0) (ad 1) (ad 19) (ad 20) (ad 21) (ad 22) (ad 23) (ad 24) (ad 25) (ad 26) (ad 2) (ad 5) (ad 10) c.gain (ad 11) (ad 19) (ad 27) c.s1.pr c.s1.a c.s1.b c.s1.c c.s1.d c.s1.sp c.s1.mi c.s1.ti c.s1.w c.s1.s c.s1.h c.s1.va c.s1.ov c.s1.ra c.s1.ol c.s1.od c.s1.ne a0 a1 a2 3 gx 1 (by decide) (by rw [hs_a0]; decide) rfl) (cwV 3 hts gL_growth_X4_growth rfl rfl rfl hvX4_growth ⟨Nat.le_of_ble_eq_true rfl, Nat.le_of_ble_eq_true rfl⟩) hK hT hP hD hS [0, 1, 19, 20, 21, 22, 23, 24, 25, 26] rfl 0 4 rfl rfl rfl rfl hl.1 rfl (Nat.le_of_ble_eq_true rfl) dL_growth_7 ⟨Nat.le_of_ble_eq_true rfl, Nat.le_of_ble_eq_true rfl⟩ [] { startPc := 0, endPc := 12, handlerPc := 15, catchType := 20 } [{ startPc := 0, endPc := 12, handlerPc := 19, catchType := 13 }, { startPc := 0, endPc := 12, handlerPc := 23, catchType := 15 }] (by rw [htab]; rfl) tp_nil rfl (by decide) (hts (.classLink RL 20 "java/lang/IndexOutOfBoundsException") lkL_growth_c20) rfl (fun H locs q hP hD hS => ?_)
        refine lv_astore (lv' := [(5, .ref q), (0, .ref (ad 0)), (1, .int a0), (2, .int a1), (3, .int a2), (4, .ref qo)]) hx hb dL_growth_15 hl (by decide) rfl (fun ls hl => ?_)
        refine lv_iconst (v := 1) hx hb dL_growth_17 (by decide) ?_
        exact hret _ _ _ _ _ rfl hP hD hS dL_growth_18
      cases (ite_f hk3 h)
    · obtain ⟨o0, g, h⟩ := bnd1_e h
      cases h
      refine roVi1 (rest := [.int 0, .ref qo]) (As := [.int a0, .int a1, .int a2]) S (ctX4_growth l G (ad 0) (ad 1) (ad 19) (ad 20) (ad 21) (ad 22) (ad 23) (ad 24) (ad 25) (ad 26) (ad 2) (ad 5) (ad 10) c.gain (ad 11) (ad 19) (ad 27) c.s1.pr c.s1.a c.s1.b c.s1.c c.s1.d c.s1.sp c.s1.mi c.s1.ti c.s1.w c.s1.s c.s1.h c.s1.va c.s1.ov c.s1.ra c.s1.ol c.s1.od c.s1.ne a0 a1 a2 o0 g 1 (by decide) (by rw [hs_a0]; decide) rfl) (cwV 3 hts gL_growth_X4_growth rfl rfl rfl hvX4_growth ⟨Nat.le_of_ble_eq_true rfl, Nat.le_of_ble_eq_true rfl⟩) hK hP [0, 1, 19, 20, 21, 22, 23, 24, 25, 26] rfl 0 4 rfl rfl rfl rfl hl.1 rfl (Nat.le_of_ble_eq_true rfl) dL_growth_7 ⟨Nat.zero_le _, Nat.zero_le _⟩ (fun _ => ?_)
      refine lv_i2l hx hb dL_growth_10 rfl ?_
      refine va_last hx hb hK.1 hP hD hS 35 3 rfl rfl (i := 0) (vp_in_iff.mpr ⟨by decide, by decide⟩) dL_growth_11 (fun H locs hP hD hS => ?_)
      refine lv_goto (tgt := 27) hx hb dL_growth_12 (by decide) ?_
      refine lv_iconst (v := 0) hx hb dL_growth_27 (by decide) ?_
      refine W.widen (k := 1) (n := 6) (by omega) (by omega) ?_
      exact hret _ _ _ _ _ rfl hP hD hS dL_growth_28
  replace h := ite_f hs_a0 h
  have hn_a01 := hs_a0
  clear hs_a0
  by_cases hs_a0 : a0 = 2
  · replace h := ite_t hs_a0 h
    rcases lq_e h with ⟨k0, gx, h⟩ | ⟨gx, h⟩
    · by_cases hk1 : k0 = 1
      · subst hk1
        cases h
        refine lwC (k := 1) (rest := [.int 0, .ref qo]) (As := [.int a0, .int a1, .int a2]) S (by decide) (cxX4_growth l hfl G (ad 0) (ad 1) (ad 27) (ad 28) (ad 29) (ad 30) (ad 31) (ad 32) (ad 33) (ad 34) (ad 2) (ad 5) (ad 10) c.gain (ad 11) (ad 19) (ad 27) c.s2.pr c.s2.a c.s2.b c.s2.c c.s2.d c.s2.sp c.s2.mi c.s2.ti c.s2.w c.s2.s c.s2.h c.s2.va c.s2.ov c.s2.ra c.s2.ol c.s2.od c.s2.ne a0 a1 a2 1 gx 2 (by decide) (by rw [hs_a0]; decide) rfl) (cwV 3 hts gL_growth_X4_growth rfl rfl rfl hvX4_growth ⟨Nat.le_of_ble_eq_true rfl, Nat.le_of_ble_eq_true rfl⟩) hK hT hP hD hS [0, 1, 27, 28, 29, 30, 31, 32, 33, 34] rfl 0 4 rfl rfl rfl rfl hl.1 rfl (Nat.le_of_ble_eq_true rfl) dL_growth_7 ⟨Nat.le_of_ble_eq_true rfl, Nat.le_of_ble_eq_true rfl⟩ [{ startPc := 0, endPc := 12, handlerPc := 15, catchType := 20 }] { startPc := 0, endPc := 12, handlerPc := 19, catchType := 13 } [{ startPc := 0, endPc := 12, handlerPc := 23, catchType := 15 }] (by rw [htab]; rfl) (tp_cons (nm := exn 3) (by decide) (hts (.classLink RL 20 "java/lang/IndexOutOfBoundsException") lkL_growth_c20) (hN 1 (by decide) 3 (by decide) (by decide)) tp_nil) rfl (by decide) (hts (.classLink RL 13 "java/lang/IllegalArgumentException") lkL_growth_c13) rfl (fun H locs q hP hD hS => ?_)
        refine lv_astore (lv' := [(5, .ref q), (0, .ref (ad 0)), (1, .int a0), (2, .int a1), (3, .int a2), (4, .ref qo)]) hx hb dL_growth_19 hl (by decide) rfl (fun ls hl => ?_)
        refine lv_iconst (v := 2) hx hb dL_growth_21 (by decide) ?_
        exact hret _ _ _ _ _ rfl hP hD hS dL_growth_22
      replace h := ite_f hk1 h
      by_cases hk2 : k0 = 2
      · subst hk2
        cases h
        refine lwC (k := 2) (rest := [.int 0, .ref qo]) (As := [.int a0, .int a1, .int a2]) S (by decide) (cxX4_growth l hfl G (ad 0) (ad 1) (ad 27) (ad 28) (ad 29) (ad 30) (ad 31) (ad 32) (ad 33) (ad 34) (ad 2) (ad 5) (ad 10) c.gain (ad 11) (ad 19) (ad 27) c.s2.pr c.s2.a c.s2.b c.s2.c c.s2.d c.s2.sp c.s2.mi c.s2.ti c.s2.w c.s2.s c.s2.h c.s2.va c.s2.ov c.s2.ra c.s2.ol c.s2.od c.s2.ne a0 a1 a2 2 gx 2 (by decide) (by rw [hs_a0]; decide) rfl) (cwV 3 hts gL_growth_X4_growth rfl rfl rfl hvX4_growth ⟨Nat.le_of_ble_eq_true rfl, Nat.le_of_ble_eq_true rfl⟩) hK hT hP hD hS [0, 1, 27, 28, 29, 30, 31, 32, 33, 34] rfl 0 4 rfl rfl rfl rfl hl.1 rfl (Nat.le_of_ble_eq_true rfl) dL_growth_7 ⟨Nat.le_of_ble_eq_true rfl, Nat.le_of_ble_eq_true rfl⟩ [{ startPc := 0, endPc := 12, handlerPc := 15, catchType := 20 }, { startPc := 0, endPc := 12, handlerPc := 19, catchType := 13 }] { startPc := 0, endPc := 12, handlerPc := 23, catchType := 15 } [] (by rw [htab]; rfl) (tp_cons (nm := exn 3) (by decide) (hts (.classLink RL 20 "java/lang/IndexOutOfBoundsException") lkL_growth_c20) (hN 2 (by decide) 3 (by decide) (by decide)) (tp_cons (nm := exn 1) (by decide) (hts (.classLink RL 13 "java/lang/IllegalArgumentException") lkL_growth_c13) (hN 2 (by decide) 1 (by decide) (by decide)) tp_nil)) rfl (by decide) (hts (.classLink RL 15 "java/lang/IllegalStateException") lkL_growth_c15) rfl (fun H locs q hP hD hS => ?_)
        refine lv_astore (lv' := [(5, .ref q), (0, .ref (ad 0)), (1, .int a0), (2, .int a1), (3, .int a2), (4, .ref qo)]) hx hb dL_growth_23 hl (by decide) rfl (fun ls hl => ?_)
        refine lv_iconst (v := 3) hx hb dL_growth_25 (by decide) ?_
        exact hret _ _ _ _ _ rfl hP hD hS dL_growth_26
      replace h := ite_f hk2 h
      by_cases hk3 : k0 = 3
      · subst hk3
        cases h
        refine lwC (k := 3) (rest := [.int 0, .ref qo]) (As := [.int a0, .int a1, .int a2]) S (by decide) (cxX4_growth l hfl G (ad 0) (ad 1) (ad 27) (ad 28) (ad 29) (ad 30) (ad 31) (ad 32) (ad 33) (ad 34) (ad 2) (ad 5) (ad 10) c.gain (ad 11) (ad 19) (ad 27) c.s2.pr c.s2.a c.s2.b c.s2.c c.s2.d c.s2.sp c.s2.mi c.s2.ti c.s2.w c.s2.s c.s2.h c.s2.va c.s2.ov c.s2.ra c.s2.ol c.s2.od c.s2.ne a0 a1 a2 3 gx 2 (by decide) (by rw [hs_a0]; decide) rfl) (cwV 3 hts gL_growth_X4_growth rfl rfl rfl hvX4_growth ⟨Nat.le_of_ble_eq_true rfl, Nat.le_of_ble_eq_true rfl⟩) hK hT hP hD hS [0, 1, 27, 28, 29, 30, 31, 32, 33, 34] rfl 0 4 rfl rfl rfl rfl hl.1 rfl (Nat.le_of_ble_eq_true rfl) dL_growth_7 ⟨Nat.le_of_ble_eq_true rfl, Nat.le_of_ble_eq_true rfl⟩ [] { startPc := 0, endPc := 12, handlerPc := 15, catchType := 20 } [{ startPc := 0, endPc := 12, handlerPc := 19, catchType := 13 }, { startPc := 0, endPc := 12, handlerPc := 23, catchType := 15 }] (by rw [htab]; rfl) tp_nil rfl (by decide) (hts (.classLink RL 20 "java/lang/IndexOutOfBoundsException") lkL_growth_c20) rfl (fun H locs q hP hD hS => ?_)
        refine lv_astore (lv' := [(5, .ref q), (0, .ref (ad 0)), (1, .int a0), (2, .int a1), (3, .int a2), (4, .ref qo)]) hx hb dL_growth_15 hl (by decide) rfl (fun ls hl => ?_)
        refine lv_iconst (v := 1) hx hb dL_growth_17 (by decide) ?_
        exact hret _ _ _ _ _ rfl hP hD hS dL_growth_18
      cases (ite_f hk3 h)
    · obtain ⟨o0, g, h⟩ := bnd1_e h
      cases h
      refine roVi1 (rest := [.int 0, .ref qo]) (As := [.int a0, .int a1, .int a2]) S (ctX4_growth l G (ad 0) (ad 1) (ad 27) (ad 28) (ad 29) (ad 30) (ad 31) (ad 32) (ad 33) (ad 34) (ad 2) (ad 5) (ad 10) c.gain (ad 11) (ad 19) (ad 27) c.s2.pr c.s2.a c.s2.b c.s2.c c.s2.d c.s2.sp c.s2.mi c.s2.ti c.s2.w c.s2.s c.s2.h c.s2.va c.s2.ov c.s2.ra c.s2.ol c.s2.od c.s2.ne a0 a1 a2 o0 g 2 (by decide) (by rw [hs_a0]; decide) rfl) (cwV 3 hts gL_growth_X4_growth rfl rfl rfl hvX4_growth ⟨Nat.le_of_ble_eq_true rfl, Nat.le_of_ble_eq_true rfl⟩) hK hP [0, 1, 27, 28, 29, 30, 31, 32, 33, 34] rfl 0 4 rfl rfl rfl rfl hl.1 rfl (Nat.le_of_ble_eq_true rfl) dL_growth_7 ⟨Nat.zero_le _, Nat.zero_le _⟩ (fun _ => ?_)
      refine lv_i2l hx hb dL_growth_10 rfl ?_
      refine va_last hx hb hK.1 hP hD hS 35 3 rfl rfl (i := 0) (vp_in_iff.mpr ⟨by decide, by decide⟩) dL_growth_11 (fun H locs hP hD hS => ?_)
      refine lv_goto (tgt := 27) hx hb dL_growth_12 (by decide) ?_
      refine lv_iconst (v := 0) hx hb dL_growth_27 (by decide) ?_
      refine W.widen (k := 1) (n := 6) (by omega) (by omega) ?_
      exact hret _ _ _ _ _ rfl hP hD hS dL_growth_28
  replace h := ite_f hs_a0 h
  have hn_a02 := hs_a0
  clear hs_a0
  have ho_a0 := slot_out hn_a00 hn_a01 hn_a02
  cases h
  refine lwC (k := 3) (rest := [.int 0, .ref qo]) (As := [.int a0, .int a1, .int a2]) S (by decide) (cxX4_growtho l hfl G (ad 0) (ad 1) (ad 2) (ad 5) (ad 10) c.gain (ad 11) (ad 19) (ad 27) a0 a1 a2 ho_a0) (cwV 3 hts gL_growth_X4_growth rfl rfl rfl hvX4_growth ⟨Nat.le_of_ble_eq_true rfl, Nat.le_of_ble_eq_true rfl⟩) hK hT hP hD hS [0, 1] rfl 0 4 rfl rfl rfl rfl hl.1 rfl (Nat.le_of_ble_eq_true rfl) dL_growth_7 ⟨Nat.le_of_ble_eq_true rfl, Nat.le_of_ble_eq_true rfl⟩ [] { startPc := 0, endPc := 12, handlerPc := 15, catchType := 20 } [{ startPc := 0, endPc := 12, handlerPc := 19, catchType := 13 }, { startPc := 0, endPc := 12, handlerPc := 23, catchType := 15 }] (by rw [htab]; rfl) tp_nil rfl (by decide) (hts (.classLink RL 20 "java/lang/IndexOutOfBoundsException") lkL_growth_c20) rfl (fun H locs q hP hD hS => ?_)
  refine lv_astore (lv' := [(5, .ref q), (0, .ref (ad 0)), (1, .int a0), (2, .int a1), (3, .int a2), (4, .ref qo)]) hx hb dL_growth_15 hl (by decide) rfl (fun ls hl => ?_)
  refine lv_iconst (v := 1) hx hb dL_growth_17 (by decide) ?_
  exact hret _ _ _ _ _ rfl hP hD hS dL_growth_18
abbrev rmL_inked : Room := { frames := 8, cells := 1, slots := 6, locals := 140 }
theorem hsX4_inked : yX4_inked.cls ≠ "java/lang/invoke/MethodHandle" ∧ yX4_inked.cls ≠ "java/lang/invoke/VarHandle" ∧ (parseMethodDescriptor yX4_inked.desc).map (fun d => d.parameters.length) = some 5 := by decide +kernel
theorem hvX4_inked : yX4_inked.cls = RX4 ∧ yX4_inked.cls ≠ "java/lang/invoke/MethodHandle" ∧ yX4_inked.cls ≠ "java/lang/invoke/VarHandle" ∧ (parseMethodDescriptor yX4_inked.desc).map (fun d => d.parameters.length) = some 5 := ⟨rfl, hsX4_inked⟩
theorem lkL_inked_c20 : Cond.classLink RL 20 "java/lang/IndexOutOfBoundsException" ∈ wsL_inked := List.mem_of_getElem? (i := 1) rfl
theorem lkL_inked_c13 : Cond.classLink RL 13 "java/lang/IllegalArgumentException" ∈ wsL_inked := List.mem_of_getElem? (i := 2) rfl
theorem lkL_inked_c15 : Cond.classLink RL 15 "java/lang/IllegalStateException" ∈ wsL_inked := List.mem_of_getElem? (i := 3) rfl
set_option maxHeartbeats 4000000 in
set_option maxRecDepth 100000 in
theorem lw_inked (l : Launch) (hfl : l.stackTraces = false) (G : GG) (ad : Nat → Nat) (qo : Nat) (c c' : Cls) (f f' : Nat → Int64) (a0 : Int32) (a1 : Int32) (a2 : Int32) (a3 : Int32) (a4 : Int32) (r0 : Int32) (h : lm_inked c f a0 a1 a2 a3 a4 = some (r0, c', f')) : Met l yL_inked wsL_inked rmL_inked (va_Pc [.ref (ad 0), .int a0, .int a1, .int a2, .int a3, .int a4, .ref qo] (PreD G (wdF G ad c ++ [(qo, .inl (G.2 3, 1, .inr (.inl f)))]) (XL (wdF G ad c ++ [(qo, .inl (G.2 3, 1, .inr (.inl f)))])))) (QwA G (va_A0 (wdF G ad c ++ [(qo, .inl (G.2 3, 1, .inr (.inl f)))])) (wdF G ad c' ++ [(qo, .inl (G.2 3, 1, .inr (.inl f')))]) (some (.int r0)) True) 1 6 (va_A0 (wdF G ad c ++ [(qo, .inl (G.2 3, 1, .inr (.inl f)))])) := by
  refine of_lw (cc := cL_inked) (maxL := 8) (hh := [(0, 16, 19, 20), (0, 16, 23, 13), (0, 16, 27, 15)]) (by decide) rfl (Nat.le_of_ble_eq_true rfl) ?_
  intro p e s m args below meth c1 ls Q A S htab hl hP hD hS hK hT hN hX hA hret
  obtain ⟨H, hH⟩ : ∃ H, H = s.heap := ⟨_, rfl⟩
  obtain ⟨locs, hlocs⟩ : ∃ L : List Loc, L = [] := ⟨_, rfl⟩
  rw [← hlocs]
  rw [← hlocs] at hS
  have hP : va_P G.1 vwCl (wdF G ad c ++ [(qo, .inl (G.2 3, 1, .inr (.inl f)))]) H := by rw [hH]; exact hP
  have hS : va_S A s.heap H locs := by rw [hH]; exact hS
  have hT : TT A s H := by rw [hH]; exact hT
  suffices hgo : W p l e rmL_inked s m args below meth c1 H locs 0 0 Q (F0 m 0 ls []) by rw [hH] at hgo; exact hgo
  have S : CallFix p m c1 cL_inked 8 s args wsL_inked RL := S
  obtain ⟨hx, hb, hml, hown, hts⟩ := id S
  have hl : lv_has ls 8 [(0, .ref (ad 0)), (1, .int a0), (2, .int a1), (3, .int a2), (4, .int a3), (5, .int a4), (6, .ref qo)] := hl
  unfold lm_inked at h
  refine lv_aload hx hb dL_inked_0 (lv_at hl 6 rfl) ?_
  refine lv_iconst (v := 0) hx hb dL_inked_2 (by decide) ?_
  refine lv_aload_n hx hb dL_inked_3 rfl (lv_at hl 0 rfl) ?_
  refine lv_iload_n hx hb dL_inked_4 rfl (lv_at hl 1 rfl) ?_
  refine lv_iload_n hx hb dL_inked_5 rfl (lv_at hl 2 rfl) ?_
  refine lv_iload_n hx hb dL_inked_6 rfl (lv_at hl 3 rfl) ?_
  refine lv_iload hx hb dL_inked_7 (lv_at hl 4 rfl) ?_
  refine lv_iload hx hb dL_inked_9 (lv_at hl 5 rfl) ?_
  by_cases hs_a0 : a0 = 0
  · replace h := ite_t hs_a0 h
    rcases lq_e h with ⟨k0, gx, h⟩ | ⟨gx, h⟩
    · by_cases hk1 : k0 = 1
      · subst hk1
        cases h
        refine lwC (k := 1) (rest := [.int 0, .ref qo]) (As := [.int a0, .int a1, .int a2, .int a3, .int a4]) S (by decide) (cxX4_inked l hfl G (ad 0) (ad 1) (ad 11) (ad 12) (ad 13) (ad 14) (ad 15) (ad 16) (ad 17) (ad 18) (ad 2) (ad 5) (ad 10) c.gain (ad 11) (ad 19) (ad 27) c.s0.pr c.s0.a c.s0.b c.s0.c c.s0.d c.s0.sp c.s0.mi c.s0.ti c.s0.w c.s0.s c.s0.h c.s0.va c.s0.ov c.s0.ra c.s0.ol c.s0.od c.s0.ne a0 a1 a2 a3 a4 1 gx 0 (by decide) (by rw [hs_a0]; decide) rfl) (cwV 5 hts gL_inked_X4_inked rfl rfl rfl hvX4_inked ⟨Nat.le_of_ble_eq_true rfl, Nat.le_of_ble_eq_true rfl⟩) hK hT hP hD hS [0, 1, 11, 12, 13, 14, 15, 16, 17, 18] rfl 0 4 rfl rfl rfl rfl hl.1 rfl (Nat.le_of_ble_eq_true rfl) dL_inked_11 ⟨Nat.le_of_ble_eq_true rfl, Nat.le_of_ble_eq_true rfl⟩ [{ startPc := 0, endPc := 16, handlerPc := 19, catchType := 20 }] { startPc := 0, endPc := 16, handlerPc := 23, catchType := 13 } [{ startPc := 0, endPc := 16, handlerPc := 27, catchType := 15 }] (by rw [htab]; rfl) (tp_cons (nm := exn 3) (by decide) (hts (.classLink RL 20 "java/lang/IndexOutOfBoundsException") lkL_inked_c20) (hN 1 (by decide) 3 (by decide) (by decide)) tp_nil) rfl (by decide) (hts (.classLink RL 13 "java/lang/IllegalArgumentException") lkL_inked_c13) rfl (fun H locs q hP hD hS => ?_)
        refine lv_astore (lv' := [(7, .ref q), (0, .ref (ad 0)), (1, .int a0), (2, .int a1), (3, .int a2), (4, .int a3), (5, .int a4), (6, .ref qo)]) hx hb dL_inked_23 hl (by decide) rfl (fun ls hl => ?_)
        refine lv_iconst (v := 2) hx hb dL_inked_25 (by decide) ?_
        exact hret _ _ _ _ _ rfl hP hD hS dL_inked_26
      replace h := ite_f hk1 h
      by_cases hk2 : k0 = 2
      · subst hk2
        cases h
        refine lwC (k := 2) (rest := [.int 0, .ref qo]) (As := [.int a0, .int a1, .int a2, .int a3, .int a4]) S (by decide) (cxX4_inked l hfl G (ad 0) (ad 1) (ad 11) (ad 12) (ad 13) (ad 14) (ad 15) (ad 16) (ad 17) (ad 18) (ad 2) (ad 5) (ad 10) c.gain (ad 11) (ad 19) (ad 27) c.s0.pr c.s0.a c.s0.b c.s0.c c.s0.d c.s0.sp c.s0.mi c.s0.ti c.s0.w c.s0.s c.s0.h c.s0.va c.s0.ov c.s0.ra c.s0.ol c.s0.od c.s0.ne a0 a1 a2 a3 a4 2 gx 0 (by decide) (by rw [hs_a0]; decide) rfl) (cwV 5 hts gL_inked_X4_inked rfl rfl rfl hvX4_inked ⟨Nat.le_of_ble_eq_true rfl, Nat.le_of_ble_eq_true rfl⟩) hK hT hP hD hS [0, 1, 11, 12, 13, 14, 15, 16, 17, 18] rfl 0 4 rfl rfl rfl rfl hl.1 rfl (Nat.le_of_ble_eq_true rfl) dL_inked_11 ⟨Nat.le_of_ble_eq_true rfl, Nat.le_of_ble_eq_true rfl⟩ [{ startPc := 0, endPc := 16, handlerPc := 19, catchType := 20 }, { startPc := 0, endPc := 16, handlerPc := 23, catchType := 13 }] { startPc := 0, endPc := 16, handlerPc := 27, catchType := 15 } [] (by rw [htab]; rfl) (tp_cons (nm := exn 3) (by decide) (hts (.classLink RL 20 "java/lang/IndexOutOfBoundsException") lkL_inked_c20) (hN 2 (by decide) 3 (by decide) (by decide)) (tp_cons (nm := exn 1) (by decide) (hts (.classLink RL 13 "java/lang/IllegalArgumentException") lkL_inked_c13) (hN 2 (by decide) 1 (by decide) (by decide)) tp_nil)) rfl (by decide) (hts (.classLink RL 15 "java/lang/IllegalStateException") lkL_inked_c15) rfl (fun H locs q hP hD hS => ?_)
        refine lv_astore (lv' := [(7, .ref q), (0, .ref (ad 0)), (1, .int a0), (2, .int a1), (3, .int a2), (4, .int a3), (5, .int a4), (6, .ref qo)]) hx hb dL_inked_27 hl (by decide) rfl (fun ls hl => ?_)
        refine lv_iconst (v := 3) hx hb dL_inked_29 (by decide) ?_
        exact hret _ _ _ _ _ rfl hP hD hS dL_inked_30
      replace h := ite_f hk2 h
      by_cases hk3 : k0 = 3
      · subst hk3
        cases h
        refine lwC (k := 3) (rest := [.int 0, .ref qo]) (As := [.int a0, .int a1, .int a2, .int a3, .int a4]) S (by decide) (cxX4_inked l hfl G (ad 0) (ad 1) (ad 11) (ad 12) (ad 13) (ad 14) (ad 15) (ad 16) (ad 17) (ad 18) (ad 2) (ad 5) (ad 10) c.gain (ad 11) (ad 19) (ad 27) c.s0.pr c.s0.a c.s0.b c.s0.c c.s0.d c.s0.sp c.s0.mi c.s0.ti c.s0.w c.s0.s c.s0.h c.s0.va c.s0.ov c.s0.ra c.s0.ol c.s0.od c.s0.ne a0 a1 a2 a3 a4 3 gx 0 (by decide) (by rw [hs_a0]; decide) rfl) (cwV 5 hts gL_inked_X4_inked rfl rfl rfl hvX4_inked ⟨Nat.le_of_ble_eq_true rfl, Nat.le_of_ble_eq_true rfl⟩) hK hT hP hD hS [0, 1, 11, 12, 13, 14, 15, 16, 17, 18] rfl 0 4 rfl rfl rfl rfl hl.1 rfl (Nat.le_of_ble_eq_true rfl) dL_inked_11 ⟨Nat.le_of_ble_eq_true rfl, Nat.le_of_ble_eq_true rfl⟩ [] { startPc := 0, endPc := 16, handlerPc := 19, catchType := 20 } [{ startPc := 0, endPc := 16, handlerPc := 23, catchType := 13 }, { startPc := 0, endPc := 16, handlerPc := 27, catchType := 15 }] (by rw [htab]; rfl) tp_nil rfl (by decide) (hts (.classLink RL 20 "java/lang/IndexOutOfBoundsException") lkL_inked_c20) rfl (fun H locs q hP hD hS => ?_)
        refine lv_astore (lv' := [(7, .ref q), (0, .ref (ad 0)), (1, .int a0), (2, .int a1), (3, .int a2), (4, .int a3), (5, .int a4), (6, .ref qo)]) hx hb dL_inked_19 hl (by decide) rfl (fun ls hl => ?_)
        refine lv_iconst (v := 1) hx hb dL_inked_21 (by decide) ?_
        exact hret _ _ _ _ _ rfl hP hD hS dL_inked_22
      cases (ite_f hk3 h)
    · obtain ⟨o0, g, h⟩ := bnd1_e h
      cases h
      refine roVi1 (rest := [.int 0, .ref qo]) (As := [.int a0, .int a1, .int a2, .int a3, .int a4]) S (ctX4_inked l G (ad 0) (ad 1) (ad 11) (ad 12) (ad 13) (ad 14) (ad 15) (ad 16) (ad 17) (ad 18) (ad 2) (ad 5) (ad 10) c.gain (ad 11) (ad 19) (ad 27) c.s0.pr c.s0.a c.s0.b c.s0.c c.s0.d c.s0.sp c.s0.mi c.s0.ti c.s0.w c.s0.s c.s0.h c.s0.va c.s0.ov c.s0.ra c.s0.ol c.s0.od c.s0.ne a0 a1 a2 a3 a4 o0 g 0 (by decide) (by rw [hs_a0]; decide) rfl) (cwV 5 hts gL_inked_X4_inked rfl rfl rfl hvX4_inked ⟨Nat.le_of_ble_eq_true rfl, Nat.le_of_ble_eq_true rfl⟩) hK hP [0, 1, 11, 12, 13, 14, 15, 16, 17, 18] rfl 0 4 rfl rfl rfl rfl hl.1 rfl (Nat.le_of_ble_eq_true rfl) dL_inked_11 ⟨Nat.zero_le _, Nat.zero_le _⟩ (fun _ => ?_)
      refine lv_i2l hx hb dL_inked_14 rfl ?_
      refine va_last hx hb hK.1 hP hD hS 35 3 rfl rfl (i := 0) (vp_in_iff.mpr ⟨by decide, by decide⟩) dL_inked_15 (fun H locs hP hD hS => ?_)
      refine lv_goto (tgt := 31) hx hb dL_inked_16 (by decide) ?_
      refine lv_iconst (v := 0) hx hb dL_inked_31 (by decide) ?_
      refine W.widen (k := 1) (n := 6) (by omega) (by omega) ?_
      exact hret _ _ _ _ _ rfl hP hD hS dL_inked_32
  replace h := ite_f hs_a0 h
  have hn_a00 := hs_a0
  clear hs_a0
  by_cases hs_a0 : a0 = 1
  · replace h := ite_t hs_a0 h
    rcases lq_e h with ⟨k0, gx, h⟩ | ⟨gx, h⟩
    · by_cases hk1 : k0 = 1
      · subst hk1
        cases h
        refine lwC (k := 1) (rest := [.int 0, .ref qo]) (As := [.int a0, .int a1, .int a2, .int a3, .int a4]) S (by decide) (cxX4_inked l hfl G (ad 0) (ad 1) (ad 19) (ad 20) (ad 21) (ad 22) (ad 23) (ad 24) (ad 25) (ad 26) (ad 2) (ad 5) (ad 10) c.gain (ad 11) (ad 19) (ad 27) c.s1.pr c.s1.a c.s1.b c.s1.c c.s1.d c.s1.sp c.s1.mi c.s1.ti c.s1.w c.s1.s c.s1.h c.s1.va c.s1.ov c.s1.ra c.s1.ol c.s1.od c.s1.ne a0 a1 a2 a3 a4 1 gx 1 (by decide) (by rw [hs_a0]; decide) rfl) (cwV 5 hts gL_inked_X4_inked rfl rfl rfl hvX4_inked ⟨Nat.le_of_ble_eq_true rfl, Nat.le_of_ble_eq_true rfl⟩) hK hT hP hD hS [0, 1, 19, 20, 21, 22, 23, 24, 25, 26] rfl 0 4 rfl rfl rfl rfl hl.1 rfl (Nat.le_of_ble_eq_true rfl) dL_inked_11 ⟨Nat.le_of_ble_eq_true rfl, Nat.le_of_ble_eq_true rfl⟩ [{ startPc := 0, endPc := 16, handlerPc := 19, catchType := 20 }] { startPc := 0, endPc := 16, handlerPc := 23, catchType := 13 } [{ startPc := 0, endPc := 16, handlerPc := 27, catchType := 15 }] (by rw [htab]; rfl) (tp_cons (nm := exn 3) (by decide) (hts (.classLink RL 20 "java/lang/IndexOutOfBoundsException") lkL_inked_c20) (hN 1 (by decide) 3 (by decide) (by decide)) tp_nil) rfl (by decide) (hts (.classLink RL 13 "java/lang/IllegalArgumentException") lkL_inked_c13) rfl (fun H locs q hP hD hS => ?_)
        refine lv_astore (lv' := [(7, .ref q), (0, .ref (ad 0)), (1, .int a0), (2, .int a1), (3, .int a2), (4, .int a3), (5, .int a4), (6, .ref qo)]) hx hb dL_inked_23 hl (by decide) rfl (fun ls hl => ?_)
        refine lv_iconst (v := 2) hx hb dL_inked_25 (by decide) ?_
        exact hret _ _ _ _ _ rfl hP hD hS dL_inked_26
      replace h := ite_f hk1 h
      by_cases hk2 : k0 = 2
      · subst hk2
        cases h
        refine lwC (k := 2) (rest := [.int 0, .ref qo]) (As := [.int a0, .int a1, .int a2, .int a3, .int a4]) S (by decide) (cxX4_inked l hfl G (ad 0) (ad 1) (ad 19) (ad 20) (ad 21) (ad 22) (ad 23) (ad 24) (ad 25) (ad 26) (ad 2) (ad 5) (ad 10) c.gain (ad 11) (ad 19) (ad 27) c.s1.pr c.s1.a c.s1.b c.s1.c c.s1.d c.s1.sp c.s1.mi c.s1.ti c.s1.w c.s1.s c.s1.h c.s1.va c.s1.ov c.s1.ra c.s1.ol c.s1.od c.s1.ne a0 a1 a2 a3 a4 2 gx 1 (by decide) (by rw [hs_a0]; decide) rfl) (cwV 5 hts gL_inked_X4_inked rfl rfl rfl hvX4_inked ⟨Nat.le_of_ble_eq_true rfl, Nat.le_of_ble_eq_true rfl⟩) hK hT hP hD hS [0, 1, 19, 20, 21, 22, 23, 24, 25, 26] rfl 0 4 rfl rfl rfl rfl hl.1 rfl (Nat.le_of_ble_eq_true rfl) dL_inked_11 ⟨Nat.le_of_ble_eq_true rfl, Nat.le_of_ble_eq_true rfl⟩ [{ startPc := 0, endPc := 16, handlerPc := 19, catchType := 20 }, { startPc := 0, endPc := 16, handlerPc := 23, catchType := 13 }] { startPc := 0, endPc := 16, handlerPc := 27, catchType := 15 } [] (by rw [htab]; rfl) (tp_cons (nm := exn 3) (by decide) (hts (.classLink RL 20 "java/lang/IndexOutOfBoundsException") lkL_inked_c20) (hN 2 (by decide) 3 (by decide) (by decide)) (tp_cons (nm := exn 1) (by decide) (hts (.classLink RL 13 "java/lang/IllegalArgumentException") lkL_inked_c13) (hN 2 (by decide) 1 (by decide) (by decide)) tp_nil)) rfl (by decide) (hts (.classLink RL 15 "java/lang/IllegalStateException") lkL_inked_c15) rfl (fun H locs q hP hD hS => ?_)
        refine lv_astore (lv' := [(7, .ref q), (0, .ref (ad 0)), (1, .int a0), (2, .int a1), (3, .int a2), (4, .int a3), (5, .int a4), (6, .ref qo)]) hx hb dL_inked_27 hl (by decide) rfl (fun ls hl => ?_)
        refine lv_iconst (v := 3) hx hb dL_inked_29 (by decide) ?_
        exact hret _ _ _ _ _ rfl hP hD hS dL_inked_30
      replace h := ite_f hk2 h
      by_cases hk3 : k0 = 3
      · subst hk3
        cases h
        refine lwC (k := 3) (rest := [.int 0, .ref qo]) (As := [.int a0, .int a1, .int a2, .int a3, .int a4]) S (by decide) (cxX4_inked l hfl G (ad 0) (ad 1) (ad 19) (ad 20) (ad 21) (ad 22) (ad 23) (ad 24) (ad 25) (ad 26) (ad 2) (ad 5) (ad 10) c.gain (ad 11) (ad 19) (ad 27) c.s1.pr c.s1.a c.s1.b c.s1.c c.s1.d c.s1.sp c.s1.mi c.s1.ti c.s1.w c.s1.s c.s1.h c.s1.va c.s1.ov c.s1.ra c.s1.ol c.s1.od c.s1.ne a0 a1 a2 a3 a4 3 gx 1 (by decide) (by rw [hs_a0]; decide) rfl) (cwV 5 hts gL_inked_X4_inked rfl rfl rfl hvX4_inked ⟨Nat.le_of_ble_eq_true rfl, Nat.le_of_ble_eq_true rfl⟩) hK hT hP hD hS [0, 1, 19, 20, 21, 22, 23, 24, 25, 26] rfl 0 4 rfl rfl rfl rfl hl.1 rfl (Nat.le_of_ble_eq_true rfl) dL_inked_11 ⟨Nat.le_of_ble_eq_true rfl, Nat.le_of_ble_eq_true rfl⟩ [] { startPc := 0, endPc := 16, handlerPc := 19, catchType := 20 } [{ startPc := 0, endPc := 16, handlerPc := 23, catchType := 13 }, { startPc := 0, endPc := 16, handlerPc := 27, catchType := 15 }] (by rw [htab]; rfl) tp_nil rfl (by decide) (hts (.classLink RL 20 "java/lang/IndexOutOfBoundsException") lkL_inked_c20) rfl (fun H locs q hP hD hS => ?_)
        refine lv_astore (lv' := [(7, .ref q), (0, .ref (ad 0)), (1, .int a0), (2, .int a1), (3, .int a2), (4, .int a3), (5, .int a4), (6, .ref qo)]) hx hb dL_inked_19 hl (by decide) rfl (fun ls hl => ?_)
        refine lv_iconst (v := 1) hx hb dL_inked_21 (by decide) ?_
        exact hret _ _ _ _ _ rfl hP hD hS dL_inked_22
      cases (ite_f hk3 h)
    · obtain ⟨o0, g, h⟩ := bnd1_e h
      cases h
      refine roVi1 (rest := [.int 0, .ref qo]) (As := [.int a0, .int a1, .int a2, .int a3, .int a4]) S (ctX4_inked l G (ad 0) (ad 1) (ad 19) (ad 20) (ad 21) (ad 22) (ad 23) (ad 24) (ad 25) (ad 26) (ad 2) (ad 5) (ad 10) c.gain (ad 11) (ad 19) (ad 27) c.s1.pr c.s1.a c.s1.b c.s1.c c.s1.d c.s1.sp c.s1.mi c.s1.ti c.s1.w c.s1.s c.s1.h c.s1.va c.s1.ov c.s1.ra c.s1.ol c.s1.od c.s1.ne a0 a1 a2 a3 a4 o0 g 1 (by decide) (by rw [hs_a0]; decide) rfl) (cwV 5 hts gL_inked_X4_inked rfl rfl rfl hvX4_inked ⟨Nat.le_of_ble_eq_true rfl, Nat.le_of_ble_eq_true rfl⟩) hK hP [0, 1, 19, 20, 21, 22, 23, 24, 25, 26] rfl 0 4 rfl rfl rfl rfl hl.1 rfl (Nat.le_of_ble_eq_true rfl) dL_inked_11 ⟨Nat.zero_le _, Nat.zero_le _⟩ (fun _ => ?_)
      refine lv_i2l hx hb dL_inked_14 rfl ?_
      refine va_last hx hb hK.1 hP hD hS 35 3 rfl rfl (i := 0) (vp_in_iff.mpr ⟨by decide, by decide⟩) dL_inked_15 (fun H locs hP hD hS => ?_)
      refine lv_goto (tgt := 31) hx hb dL_inked_16 (by decide) ?_
      refine lv_iconst (v := 0) hx hb dL_inked_31 (by decide) ?_
      refine W.widen (k := 1) (n := 6) (by omega) (by omega) ?_
      exact hret _ _ _ _ _ rfl hP hD hS dL_inked_32
  replace h := ite_f hs_a0 h
  have hn_a01 := hs_a0
  clear hs_a0
  by_cases hs_a0 : a0 = 2
  · replace h := ite_t hs_a0 h
    rcases lq_e h with ⟨k0, gx, h⟩ | ⟨gx, h⟩
    · by_cases hk1 : k0 = 1
      · subst hk1
        cases h
        refine lwC (k := 1) (rest := [.int 0, .ref qo]) (As := [.int a0, .int a1, .int a2, .int a3, .int a4]) S (by decide) (cxX4_inked l hfl G (ad 0) (ad 1) (ad 27) (ad 28) (ad 29) (ad 30) (ad 31) (ad 32) (ad 33) (ad 34) (ad 2) (ad 5) (ad 10) c.gain (ad 11) (ad 19) (ad 27) c.s2.pr c.s2.a c.s2.b c.s2.c c.s2.d c.s2.sp c.s2.mi c.s2.ti c.s2.w c.s2.s c.s2.h c.s2.va c.s2.ov c.s2.ra c.s2.ol c.s2.od c.s2.ne a0 a1 a2 a3 a4 1 gx 2 (by decide) (by rw [hs_a0]; decide) rfl) (cwV 5 hts gL_inked_X4_inked rfl rfl rfl hvX4_inked ⟨Nat.le_of_ble_eq_true rfl, Nat.le_of_ble_eq_true rfl⟩) hK hT hP hD hS [0, 1, 27, 28, 29, 30, 31, 32, 33, 34] rfl 0 4 rfl rfl rfl rfl hl.1 rfl (Nat.le_of_ble_eq_true rfl) dL_inked_11 ⟨Nat.le_of_ble_eq_true rfl, Nat.le_of_ble_eq_true rfl⟩ [{ startPc := 0, endPc := 16, handlerPc := 19, catchType := 20 }] { startPc := 0, endPc := 16, handlerPc := 23, catchType := 13 } [{ startPc := 0, endPc := 16, handlerPc := 27, catchType := 15 }] (by rw [htab]; rfl) (tp_cons (nm := exn 3) (by decide) (hts (.classLink RL 20 "java/lang/IndexOutOfBoundsException") lkL_inked_c20) (hN 1 (by decide) 3 (by decide) (by decide)) tp_nil) rfl (by decide) (hts (.classLink RL 13 "java/lang/IllegalArgumentException") lkL_inked_c13) rfl (fun H locs q hP hD hS => ?_)
        refine lv_astore (lv' := [(7, .ref q), (0, .ref (ad 0)), (1, .int a0), (2, .int a1), (3, .int a2), (4, .int a3), (5, .int a4), (6, .ref qo)]) hx hb dL_inked_23 hl (by decide) rfl (fun ls hl => ?_)
        refine lv_iconst (v := 2) hx hb dL_inked_25 (by decide) ?_
        exact hret _ _ _ _ _ rfl hP hD hS dL_inked_26
      replace h := ite_f hk1 h
      by_cases hk2 : k0 = 2
      · subst hk2
        cases h
        refine lwC (k := 2) (rest := [.int 0, .ref qo]) (As := [.int a0, .int a1, .int a2, .int a3, .int a4]) S (by decide) (cxX4_inked l hfl G (ad 0) (ad 1) (ad 27) (ad 28) (ad 29) (ad 30) (ad 31) (ad 32) (ad 33) (ad 34) (ad 2) (ad 5) (ad 10) c.gain (ad 11) (ad 19) (ad 27) c.s2.pr c.s2.a c.s2.b c.s2.c c.s2.d c.s2.sp c.s2.mi c.s2.ti c.s2.w c.s2.s c.s2.h c.s2.va c.s2.ov c.s2.ra c.s2.ol c.s2.od c.s2.ne a0 a1 a2 a3 a4 2 gx 2 (by decide) (by rw [hs_a0]; decide) rfl) (cwV 5 hts gL_inked_X4_inked rfl rfl rfl hvX4_inked ⟨Nat.le_of_ble_eq_true rfl, Nat.le_of_ble_eq_true rfl⟩) hK hT hP hD hS [0, 1, 27, 28, 29, 30, 31, 32, 33, 34] rfl 0 4 rfl rfl rfl rfl hl.1 rfl (Nat.le_of_ble_eq_true rfl) dL_inked_11 ⟨Nat.le_of_ble_eq_true rfl, Nat.le_of_ble_eq_true rfl⟩ [{ startPc := 0, endPc := 16, handlerPc := 19, catchType := 20 }, { startPc := 0, endPc := 16, handlerPc := 23, catchType := 13 }] { startPc := 0, endPc := 16, handlerPc := 27, catchType := 15 } [] (by rw [htab]; rfl) (tp_cons (nm := exn 3) (by decide) (hts (.classLink RL 20 "java/lang/IndexOutOfBoundsException") lkL_inked_c20) (hN 2 (by decide) 3 (by decide) (by decide)) (tp_cons (nm := exn 1) (by decide) (hts (.classLink RL 13 "java/lang/IllegalArgumentException") lkL_inked_c13) (hN 2 (by decide) 1 (by decide) (by decide)) tp_nil)) rfl (by decide) (hts (.classLink RL 15 "java/lang/IllegalStateException") lkL_inked_c15) rfl (fun H locs q hP hD hS => ?_)
        refine lv_astore (lv' := [(7, .ref q), (0, .ref (ad 0)), (1, .int a0), (2, .int a1), (3, .int a2), (4, .int a3), (5, .int a4), (6, .ref qo)]) hx hb dL_inked_27 hl (by decide) rfl (fun ls hl => ?_)
        refine lv_iconst (v := 3) hx hb dL_inked_29 (by decide) ?_
        exact hret _ _ _ _ _ rfl hP hD hS dL_inked_30
      replace h := ite_f hk2 h
      by_cases hk3 : k0 = 3
      · subst hk3
        cases h
        refine lwC (k := 3) (rest := [.int 0, .ref qo]) (As := [.int a0, .int a1, .int a2, .int a3, .int a4]) S (by decide) (cxX4_inked l hfl G (ad 0) (ad 1) (ad 27) (ad 28) (ad 29) (ad 30) (ad 31) (ad 32) (ad 33) (ad 34) (ad 2) (ad 5) (ad 10) c.gain (ad 11) (ad 19) (ad 27) c.s2.pr c.s2.a c.s2.b c.s2.c c.s2.d c.s2.sp c.s2.mi c.s2.ti c.s2.w c.s2.s c.s2.h c.s2.va c.s2.ov c.s2.ra c.s2.ol c.s2.od c.s2.ne a0 a1 a2 a3 a4 3 gx 2 (by decide) (by rw [hs_a0]; decide) rfl) (cwV 5 hts gL_inked_X4_inked rfl rfl rfl hvX4_inked ⟨Nat.le_of_ble_eq_true rfl, Nat.le_of_ble_eq_true rfl⟩) hK hT hP hD hS [0, 1, 27, 28, 29, 30, 31, 32, 33, 34] rfl 0 4 rfl rfl rfl rfl hl.1 rfl (Nat.le_of_ble_eq_true rfl) dL_inked_11 ⟨Nat.le_of_ble_eq_true rfl, Nat.le_of_ble_eq_true rfl⟩ [] { startPc := 0, endPc := 16, handlerPc := 19, catchType := 20 } [{ startPc := 0, endPc := 16, handlerPc := 23, catchType := 13 }, { startPc := 0, endPc := 16, handlerPc := 27, catchType := 15 }] (by rw [htab]; rfl) tp_nil rfl (by decide) (hts (.classLink RL 20 "java/lang/IndexOutOfBoundsException") lkL_inked_c20) rfl (fun H locs q hP hD hS => ?_)
        refine lv_astore (lv' := [(7, .ref q), (0, .ref (ad 0)), (1, .int a0), (2, .int a1), (3, .int a2), (4, .int a3), (5, .int a4), (6, .ref qo)]) hx hb dL_inked_19 hl (by decide) rfl (fun ls hl => ?_)
        refine lv_iconst (v := 1) hx hb dL_inked_21 (by decide) ?_
        exact hret _ _ _ _ _ rfl hP hD hS dL_inked_22
      cases (ite_f hk3 h)
    · obtain ⟨o0, g, h⟩ := bnd1_e h
      cases h
      refine roVi1 (rest := [.int 0, .ref qo]) (As := [.int a0, .int a1, .int a2, .int a3, .int a4]) S (ctX4_inked l G (ad 0) (ad 1) (ad 27) (ad 28) (ad 29) (ad 30) (ad 31) (ad 32) (ad 33) (ad 34) (ad 2) (ad 5) (ad 10) c.gain (ad 11) (ad 19) (ad 27) c.s2.pr c.s2.a c.s2.b c.s2.c c.s2.d c.s2.sp c.s2.mi c.s2.ti c.s2.w c.s2.s c.s2.h c.s2.va c.s2.ov c.s2.ra c.s2.ol c.s2.od c.s2.ne a0 a1 a2 a3 a4 o0 g 2 (by decide) (by rw [hs_a0]; decide) rfl) (cwV 5 hts gL_inked_X4_inked rfl rfl rfl hvX4_inked ⟨Nat.le_of_ble_eq_true rfl, Nat.le_of_ble_eq_true rfl⟩) hK hP [0, 1, 27, 28, 29, 30, 31, 32, 33, 34] rfl 0 4 rfl rfl rfl rfl hl.1 rfl (Nat.le_of_ble_eq_true rfl) dL_inked_11 ⟨Nat.zero_le _, Nat.zero_le _⟩ (fun _ => ?_)
      refine lv_i2l hx hb dL_inked_14 rfl ?_
      refine va_last hx hb hK.1 hP hD hS 35 3 rfl rfl (i := 0) (vp_in_iff.mpr ⟨by decide, by decide⟩) dL_inked_15 (fun H locs hP hD hS => ?_)
      refine lv_goto (tgt := 31) hx hb dL_inked_16 (by decide) ?_
      refine lv_iconst (v := 0) hx hb dL_inked_31 (by decide) ?_
      refine W.widen (k := 1) (n := 6) (by omega) (by omega) ?_
      exact hret _ _ _ _ _ rfl hP hD hS dL_inked_32
  replace h := ite_f hs_a0 h
  have hn_a02 := hs_a0
  clear hs_a0
  have ho_a0 := slot_out hn_a00 hn_a01 hn_a02
  cases h
  refine lwC (k := 3) (rest := [.int 0, .ref qo]) (As := [.int a0, .int a1, .int a2, .int a3, .int a4]) S (by decide) (cxX4_inkedo l hfl G (ad 0) (ad 1) (ad 2) (ad 5) (ad 10) c.gain (ad 11) (ad 19) (ad 27) a0 a1 a2 a3 a4 ho_a0) (cwV 5 hts gL_inked_X4_inked rfl rfl rfl hvX4_inked ⟨Nat.le_of_ble_eq_true rfl, Nat.le_of_ble_eq_true rfl⟩) hK hT hP hD hS [0, 1] rfl 0 4 rfl rfl rfl rfl hl.1 rfl (Nat.le_of_ble_eq_true rfl) dL_inked_11 ⟨Nat.le_of_ble_eq_true rfl, Nat.le_of_ble_eq_true rfl⟩ [] { startPc := 0, endPc := 16, handlerPc := 19, catchType := 20 } [{ startPc := 0, endPc := 16, handlerPc := 23, catchType := 13 }, { startPc := 0, endPc := 16, handlerPc := 27, catchType := 15 }] (by rw [htab]; rfl) tp_nil rfl (by decide) (hts (.classLink RL 20 "java/lang/IndexOutOfBoundsException") lkL_inked_c20) rfl (fun H locs q hP hD hS => ?_)
  refine lv_astore (lv' := [(7, .ref q), (0, .ref (ad 0)), (1, .int a0), (2, .int a1), (3, .int a2), (4, .int a3), (5, .int a4), (6, .ref qo)]) hx hb dL_inked_19 hl (by decide) rfl (fun ls hl => ?_)
  refine lv_iconst (v := 1) hx hb dL_inked_21 (by decide) ?_
  exact hret _ _ _ _ _ rfl hP hD hS dL_inked_22
abbrev rmL_firstJoined : Room := { frames := 8, cells := 1, slots := 6, locals := 136 }
theorem hsX4_firstJoined : yX4_firstJoined.cls ≠ "java/lang/invoke/MethodHandle" ∧ yX4_firstJoined.cls ≠ "java/lang/invoke/VarHandle" ∧ (parseMethodDescriptor yX4_firstJoined.desc).map (fun d => d.parameters.length) = some 2 := by decide +kernel
theorem hvX4_firstJoined : yX4_firstJoined.cls = RX4 ∧ yX4_firstJoined.cls ≠ "java/lang/invoke/MethodHandle" ∧ yX4_firstJoined.cls ≠ "java/lang/invoke/VarHandle" ∧ (parseMethodDescriptor yX4_firstJoined.desc).map (fun d => d.parameters.length) = some 2 := ⟨rfl, hsX4_firstJoined⟩
theorem lkL_firstJoined_c20 : Cond.classLink RL 20 "java/lang/IndexOutOfBoundsException" ∈ wsL_firstJoined := List.mem_of_getElem? (i := 1) rfl
theorem lkL_firstJoined_c13 : Cond.classLink RL 13 "java/lang/IllegalArgumentException" ∈ wsL_firstJoined := List.mem_of_getElem? (i := 2) rfl
theorem lkL_firstJoined_c15 : Cond.classLink RL 15 "java/lang/IllegalStateException" ∈ wsL_firstJoined := List.mem_of_getElem? (i := 3) rfl
set_option maxHeartbeats 4000000 in
set_option maxRecDepth 100000 in
theorem lw_firstJoined (l : Launch) (hfl : l.stackTraces = false) (G : GG) (ad : Nat → Nat) (qo : Nat) (c c' : Cls) (f f' : Nat → Int64) (a0 : Int32) (a1 : Int32) (r0 : Int32) (h : lm_firstJoined c f a0 a1 = some (r0, c', f')) : Met l yL_firstJoined wsL_firstJoined rmL_firstJoined (va_Pc [.ref (ad 0), .int a0, .int a1, .ref qo] (PreD G (wdF G ad c ++ [(qo, .inl (G.2 3, 1, .inr (.inl f)))]) (XL (wdF G ad c ++ [(qo, .inl (G.2 3, 1, .inr (.inl f)))])))) (QwA G (va_A0 (wdF G ad c ++ [(qo, .inl (G.2 3, 1, .inr (.inl f)))])) (wdF G ad c' ++ [(qo, .inl (G.2 3, 1, .inr (.inl f')))]) (some (.int r0)) True) 1 6 (va_A0 (wdF G ad c ++ [(qo, .inl (G.2 3, 1, .inr (.inl f)))])) := by
  refine of_lw (cc := cL_firstJoined) (maxL := 5) (hh := [(0, 10, 13, 20), (0, 10, 17, 13), (0, 10, 21, 15)]) (by decide) rfl (Nat.le_of_ble_eq_true rfl) ?_
  intro p e s m args below meth c1 ls Q A S htab hl hP hD hS hK hT hN hX hA hret
  obtain ⟨H, hH⟩ : ∃ H, H = s.heap := ⟨_, rfl⟩
  obtain ⟨locs, hlocs⟩ : ∃ L : List Loc, L = [] := ⟨_, rfl⟩
  rw [← hlocs]
  rw [← hlocs] at hS
  have hP : va_P G.1 vwCl (wdF G ad c ++ [(qo, .inl (G.2 3, 1, .inr (.inl f)))]) H := by rw [hH]; exact hP
  have hS : va_S A s.heap H locs := by rw [hH]; exact hS
  have hT : TT A s H := by rw [hH]; exact hT
  suffices hgo : W p l e rmL_firstJoined s m args below meth c1 H locs 0 0 Q (F0 m 0 ls []) by rw [hH] at hgo; exact hgo
  have S : CallFix p m c1 cL_firstJoined 5 s args wsL_firstJoined RL := S
  obtain ⟨hx, hb, hml, hown, hts⟩ := id S
  have hl : lv_has ls 5 [(0, .ref (ad 0)), (1, .int a0), (2, .int a1), (3, .ref qo)] := hl
  unfold lm_firstJoined at h
  refine lv_aload_n hx hb dL_firstJoined_0 rfl (lv_at hl 3 rfl) ?_
  refine lv_iconst (v := 0) hx hb dL_firstJoined_1 (by decide) ?_
  refine lv_aload_n hx hb dL_firstJoined_2 rfl (lv_at hl 0 rfl) ?_
  refine lv_iload_n hx hb dL_firstJoined_3 rfl (lv_at hl 1 rfl) ?_
  refine lv_iload_n hx hb dL_firstJoined_4 rfl (lv_at hl 2 rfl) ?_
  by_cases hs_a0 : a0 = 0
  · replace h := ite_t hs_a0 h
    rcases lq_e h with ⟨k0, gx, h⟩ | ⟨gx, h⟩
    · by_cases hk1 : k0 = 1
      · subst hk1
        cases h
        refine lwC (k := 1) (rest := [.int 0, .ref qo]) (As := [.int a0, .int a1]) S (by decide) (cxX4_firstJoined l hfl G (ad 0) (ad 1) (ad 11) (ad 12) (ad 13) (ad 14) (ad 15) (ad 16) (ad 17) (ad 18) (ad 2) (ad 5) (ad 10) c.gain (ad 11) (ad 19) (ad 27) c.s0.pr c.s0.a c.s0.b c.s0.c c.s0.d c.s0.sp c.s0.mi c.s0.ti c.s0.w c.s0.s c.s0.h c.s0.va c.s0.ov c.s0.ra c.s0.ol c.s0.od c.s0.ne a0 a1 1 gx 0 (by decide) (by rw [hs_a0]; decide) rfl) (cwV 2 hts gL_firstJoined_X4_firstJoined rfl rfl rfl hvX4_firstJoined ⟨Nat.le_of_ble_eq_true rfl, Nat.le_of_ble_eq_true rfl⟩) hK hT hP hD hS [0, 1, 11, 12, 13, 14, 15, 16, 17, 18] rfl 0 4 rfl rfl rfl rfl hl.1 rfl (Nat.le_of_ble_eq_true rfl) dL_firstJoined_5 ⟨Nat.le_of_ble_eq_true rfl, Nat.le_of_ble_eq_true rfl⟩ [{ startPc := 0, endPc := 10, handlerPc := 13, catchType := 20 }] { startPc := 0, endPc := 10, handlerPc := 17, catchType := 13 } [{ startPc := 0, endPc := 10, handlerPc := 21, catchType := 15 }] (by rw [htab]; rfl) (tp_cons (nm := exn 3) (by decide) (hts (.classLink RL 20 "java/lang/IndexOutOfBoundsException") lkL_firstJoined_c20) (hN 1 (by decide) 3 (by decide) (by decide)) tp_nil) rfl (by decide) (hts (.classLink RL 13 "java/lang/IllegalArgumentException") lkL_firstJoined_c13) rfl (fun H locs q hP hD hS => ?_)
        refine lv_astore (lv' := [(4, .ref q), (0, .ref (ad 0)), (1, .int a0), (2, .int a1), (3, .ref qo)]) hx hb dL_firstJoined_17 hl (by decide) rfl (fun ls hl => ?_)
        refine lv_iconst (v := 2) hx hb dL_firstJoined_19 (by decide) ?_
        exact hret _ _ _ _ _ rfl hP hD hS dL_firstJoined_20
      replace h := ite_f hk1 h
      by_cases hk2 : k0 = 2
      · subst hk2
        cases h
        refine lwC (k := 2) (rest := [.int 0, .ref qo]) (As := [.int a0, .int a1]) S (by decide) (cxX4_firstJoined l hfl G (ad 0) (ad 1) (ad 11) (ad 12) (ad 13) (ad 14) (ad 15) (ad 16) (ad 17) (ad 18) (ad 2) (ad 5) (ad 10) c.gain (ad 11) (ad 19) (ad 27) c.s0.pr c.s0.a c.s0.b c.s0.c c.s0.d c.s0.sp c.s0.mi c.s0.ti c.s0.w c.s0.s c.s0.h c.s0.va c.s0.ov c.s0.ra c.s0.ol c.s0.od c.s0.ne a0 a1 2 gx 0 (by decide) (by rw [hs_a0]; decide) rfl) (cwV 2 hts gL_firstJoined_X4_firstJoined rfl rfl rfl hvX4_firstJoined ⟨Nat.le_of_ble_eq_true rfl, Nat.le_of_ble_eq_true rfl⟩) hK hT hP hD hS [0, 1, 11, 12, 13, 14, 15, 16, 17, 18] rfl 0 4 rfl rfl rfl rfl hl.1 rfl (Nat.le_of_ble_eq_true rfl) dL_firstJoined_5 ⟨Nat.le_of_ble_eq_true rfl, Nat.le_of_ble_eq_true rfl⟩ [{ startPc := 0, endPc := 10, handlerPc := 13, catchType := 20 }, { startPc := 0, endPc := 10, handlerPc := 17, catchType := 13 }] { startPc := 0, endPc := 10, handlerPc := 21, catchType := 15 } [] (by rw [htab]; rfl) (tp_cons (nm := exn 3) (by decide) (hts (.classLink RL 20 "java/lang/IndexOutOfBoundsException") lkL_firstJoined_c20) (hN 2 (by decide) 3 (by decide) (by decide)) (tp_cons (nm := exn 1) (by decide) (hts (.classLink RL 13 "java/lang/IllegalArgumentException") lkL_firstJoined_c13) (hN 2 (by decide) 1 (by decide) (by decide)) tp_nil)) rfl (by decide) (hts (.classLink RL 15 "java/lang/IllegalStateException") lkL_firstJoined_c15) rfl (fun H locs q hP hD hS => ?_)
        refine lv_astore (lv' := [(4, .ref q), (0, .ref (ad 0)), (1, .int a0), (2, .int a1), (3, .ref qo)]) hx hb dL_firstJoined_21 hl (by decide) rfl (fun ls hl => ?_)
        refine lv_iconst (v := 3) hx hb dL_firstJoined_23 (by decide) ?_
        exact hret _ _ _ _ _ rfl hP hD hS dL_firstJoined_24
      replace h := ite_f hk2 h
      by_cases hk3 : k0 = 3
      · subst hk3
        cases h
        refine lwC (k := 3) (rest := [.int 0, .ref qo]) (As := [.int a0, .int a1]) S (by decide) (cxX4_firstJoined l hfl G (ad 0) (ad 1) (ad 11) (ad 12) (ad 13) (ad 14) (ad 15) (ad 16) (ad 17) (ad 18) (ad 2) (ad 5) (ad 10) c.gain (ad 11) (ad 19) (ad 27) c.s0.pr c.s0.a c.s0.b c.s0.c c.s0.d c.s0.sp c.s0.mi c.s0.ti c.s0.w c.s0.s c.s0.h c.s0.va c.s0.ov c.s0.ra c.s0.ol c.s0.od c.s0.ne a0 a1 3 gx 0 (by decide) (by rw [hs_a0]; decide) rfl) (cwV 2 hts gL_firstJoined_X4_firstJoined rfl rfl rfl hvX4_firstJoined ⟨Nat.le_of_ble_eq_true rfl, Nat.le_of_ble_eq_true rfl⟩) hK hT hP hD hS [0, 1, 11, 12, 13, 14, 15, 16, 17, 18] rfl 0 4 rfl rfl rfl rfl hl.1 rfl (Nat.le_of_ble_eq_true rfl) dL_firstJoined_5 ⟨Nat.le_of_ble_eq_true rfl, Nat.le_of_ble_eq_true rfl⟩ [] { startPc := 0, endPc := 10, handlerPc := 13, catchType := 20 } [{ startPc := 0, endPc := 10, handlerPc := 17, catchType := 13 }, { startPc := 0, endPc := 10, handlerPc := 21, catchType := 15 }] (by rw [htab]; rfl) tp_nil rfl (by decide) (hts (.classLink RL 20 "java/lang/IndexOutOfBoundsException") lkL_firstJoined_c20) rfl (fun H locs q hP hD hS => ?_)
        refine lv_astore (lv' := [(4, .ref q), (0, .ref (ad 0)), (1, .int a0), (2, .int a1), (3, .ref qo)]) hx hb dL_firstJoined_13 hl (by decide) rfl (fun ls hl => ?_)
        refine lv_iconst (v := 1) hx hb dL_firstJoined_15 (by decide) ?_
        exact hret _ _ _ _ _ rfl hP hD hS dL_firstJoined_16
      cases (ite_f hk3 h)
    · obtain ⟨o0, o1, o2, o3, o4, o5, o6, o7, o8, o9, o10, g, h⟩ := bnd11_e h
      cases h
      refine rwV_back (rest := [.int 0, .ref qo]) (As := [.int a0, .int a1]) (wr := List.filterMap (fun i => (wdF G ad c ++ [(qo, .inl (G.2 3, 1, .inr (.inl f)))])[i]?) [2, 3, 4, 10, 19, 20, 21, 22, 23, 24, 25, 26, 27, 28, 29, 30, 31, 32, 33, 34, 35]) (wf := wdF G ad (mkC c.gain c.il c.ip c.ia c.ig c.is c.im c.ic c.iq o1 o2 o3 o4 o5 o6 o7 o8 o9 o10 c.fw c.fs c.fh c.s0 c.s1 c.s2) ++ [(qo, .inl (G.2 3, 1, .inr (.inl f)))]) S (ctX4_firstJoined l G (ad 0) (ad 1) (ad 5) (ad 6) (ad 7) (ad 8) (ad 9) (ad 11) (ad 12) (ad 13) (ad 14) (ad 15) (ad 16) (ad 17) (ad 18) (ad 2) (ad 10) c.gain (ad 11) (ad 19) (ad 27) c.dn c.dm c.dj c.dt c.dx c.dy c.dr c.dv c.dw c.dq c.s0.pr c.s0.a c.s0.b c.s0.c c.s0.d c.s0.sp c.s0.mi c.s0.ti c.s0.w c.s0.s c.s0.h c.s0.va c.s0.ov c.s0.ra c.s0.ol c.s0.od c.s0.ne a0 a1 o0 o1 o2 o3 o4 o5 o6 o7 o8 o9 o10 g 0 (by decide) (by rw [hs_a0]; decide) rfl) (cwV 2 hts gL_firstJoined_X4_firstJoined rfl rfl rfl hvX4_firstJoined ⟨Nat.le_of_ble_eq_true rfl, Nat.le_of_ble_eq_true rfl⟩) hK hP hD hS (SK.blind _) (fun U hU hW => SK.call hX hA hD hS [0, 1, 5, 6, 7, 8, 9, 11, 12, 13, 14, 15, 16, 17, 18] rfl hU hW) [0, 1, 5, 6, 7, 8, 9, 11, 12, 13, 14, 15, 16, 17, 18] [2, 3, 4, 10, 19, 20, 21, 22, 23, 24, 25, 26, 27, 28, 29, 30, 31, 32, 33, 34, 35] [21, 22, 0, 1, 2, 23, 24, 25, 26, 27, 3, 28, 29, 30, 31, 32, 33, 34, 35, 4, 5, 6, 7, 8, 9, 10, 11, 12, 13, 14, 15, 16, 17, 18, 19, 20] rfl rfl rfl rfl rfl rfl rfl 0 4 rfl rfl rfl rfl hl.1 rfl (Nat.le_of_ble_eq_true rfl) dL_firstJoined_5 ⟨Nat.zero_le _, Nat.zero_le _⟩ (fun _ H locs hP hD hS => ?_)
      refine lv_i2l hx hb dL_firstJoined_8 rfl ?_
      refine va_last hx hb hK.1 hP hD hS 35 3 rfl rfl (i := 0) (vp_in_iff.mpr ⟨by decide, by decide⟩) dL_firstJoined_9 (fun H locs hP hD hS => ?_)
      refine lv_goto (tgt := 25) hx hb dL_firstJoined_10 (by decide) ?_
      refine lv_iconst (v := 0) hx hb dL_firstJoined_25 (by decide) ?_
      refine W.widen (k := 1) (n := 6) (by omega) (by omega) ?_
      exact hret _ _ _ _ _ rfl hP hD hS dL_firstJoined_26
  replace h := ite_f hs_a0 h
  have hn_a00 := hs_a0
  clear hs_a0
  by_cases hs_a0 : a0 = 1
  · replace h := ite_t hs_a0 h
    rcases lq_e h with ⟨k0, gx, h⟩ | ⟨gx, h⟩
    · by_cases hk1 : k0 = 1
      · subst hk1
        cases h
        refine lwC (k := 1) (rest := [.int 0, .ref qo]) (As := [.int a0, .int a1]) S (by decide) (cxX4_firstJoined l hfl G (ad 0) (ad 1) (ad 19) (ad 20) (ad 21) (ad 22) (ad 23) (ad 24) (ad 25) (ad 26) (ad 2) (ad 5) (ad 10) c.gain (ad 11) (ad 19) (ad 27) c.s1.pr c.s1.a c.s1.b c.s1.c c.s1.d c.s1.sp c.s1.mi c.s1.ti c.s1.w c.s1.s c.s1.h c.s1.va c.s1.ov c.s1.ra c.s1.ol c.s1.od c.s1.ne a0 a1 1 gx 1 (by decide) (by rw [hs_a0]; decide) rfl) (cwV 2 hts gL_firstJoined_X4_firstJoined rfl rfl rfl hvX4_firstJoined ⟨Nat.le_of_ble_eq_true rfl, Nat.le_of_ble_eq_true rfl⟩) hK hT hP hD hS [0, 1, 19, 20, 21, 22, 23, 24, 25, 26] rfl 0 4 rfl rfl rfl rfl hl.1 rfl (Nat.le_of_ble_eq_true rfl) dL_firstJoined_5 ⟨Nat.le_of_ble_eq_true rfl, Nat.le_of_ble_eq_true rfl⟩ [{ startPc := 0, endPc := 10, handlerPc := 13, catchType := 20 }] { startPc := 0, endPc := 10, handlerPc := 17, catchType := 13 } [{ startPc := 0, endPc := 10, handlerPc := 21, catchType := 15 }] (by rw [htab]; rfl) (tp_cons (nm := exn 3) (by decide) (hts (.classLink RL 20 "java/lang/IndexOutOfBoundsException") lkL_firstJoined_c20) (hN 1 (by decide) 3 (by decide) (by decide)) tp_nil) rfl (by decide) (hts (.classLink RL 13 "java/lang/IllegalArgumentException") lkL_firstJoined_c13) rfl (fun H locs q hP hD hS => ?_)
        refine lv_astore (lv' := [(4, .ref q), (0, .ref (ad 0)), (1, .int a0), (2, .int a1), (3, .ref qo)]) hx hb dL_firstJoined_17 hl (by decide) rfl (fun ls hl => ?_)
        refine lv_iconst (v := 2) hx hb dL_firstJoined_19 (by decide) ?_
        exact hret _ _ _ _ _ rfl hP hD hS dL_firstJoined_20
      replace h := ite_f hk1 h
      by_cases hk2 : k0 = 2
      · subst hk2
        cases h
        refine lwC (k := 2) (rest := [.int 0, .ref qo]) (As := [.int a0, .int a1]) S (by decide) (cxX4_firstJoined l hfl G (ad 0) (ad 1) (ad 19) (ad 20) (ad 21) (ad 22) (ad 23) (ad 24) (ad 25) (ad 26) (ad 2) (ad 5) (ad 10) c.gain (ad 11) (ad 19) (ad 27) c.s1.pr c.s1.a c.s1.b c.s1.c c.s1.d c.s1.sp c.s1.mi c.s1.ti c.s1.w c.s1.s c.s1.h c.s1.va c.s1.ov c.s1.ra c.s1.ol c.s1.od c.s1.ne a0 a1 2 gx 1 (by decide) (by rw [hs_a0]; decide) rfl) (cwV 2 hts gL_firstJoined_X4_firstJoined rfl rfl rfl hvX4_firstJoined ⟨Nat.le_of_ble_eq_true rfl, Nat.le_of_ble_eq_true rfl⟩) hK hT hP hD hS [0, 1, 19, 20, 21, 22, 23, 24, 25, 26] rfl 0 4 rfl rfl rfl rfl hl.1 rfl (Nat.le_of_ble_eq_true rfl) dL_firstJoined_5 ⟨Nat.le_of_ble_eq_true rfl, Nat.le_of_ble_eq_true rfl⟩ [{ startPc := 0, endPc := 10, handlerPc := 13, catchType := 20 }, { startPc := 0, endPc := 10, handlerPc := 17, catchType := 13 }] { startPc := 0, endPc := 10, handlerPc := 21, catchType := 15 } [] (by rw [htab]; rfl) (tp_cons (nm := exn 3) (by decide) (hts (.classLink RL 20 "java/lang/IndexOutOfBoundsException") lkL_firstJoined_c20) (hN 2 (by decide) 3 (by decide) (by decide)) (tp_cons (nm := exn 1) (by decide) (hts (.classLink RL 13 "java/lang/IllegalArgumentException") lkL_firstJoined_c13) (hN 2 (by decide) 1 (by decide) (by decide)) tp_nil)) rfl (by decide) (hts (.classLink RL 15 "java/lang/IllegalStateException") lkL_firstJoined_c15) rfl (fun H locs q hP hD hS => ?_)
        refine lv_astore (lv' := [(4, .ref q), (0, .ref (ad 0)), (1, .int a0), (2, .int a1), (3, .ref qo)]) hx hb dL_firstJoined_21 hl (by decide) rfl (fun ls hl => ?_)
        refine lv_iconst (v := 3) hx hb dL_firstJoined_23 (by decide) ?_
        exact hret _ _ _ _ _ rfl hP hD hS dL_firstJoined_24
      replace h := ite_f hk2 h
      by_cases hk3 : k0 = 3
      · subst hk3
        cases h
        refine lwC (k := 3) (rest := [.int 0, .ref qo]) (As := [.int a0, .int a1]) S (by decide) (cxX4_firstJoined l hfl G (ad 0) (ad 1) (ad 19) (ad 20) (ad 21) (ad 22) (ad 23) (ad 24) (ad 25) (ad 26) (ad 2) (ad 5) (ad 10) c.gain (ad 11) (ad 19) (ad 27) c.s1.pr c.s1.a c.s1.b c.s1.c c.s1.d c.s1.sp c.s1.mi c.s1.ti c.s1.w c.s1.s c.s1.h c.s1.va c.s1.ov c.s1.ra c.s1.ol c.s1.od c.s1.ne a0 a1 3 gx 1 (by decide) (by rw [hs_a0]; decide) rfl) (cwV 2 hts gL_firstJoined_X4_firstJoined rfl rfl rfl hvX4_firstJoined ⟨Nat.le_of_ble_eq_true rfl, Nat.le_of_ble_eq_true rfl⟩) hK hT hP hD hS [0, 1, 19, 20, 21, 22, 23, 24, 25, 26] rfl 0 4 rfl rfl rfl rfl hl.1 rfl (Nat.le_of_ble_eq_true rfl) dL_firstJoined_5 ⟨Nat.le_of_ble_eq_true rfl, Nat.le_of_ble_eq_true rfl⟩ [] { startPc := 0, endPc := 10, handlerPc := 13, catchType := 20 } [{ startPc := 0, endPc := 10, handlerPc := 17, catchType := 13 }, { startPc := 0, endPc := 10, handlerPc := 21, catchType := 15 }] (by rw [htab]; rfl) tp_nil rfl (by decide) (hts (.classLink RL 20 "java/lang/IndexOutOfBoundsException") lkL_firstJoined_c20) rfl (fun H locs q hP hD hS => ?_)
        refine lv_astore (lv' := [(4, .ref q), (0, .ref (ad 0)), (1, .int a0), (2, .int a1), (3, .ref qo)]) hx hb dL_firstJoined_13 hl (by decide) rfl (fun ls hl => ?_)
        refine lv_iconst (v := 1) hx hb dL_firstJoined_15 (by decide) ?_
        exact hret _ _ _ _ _ rfl hP hD hS dL_firstJoined_16
      cases (ite_f hk3 h)
    · obtain ⟨o0, o1, o2, o3, o4, o5, o6, o7, o8, o9, o10, g, h⟩ := bnd11_e h
      cases h
      refine rwV_back (rest := [.int 0, .ref qo]) (As := [.int a0, .int a1]) (wr := List.filterMap (fun i => (wdF G ad c ++ [(qo, .inl (G.2 3, 1, .inr (.inl f)))])[i]?) [2, 3, 4, 10, 11, 12, 13, 14, 15, 16, 17, 18, 27, 28, 29, 30, 31, 32, 33, 34, 35]) (wf := wdF G ad (mkC c.gain c.il c.ip c.ia c.ig c.is c.im c.ic c.iq o1 o2 o3 o4 o5 o6 o7 o8 o9 o10 c.fw c.fs c.fh c.s0 c.s1 c.s2) ++ [(qo, .inl (G.2 3, 1, .inr (.inl f)))]) S (ctX4_firstJoined l G (ad 0) (ad 1) (ad 5) (ad 6) (ad 7) (ad 8) (ad 9) (ad 19) (ad 20) (ad 21) (ad 22) (ad 23) (ad 24) (ad 25) (ad 26) (ad 2) (ad 10) c.gain (ad 11) (ad 19) (ad 27) c.dn c.dm c.dj c.dt c.dx c.dy c.dr c.dv c.dw c.dq c.s1.pr c.s1.a c.s1.b c.s1.c c.s1.d c.s1.sp c.s1.mi c.s1.ti c.s1.w c.s1.s c.s1.h c.s1.va c.s1.ov c.s1.ra c.s1.ol c.s1.od c.s1.ne a0 a1 o0 o1 o2 o3 o4 o5 o6 o7 o8 o9 o10 g 1 (by decide) (by rw [hs_a0]; decide) rfl) (cwV 2 hts gL_firstJoined_X4_firstJoined rfl rfl rfl hvX4_firstJoined ⟨Nat.le_of_ble_eq_true rfl, Nat.le_of_ble_eq_true rfl⟩) hK hP hD hS (SK.blind _) (fun U hU hW => SK.call hX hA hD hS [0, 1, 5, 6, 7, 8, 9, 19, 20, 21, 22, 23, 24, 25, 26] rfl hU hW) [0, 1, 5, 6, 7, 8, 9, 19, 20, 21, 22, 23, 24, 25, 26] [2, 3, 4, 10, 11, 12, 13, 14, 15, 16, 17, 18, 27, 28, 29, 30, 31, 32, 33, 34, 35] [21, 22, 0, 1, 2, 23, 24, 25, 26, 27, 3, 4, 5, 6, 7, 8, 9, 10, 11, 28, 29, 30, 31, 32, 33, 34, 35, 12, 13, 14, 15, 16, 17, 18, 19, 20] rfl rfl rfl rfl rfl rfl rfl 0 4 rfl rfl rfl rfl hl.1 rfl (Nat.le_of_ble_eq_true rfl) dL_firstJoined_5 ⟨Nat.zero_le _, Nat.zero_le _⟩ (fun _ H locs hP hD hS => ?_)
      refine lv_i2l hx hb dL_firstJoined_8 rfl ?_
      refine va_last hx hb hK.1 hP hD hS 35 3 rfl rfl (i := 0) (vp_in_iff.mpr ⟨by decide, by decide⟩) dL_firstJoined_9 (fun H locs hP hD hS => ?_)
      refine lv_goto (tgt := 25) hx hb dL_firstJoined_10 (by decide) ?_
      refine lv_iconst (v := 0) hx hb dL_firstJoined_25 (by decide) ?_
      refine W.widen (k := 1) (n := 6) (by omega) (by omega) ?_
      exact hret _ _ _ _ _ rfl hP hD hS dL_firstJoined_26
  replace h := ite_f hs_a0 h
  have hn_a01 := hs_a0
  clear hs_a0
  by_cases hs_a0 : a0 = 2
  · replace h := ite_t hs_a0 h
    rcases lq_e h with ⟨k0, gx, h⟩ | ⟨gx, h⟩
    · by_cases hk1 : k0 = 1
      · subst hk1
        cases h
        refine lwC (k := 1) (rest := [.int 0, .ref qo]) (As := [.int a0, .int a1]) S (by decide) (cxX4_firstJoined l hfl G (ad 0) (ad 1) (ad 27) (ad 28) (ad 29) (ad 30) (ad 31) (ad 32) (ad 33) (ad 34) (ad 2) (ad 5) (ad 10) c.gain (ad 11) (ad 19) (ad 27) c.s2.pr c.s2.a c.s2.b c.s2.c c.s2.d c.s2.sp c.s2.mi c.s2.ti c.s2.w c.s2.s c.s2.h c.s2.va c.s2.ov c.s2.ra c.s2.ol c.s2.od c.s2.ne a0 a1 1 gx 2 (by decide) (by rw [hs_a0]; decide) rfl) (cwV 2 hts gL_firstJoined_X4_firstJoined rfl rfl rfl hvX4_firstJoined ⟨Nat.le_of_ble_eq_true rfl, Nat.le_of_ble_eq_true rfl⟩) hK hT hP hD hS [0, 1, 27, 28, 29, 30, 31, 32, 33, 34] rfl 0 4 rfl rfl rfl rfl hl.1 rfl (Nat.le_of_ble_eq_true rfl) dL_firstJoined_5 ⟨Nat.le_of_ble_eq_true rfl, Nat.le_of_ble_eq_true rfl⟩ [{ startPc := 0, endPc := 10, handlerPc := 13, catchType := 20 }] { startPc := 0, endPc := 10, handlerPc := 17, catchType := 13 } [{ startPc := 0, endPc := 10, handlerPc := 21, catchType := 15 }] (by rw [htab]; rfl) (tp_cons (nm := exn 3) (by decide) (hts (.classLink RL 20 "java/lang/IndexOutOfBoundsException") lkL_firstJoined_c20) (hN 1 (by decide) 3 (by decide) (by decide)) tp_nil) rfl (by decide) (hts (.classLink RL 13 "java/lang/IllegalArgumentException") lkL_firstJoined_c13) rfl (fun H locs q hP hD hS => ?_)
        refine lv_astore (lv' := [(4, .ref q), (0, .ref (ad 0)), (1, .int a0), (2, .int a1), (3, .ref qo)]) hx hb dL_firstJoined_17 hl (by decide) rfl (fun ls hl => ?_)
        refine lv_iconst (v := 2) hx hb dL_firstJoined_19 (by decide) ?_
        exact hret _ _ _ _ _ rfl hP hD hS dL_firstJoined_20
      replace h := ite_f hk1 h
      by_cases hk2 : k0 = 2
      · subst hk2
        cases h
        refine lwC (k := 2) (rest := [.int 0, .ref qo]) (As := [.int a0, .int a1]) S (by decide) (cxX4_firstJoined l hfl G (ad 0) (ad 1) (ad 27) (ad 28) (ad 29) (ad 30) (ad 31) (ad 32) (ad 33) (ad 34) (ad 2) (ad 5) (ad 10) c.gain (ad 11) (ad 19) (ad 27) c.s2.pr c.s2.a c.s2.b c.s2.c c.s2.d c.s2.sp c.s2.mi c.s2.ti c.s2.w c.s2.s c.s2.h c.s2.va c.s2.ov c.s2.ra c.s2.ol c.s2.od c.s2.ne a0 a1 2 gx 2 (by decide) (by rw [hs_a0]; decide) rfl) (cwV 2 hts gL_firstJoined_X4_firstJoined rfl rfl rfl hvX4_firstJoined ⟨Nat.le_of_ble_eq_true rfl, Nat.le_of_ble_eq_true rfl⟩) hK hT hP hD hS [0, 1, 27, 28, 29, 30, 31, 32, 33, 34] rfl 0 4 rfl rfl rfl rfl hl.1 rfl (Nat.le_of_ble_eq_true rfl) dL_firstJoined_5 ⟨Nat.le_of_ble_eq_true rfl, Nat.le_of_ble_eq_true rfl⟩ [{ startPc := 0, endPc := 10, handlerPc := 13, catchType := 20 }, { startPc := 0, endPc := 10, handlerPc := 17, catchType := 13 }] { startPc := 0, endPc := 10, handlerPc := 21, catchType := 15 } [] (by rw [htab]; rfl) (tp_cons (nm := exn 3) (by decide) (hts (.classLink RL 20 "java/lang/IndexOutOfBoundsException") lkL_firstJoined_c20) (hN 2 (by decide) 3 (by decide) (by decide)) (tp_cons (nm := exn 1) (by decide) (hts (.classLink RL 13 "java/lang/IllegalArgumentException") lkL_firstJoined_c13) (hN 2 (by decide) 1 (by decide) (by decide)) tp_nil)) rfl (by decide) (hts (.classLink RL 15 "java/lang/IllegalStateException") lkL_firstJoined_c15) rfl (fun H locs q hP hD hS => ?_)
        refine lv_astore (lv' := [(4, .ref q), (0, .ref (ad 0)), (1, .int a0), (2, .int a1), (3, .ref qo)]) hx hb dL_firstJoined_21 hl (by decide) rfl (fun ls hl => ?_)
        refine lv_iconst (v := 3) hx hb dL_firstJoined_23 (by decide) ?_
        exact hret _ _ _ _ _ rfl hP hD hS dL_firstJoined_24
      replace h := ite_f hk2 h
      by_cases hk3 : k0 = 3
      · subst hk3
        cases h
        refine lwC (k := 3) (rest := [.int 0, .ref qo]) (As := [.int a0, .int a1]) S (by decide) (cxX4_firstJoined l hfl G (ad 0) (ad 1) (ad 27) (ad 28) (ad 29) (ad 30) (ad 31) (ad 32) (ad 33) (ad 34) (ad 2) (ad 5) (ad 10) c.gain (ad 11) (ad 19) (ad 27) c.s2.pr c.s2.a c.s2.b c.s2.c c.s2.d c.s2.sp c.s2.mi c.s2.ti c.s2.w c.s2.s c.s2.h c.s2.va c.s2.ov c.s2.ra c.s2.ol c.s2.od c.s2.ne a0 a1 3 gx 2 (by decide) (by rw [hs_a0]; decide) rfl) (cwV 2 hts gL_firstJoined_X4_firstJoined rfl rfl rfl hvX4_firstJoined ⟨Nat.le_of_ble_eq_true rfl, Nat.le_of_ble_eq_true rfl⟩) hK hT hP hD hS [0, 1, 27, 28, 29, 30, 31, 32, 33, 34] rfl 0 4 rfl rfl rfl rfl hl.1 rfl (Nat.le_of_ble_eq_true rfl) dL_firstJoined_5 ⟨Nat.le_of_ble_eq_true rfl, Nat.le_of_ble_eq_true rfl⟩ [] { startPc := 0, endPc := 10, handlerPc := 13, catchType := 20 } [{ startPc := 0, endPc := 10, handlerPc := 17, catchType := 13 }, { startPc := 0, endPc := 10, handlerPc := 21, catchType := 15 }] (by rw [htab]; rfl) tp_nil rfl (by decide) (hts (.classLink RL 20 "java/lang/IndexOutOfBoundsException") lkL_firstJoined_c20) rfl (fun H locs q hP hD hS => ?_)
        refine lv_astore (lv' := [(4, .ref q), (0, .ref (ad 0)), (1, .int a0), (2, .int a1), (3, .ref qo)]) hx hb dL_firstJoined_13 hl (by decide) rfl (fun ls hl => ?_)
        refine lv_iconst (v := 1) hx hb dL_firstJoined_15 (by decide) ?_
        exact hret _ _ _ _ _ rfl hP hD hS dL_firstJoined_16
      cases (ite_f hk3 h)
    · obtain ⟨o0, o1, o2, o3, o4, o5, o6, o7, o8, o9, o10, g, h⟩ := bnd11_e h
      cases h
      refine rwV_back (rest := [.int 0, .ref qo]) (As := [.int a0, .int a1]) (wr := List.filterMap (fun i => (wdF G ad c ++ [(qo, .inl (G.2 3, 1, .inr (.inl f)))])[i]?) [2, 3, 4, 10, 11, 12, 13, 14, 15, 16, 17, 18, 19, 20, 21, 22, 23, 24, 25, 26, 35]) (wf := wdF G ad (mkC c.gain c.il c.ip c.ia c.ig c.is c.im c.ic c.iq o1 o2 o3 o4 o5 o6 o7 o8 o9 o10 c.fw c.fs c.fh c.s0 c.s1 c.s2) ++ [(qo, .inl (G.2 3, 1, .inr (.inl f)))]) S (ctX4_firstJoined l G (ad 0) (ad 1) (ad 5) (ad 6) (ad 7) (ad 8) (ad 9) (ad 27) (ad 28) (ad 29) (ad 30) (ad 31) (ad 32) (ad 33) (ad 34) (ad 2) (ad 10) c.gain (ad 11) (ad 19) (ad 27) c.dn c.dm c.dj c.dt c.dx c.dy c.dr c.dv c.dw c.dq c.s2.pr c.s2.a c.s2.b c.s2.c c.s2.d c.s2.sp c.s2.mi c.s2.ti c.s2.w c.s2.s c.s2.h c.s2.va c.s2.ov c.s2.ra c.s2.ol c.s2.od c.s2.ne a0 a1 o0 o1 o2 o3 o4 o5 o6 o7 o8 o9 o10 g 2 (by decide) (by rw [hs_a0]; decide) rfl) (cwV 2 hts gL_firstJoined_X4_firstJoined rfl rfl rfl hvX4_firstJoined ⟨Nat.le_of_ble_eq_true rfl, Nat.le_of_ble_eq_true rfl⟩) hK hP hD hS (SK.blind _) (fun U hU hW => SK.call hX hA hD hS [0, 1, 5, 6, 7, 8, 9, 27, 28, 29, 30, 31, 32, 33, 34] rfl hU hW) [0, 1, 5, 6, 7, 8, 9, 27, 28, 29, 30, 31, 32, 33, 34] [2, 3, 4, 10, 11, 12, 13, 14, 15, 16, 17, 18, 19, 20, 21, 22, 23, 24, 25, 26, 35] [21, 22, 0, 1, 2, 23, 24, 25, 26, 27, 3, 4, 5, 6, 7, 8, 9, 10, 11, 12, 13, 14, 15, 16, 17, 18, 19, 28, 29, 30, 31, 32, 33, 34, 35, 20] rfl rfl rfl rfl rfl rfl rfl 0 4 rfl rfl rfl rfl hl.1 rfl (Nat.le_of_ble_eq_true rfl) dL_firstJoined_5 ⟨Nat.zero_le _, Nat.zero_le _⟩ (fun _ H locs hP hD hS => ?_)
      refine lv_i2l hx hb dL_firstJoined_8 rfl ?_
      refine va_last hx hb hK.1 hP hD hS 35 3 rfl rfl (i := 0) (vp_in_iff.mpr ⟨by decide, by decide⟩) dL_firstJoined_9 (fun H locs hP hD hS => ?_)
      refine lv_goto (tgt := 25) hx hb dL_firstJoined_10 (by decide) ?_
      refine lv_iconst (v := 0) hx hb dL_firstJoined_25 (by decide) ?_
      refine W.widen (k := 1) (n := 6) (by omega) (by omega) ?_
      exact hret _ _ _ _ _ rfl hP hD hS dL_firstJoined_26
  replace h := ite_f hs_a0 h
  have hn_a02 := hs_a0
  clear hs_a0
  have ho_a0 := slot_out hn_a00 hn_a01 hn_a02
  cases h
  refine lwC (k := 3) (rest := [.int 0, .ref qo]) (As := [.int a0, .int a1]) S (by decide) (cxX4_firstJoinedo l hfl G (ad 0) (ad 1) (ad 2) (ad 5) (ad 10) c.gain (ad 11) (ad 19) (ad 27) a0 a1 ho_a0) (cwV 2 hts gL_firstJoined_X4_firstJoined rfl rfl rfl hvX4_firstJoined ⟨Nat.le_of_ble_eq_true rfl, Nat.le_of_ble_eq_true rfl⟩) hK hT hP hD hS [0, 1] rfl 0 4 rfl rfl rfl rfl hl.1 rfl (Nat.le_of_ble_eq_true rfl) dL_firstJoined_5 ⟨Nat.le_of_ble_eq_true rfl, Nat.le_of_ble_eq_true rfl⟩ [] { startPc := 0, endPc := 10, handlerPc := 13, catchType := 20 } [{ startPc := 0, endPc := 10, handlerPc := 17, catchType := 13 }, { startPc := 0, endPc := 10, handlerPc := 21, catchType := 15 }] (by rw [htab]; rfl) tp_nil rfl (by decide) (hts (.classLink RL 20 "java/lang/IndexOutOfBoundsException") lkL_firstJoined_c20) rfl (fun H locs q hP hD hS => ?_)
  refine lv_astore (lv' := [(4, .ref q), (0, .ref (ad 0)), (1, .int a0), (2, .int a1), (3, .ref qo)]) hx hb dL_firstJoined_13 hl (by decide) rfl (fun ls hl => ?_)
  refine lv_iconst (v := 1) hx hb dL_firstJoined_15 (by decide) ?_
  exact hret _ _ _ _ _ rfl hP hD hS dL_firstJoined_16
abbrev rmL_meanStrength : Room := { frames := 8, cells := 1, slots := 6, locals := 134 }
theorem hsX4_meanStrength : yX4_meanStrength.cls ≠ "java/lang/invoke/MethodHandle" ∧ yX4_meanStrength.cls ≠ "java/lang/invoke/VarHandle" ∧ (parseMethodDescriptor yX4_meanStrength.desc).map (fun d => d.parameters.length) = some 1 := by decide +kernel
theorem hvX4_meanStrength : yX4_meanStrength.cls = RX4 ∧ yX4_meanStrength.cls ≠ "java/lang/invoke/MethodHandle" ∧ yX4_meanStrength.cls ≠ "java/lang/invoke/VarHandle" ∧ (parseMethodDescriptor yX4_meanStrength.desc).map (fun d => d.parameters.length) = some 1 := ⟨rfl, hsX4_meanStrength⟩
theorem lkL_meanStrength_c20 : Cond.classLink RL 20 "java/lang/IndexOutOfBoundsException" ∈ wsL_meanStrength := List.mem_of_getElem? (i := 1) rfl
theorem lkL_meanStrength_c15 : Cond.classLink RL 15 "java/lang/IllegalStateException" ∈ wsL_meanStrength := List.mem_of_getElem? (i := 2) rfl
set_option maxHeartbeats 4000000 in
set_option maxRecDepth 100000 in
theorem lw_meanStrength (l : Launch) (hfl : l.stackTraces = false) (G : GG) (ad : Nat → Nat) (qo : Nat) (c c' : Cls) (f f' : Nat → UInt64) (a0 : Int32) (r0 : Int32) (h : lm_meanStrength c f a0 = some (r0, c', f')) : Met l yL_meanStrength wsL_meanStrength rmL_meanStrength (va_Pc [.ref (ad 0), .int a0, .ref qo] (PreD G (wdF G ad c ++ [(qo, .inl (G.2 4, 1, .inr (.inr (.inr (.inl f)))))]) (XL (wdF G ad c ++ [(qo, .inl (G.2 4, 1, .inr (.inr (.inr (.inl f)))))])))) (QwA G (va_A0 (wdF G ad c ++ [(qo, .inl (G.2 4, 1, .inr (.inr (.inr (.inl f)))))])) (wdF G ad c' ++ [(qo, .inl (G.2 4, 1, .inr (.inr (.inr (.inl f')))))]) (some (.int r0)) True) 1 6 (va_A0 (wdF G ad c ++ [(qo, .inl (G.2 4, 1, .inr (.inr (.inr (.inl f)))))])) := by
  refine of_lw (cc := cL_meanStrength) (maxL := 4) (hh := [(0, 8, 11, 20), (0, 8, 14, 15)]) (by decide) rfl (Nat.le_of_ble_eq_true rfl) ?_
  intro p e s m args below meth c1 ls Q A S htab hl hP hD hS hK hT hN hX hA hret
  obtain ⟨H, hH⟩ : ∃ H, H = s.heap := ⟨_, rfl⟩
  obtain ⟨locs, hlocs⟩ : ∃ L : List Loc, L = [] := ⟨_, rfl⟩
  rw [← hlocs]
  rw [← hlocs] at hS
  have hP : va_P G.1 vwCl (wdF G ad c ++ [(qo, .inl (G.2 4, 1, .inr (.inr (.inr (.inl f)))))]) H := by rw [hH]; exact hP
  have hS : va_S A s.heap H locs := by rw [hH]; exact hS
  have hT : TT A s H := by rw [hH]; exact hT
  suffices hgo : W p l e rmL_meanStrength s m args below meth c1 H locs 0 0 Q (F0 m 0 ls []) by rw [hH] at hgo; exact hgo
  have S : CallFix p m c1 cL_meanStrength 4 s args wsL_meanStrength RL := S
  obtain ⟨hx, hb, hml, hown, hts⟩ := id S
  have hl : lv_has ls 4 [(0, .ref (ad 0)), (1, .int a0), (2, .ref qo)] := hl
  unfold lm_meanStrength at h
  refine lv_aload_n hx hb dL_meanStrength_0 rfl (lv_at hl 2 rfl) ?_
  refine lv_iconst (v := 0) hx hb dL_meanStrength_1 (by decide) ?_
  refine lv_aload_n hx hb dL_meanStrength_2 rfl (lv_at hl 0 rfl) ?_
  refine lv_iload_n hx hb dL_meanStrength_3 rfl (lv_at hl 1 rfl) ?_
  by_cases hs_a0 : a0 = 0
  · replace h := ite_t hs_a0 h
    rcases lq_e h with ⟨k0, gx, h⟩ | ⟨gx, h⟩
    · by_cases hk2 : k0 = 2
      · subst hk2
        cases h
        refine lwC (k := 2) (rest := [.int 0, .ref qo]) (As := [.int a0]) S (by decide) (cxX4_meanStrength l hfl G (ad 0) (ad 1) (ad 11) (ad 12) (ad 13) (ad 14) (ad 15) (ad 16) (ad 17) (ad 18) (ad 2) (ad 5) (ad 10) c.gain (ad 11) (ad 19) (ad 27) c.s0.pr c.s0.a c.s0.b c.s0.c c.s0.d c.s0.sp c.s0.mi c.s0.ti c.s0.w c.s0.s c.s0.h c.s0.va c.s0.ov c.s0.ra c.s0.ol c.s0.od c.s0.ne a0 2 gx 0 (by decide) (by rw [hs_a0]; decide) rfl) (cwV 1 hts gL_meanStrength_X4_meanStrength rfl rfl rfl hvX4_meanStrength ⟨Nat.le_of_ble_eq_true rfl, Nat.le_of_ble_eq_true rfl⟩) hK hT hP hD hS [0, 1, 11, 12, 13, 14, 15, 16, 17, 18] rfl 0 4 rfl rfl rfl rfl hl.1 rfl (Nat.le_of_ble_eq_true rfl) dL_meanStrength_4 ⟨Nat.le_of_ble_eq_true rfl, Nat.le_of_ble_eq_true rfl⟩ [{ startPc := 0, endPc := 8, handlerPc := 11, catchType := 20 }] { startPc := 0, endPc := 8, handlerPc := 14, catchType := 15 } [] (by rw [htab]; rfl) (tp_cons (nm := exn 3) (by decide) (hts (.classLink RL 20 "java/lang/IndexOutOfBoundsException") lkL_meanStrength_c20) (hN 2 (by decide) 3 (by decide) (by decide)) tp_nil) rfl (by decide) (hts (.classLink RL 15 "java/lang/IllegalStateException") lkL_meanStrength_c15) rfl (fun H locs q hP hD hS => ?_)
        refine lv_astore_n (lv' := [(3, .ref q), (0, .ref (ad 0)), (1, .int a0), (2, .ref qo)]) hx hb dL_meanStrength_14 rfl hl (by decide) rfl (fun ls hl => ?_)
        refine lv_iconst (v := 2) hx hb dL_meanStrength_15 (by decide) ?_
        exact hret _ _ _ _ _ rfl hP hD hS dL_meanStrength_16
      replace h := ite_f hk2 h
      by_cases hk3 : k0 = 3
      · subst hk3
        cases h
        refine lwC (k := 3) (rest := [.int 0, .ref qo]) (As := [.int a0]) S (by decide) (cxX4_meanStrength l hfl G (ad 0) (ad 1) (ad 11) (ad 12) (ad 13) (ad 14) (ad 15) (ad 16) (ad 17) (ad 18) (ad 2) (ad 5) (ad 10) c.gain (ad 11) (ad 19) (ad 27) c.s0.pr c.s0.a c.s0.b c.s0.c c.s0.d c.s0.sp c.s0.mi c.s0.ti c.s0.w c.s0.s c.s0.h c.s0.va c.s0.ov c.s0.ra c.s0.ol c.s0.od c.s0.ne a0 3 gx 0 (by decide) (by rw [hs_a0]; decide) rfl) (cwV 1 hts gL_meanStrength_X4_meanStrength rfl rfl rfl hvX4_meanStrength ⟨Nat.le_of_ble_eq_true rfl, Nat.le_of_ble_eq_true rfl⟩) hK hT hP hD hS [0, 1, 11, 12, 13, 14, 15, 16, 17, 18] rfl 0 4 rfl rfl rfl rfl hl.1 rfl (Nat.le_of_ble_eq_true rfl) dL_meanStrength_4 ⟨Nat.le_of_ble_eq_true rfl, Nat.le_of_ble_eq_true rfl⟩ [] { startPc := 0, endPc := 8, handlerPc := 11, catchType := 20 } [{ startPc := 0, endPc := 8, handlerPc := 14, catchType := 15 }] (by rw [htab]; rfl) tp_nil rfl (by decide) (hts (.classLink RL 20 "java/lang/IndexOutOfBoundsException") lkL_meanStrength_c20) rfl (fun H locs q hP hD hS => ?_)
        refine lv_astore_n (lv' := [(3, .ref q), (0, .ref (ad 0)), (1, .int a0), (2, .ref qo)]) hx hb dL_meanStrength_11 rfl hl (by decide) rfl (fun ls hl => ?_)
        refine lv_iconst (v := 1) hx hb dL_meanStrength_12 (by decide) ?_
        exact hret _ _ _ _ _ rfl hP hD hS dL_meanStrength_13
      cases (ite_f hk3 h)
    · obtain ⟨o0, g, h⟩ := bnd1_e h
      cases h
      refine roVd1 (rest := [.int 0, .ref qo]) (As := [.int a0]) S (ctX4_meanStrength l G (ad 0) (ad 1) (ad 11) (ad 12) (ad 13) (ad 14) (ad 15) (ad 16) (ad 17) (ad 18) (ad 2) (ad 5) (ad 10) c.gain (ad 11) (ad 19) (ad 27) c.s0.pr c.s0.a c.s0.b c.s0.c c.s0.d c.s0.sp c.s0.mi c.s0.ti c.s0.w c.s0.s c.s0.h c.s0.va c.s0.ov c.s0.ra c.s0.ol c.s0.od c.s0.ne a0 o0 g 0 (by decide) (by rw [hs_a0]; decide) rfl) (cwV 1 hts gL_meanStrength_X4_meanStrength rfl rfl rfl hvX4_meanStrength ⟨Nat.le_of_ble_eq_true rfl, Nat.le_of_ble_eq_true rfl⟩) hK hP [0, 1, 11, 12, 13, 14, 15, 16, 17, 18] rfl 0 4 rfl rfl rfl rfl hl.1 rfl (Nat.le_of_ble_eq_true rfl) dL_meanStrength_4 ⟨Nat.zero_le _, Nat.zero_le _⟩ (fun _ => ?_)
      refine va_dast hx hb hK.1 hP hD hS 35 4 rfl rfl (i := 0) (vp_in_iff.mpr ⟨by decide, by decide⟩) dL_meanStrength_7 (fun H locs hP hD hS => ?_)
      refine lv_goto (tgt := 17) hx hb dL_meanStrength_8 (by decide) ?_
      refine lv_iconst (v := 0) hx hb dL_meanStrength_17 (by decide) ?_
      refine W.widen (k := 1) (n := 6) (by omega) (by omega) ?_
      exact hret _ _ _ _ _ rfl hP hD hS dL_meanStrength_18
  replace h := ite_f hs_a0 h
  have hn_a00 := hs_a0
  clear hs_a0
  by_cases hs_a0 : a0 = 1
  · replace h := ite_t hs_a0 h
    rcases lq_e h with ⟨k0, gx, h⟩ | ⟨gx, h⟩
    · by_cases hk2 : k0 = 2
      · subst hk2
        cases h
        refine lwC (k := 2) (rest := [.int 0, .ref qo]) (As := [.int a0]) S (by decide) (cxX4_meanStrength l hfl G (ad 0) (ad 1) (ad 19) (ad 20) (ad 21) (ad 22) (ad 23) (ad 24) (ad 25) (ad 26) (ad 2) (ad 5) (ad 10) c.gain (ad 11) (ad 19) (ad 27) c.s1.pr c.s1.a c.s1.b c.s1.c c.s1.d c.s1.sp c.s1.mi c.s1.ti c.s1.w c.s1.s c.s1.h c.s1.va c.s1.ov c.s1.ra c.s1.ol c.s1.od c.s1.ne a0 2 gx 1 (by decide) (by rw [hs_a0]; decide) rfl) (cwV 1 hts gL_meanStrength_X4_meanStrength rfl rfl rfl hvX4_meanStrength ⟨Nat.le_of_ble_eq_true rfl, Nat.le_of_ble_eq_true rfl⟩) hK hT hP hD hS [0, 1, 19, 20, 21, 22, 23, 24, 25, 26] rfl 0 4 rfl rfl rfl rfl hl.1 rfl (Nat.le_of_ble_eq_true rfl) dL_meanStrength_4 ⟨Nat.le_of_ble_eq_true rfl, Nat.le_of_ble_eq_true rfl⟩ [{ startPc := 0, endPc := 8, handlerPc := 11, catchType := 20 }] { startPc := 0, endPc := 8, handlerPc := 14, catchType := 15 } [] (by rw [htab]; rfl) (tp_cons (nm := exn 3) (by decide) (hts (.classLink RL 20 "java/lang/IndexOutOfBoundsException") lkL_meanStrength_c20) (hN 2 (by decide) 3 (by decide) (by decide)) tp_nil) rfl (by decide) (hts (.classLink RL 15 "java/lang/IllegalStateException") lkL_meanStrength_c15) rfl (fun H locs q hP hD hS => ?_)
        refine lv_astore_n (lv' := [(3, .ref q), (0, .ref (ad 0)), (1, .int a0), (2, .ref qo)]) hx hb dL_meanStrength_14 rfl hl (by decide) rfl (fun ls hl => ?_)
        refine lv_iconst (v := 2) hx hb dL_meanStrength_15 (by decide) ?_
        exact hret _ _ _ _ _ rfl hP hD hS dL_meanStrength_16
      replace h := ite_f hk2 h
      by_cases hk3 : k0 = 3
      · subst hk3
        cases h
        refine lwC (k := 3) (rest := [.int 0, .ref qo]) (As := [.int a0]) S (by decide) (cxX4_meanStrength l hfl G (ad 0) (ad 1) (ad 19) (ad 20) (ad 21) (ad 22) (ad 23) (ad 24) (ad 25) (ad 26) (ad 2) (ad 5) (ad 10) c.gain (ad 11) (ad 19) (ad 27) c.s1.pr c.s1.a c.s1.b c.s1.c c.s1.d c.s1.sp c.s1.mi c.s1.ti c.s1.w c.s1.s c.s1.h c.s1.va c.s1.ov c.s1.ra c.s1.ol c.s1.od c.s1.ne a0 3 gx 1 (by decide) (by rw [hs_a0]; decide) rfl) (cwV 1 hts gL_meanStrength_X4_meanStrength rfl rfl rfl hvX4_meanStrength ⟨Nat.le_of_ble_eq_true rfl, Nat.le_of_ble_eq_true rfl⟩) hK hT hP hD hS [0, 1, 19, 20, 21, 22, 23, 24, 25, 26] rfl 0 4 rfl rfl rfl rfl hl.1 rfl (Nat.le_of_ble_eq_true rfl) dL_meanStrength_4 ⟨Nat.le_of_ble_eq_true rfl, Nat.le_of_ble_eq_true rfl⟩ [] { startPc := 0, endPc := 8, handlerPc := 11, catchType := 20 } [{ startPc := 0, endPc := 8, handlerPc := 14, catchType := 15 }] (by rw [htab]; rfl) tp_nil rfl (by decide) (hts (.classLink RL 20 "java/lang/IndexOutOfBoundsException") lkL_meanStrength_c20) rfl (fun H locs q hP hD hS => ?_)
        refine lv_astore_n (lv' := [(3, .ref q), (0, .ref (ad 0)), (1, .int a0), (2, .ref qo)]) hx hb dL_meanStrength_11 rfl hl (by decide) rfl (fun ls hl => ?_)
        refine lv_iconst (v := 1) hx hb dL_meanStrength_12 (by decide) ?_
        exact hret _ _ _ _ _ rfl hP hD hS dL_meanStrength_13
      cases (ite_f hk3 h)
    · obtain ⟨o0, g, h⟩ := bnd1_e h
      cases h
      refine roVd1 (rest := [.int 0, .ref qo]) (As := [.int a0]) S (ctX4_meanStrength l G (ad 0) (ad 1) (ad 19) (ad 20) (ad 21) (ad 22) (ad 23) (ad 24) (ad 25) (ad 26) (ad 2) (ad 5) (ad 10) c.gain (ad 11) (ad 19) (ad 27) c.s1.pr c.s1.a c.s1.b c.s1.c c.s1.d c.s1.sp c.s1.mi c.s1.ti c.s1.w c.s1.s c.s1.h c.s1.va c.s1.ov c.s1.ra c.s1.ol c.s1.od c.s1.ne a0 o0 g 1 (by decide) (by rw [hs_a0]; decide) rfl) (cwV 1 hts gL_meanStrength_X4_meanStrength rfl rfl rfl hvX4_meanStrength ⟨Nat.le_of_ble_eq_true rfl, Nat.le_of_ble_eq_true rfl⟩) hK hP [0, 1, 19, 20, 21, 22, 23, 24, 25, 26] rfl 0 4 rfl rfl rfl rfl hl.1 rfl (Nat.le_of_ble_eq_true rfl) dL_meanStrength_4 ⟨Nat.zero_le _, Nat.zero_le _⟩ (fun _ => ?_)
      refine va_dast hx hb hK.1 hP hD hS 35 4 rfl rfl (i := 0) (vp_in_iff.mpr ⟨by decide, by decide⟩) dL_meanStrength_7 (fun H locs hP hD hS => ?_)
      refine lv_goto (tgt := 17) hx hb dL_meanStrength_8 (by decide) ?_
      refine lv_iconst (v := 0) hx hb dL_meanStrength_17 (by decide) ?_
      refine W.widen (k := 1) (n := 6) (by omega) (by omega) ?_
      exact hret _ _ _ _ _ rfl hP hD hS dL_meanStrength_18
  replace h := ite_f hs_a0 h
  have hn_a01 := hs_a0
  clear hs_a0
  by_cases hs_a0 : a0 = 2
  · replace h := ite_t hs_a0 h
    rcases lq_e h with ⟨k0, gx, h⟩ | ⟨gx, h⟩
    · by_cases hk2 : k0 = 2
      · subst hk2
        cases h
        refine lwC (k := 2) (rest := [.int 0, .ref qo]) (As := [.int a0]) S (by decide) (cxX4_meanStrength l hfl G (ad 0) (ad 1) (ad 27) (ad 28) (ad 29) (ad 30) (ad 31) (ad 32) (ad 33) (ad 34) (ad 2) (ad 5) (ad 10) c.gain (ad 11) (ad 19) (ad 27) c.s2.pr c.s2.a c.s2.b c.s2.c c.s2.d c.s2.sp c.s2.mi c.s2.ti c.s2.w c.s2.s c.s2.h c.s2.va c.s2.ov c.s2.ra c.s2.ol c.s2.od c.s2.ne a0 2 gx 2 (by decide) (by rw [hs_a0]; decide) rfl) (cwV 1 hts gL_meanStrength_X4_meanStrength rfl rfl rfl hvX4_meanStrength ⟨Nat.le_of_ble_eq_true rfl, Nat.le_of_ble_eq_true rfl⟩) hK hT hP hD hS [0, 1, 27, 28, 29, 30, 31, 32, 33, 34] rfl 0 4 rfl rfl rfl rfl hl.1 rfl (Nat.le_of_ble_eq_true rfl) dL_meanStrength_4 ⟨Nat.le_of_ble_eq_true rfl, Nat.le_of_ble_eq_true rfl⟩ [{ startPc := 0, endPc := 8, handlerPc := 11, catchType := 20 }] { startPc := 0, endPc := 8, handlerPc := 14, catchType := 15 } [] (by rw [htab]; rfl) (tp_cons (nm := exn 3) (by decide) (hts (.classLink RL 20 "java/lang/IndexOutOfBoundsException") lkL_meanStrength_c20) (hN 2 (by decide) 3 (by decide) (by decide)) tp_nil) rfl (by decide) (hts (.classLink RL 15 "java/lang/IllegalStateException") lkL_meanStrength_c15) rfl (fun H locs q hP hD hS => ?_)
        refine lv_astore_n (lv' := [(3, .ref q), (0, .ref (ad 0)), (1, .int a0), (2, .ref qo)]) hx hb dL_meanStrength_14 rfl hl (by decide) rfl (fun ls hl => ?_)
        refine lv_iconst (v := 2) hx hb dL_meanStrength_15 (by decide) ?_
        exact hret _ _ _ _ _ rfl hP hD hS dL_meanStrength_16
      replace h := ite_f hk2 h
      by_cases hk3 : k0 = 3
      · subst hk3
        cases h
        refine lwC (k := 3) (rest := [.int 0, .ref qo]) (As := [.int a0]) S (by decide) (cxX4_meanStrength l hfl G (ad 0) (ad 1) (ad 27) (ad 28) (ad 29) (ad 30) (ad 31) (ad 32) (ad 33) (ad 34) (ad 2) (ad 5) (ad 10) c.gain (ad 11) (ad 19) (ad 27) c.s2.pr c.s2.a c.s2.b c.s2.c c.s2.d c.s2.sp c.s2.mi c.s2.ti c.s2.w c.s2.s c.s2.h c.s2.va c.s2.ov c.s2.ra c.s2.ol c.s2.od c.s2.ne a0 3 gx 2 (by decide) (by rw [hs_a0]; decide) rfl) (cwV 1 hts gL_meanStrength_X4_meanStrength rfl rfl rfl hvX4_meanStrength ⟨Nat.le_of_ble_eq_true rfl, Nat.le_of_ble_eq_true rfl⟩) hK hT hP hD hS [0, 1, 27, 28, 29, 30, 31, 32, 33, 34] rfl 0 4 rfl rfl rfl rfl hl.1 rfl (Nat.le_of_ble_eq_true rfl) dL_meanStrength_4 ⟨Nat.le_of_ble_eq_true rfl, Nat.le_of_ble_eq_true rfl⟩ [] { startPc := 0, endPc := 8, handlerPc := 11, catchType := 20 } [{ startPc := 0, endPc := 8, handlerPc := 14, catchType := 15 }] (by rw [htab]; rfl) tp_nil rfl (by decide) (hts (.classLink RL 20 "java/lang/IndexOutOfBoundsException") lkL_meanStrength_c20) rfl (fun H locs q hP hD hS => ?_)
        refine lv_astore_n (lv' := [(3, .ref q), (0, .ref (ad 0)), (1, .int a0), (2, .ref qo)]) hx hb dL_meanStrength_11 rfl hl (by decide) rfl (fun ls hl => ?_)
        refine lv_iconst (v := 1) hx hb dL_meanStrength_12 (by decide) ?_
        exact hret _ _ _ _ _ rfl hP hD hS dL_meanStrength_13
      cases (ite_f hk3 h)
    · obtain ⟨o0, g, h⟩ := bnd1_e h
      cases h
      refine roVd1 (rest := [.int 0, .ref qo]) (As := [.int a0]) S (ctX4_meanStrength l G (ad 0) (ad 1) (ad 27) (ad 28) (ad 29) (ad 30) (ad 31) (ad 32) (ad 33) (ad 34) (ad 2) (ad 5) (ad 10) c.gain (ad 11) (ad 19) (ad 27) c.s2.pr c.s2.a c.s2.b c.s2.c c.s2.d c.s2.sp c.s2.mi c.s2.ti c.s2.w c.s2.s c.s2.h c.s2.va c.s2.ov c.s2.ra c.s2.ol c.s2.od c.s2.ne a0 o0 g 2 (by decide) (by rw [hs_a0]; decide) rfl) (cwV 1 hts gL_meanStrength_X4_meanStrength rfl rfl rfl hvX4_meanStrength ⟨Nat.le_of_ble_eq_true rfl, Nat.le_of_ble_eq_true rfl⟩) hK hP [0, 1, 27, 28, 29, 30, 31, 32, 33, 34] rfl 0 4 rfl rfl rfl rfl hl.1 rfl (Nat.le_of_ble_eq_true rfl) dL_meanStrength_4 ⟨Nat.zero_le _, Nat.zero_le _⟩ (fun _ => ?_)
      refine va_dast hx hb hK.1 hP hD hS 35 4 rfl rfl (i := 0) (vp_in_iff.mpr ⟨by decide, by decide⟩) dL_meanStrength_7 (fun H locs hP hD hS => ?_)
      refine lv_goto (tgt := 17) hx hb dL_meanStrength_8 (by decide) ?_
      refine lv_iconst (v := 0) hx hb dL_meanStrength_17 (by decide) ?_
      refine W.widen (k := 1) (n := 6) (by omega) (by omega) ?_
      exact hret _ _ _ _ _ rfl hP hD hS dL_meanStrength_18
  replace h := ite_f hs_a0 h
  have hn_a02 := hs_a0
  clear hs_a0
  have ho_a0 := slot_out hn_a00 hn_a01 hn_a02
  cases h
  refine lwC (k := 3) (rest := [.int 0, .ref qo]) (As := [.int a0]) S (by decide) (cxX4_meanStrengtho l hfl G (ad 0) (ad 1) (ad 2) (ad 5) (ad 10) c.gain (ad 11) (ad 19) (ad 27) a0 ho_a0) (cwV 1 hts gL_meanStrength_X4_meanStrength rfl rfl rfl hvX4_meanStrength ⟨Nat.le_of_ble_eq_true rfl, Nat.le_of_ble_eq_true rfl⟩) hK hT hP hD hS [0, 1] rfl 0 4 rfl rfl rfl rfl hl.1 rfl (Nat.le_of_ble_eq_true rfl) dL_meanStrength_4 ⟨Nat.le_of_ble_eq_true rfl, Nat.le_of_ble_eq_true rfl⟩ [] { startPc := 0, endPc := 8, handlerPc := 11, catchType := 20 } [{ startPc := 0, endPc := 8, handlerPc := 14, catchType := 15 }] (by rw [htab]; rfl) tp_nil rfl (by decide) (hts (.classLink RL 20 "java/lang/IndexOutOfBoundsException") lkL_meanStrength_c20) rfl (fun H locs q hP hD hS => ?_)
  refine lv_astore_n (lv' := [(3, .ref q), (0, .ref (ad 0)), (1, .int a0), (2, .ref qo)]) hx hb dL_meanStrength_11 rfl hl (by decide) rfl (fun ls hl => ?_)
  refine lv_iconst (v := 1) hx hb dL_meanStrength_12 (by decide) ?_
  exact hret _ _ _ _ _ rfl hP hD hS dL_meanStrength_13
abbrev rmL_mixture : Room := { frames := 8, cells := 1, slots := 6, locals := 138 }
theorem hsX4_mixture : yX4_mixture.cls ≠ "java/lang/invoke/MethodHandle" ∧ yX4_mixture.cls ≠ "java/lang/invoke/VarHandle" ∧ (parseMethodDescriptor yX4_mixture.desc).map (fun d => d.parameters.length) = some 1 := by decide +kernel
theorem hvX4_mixture : yX4_mixture.cls = RX4 ∧ yX4_mixture.cls ≠ "java/lang/invoke/MethodHandle" ∧ yX4_mixture.cls ≠ "java/lang/invoke/VarHandle" ∧ (parseMethodDescriptor yX4_mixture.desc).map (fun d => d.parameters.length) = some 1 := ⟨rfl, hsX4_mixture⟩
theorem lkL_mixture_c13 : Cond.classLink RL 13 "java/lang/IllegalArgumentException" ∈ wsL_mixture := List.mem_of_getElem? (i := 1) rfl
theorem lkL_mixture_c15 : Cond.classLink RL 15 "java/lang/IllegalStateException" ∈ wsL_mixture := List.mem_of_getElem? (i := 2) rfl
set_option maxHeartbeats 4000000 in
set_option maxRecDepth 100000 in
theorem lw_mixture (l : Launch) (hfl : l.stackTraces = false) (G : GG) (ad : Nat → Nat) (qo : Nat) (c c' : Cls) (f f' : Nat → Int64) (a0 : Int32) (r0 : Int32) (h : lm_mixture c f a0 = some (r0, c', f')) : Met l yL_mixture wsL_mixture rmL_mixture (va_Pc [.ref (ad 0), .int a0, .ref qo] (PreD G (wdF G ad c ++ [(qo, .inl (G.2 3, 1, .inr (.inl f)))]) (XL (wdF G ad c ++ [(qo, .inl (G.2 3, 1, .inr (.inl f)))])))) (QwA G (va_A0 (wdF G ad c ++ [(qo, .inl (G.2 3, 1, .inr (.inl f)))])) (wdF G ad c' ++ [(qo, .inl (G.2 3, 1, .inr (.inl f')))]) (some (.int r0)) True) 1 6 (va_A0 (wdF G ad c ++ [(qo, .inl (G.2 3, 1, .inr (.inl f)))])) := by
  refine of_lw (cc := cL_mixture) (maxL := 4) (hh := [(0, 9, 12, 13), (0, 9, 15, 15)]) (by decide) rfl (Nat.le_of_ble_eq_true rfl) ?_
  intro p e s m args below meth c1 ls Q A S htab hl hP hD hS hK hT hN hX hA hret
  obtain ⟨H, hH⟩ : ∃ H, H = s.heap := ⟨_, rfl⟩
  obtain ⟨locs, hlocs⟩ : ∃ L : List Loc, L = [] := ⟨_, rfl⟩
  rw [← hlocs]
  rw [← hlocs] at hS
  have hP : va_P G.1 vwCl (wdF G ad c ++ [(qo, .inl (G.2 3, 1, .inr (.inl f)))]) H := by rw [hH]; exact hP
  have hS : va_S A s.heap H locs := by rw [hH]; exact hS
  have hT : TT A s H := by rw [hH]; exact hT
  suffices hgo : W p l e rmL_mixture s m args below meth c1 H locs 0 0 Q (F0 m 0 ls []) by rw [hH] at hgo; exact hgo
  have S : CallFix p m c1 cL_mixture 4 s args wsL_mixture RL := S
  obtain ⟨hx, hb, hml, hown, hts⟩ := id S
  have hl : lv_has ls 4 [(0, .ref (ad 0)), (1, .int a0), (2, .ref qo)] := hl
  unfold lm_mixture at h
  refine lv_aload_n hx hb dL_mixture_0 rfl (lv_at hl 2 rfl) ?_
  refine lv_iconst (v := 0) hx hb dL_mixture_1 (by decide) ?_
  refine lv_aload_n hx hb dL_mixture_2 rfl (lv_at hl 0 rfl) ?_
  refine lv_iload_n hx hb dL_mixture_3 rfl (lv_at hl 1 rfl) ?_
  rcases lq_e h with ⟨⟨k0, t1, t2, t3⟩, gx, h⟩ | ⟨gx, h⟩
  · dsimp only at h
    by_cases hk1 : k0 = 1
    · subst hk1
      cases h
      refine lwCw (k := 1) (rest := [.int 0, .ref qo]) (As := [.int a0]) (wr := List.filterMap (fun i => (wdF G ad c ++ [(qo, .inl (G.2 3, 1, .inr (.inl f)))])[i]?) [2, 3, 4, 5, 6, 7, 8, 9, 35]) (wf := wdF G ad (mkC c.gain c.il c.ip c.ia c.ig c.is c.im c.ic c.iq c.dn c.dm c.dj c.dt c.dx c.dy c.dr c.dv c.dw c.dq t1 t2 t3 c.s0 c.s1 c.s2) ++ [(qo, .inl (G.2 3, 1, .inr (.inl f)))]) S (by decide) (cxX4_mixture l hfl G (ad 0) (ad 1) (ad 10) (ad 11) (ad 12) (ad 13) (ad 14) (ad 15) (ad 16) (ad 17) (ad 18) (ad 19) (ad 20) (ad 21) (ad 22) (ad 23) (ad 24) (ad 25) (ad 26) (ad 27) (ad 28) (ad 29) (ad 30) (ad 31) (ad 32) (ad 33) (ad 34) (ad 2) (ad 5) c.gain c.fw c.fs c.fh c.s0.pr c.s0.a c.s0.b c.s0.c c.s0.d c.s0.sp c.s0.mi c.s0.ti c.s0.w c.s0.s c.s0.h c.s0.va c.s0.ov c.s0.ra c.s0.ol c.s0.od c.s0.ne c.s1.pr c.s1.a c.s1.b c.s1.c c.s1.d c.s1.sp c.s1.mi c.s1.ti c.s1.w c.s1.s c.s1.h c.s1.va c.s1.ov c.s1.ra c.s1.ol c.s1.od c.s1.ne c.s2.pr c.s2.a c.s2.b c.s2.c c.s2.d c.s2.sp c.s2.mi c.s2.ti c.s2.w c.s2.s c.s2.h c.s2.va c.s2.ov c.s2.ra c.s2.ol c.s2.od c.s2.ne a0 1 t1 t2 t3 gx) (cwV 1 hts gL_mixture_X4_mixture rfl rfl rfl hvX4_mixture ⟨Nat.le_of_ble_eq_true rfl, Nat.le_of_ble_eq_true rfl⟩) hK hT hP hD hS [0, 1, 10, 11, 12, 13, 14, 15, 16, 17, 18, 19, 20, 21, 22, 23, 24, 25, 26, 27, 28, 29, 30, 31, 32, 33, 34] [2, 3, 4, 5, 6, 7, 8, 9, 35] [9, 10, 0, 1, 2, 3, 4, 5, 6, 7, 11, 12, 13, 14, 15, 16, 17, 18, 19, 20, 21, 22, 23, 24, 25, 26, 27, 28, 29, 30, 31, 32, 33, 34, 35, 8] rfl rfl rfl rfl rfl rfl rfl 0 4 rfl rfl rfl rfl hl.1 rfl (Nat.le_of_ble_eq_true rfl) dL_mixture_4 ⟨Nat.le_of_ble_eq_true rfl, Nat.le_of_ble_eq_true rfl⟩ [] { startPc := 0, endPc := 9, handlerPc := 12, catchType := 13 } [{ startPc := 0, endPc := 9, handlerPc := 15, catchType := 15 }] (by rw [htab]; rfl) tp_nil rfl (by decide) (hts (.classLink RL 13 "java/lang/IllegalArgumentException") lkL_mixture_c13) rfl (fun H locs q hP hD hS => ?_)
      refine lv_astore_n (lv' := [(3, .ref q), (0, .ref (ad 0)), (1, .int a0), (2, .ref qo)]) hx hb dL_mixture_12 rfl hl (by decide) rfl (fun ls hl => ?_)
      refine lv_iconst (v := 1) hx hb dL_mixture_13 (by decide) ?_
      exact hret _ _ _ _ _ rfl hP hD hS dL_mixture_14
    replace h := ite_f hk1 h
    by_cases hk2 : k0 = 2
    · subst hk2
      cases h
      refine lwCw (k := 2) (rest := [.int 0, .ref qo]) (As := [.int a0]) (wr := List.filterMap (fun i => (wdF G ad c ++ [(qo, .inl (G.2 3, 1, .inr (.inl f)))])[i]?) [2, 3, 4, 5, 6, 7, 8, 9, 35]) (wf := wdF G ad (mkC c.gain c.il c.ip c.ia c.ig c.is c.im c.ic c.iq c.dn c.dm c.dj c.dt c.dx c.dy c.dr c.dv c.dw c.dq t1 t2 t3 c.s0 c.s1 c.s2) ++ [(qo, .inl (G.2 3, 1, .inr (.inl f)))]) S (by decide) (cxX4_mixture l hfl G (ad 0) (ad 1) (ad 10) (ad 11) (ad 12) (ad 13) (ad 14) (ad 15) (ad 16) (ad 17) (ad 18) (ad 19) (ad 20) (ad 21) (ad 22) (ad 23) (ad 24) (ad 25) (ad 26) (ad 27) (ad 28) (ad 29) (ad 30) (ad 31) (ad 32) (ad 33) (ad 34) (ad 2) (ad 5) c.gain c.fw c.fs c.fh c.s0.pr c.s0.a c.s0.b c.s0.c c.s0.d c.s0.sp c.s0.mi c.s0.ti c.s0.w c.s0.s c.s0.h c.s0.va c.s0.ov c.s0.ra c.s0.ol c.s0.od c.s0.ne c.s1.pr c.s1.a c.s1.b c.s1.c c.s1.d c.s1.sp c.s1.mi c.s1.ti c.s1.w c.s1.s c.s1.h c.s1.va c.s1.ov c.s1.ra c.s1.ol c.s1.od c.s1.ne c.s2.pr c.s2.a c.s2.b c.s2.c c.s2.d c.s2.sp c.s2.mi c.s2.ti c.s2.w c.s2.s c.s2.h c.s2.va c.s2.ov c.s2.ra c.s2.ol c.s2.od c.s2.ne a0 2 t1 t2 t3 gx) (cwV 1 hts gL_mixture_X4_mixture rfl rfl rfl hvX4_mixture ⟨Nat.le_of_ble_eq_true rfl, Nat.le_of_ble_eq_true rfl⟩) hK hT hP hD hS [0, 1, 10, 11, 12, 13, 14, 15, 16, 17, 18, 19, 20, 21, 22, 23, 24, 25, 26, 27, 28, 29, 30, 31, 32, 33, 34] [2, 3, 4, 5, 6, 7, 8, 9, 35] [9, 10, 0, 1, 2, 3, 4, 5, 6, 7, 11, 12, 13, 14, 15, 16, 17, 18, 19, 20, 21, 22, 23, 24, 25, 26, 27, 28, 29, 30, 31, 32, 33, 34, 35, 8] rfl rfl rfl rfl rfl rfl rfl 0 4 rfl rfl rfl rfl hl.1 rfl (Nat.le_of_ble_eq_true rfl) dL_mixture_4 ⟨Nat.le_of_ble_eq_true rfl, Nat.le_of_ble_eq_true rfl⟩ [{ startPc := 0, endPc := 9, handlerPc := 12, catchType := 13 }] { startPc := 0, endPc := 9, handlerPc := 15, catchType := 15 } [] (by rw [htab]; rfl) (tp_cons (nm := exn 1) (by decide) (hts (.classLink RL 13 "java/lang/IllegalArgumentException") lkL_mixture_c13) (hN 2 (by decide) 1 (by decide) (by decide)) tp_nil) rfl (by decide) (hts (.classLink RL 15 "java/lang/IllegalStateException") lkL_mixture_c15) rfl (fun H locs q hP hD hS => ?_)
      refine lv_astore_n (lv' := [(3, .ref q), (0, .ref (ad 0)), (1, .int a0), (2, .ref qo)]) hx hb dL_mixture_15 rfl hl (by decide) rfl (fun ls hl => ?_)
      refine lv_iconst (v := 2) hx hb dL_mixture_16 (by decide) ?_
      exact hret _ _ _ _ _ rfl hP hD hS dL_mixture_17
    cases (ite_f hk2 h)
  · obtain ⟨o0, o1, o2, o3, g, h⟩ := bnd4_e h
    cases h
    refine rwV_back (rest := [.int 0, .ref qo]) (As := [.int a0]) (wr := List.filterMap (fun i => (wdF G ad c ++ [(qo, .inl (G.2 3, 1, .inr (.inl f)))])[i]?) [2, 3, 4, 5, 6, 7, 8, 9, 35]) (wf := wdF G ad (mkC c.gain c.il c.ip c.ia c.ig c.is c.im c.ic c.iq c.dn c.dm c.dj c.dt c.dx c.dy c.dr c.dv c.dw c.dq o1 o2 o3 c.s0 c.s1 c.s2) ++ [(qo, .inl (G.2 3, 1, .inr (.inl f)))]) S (ctX4_mixture l G (ad 0) (ad 1) (ad 10) (ad 11) (ad 12) (ad 13) (ad 14) (ad 15) (ad 16) (ad 17) (ad 18) (ad 19) (ad 20) (ad 21) (ad 22) (ad 23) (ad 24) (ad 25) (ad 26) (ad 27) (ad 28) (ad 29) (ad 30) (ad 31) (ad 32) (ad 33) (ad 34) (ad 2) (ad 5) c.gain c.fw c.fs c.fh c.s0.pr c.s0.a c.s0.b c.s0.c c.s0.d c.s0.sp c.s0.mi c.s0.ti c.s0.w c.s0.s c.s0.h c.s0.va c.s0.ov c.s0.ra c.s0.ol c.s0.od c.s0.ne c.s1.pr c.s1.a c.s1.b c.s1.c c.s1.d c.s1.sp c.s1.mi c.s1.ti c.s1.w c.s1.s c.s1.h c.s1.va c.s1.ov c.s1.ra c.s1.ol c.s1.od c.s1.ne c.s2.pr c.s2.a c.s2.b c.s2.c c.s2.d c.s2.sp c.s2.mi c.s2.ti c.s2.w c.s2.s c.s2.h c.s2.va c.s2.ov c.s2.ra c.s2.ol c.s2.od c.s2.ne a0 o0 o1 o2 o3 g) (cwV 1 hts gL_mixture_X4_mixture rfl rfl rfl hvX4_mixture ⟨Nat.le_of_ble_eq_true rfl, Nat.le_of_ble_eq_true rfl⟩) hK hP hD hS xb_triv (fun _ _ _ => trivial) [0, 1, 10, 11, 12, 13, 14, 15, 16, 17, 18, 19, 20, 21, 22, 23, 24, 25, 26, 27, 28, 29, 30, 31, 32, 33, 34] [2, 3, 4, 5, 6, 7, 8, 9, 35] [9, 10, 0, 1, 2, 3, 4, 5, 6, 7, 11, 12, 13, 14, 15, 16, 17, 18, 19, 20, 21, 22, 23, 24, 25, 26, 27, 28, 29, 30, 31, 32, 33, 34, 35, 8] rfl rfl rfl rfl rfl rfl rfl 0 4 rfl rfl rfl rfl hl.1 rfl (Nat.le_of_ble_eq_true rfl) dL_mixture_4 ⟨Nat.zero_le _, Nat.zero_le _⟩ (fun _ H locs hP hD hS => ?_)
    refine lv_i2l hx hb dL_mixture_7 rfl ?_
    refine va_last hx hb hK.1 hP hD hS 35 3 rfl rfl (i := 0) (vp_in_iff.mpr ⟨by decide, by decide⟩) dL_mixture_8 (fun H locs hP hD hS => ?_)
    refine lv_goto (tgt := 18) hx hb dL_mixture_9 (by decide) ?_
    refine lv_iconst (v := 0) hx hb dL_mixture_18 (by decide) ?_
    refine W.widen (k := 1) (n := 6) (by omega) (by omega) ?_
    exact hret _ _ _ _ _ rfl hP hD hS dL_mixture_19
