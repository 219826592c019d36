-- contracts of the law's wrappers (laid by program)
abbrev rmL_load : Room := { frames := 8, cells := 1, slots := 6, locals := 166 }
theorem hsX4_load : yX4_load.cls ≠ "java/lang/invoke/MethodHandle" ∧ yX4_load.cls ≠ "java/lang/invoke/VarHandle" ∧ (parseMethodDescriptor yX4_load.desc).map (fun d => d.parameters.length) = some 1 := by decide +kernel
theorem hvX4_load : yX4_load.cls = RX4 ∧ yX4_load.cls ≠ "java/lang/invoke/MethodHandle" ∧ yX4_load.cls ≠ "java/lang/invoke/VarHandle" ∧ (parseMethodDescriptor yX4_load.desc).map (fun d => d.parameters.length) = some 1 := ⟨rfl, hsX4_load⟩
theorem lkL_load_c15 : Cond.classLink RL 15 "java/lang/IllegalStateException" ∈ wsL_load := List.mem_of_getElem? (i := 2) rfl
theorem lkL_load_c20 : Cond.classLink RL 20 "java/lang/IndexOutOfBoundsException" ∈ wsL_load := List.mem_of_getElem? (i := 1) rfl
theorem lkL_load_c13 : Cond.classLink RL 13 "java/lang/IllegalArgumentException" ∈ wsL_load := List.mem_of_getElem? (i := 3) rfl
set_option maxHeartbeats 4000000 in
set_option maxRecDepth 100000 in
theorem lw_load (l : Launch) (hfl : l.stackTraces = false) (G : GG) (ad : Nat → Nat) (qo : Nat) (c c' : Cls) (f f' : Nat → Int64) (a0 : Int32) (r0 : Int32) (h : lm_load c f a0 = some (r0, c', f')) (zT0 : ∀ (p0 : Int32) (p1 : Int32) (p2 : Int32) (p3 : Int32) (p4 : Int32) (p5 : Int32) (p6 : (Nat → Int32)), mX1_isComplete c.il c.ic c.iq = some (p0, p1, p2, p3, p4, p5, p6) → isZ p5) (zA0 : ∀ (p0 : Int32) (p1 : Int32) (p2 : Int32) (p3 : Int32) (p4 : Int32) (p5 : Int32) (p6 : (Nat → Int32)), mX1_isComplete c.il c.ic c.iq = some (p0, p1, p2, p3, p4, p5, p6) → isZ p5) (zT1 : ∀ (p0 : Int32) (p1 : Int32) (p2 : Int32) (p3 : Int32) (p4 : Int32) (p5 : Int32) (p6 : (Nat → Int32)), mX1_isComplete c.il c.ic c.iq = some (p0, p1, p2, p3, p4, p5, p6) → isZ p5) (zA1 : ∀ (p0 : Int32) (p1 : Int32) (p2 : Int32) (p3 : Int32) (p4 : Int32) (p5 : Int32) (p6 : (Nat → Int32)), mX1_isComplete c.il c.ic c.iq = some (p0, p1, p2, p3, p4, p5, p6) → isZ p5) (zT2 : ∀ (p0 : Int32) (p1 : Int32) (p2 : Int32) (p3 : Int32) (p4 : Int32) (p5 : Int32) (p6 : (Nat → Int32)), mX1_isComplete c.il c.ic c.iq = some (p0, p1, p2, p3, p4, p5, p6) → isZ p5) (zA2 : ∀ (p0 : Int32) (p1 : Int32) (p2 : Int32) (p3 : Int32) (p4 : Int32) (p5 : Int32) (p6 : (Nat → Int32)), mX1_isComplete c.il c.ic c.iq = some (p0, p1, p2, p3, p4, p5, p6) → isZ p5) : Met l yL_load wsL_load rmL_load (va_Pc [.ref (ad 0), .int a0, .ref qo] (PreD G (wdF G ad c ++ [(qo, .inl (G.2 3, 1, .inr (.inl f)))]) (XL (wdF G ad c ++ [(qo, .inl (G.2 3, 1, .inr (.inl f)))])))) (QwA G (va_A0 (wdF G ad c ++ [(qo, .inl (G.2 3, 1, .inr (.inl f)))])) (wdF G ad c' ++ [(qo, .inl (G.2 3, 1, .inr (.inl f')))]) (some (.int r0)) True) 1 6 (va_A0 (wdF G ad c ++ [(qo, .inl (G.2 3, 1, .inr (.inl f)))])) := by
  refine of_lw (cc := cL_load) (maxL := 4) (hh := [(0, 9, 12, 20), (0, 9, 15, 15), (0, 9, 18, 13)]) (by decide) rfl (Nat.le_of_ble_eq_true rfl) ?_
  intro p e s m args below meth c1 ls Q A S htab hl hP hD hS hK hT hN hX hA hret
  obtain ⟨H, hH⟩ : ∃ H, H = s.heap := ⟨_, rfl⟩
  obtain ⟨locs, hlocs⟩ : ∃ L : List Loc, L = [] := ⟨_, rfl⟩
  rw [← hlocs]
  rw [← hlocs] at hS
  have hP : va_P G.1 vwCl (wdF G ad c ++ [(qo, .inl (G.2 3, 1, .inr (.inl f)))]) H := by rw [hH]; exact hP
  have hS : va_S A s.heap H locs := by rw [hH]; exact hS
  have hT : TT A s H := by rw [hH]; exact hT
  suffices hgo : W p l e rmL_load s m args below meth c1 H locs 0 0 Q (F0 m 0 ls []) by rw [hH] at hgo; exact hgo
  have S : CallFix p m c1 cL_load 4 s args wsL_load RL := S
  obtain ⟨hx, hb, hml, hown, hts⟩ := id S
  have hl : lv_has ls 4 [(0, .ref (ad 0)), (1, .int a0), (2, .ref qo)] := hl
  unfold lm_load at h
  refine lv_aload_n hx hb dL_load_0 rfl (lv_at hl 2 rfl) ?_
  refine lv_iconst (v := 0) hx hb dL_load_1 (by decide) ?_
  refine lv_aload_n hx hb dL_load_2 rfl (lv_at hl 0 rfl) ?_
  refine lv_iload_n hx hb dL_load_3 rfl (lv_at hl 1 rfl) ?_
  by_cases hs_a0 : a0 = 0
  · replace h := ite_t hs_a0 h
    rcases lq_e h with ⟨⟨k0, t1, t2, t3, t4, t5, t6⟩, gx, h⟩ | ⟨gx, h⟩
    · dsimp only at h
      by_cases hk1 : k0 = 1
      · subst hk1
        cases h
        refine lwCw (k := 1) (rest := [.int 0, .ref qo]) (As := [.int a0]) (wr := List.filterMap (fun i => (wdF G ad c ++ [(qo, .inl (G.2 3, 1, .inr (.inl f)))])[i]?) [5, 6, 7, 8, 9, 10, 19, 20, 21, 22, 23, 24, 25, 26, 27, 28, 29, 30, 31, 32, 33, 34, 35]) (wf := wdF G ad (mkC c.gain c.il t1 t2 t3 t4 t5 c.ic t6 c.dn c.dm c.dj c.dt c.dx c.dy c.dr c.dv c.dw c.dq c.fw c.fs c.fh c.s0 c.s1 c.s2) ++ [(qo, .inl (G.2 3, 1, .inr (.inl f)))]) S (by decide) (cxX4_load l hfl G (ad 0) (ad 1) (ad 2) (ad 3) (ad 4) (ad 11) (ad 12) (ad 13) (ad 14) (ad 15) (ad 16) (ad 17) (ad 18) (ad 5) (ad 10) c.gain (ad 11) (ad 19) (ad 27) c.il c.ip c.ia c.ig c.is c.im c.ic c.iq c.s0.pr c.s0.a c.s0.b c.s0.c c.s0.d c.s0.sp c.s0.mi c.s0.ti c.s0.w c.s0.s c.s0.h c.s0.va c.s0.ov c.s0.ra c.s0.ol c.s0.od c.s0.ne a0 1 t1 t2 t3 t4 t5 t6 gx zT0 0 (by decide) (by rw [hs_a0]; decide) rfl) (cwV 1 hts gL_load_X4_load rfl rfl rfl hvX4_load ⟨Nat.le_of_ble_eq_true rfl, Nat.le_of_ble_eq_true rfl⟩) hK hT hP hD hS [0, 1, 2, 3, 4, 11, 12, 13, 14, 15, 16, 17, 18] [5, 6, 7, 8, 9, 10, 19, 20, 21, 22, 23, 24, 25, 26, 27, 28, 29, 30, 31, 32, 33, 34, 35] [23, 24, 25, 26, 27, 0, 1, 2, 3, 4, 5, 28, 29, 30, 31, 32, 33, 34, 35, 6, 7, 8, 9, 10, 11, 12, 13, 14, 15, 16, 17, 18, 19, 20, 21, 22] rfl rfl rfl rfl rfl rfl rfl 0 4 rfl rfl rfl rfl hl.1 rfl (Nat.le_of_ble_eq_true rfl) dL_load_4 ⟨Nat.le_of_ble_eq_true rfl, Nat.le_of_ble_eq_true rfl⟩ [{ startPc := 0, endPc := 9, handlerPc := 12, catchType := 20 }, { startPc := 0, endPc := 9, handlerPc := 15, catchType := 15 }] { startPc := 0, endPc := 9, handlerPc := 18, catchType := 13 } [] (by rw [htab]; rfl) (tp_cons (nm := exn 3) (by decide) (hts (.classLink RL 20 "java/lang/IndexOutOfBoundsException") lkL_load_c20) (hN 1 (by decide) 3 (by decide) (by decide)) (tp_cons (nm := exn 2) (by decide) (hts (.classLink RL 15 "java/lang/IllegalStateException") lkL_load_c15) (hN 1 (by decide) 2 (by decide) (by decide)) tp_nil)) rfl (by decide) (hts (.classLink RL 13 "java/lang/IllegalArgumentException") lkL_load_c13) rfl (fun H locs q hP hD hS => ?_)
        refine lv_astore_n (lv' := [(3, .ref q), (0, .ref (ad 0)), (1, .int a0), (2, .ref qo)]) hx hb dL_load_18 rfl hl (by decide) rfl (fun ls hl => ?_)
        refine lv_iconst (v := 3) hx hb dL_load_19 (by decide) ?_
        exact hret _ _ _ _ _ rfl hP hD hS dL_load_20
      replace h := ite_f hk1 h
      by_cases hk2 : k0 = 2
      · subst hk2
        cases h
        refine lwCw (k := 2) (rest := [.int 0, .ref qo]) (As := [.int a0]) (wr := List.filterMap (fun i => (wdF G ad c ++ [(qo, .inl (G.2 3, 1, .inr (.inl f)))])[i]?) [5, 6, 7, 8, 9, 10, 19, 20, 21, 22, 23, 24, 25, 26, 27, 28, 29, 30, 31, 32, 33, 34, 35]) (wf := wdF G ad (mkC c.gain c.il t1 t2 t3 t4 t5 c.ic t6 c.dn c.dm c.dj c.dt c.dx c.dy c.dr c.dv c.dw c.dq c.fw c.fs c.fh c.s0 c.s1 c.s2) ++ [(qo, .inl (G.2 3, 1, .inr (.inl f)))]) S (by decide) (cxX4_load l hfl G (ad 0) (ad 1) (ad 2) (ad 3) (ad 4) (ad 11) (ad 12) (ad 13) (ad 14) (ad 15) (ad 16) (ad 17) (ad 18) (ad 5) (ad 10) c.gain (ad 11) (ad 19) (ad 27) c.il c.ip c.ia c.ig c.is c.im c.ic c.iq c.s0.pr c.s0.a c.s0.b c.s0.c c.s0.d c.s0.sp c.s0.mi c.s0.ti c.s0.w c.s0.s c.s0.h c.s0.va c.s0.ov c.s0.ra c.s0.ol c.s0.od c.s0.ne a0 2 t1 t2 t3 t4 t5 t6 gx zT0 0 (by decide) (by rw [hs_a0]; decide) rfl) (cwV 1 hts gL_load_X4_load rfl rfl rfl hvX4_load ⟨Nat.le_of_ble_eq_true rfl, Nat.le_of_ble_eq_true rfl⟩) hK hT hP hD hS [0, 1, 2, 3, 4, 11, 12, 13, 14, 15, 16, 17, 18] [5, 6, 7, 8, 9, 10, 19, 20, 21, 22, 23, 24, 25, 26, 27, 28, 29, 30, 31, 32, 33, 34, 35] [23, 24, 25, 26, 27, 0, 1, 2, 3, 4, 5, 28, 29, 30, 31, 32, 33, 34, 35, 6, 7, 8, 9, 10, 11, 12, 13, 14, 15, 16, 17, 18, 19, 20, 21, 22] rfl rfl rfl rfl rfl rfl rfl 0 4 rfl rfl rfl rfl hl.1 rfl (Nat.le_of_ble_eq_true rfl) dL_load_4 ⟨Nat.le_of_ble_eq_true rfl, Nat.le_of_ble_eq_true rfl⟩ [{ startPc := 0, endPc := 9, handlerPc := 12, catchType := 20 }] { startPc := 0, endPc := 9, handlerPc := 15, catchType := 15 } [{ startPc := 0, endPc := 9, handlerPc := 18, catchType := 13 }] (by rw [htab]; rfl) (tp_cons (nm := exn 3) (by decide) (hts (.classLink RL 20 "java/lang/IndexOutOfBoundsException") lkL_load_c20) (hN 2 (by decide) 3 (by decide) (by decide)) tp_nil) rfl (by decide) (hts (.classLink RL 15 "java/lang/IllegalStateException") lkL_load_c15) rfl (fun H locs q hP hD hS => ?_)
        refine lv_astore_n (lv' := [(3, .ref q), (0, .ref (ad 0)), (1, .int a0), (2, .ref qo)]) hx hb dL_load_15 rfl hl (by decide) rfl (fun ls hl => ?_)
        refine lv_iconst (v := 2) hx hb dL_load_16 (by decide) ?_
        exact hret _ _ _ _ _ rfl hP hD hS dL_load_17
      replace h := ite_f hk2 h
      by_cases hk3 : k0 = 3
      · subst hk3
        cases h
        refine lwCw (k := 3) (rest := [.int 0, .ref qo]) (As := [.int a0]) (wr := List.filterMap (fun i => (wdF G ad c ++ [(qo, .inl (G.2 3, 1, .inr (.inl f)))])[i]?) [5, 6, 7, 8, 9, 10, 19, 20, 21, 22, 23, 24, 25, 26, 27, 28, 29, 30, 31, 32, 33, 34, 35]) (wf := wdF G ad (mkC c.gain c.il t1 t2 t3 t4 t5 c.ic t6 c.dn c.dm c.dj c.dt c.dx c.dy c.dr c.dv c.dw c.dq c.fw c.fs c.fh c.s0 c.s1 c.s2) ++ [(qo, .inl (G.2 3, 1, .inr (.inl f)))]) S (by decide) (cxX4_load l hfl G (ad 0) (ad 1) (ad 2) (ad 3) (ad 4) (ad 11) (ad 12) (ad 13) (ad 14) (ad 15) (ad 16) (ad 17) (ad 18) (ad 5) (ad 10) c.gain (ad 11) (ad 19) (ad 27) c.il c.ip c.ia c.ig c.is c.im c.ic c.iq c.s0.pr c.s0.a c.s0.b c.s0.c c.s0.d c.s0.sp c.s0.mi c.s0.ti c.s0.w c.s0.s c.s0.h c.s0.va c.s0.ov c.s0.ra c.s0.ol c.s0.od c.s0.ne a0 3 t1 t2 t3 t4 t5 t6 gx zT0 0 (by decide) (by rw [hs_a0]; decide) rfl) (cwV 1 hts gL_load_X4_load rfl rfl rfl hvX4_load ⟨Nat.le_of_ble_eq_true rfl, Nat.le_of_ble_eq_true rfl⟩) hK hT hP hD hS [0, 1, 2, 3, 4, 11, 12, 13, 14, 15, 16, 17, 18] [5, 6, 7, 8, 9, 10, 19, 20, 21, 22, 23, 24, 25, 26, 27, 28, 29, 30, 31, 32, 33, 34, 35] [23, 24, 25, 26, 27, 0, 1, 2, 3, 4, 5, 28, 29, 30, 31, 32, 33, 34, 35, 6, 7, 8, 9, 10, 11, 12, 13, 14, 15, 16, 17, 18, 19, 20, 21, 22] rfl rfl rfl rfl rfl rfl rfl 0 4 rfl rfl rfl rfl hl.1 rfl (Nat.le_of_ble_eq_true rfl) dL_load_4 ⟨Nat.le_of_ble_eq_true rfl, Nat.le_of_ble_eq_true rfl⟩ [] { startPc := 0, endPc := 9, handlerPc := 12, catchType := 20 } [{ startPc := 0, endPc := 9, handlerPc := 15, catchType := 15 }, { startPc := 0, endPc := 9, handlerPc := 18, catchType := 13 }] (by rw [htab]; rfl) tp_nil rfl (by decide) (hts (.classLink RL 20 "java/lang/IndexOutOfBoundsException") lkL_load_c20) rfl (fun H locs q hP hD hS => ?_)
        refine lv_astore_n (lv' := [(3, .ref q), (0, .ref (ad 0)), (1, .int a0), (2, .ref qo)]) hx hb dL_load_12 rfl hl (by decide) rfl (fun ls hl => ?_)
        refine lv_iconst (v := 1) hx hb dL_load_13 (by decide) ?_
        exact hret _ _ _ _ _ rfl hP hD hS dL_load_14
      cases (ite_f hk3 h)
    · obtain ⟨o0, o1, o2, o3, o4, o5, o6, o7, o8, o9, o10, o11, o12, o13, o14, o15, o16, o17, o18, o19, o20, o21, o22, o23, o24, g, h⟩ := bnd25_e h
      cases h
      refine rwV_back (rest := [.int 0, .ref qo]) (As := [.int a0]) (wr := List.filterMap (fun i => (wdF G ad c ++ [(qo, .inl (G.2 3, 1, .inr (.inl f)))])[i]?) [5, 6, 7, 8, 9, 10, 19, 20, 21, 22, 23, 24, 25, 26, 27, 28, 29, 30, 31, 32, 33, 34, 35]) (wf := wdF G ad (mkC c.gain o1 o2 o3 o4 o5 o6 c.ic o7 c.dn c.dm c.dj c.dt c.dx c.dy c.dr c.dv c.dw c.dq c.fw c.fs c.fh (mkS o8 o9 o10 o11 o12 o13 o14 o15 o16 o17 o18 o19 o20 o21 o22 o23 o24) c.s1 c.s2) ++ [(qo, .inl (G.2 3, 1, .inr (.inl f)))]) S (ctX4_load l G (ad 0) (ad 1) (ad 2) (ad 3) (ad 4) (ad 11) (ad 12) (ad 13) (ad 14) (ad 15) (ad 16) (ad 17) (ad 18) (ad 5) (ad 10) c.gain (ad 11) (ad 19) (ad 27) c.il c.ip c.ia c.ig c.is c.im c.ic c.iq c.s0.pr c.s0.a c.s0.b c.s0.c c.s0.d c.s0.sp c.s0.mi c.s0.ti c.s0.w c.s0.s c.s0.h c.s0.va c.s0.ov c.s0.ra c.s0.ol c.s0.od c.s0.ne a0 o0 o1 o2 o3 o4 o5 o6 o7 o8 o9 o10 o11 o12 o13 o14 o15 o16 o17 o18 o19 o20 o21 o22 o23 o24 g zA0 0 (by decide) (by rw [hs_a0]; decide) rfl) (cwV 1 hts gL_load_X4_load rfl rfl rfl hvX4_load ⟨Nat.le_of_ble_eq_true rfl, Nat.le_of_ble_eq_true rfl⟩) hK hP hD hS (SK.blind _) (fun U hU hW => SK.call hX hA hD hS [0, 1, 2, 3, 4, 11, 12, 13, 14, 15, 16, 17, 18] rfl hU hW) [0, 1, 2, 3, 4, 11, 12, 13, 14, 15, 16, 17, 18] [5, 6, 7, 8, 9, 10, 19, 20, 21, 22, 23, 24, 25, 26, 27, 28, 29, 30, 31, 32, 33, 34, 35] [23, 24, 25, 26, 27, 0, 1, 2, 3, 4, 5, 28, 29, 30, 31, 32, 33, 34, 35, 6, 7, 8, 9, 10, 11, 12, 13, 14, 15, 16, 17, 18, 19, 20, 21, 22] rfl rfl rfl rfl rfl rfl rfl 0 4 rfl rfl rfl rfl hl.1 rfl (Nat.le_of_ble_eq_true rfl) dL_load_4 ⟨Nat.zero_le _, Nat.zero_le _⟩ (fun _ H locs hP hD hS => ?_)
      refine lv_i2l hx hb dL_load_7 rfl ?_
      refine va_last hx hb hK.1 hP hD hS 35 3 rfl rfl (i := 0) (vp_in_iff.mpr ⟨by decide, by decide⟩) dL_load_8 (fun H locs hP hD hS => ?_)
      refine lv_goto (tgt := 21) hx hb dL_load_9 (by decide) ?_
      refine lv_iconst (v := 0) hx hb dL_load_21 (by decide) ?_
      refine W.widen (k := 1) (n := 6) (by omega) (by omega) ?_
      exact hret _ _ _ _ _ rfl hP hD hS dL_load_22
  replace h := ite_f hs_a0 h
  have hn_a00 := hs_a0
  clear hs_a0
  by_cases hs_a0 : a0 = 1
  · replace h := ite_t hs_a0 h
    rcases lq_e h with ⟨⟨k0, t1, t2, t3, t4, t5, t6⟩, gx, h⟩ | ⟨gx, h⟩
    · dsimp only at h
      by_cases hk1 : k0 = 1
      · subst hk1
        cases h
        refine lwCw (k := 1) (rest := [.int 0, .ref qo]) (As := [.int a0]) (wr := List.filterMap (fun i => (wdF G ad c ++ [(qo, .inl (G.2 3, 1, .inr (.inl f)))])[i]?) [5, 6, 7, 8, 9, 10, 11, 12, 13, 14, 15, 16, 17, 18, 27, 28, 29, 30, 31, 32, 33, 34, 35]) (wf := wdF G ad (mkC c.gain c.il t1 t2 t3 t4 t5 c.ic t6 c.dn c.dm c.dj c.dt c.dx c.dy c.dr c.dv c.dw c.dq c.fw c.fs c.fh c.s0 c.s1 c.s2) ++ [(qo, .inl (G.2 3, 1, .inr (.inl f)))]) S (by decide) (cxX4_load l hfl G (ad 0) (ad 1) (ad 2) (ad 3) (ad 4) (ad 19) (ad 20) (ad 21) (ad 22) (ad 23) (ad 24) (ad 25) (ad 26) (ad 5) (ad 10) c.gain (ad 11) (ad 19) (ad 27) c.il c.ip c.ia c.ig c.is c.im c.ic c.iq c.s1.pr c.s1.a c.s1.b c.s1.c c.s1.d c.s1.sp c.s1.mi c.s1.ti c.s1.w c.s1.s c.s1.h c.s1.va c.s1.ov c.s1.ra c.s1.ol c.s1.od c.s1.ne a0 1 t1 t2 t3 t4 t5 t6 gx zT1 1 (by decide) (by rw [hs_a0]; decide) rfl) (cwV 1 hts gL_load_X4_load rfl rfl rfl hvX4_load ⟨Nat.le_of_ble_eq_true rfl, Nat.le_of_ble_eq_true rfl⟩) hK hT hP hD hS [0, 1, 2, 3, 4, 19, 20, 21, 22, 23, 24, 25, 26] [5, 6, 7, 8, 9, 10, 11, 12, 13, 14, 15, 16, 17, 18, 27, 28, 29, 30, 31, 32, 33, 34, 35] [23, 24, 25, 26, 27, 0, 1, 2, 3, 4, 5, 6, 7, 8, 9, 10, 11, 12, 13, 28, 29, 30, 31, 32, 33, 34, 35, 14, 15, 16, 17, 18, 19, 20, 21, 22] rfl rfl rfl rfl rfl rfl rfl 0 4 rfl rfl rfl rfl hl.1 rfl (Nat.le_of_ble_eq_true rfl) dL_load_4 ⟨Nat.le_of_ble_eq_true rfl, Nat.le_of_ble_eq_true rfl⟩ [{ startPc := 0, endPc := 9, handlerPc := 12, catchType := 20 }, { startPc := 0, endPc := 9, handlerPc := 15, catchType := 15 }] { startPc := 0, endPc := 9, handlerPc := 18, catchType := 13 } [] (by rw [htab]; rfl) (tp_cons (nm := exn 3) (by decide) (hts (.classLink RL 20 "java/lang/IndexOutOfBoundsException") lkL_load_c20) (hN 1 (by decide) 3 (by decide) (by decide)) (tp_cons (nm := exn 2) (by decide) (hts (.classLink RL 15 "java/lang/IllegalStateException") lkL_load_c15) (hN 1 (by decide) 2 (by decide) (by decide)) tp_nil)) rfl (by decide) (hts (.classLink RL 13 "java/lang/IllegalArgumentException") lkL_load_c13) rfl (fun H locs q hP hD hS => ?_)
        refine lv_astore_n (lv' := [(3, .ref q), (0, .ref (ad 0)), (1, .int a0), (2, .ref qo)]) hx hb dL_load_18 rfl hl (by decide) rfl (fun ls hl => ?_)
        refine lv_iconst (v := 3) hx hb dL_load_19 (by decide) ?_
        exact hret _ _ _ _ _ rfl hP hD hS dL_load_20
      replace h := ite_f hk1 h
      by_cases hk2 : k0 = 2
      · subst hk2
        cases h
        refine lwCw (k := 2) (rest := [.int 0, .ref qo]) (As := [.int a0]) (wr := List.filterMap (fun i => (wdF G ad c ++ [(qo, .inl (G.2 3, 1, .inr (.inl f)))])[i]?) [5, 6, 7, 8, 9, 10, 11, 12, 13, 14, 15, 16, 17, 18, 27, 28, 29, 30, 31, 32, 33, 34, 35]) (wf := wdF G ad (mkC c.gain c.il t1 t2 t3 t4 t5 c.ic t6 c.dn c.dm c.dj c.dt c.dx c.dy c.dr c.dv c.dw c.dq c.fw c.fs c.fh c.s0 c.s1 c.s2) ++ [(qo, .inl (G.2 3, 1, .inr (.inl f)))]) S (by decide) (cxX4_load l hfl G (ad 0) (ad 1) (ad 2) (ad 3) (ad 4) (ad 19) (ad 20) (ad 21) (ad 22) (ad 23) (ad 24) (ad 25) (ad 26) (ad 5) (ad 10) c.gain (ad 11) (ad 19) (ad 27) c.il c.ip c.ia c.ig c.is c.im c.ic c.iq c.s1.pr c.s1.a c.s1.b c.s1.c c.s1.d c.s1.sp c.s1.mi c.s1.ti c.s1.w c.s1.s c.s1.h c.s1.va c.s1.ov c.s1.ra c.s1.ol c.s1.od c.s1.ne a0 2 t1 t2 t3 t4 t5 t6 gx zT1 1 (by decide) (by rw [hs_a0]; decide) rfl) (cwV 1 hts gL_load_X4_load rfl rfl rfl hvX4_load ⟨Nat.le_of_ble_eq_true rfl, Nat.le_of_ble_eq_true rfl⟩) hK hT hP hD hS [0, 1, 2, 3, 4, 19, 20, 21, 22, 23, 24, 25, 26] [5, 6, 7, 8, 9, 10, 11, 12, 13, 14, 15, 16, 17, 18, 27, 28, 29, 30, 31, 32, 33, 34, 35] [23, 24, 25, 26, 27, 0, 1, 2, 3, 4, 5, 6, 7, 8, 9, 10, 11, 12, 13, 28, 29, 30, 31, 32, 33, 34, 35, 14, 15, 16, 17, 18, 19, 20, 21, 22] rfl rfl rfl rfl rfl rfl rfl 0 4 rfl rfl rfl rfl hl.1 rfl (Nat.le_of_ble_eq_true rfl) dL_load_4 ⟨Nat.le_of_ble_eq_true rfl, Nat.le_of_ble_eq_true rfl⟩ [{ startPc := 0, endPc := 9, handlerPc := 12, catchType := 20 }] { startPc := 0, endPc := 9, handlerPc := 15, catchType := 15 } [{ startPc := 0, endPc := 9, handlerPc := 18, catchType := 13 }] (by rw [htab]; rfl) (tp_cons (nm := exn 3) (by decide) (hts (.classLink RL 20 "java/lang/IndexOutOfBoundsException") lkL_load_c20) (hN 2 (by decide) 3 (by decide) (by decide)) tp_nil) rfl (by decide) (hts (.classLink RL 15 "java/lang/IllegalStateException") lkL_load_c15) rfl (fun H locs q hP hD hS => ?_)
        refine lv_astore_n (lv' := [(3, .ref q), (0, .ref (ad 0)), (1, .int a0), (2, .ref qo)]) hx hb dL_load_15 rfl hl (by decide) rfl (fun ls hl => ?_)
        refine lv_iconst (v := 2) hx hb dL_load_16 (by decide) ?_
        exact hret _ _ _ _ _ rfl hP hD hS dL_load_17
      replace h := ite_f hk2 h
      by_cases hk3 : k0 = 3
      · subst hk3
        cases h
        refine lwCw (k := 3) (rest := [.int 0, .ref qo]) (As := [.int a0]) (wr := List.filterMap (fun i => (wdF G ad c ++ [(qo, .inl (G.2 3, 1, .inr (.inl f)))])[i]?) [5, 6, 7, 8, 9, 10, 11, 12, 13, 14, 15, 16, 17, 18, 27, 28, 29, 30, 31, 32, 33, 34, 35]) (wf := wdF G ad (mkC c.gain c.il t1 t2 t3 t4 t5 c.ic t6 c.dn c.dm c.dj c.dt c.dx c.dy c.dr c.dv c.dw c.dq c.fw c.fs c.fh c.s0 c.s1 c.s2) ++ [(qo, .inl (G.2 3, 1, .inr (.inl f)))]) S (by decide) (cxX4_load l hfl G (ad 0) (ad 1) (ad 2) (ad 3) (ad 4) (ad 19) (ad 20) (ad 21) (ad 22) (ad 23) (ad 24) (ad 25) (ad 26) (ad 5) (ad 10) c.gain (ad 11) (ad 19) (ad 27) c.il c.ip c.ia c.ig c.is c.im c.ic c.iq c.s1.pr c.s1.a c.s1.b c.s1.c c.s1.d c.s1.sp c.s1.mi c.s1.ti c.s1.w c.s1.s c.s1.h c.s1.va c.s1.ov c.s1.ra c.s1.ol c.s1.od c.s1.ne a0 3 t1 t2 t3 t4 t5 t6 gx zT1 1 (by decide) (by rw [hs_a0]; decide) rfl) (cwV 1 hts gL_load_X4_load rfl rfl rfl hvX4_load ⟨Nat.le_of_ble_eq_true rfl, Nat.le_of_ble_eq_true rfl⟩) hK hT hP hD hS [0, 1, 2, 3, 4, 19, 20, 21, 22, 23, 24, 25, 26] [5, 6, 7, 8, 9, 10, 11, 12, 13, 14, 15, 16, 17, 18, 27, 28, 29, 30, 31, 32, 33, 34, 35] [23, 24, 25, 26, 27, 0, 1, 2, 3, 4, 5, 6, 7, 8, 9, 10, 11, 12, 13, 28, 29, 30, 31, 32, 33, 34, 35, 14, 15, 16, 17, 18, 19, 20, 21, 22] rfl rfl rfl rfl rfl rfl rfl 0 4 rfl rfl rfl rfl hl.1 rfl (Nat.le_of_ble_eq_true rfl) dL_load_4 ⟨Nat.le_of_ble_eq_true rfl, Nat.le_of_ble_eq_true rfl⟩ [] { startPc := 0, endPc := 9, handlerPc := 12, catchType := 20 } [{ startPc := 0, endPc := 9, handlerPc := 15, catchType := 15 }, { startPc := 0, endPc := 9, handlerPc := 18, catchType := 13 }] (by rw [htab]; rfl) tp_nil rfl (by decide) (hts (.classLink RL 20 "java/lang/IndexOutOfBoundsException") lkL_load_c20) rfl (fun H locs q hP hD hS => ?_)
        refine lv_astore_n (lv' := [(3, .ref q), (0, .ref (ad 0)), (1, .int a0), (2, .ref qo)]) hx hb dL_load_12 rfl hl (by decide) rfl (fun ls hl => ?_)
        refine lv_iconst (v := 1) hx hb dL_load_13 (by decide) ?_
        exact hret _ _ _ _ _ rfl hP hD hS dL_load_14
      cases (ite_f hk3 h)
    · obtain ⟨o0, o1, o2, o3, o4, o5, o6, o7, o8, o9, o10, o11, o12, o13, o14, o15, o16, o17, o18, o19, o20, o21, o22, o23, o24, g, h⟩ := bnd25_e h
      cases h
      refine rwV_back (rest := [.int 0, .ref qo]) (As := [.int a0]) (wr := List.filterMap (fun i => (wdF G ad c ++ [(qo, .inl (G.2 3, 1, .inr (.inl f)))])[i]?) [5, 6, 7, 8, 9, 10, 11, 12, 13, 14, 15, 16, 17, 18, 27, 28, 29, 30, 31, 32, 33, 34, 35]) (wf := wdF G ad (mkC c.gain o1 o2 o3 o4 o5 o6 c.ic o7 c.dn c.dm c.dj c.dt c.dx c.dy c.dr c.dv c.dw c.dq c.fw c.fs c.fh c.s0 (mkS o8 o9 o10 o11 o12 o13 o14 o15 o16 o17 o18 o19 o20 o21 o22 o23 o24) c.s2) ++ [(qo, .inl (G.2 3, 1, .inr (.inl f)))]) S (ctX4_load l G (ad 0) (ad 1) (ad 2) (ad 3) (ad 4) (ad 19) (ad 20) (ad 21) (ad 22) (ad 23) (ad 24) (ad 25) (ad 26) (ad 5) (ad 10) c.gain (ad 11) (ad 19) (ad 27) c.il c.ip c.ia c.ig c.is c.im c.ic c.iq c.s1.pr c.s1.a c.s1.b c.s1.c c.s1.d c.s1.sp c.s1.mi c.s1.ti c.s1.w c.s1.s c.s1.h c.s1.va c.s1.ov c.s1.ra c.s1.ol c.s1.od c.s1.ne a0 o0 o1 o2 o3 o4 o5 o6 o7 o8 o9 o10 o11 o12 o13 o14 o15 o16 o17 o18 o19 o20 o21 o22 o23 o24 g zA1 1 (by decide) (by rw [hs_a0]; decide) rfl) (cwV 1 hts gL_load_X4_load rfl rfl rfl hvX4_load ⟨Nat.le_of_ble_eq_true rfl, Nat.le_of_ble_eq_true rfl⟩) hK hP hD hS (SK.blind _) (fun U hU hW => SK.call hX hA hD hS [0, 1, 2, 3, 4, 19, 20, 21, 22, 23, 24, 25, 26] rfl hU hW) [0, 1, 2, 3, 4, 19, 20, 21, 22, 23, 24, 25, 26] [5, 6, 7, 8, 9, 10, 11, 12, 13, 14, 15, 16, 17, 18, 27, 28, 29, 30, 31, 32, 33, 34, 35] [23, 24, 25, 26, 27, 0, 1, 2, 3, 4, 5, 6, 7, 8, 9, 10, 11, 12, 13, 28, 29, 30, 31, 32, 33, 34, 35, 14, 15, 16, 17, 18, 19, 20, 21, 22] rfl rfl rfl rfl rfl rfl rfl 0 4 rfl rfl rfl rfl hl.1 rfl (Nat.le_of_ble_eq_true rfl) dL_load_4 ⟨Nat.zero_le _, Nat.zero_le _⟩ (fun _ H locs hP hD hS => ?_)
      refine lv_i2l hx hb dL_load_7 rfl ?_
      refine va_last hx hb hK.1 hP hD hS 35 3 rfl rfl (i := 0) (vp_in_iff.mpr ⟨by decide, by decide⟩) dL_load_8 (fun H locs hP hD hS => ?_)
      refine lv_goto (tgt := 21) hx hb dL_load_9 (by decide) ?_
      refine lv_iconst (v := 0) hx hb dL_load_21 (by decide) ?_
      refine W.widen (k := 1) (n := 6) (by omega) (by omega) ?_
      exact hret _ _ _ _ _ rfl hP hD hS dL_load_22
  replace h := ite_f hs_a0 h
  have hn_a01 := hs_a0
  clear hs_a0
  by_cases hs_a0 : a0 = 2
  · replace h := ite_t hs_a0 h
    rcases lq_e h with ⟨⟨k0, t1, t2, t3, t4, t5, t6⟩, gx, h⟩ | ⟨gx, h⟩
    · dsimp only at h
      by_cases hk1 : k0 = 1
      · subst hk1
        cases h
        refine lwCw (k := 1) (rest := [.int 0, .ref qo]) (As := [.int a0]) (wr := List.filterMap (fun i => (wdF G ad c ++ [(qo, .inl (G.2 3, 1, .inr (.inl f)))])[i]?) [5, 6, 7, 8, 9, 10, 11, 12, 13, 14, 15, 16, 17, 18, 19, 20, 21, 22, 23, 24, 25, 26, 35]) (wf := wdF G ad (mkC c.gain c.il t1 t2 t3 t4 t5 c.ic t6 c.dn c.dm c.dj c.dt c.dx c.dy c.dr c.dv c.dw c.dq c.fw c.fs c.fh c.s0 c.s1 c.s2) ++ [(qo, .inl (G.2 3, 1, .inr (.inl f)))]) S (by decide) (cxX4_load l hfl G (ad 0) (ad 1) (ad 2) (ad 3) (ad 4) (ad 27) (ad 28) (ad 29) (ad 30) (ad 31) (ad 32) (ad 33) (ad 34) (ad 5) (ad 10) c.gain (ad 11) (ad 19) (ad 27) c.il c.ip c.ia c.ig c.is c.im c.ic c.iq c.s2.pr c.s2.a c.s2.b c.s2.c c.s2.d c.s2.sp c.s2.mi c.s2.ti c.s2.w c.s2.s c.s2.h c.s2.va c.s2.ov c.s2.ra c.s2.ol c.s2.od c.s2.ne a0 1 t1 t2 t3 t4 t5 t6 gx zT2 2 (by decide) (by rw [hs_a0]; decide) rfl) (cwV 1 hts gL_load_X4_load rfl rfl rfl hvX4_load ⟨Nat.le_of_ble_eq_true rfl, Nat.le_of_ble_eq_true rfl⟩) hK hT hP hD hS [0, 1, 2, 3, 4, 27, 28, 29, 30, 31, 32, 33, 34] [5, 6, 7, 8, 9, 10, 11, 12, 13, 14, 15, 16, 17, 18, 19, 20, 21, 22, 23, 24, 25, 26, 35] [23, 24, 25, 26, 27, 0, 1, 2, 3, 4, 5, 6, 7, 8, 9, 10, 11, 12, 13, 14, 15, 16, 17, 18, 19, 20, 21, 28, 29, 30, 31, 32, 33, 34, 35, 22] rfl rfl rfl rfl rfl rfl rfl 0 4 rfl rfl rfl rfl hl.1 rfl (Nat.le_of_ble_eq_true rfl) dL_load_4 ⟨Nat.le_of_ble_eq_true rfl, Nat.le_of_ble_eq_true rfl⟩ [{ startPc := 0, endPc := 9, handlerPc := 12, catchType := 20 }, { startPc := 0, endPc := 9, handlerPc := 15, catchType := 15 }] { startPc := 0, endPc := 9, handlerPc := 18, catchType := 13 } [] (by rw [htab]; rfl) (tp_cons (nm := exn 3) (by decide) (hts (.classLink RL 20 "java/lang/IndexOutOfBoundsException") lkL_load_c20) (hN 1 (by decide) 3 (by decide) (by decide)) (tp_cons (nm := exn 2) (by decide) (hts (.classLink RL 15 "java/lang/IllegalStateException") lkL_load_c15) (hN 1 (by decide) 2 (by decide) (by decide)) tp_nil)) rfl (by decide) (hts (.classLink RL 13 "java/lang/IllegalArgumentException") lkL_load_c13) rfl (fun H locs q hP hD hS => ?_)
        refine lv_astore_n (lv' := [(3, .ref q), (0, .ref (ad 0)), (1, .int a0), (2, .ref qo)]) hx hb dL_load_18 rfl hl (by decide) rfl (fun ls hl => ?_)
        refine lv_iconst (v := 3) hx hb dL_load_19 (by decide) ?_
        exact hret _ _ _ _ _ rfl hP hD hS dL_load_20
      replace h := ite_f hk1 h
      by_cases hk2 : k0 = 2
      · subst hk2
        cases h
        refine lwCw (k := 2) (rest := [.int 0, .ref qo]) (As := [.int a0]) (wr := List.filterMap (fun i => (wdF G ad c ++ [(qo, .inl (G.2 3, 1, .inr (.inl f)))])[i]?) [5, 6, 7, 8, 9, 10, 11, 12, 13, 14, 15, 16, 17, 18, 19, 20, 21, 22, 23, 24, 25, 26, 35]) (wf := wdF G ad (mkC c.gain c.il t1 t2 t3 t4 t5 c.ic t6 c.dn c.dm c.dj c.dt c.dx c.dy c.dr c.dv c.dw c.dq c.fw c.fs c.fh c.s0 c.s1 c.s2) ++ [(qo, .inl (G.2 3, 1, .inr (.inl f)))]) S (by decide) (cxX4_load l hfl G (ad 0) (ad 1) (ad 2) (ad 3) (ad 4) (ad 27) (ad 28) (ad 29) (ad 30) (ad 31) (ad 32) (ad 33) (ad 34) (ad 5) (ad 10) c.gain (ad 11) (ad 19) (ad 27) c.il c.ip c.ia c.ig c.is c.im c.ic c.iq c.s2.pr c.s2.a c.s2.b c.s2.c c.s2.d c.s2.sp c.s2.mi c.s2.ti c.s2.w c.s2.s c.s2.h c.s2.va c.s2.ov c.s2.ra c.s2.ol c.s2.od c.s2.ne a0 2 t1 t2 t3 t4 t5 t6 gx zT2 2 (by decide) (by rw [hs_a0]; decide) rfl) (cwV 1 hts gL_load_X4_load rfl rfl rfl hvX4_load ⟨Nat.le_of_ble_eq_true rfl, Nat.le_of_ble_eq_true rfl⟩) hK hT hP hD hS [0, 1, 2, 3, 4, 27, 28, 29, 30, 31, 32, 33, 34] [5, 6, 7, 8, 9, 10, 11, 12, 13, 14, 15, 16, 17, 18, 19, 20, 21, 22, 23, 24, 25, 26, 35] [23, 24, 25, 26, 27, 0, 1, 2, 3, 4, 5, 6, 7, 8, 9, 10, 11, 12, 13, 14, 15, 16, 17, 18, 19, 20, 21, 28, 29, 30, 31, 32, 33, 34, 35, 22] rfl rfl rfl rfl rfl rfl rfl 0 4 rfl rfl rfl rfl hl.1 rfl (Nat.le_of_ble_eq_true rfl) dL_load_4 ⟨Nat.le_of_ble_eq_true rfl, Nat.le_of_ble_eq_true rfl⟩ [{ startPc := 0, endPc := 9, handlerPc := 12, catchType := 20 }] { startPc := 0, endPc := 9, handlerPc := 15, catchType := 15 } [{ startPc := 0, endPc := 9, handlerPc := 18, catchType := 13 }] (by rw [htab]; rfl) (tp_cons (nm := exn 3) (by decide) (hts (.classLink RL 20 "java/lang/IndexOutOfBoundsException") lkL_load_c20) (hN 2 (by decide) 3 (by decide) (by decide)) tp_nil) rfl (by decide) (hts (.classLink RL 15 "java/lang/IllegalStateException") lkL_load_c15) rfl (fun H locs q hP hD hS => ?_)
        refine lv_astore_n (lv' := [(3, .ref q), (0, .ref (ad 0)), (1, .int a0), (2, .ref qo)]) hx hb dL_load_15 rfl hl (by decide) rfl (fun ls hl => ?_)
        refine lv_iconst (v := 2) hx hb dL_load_16 (by decide) ?_
        exact hret _ _ _ _ _ rfl hP hD hS dL_load_17
      replace h := ite_f hk2 h
      by_cases hk3 : k0 = 3
      · subst hk3
        cases h
        refine lwCw (k := 3) (rest := [.int 0, .ref qo]) (As := [.int a0]) (wr := List.filterMap (fun i => (wdF G ad c ++ [(qo, .inl (G.2 3, 1, .inr (.inl f)))])[i]?) [5, 6, 7, 8, 9, 10, 11, 12, 13, 14, 15, 16, 17, 18, 19, 20, 21, 22, 23, 24, 25, 26, 35]) (wf := wdF G ad (mkC c.gain c.il t1 t2 t3 t4 t5 c.ic t6 c.dn c.dm c.dj c.dt c.dx c.dy c.dr c.dv c.dw c.dq c.fw c.fs c.fh c.s0 c.s1 c.s2) ++ [(qo, .inl (G.2 3, 1, .inr (.inl f)))]) S (by decide) (cxX4_load l hfl G (ad 0) (ad 1) (ad 2) (ad 3) (ad 4) (ad 27) (ad 28) (ad 29) (ad 30) (ad 31) (ad 32) (ad 33) (ad 34) (ad 5) (ad 10) c.gain (ad 11) (ad 19) (ad 27) c.il c.ip c.ia c.ig c.is c.im c.ic c.iq c.s2.pr c.s2.a c.s2.b c.s2.c c.s2.d c.s2.sp c.s2.mi c.s2.ti c.s2.w c.s2.s c.s2.h c.s2.va c.s2.ov c.s2.ra c.s2.ol c.s2.od c.s2.ne a0 3 t1 t2 t3 t4 t5 t6 gx zT2 2 (by decide) (by rw [hs_a0]; decide) rfl) (cwV 1 hts gL_load_X4_load rfl rfl rfl hvX4_load ⟨Nat.le_of_ble_eq_true rfl, Nat.le_of_ble_eq_true rfl⟩) hK hT hP hD hS [0, 1, 2, 3, 4, 27, 28, 29, 30, 31, 32, 33, 34] [5, 6, 7, 8, 9, 10, 11, 12, 13, 14, 15, 16, 17, 18, 19, 20, 21, 22, 23, 24, 25, 26, 35] [23, 24, 25, 26, 27, 0, 1, 2, 3, 4, 5, 6, 7, 8, 9, 10, 11, 12, 13, 14, 15, 16, 17, 18, 19, 20, 21, 28, 29, 30, 31, 32, 33, 34, 35, 22] rfl rfl rfl rfl rfl rfl rfl 0 4 rfl rfl rfl rfl hl.1 rfl (Nat.le_of_ble_eq_true rfl) dL_load_4 ⟨Nat.le_of_ble_eq_true rfl, Nat.le_of_ble_eq_true rfl⟩ [] { startPc := 0, endPc := 9, handlerPc := 12, catchType := 20 } [{ startPc := 0, endPc := 9, handlerPc := 15, catchType := 15 }, { startPc := 0, endPc := 9, handlerPc := 18, catchType := 13 }] (by rw [htab]; rfl) tp_nil rfl (by decide) (hts (.classLink RL 20 "java/lang/IndexOutOfBoundsException") lkL_load_c20) rfl (fun H locs q hP hD hS => ?_)
        refine lv_astore_n (lv' := [(3, .ref q), (0, .ref (ad 0)), (1, .int a0), (2, .ref qo)]) hx hb dL_load_12 rfl hl (by decide) rfl (fun ls hl => ?_)
        refine lv_iconst (v := 1) hx hb dL_load_13 (by decide) ?_
        exact hret _ _ _ _ _ rfl hP hD hS dL_load_14
      cases (ite_f hk3 h)
    · obtain ⟨o0, o1, o2, o3, o4, o5, o6, o7, o8, o9, o10, o11, o12, o13, o14, o15, o16, o17, o18, o19, o20, o21, o22, o23, o24, g, h⟩ := bnd25_e h
      cases h
      refine rwV_back (rest := [.int 0, .ref qo]) (As := [.int a0]) (wr := List.filterMap (fun i => (wdF G ad c ++ [(qo, .inl (G.2 3, 1, .inr (.inl f)))])[i]?) [5, 6, 7, 8, 9, 10, 11, 12, 13, 14, 15, 16, 17, 18, 19, 20, 21, 22, 23, 24, 25, 26, 35]) (wf := wdF G ad (mkC c.gain o1 o2 o3 o4 o5 o6 c.ic o7 c.dn c.dm c.dj c.dt c.dx c.dy c.dr c.dv c.dw c.dq c.fw c.fs c.fh c.s0 c.s1 (mkS o8 o9 o10 o11 o12 o13 o14 o15 o16 o17 o18 o19 o20 o21 o22 o23 o24)) ++ [(qo, .inl (G.2 3, 1, .inr (.inl f)))]) S (ctX4_load l G (ad 0) (ad 1) (ad 2) (ad 3) (ad 4) (ad 27) (ad 28) (ad 29) (ad 30) (ad 31) (ad 32) (ad 33) (ad 34) (ad 5) (ad 10) c.gain (ad 11) (ad 19) (ad 27) c.il c.ip c.ia c.ig c.is c.im c.ic c.iq c.s2.pr c.s2.a c.s2.b c.s2.c c.s2.d c.s2.sp c.s2.mi c.s2.ti c.s2.w c.s2.s c.s2.h c.s2.va c.s2.ov c.s2.ra c.s2.ol c.s2.od c.s2.ne a0 o0 o1 o2 o3 o4 o5 o6 o7 o8 o9 o10 o11 o12 o13 o14 o15 o16 o17 o18 o19 o20 o21 o22 o23 o24 g zA2 2 (by decide) (by rw [hs_a0]; decide) rfl) (cwV 1 hts gL_load_X4_load rfl rfl rfl hvX4_load ⟨Nat.le_of_ble_eq_true rfl, Nat.le_of_ble_eq_true rfl⟩) hK hP hD hS (SK.blind _) (fun U hU hW => SK.call hX hA hD hS [0, 1, 2, 3, 4, 27, 28, 29, 30, 31, 32, 33, 34] rfl hU hW) [0, 1, 2, 3, 4, 27, 28, 29, 30, 31, 32, 33, 34] [5, 6, 7, 8, 9, 10, 11, 12, 13, 14, 15, 16, 17, 18, 19, 20, 21, 22, 23, 24, 25, 26, 35] [23, 24, 25, 26, 27, 0, 1, 2, 3, 4, 5, 6, 7, 8, 9, 10, 11, 12, 13, 14, 15, 16, 17, 18, 19, 20, 21, 28, 29, 30, 31, 32, 33, 34, 35, 22] rfl rfl rfl rfl rfl rfl rfl 0 4 rfl rfl rfl rfl hl.1 rfl (Nat.le_of_ble_eq_true rfl) dL_load_4 ⟨Nat.zero_le _, Nat.zero_le _⟩ (fun _ H locs hP hD hS => ?_)
      refine lv_i2l hx hb dL_load_7 rfl ?_
      refine va_last hx hb hK.1 hP hD hS 35 3 rfl rfl (i := 0) (vp_in_iff.mpr ⟨by decide, by decide⟩) dL_load_8 (fun H locs hP hD hS => ?_)
      refine lv_goto (tgt := 21) hx hb dL_load_9 (by decide) ?_
      refine lv_iconst (v := 0) hx hb dL_load_21 (by decide) ?_
      refine W.widen (k := 1) (n := 6) (by omega) (by omega) ?_
      exact hret _ _ _ _ _ rfl hP hD hS dL_load_22
  replace h := ite_f hs_a0 h
  have hn_a02 := hs_a0
  clear hs_a0
  have ho_a0 := slot_out hn_a00 hn_a01 hn_a02
  cases h
  refine lwC (k := 3) (rest := [.int 0, .ref qo]) (As := [.int a0]) S (by decide) (cxX4_loado l hfl G (ad 0) (ad 1) (ad 2) (ad 5) (ad 10) c.gain (ad 11) (ad 19) (ad 27) a0 ho_a0) (cwV 1 hts gL_load_X4_load rfl rfl rfl hvX4_load ⟨Nat.le_of_ble_eq_true rfl, Nat.le_of_ble_eq_true rfl⟩) hK hT hP hD hS [0, 1] rfl 0 4 rfl rfl rfl rfl hl.1 rfl (Nat.le_of_ble_eq_true rfl) dL_load_4 ⟨Nat.le_of_ble_eq_true rfl, Nat.le_of_ble_eq_true rfl⟩ [] { startPc := 0, endPc := 9, handlerPc := 12, catchType := 20 } [{ startPc := 0, endPc := 9, handlerPc := 15, catchType := 15 }, { startPc := 0, endPc := 9, handlerPc := 18, catchType := 13 }] (by rw [htab]; rfl) tp_nil rfl (by decide) (hts (.classLink RL 20 "java/lang/IndexOutOfBoundsException") lkL_load_c20) rfl (fun H locs q hP hD hS => ?_)
  refine lv_astore_n (lv' := [(3, .ref q), (0, .ref (ad 0)), (1, .int a0), (2, .ref qo)]) hx hb dL_load_12 rfl hl (by decide) rfl (fun ls hl => ?_)
  refine lv_iconst (v := 1) hx hb dL_load_13 (by decide) ?_
  exact hret _ _ _ _ _ rfl hP hD hS dL_load_14
abbrev rmL_setCenter : Room := { frames := 8, cells := 1, slots := 6, locals := 163 }
theorem hsX4_setCenter : yX4_setCenter.cls ≠ "java/lang/invoke/MethodHandle" ∧ yX4_setCenter.cls ≠ "java/lang/invoke/VarHandle" ∧ (parseMethodDescriptor yX4_setCenter.desc).map (fun d => d.parameters.length) = some 2 := by decide +kernel
theorem hvX4_setCenter : yX4_setCenter.cls = RX4 ∧ yX4_setCenter.cls ≠ "java/lang/invoke/MethodHandle" ∧ yX4_setCenter.cls ≠ "java/lang/invoke/VarHandle" ∧ (parseMethodDescriptor yX4_setCenter.desc).map (fun d => d.parameters.length) = some 2 := ⟨rfl, hsX4_setCenter⟩
theorem lkL_setCenter_c20 : Cond.classLink RL 20 "java/lang/IndexOutOfBoundsException" ∈ wsL_setCenter := List.mem_of_getElem? (i := 1) rfl
theorem lkL_setCenter_c15 : Cond.classLink RL 15 "java/lang/IllegalStateException" ∈ wsL_setCenter := List.mem_of_getElem? (i := 2) rfl
set_option maxHeartbeats 4000000 in
set_option maxRecDepth 100000 in
theorem lw_setCenter (l : Launch) (hfl : l.stackTraces = false) (G : GG) (ad : Nat → Nat) (qo : Nat) (c c' : Cls) (f f' : Nat → Int64) (a0 : Int32) (a1 : Int32) (r0 : Int32) (h : lm_setCenter c f a0 a1 = some (r0, c', f')) (z_a1 : isZ a1) : Met l yL_setCenter wsL_setCenter rmL_setCenter (va_Pc [.ref (ad 0), .int a0, .int a1, .ref qo] (PreD G (wdF G ad c ++ [(qo, .inl (G.2 3, 1, .inr (.inl f)))]) (XL (wdF G ad c ++ [(qo, .inl (G.2 3, 1, .inr (.inl f)))])))) (QwA G (va_A0 (wdF G ad c ++ [(qo, .inl (G.2 3, 1, .inr (.inl f)))])) (wdF G ad c' ++ [(qo, .inl (G.2 3, 1, .inr (.inl f')))]) (some (.int r0)) True) 1 6 (va_A0 (wdF G ad c ++ [(qo, .inl (G.2 3, 1, .inr (.inl f)))])) := by
  refine of_lw (cc := cL_setCenter) (maxL := 5) (hh := [(0, 10, 13, 20), (0, 10, 17, 15)]) (by decide) rfl (Nat.le_of_ble_eq_true rfl) ?_
  intro p e s m args below meth c1 ls Q A S htab hl hP hD hS hK hT hN hX hA hret
  obtain ⟨H, hH⟩ : ∃ H, H = s.heap := ⟨_, rfl⟩
  obtain ⟨locs, hlocs⟩ : ∃ L : List Loc, L = [] := ⟨_, rfl⟩
  rw [← hlocs]
  rw [← hlocs] at hS
  have hP : va_P G.1 vwCl (wdF G ad c ++ [(qo, .inl (G.2 3, 1, .inr (.inl f)))]) H := by rw [hH]; exact hP
  have hS : va_S A s.heap H locs := by rw [hH]; exact hS
  have hT : TT A s H := by rw [hH]; exact hT
  suffices hgo : W p l e rmL_setCenter s m args below meth c1 H locs 0 0 Q (F0 m 0 ls []) by rw [hH] at hgo; exact hgo
  have S : CallFix p m c1 cL_setCenter 5 s args wsL_setCenter RL := S
  obtain ⟨hx, hb, hml, hown, hts⟩ := id S
  have hl : lv_has ls 5 [(0, .ref (ad 0)), (1, .int a0), (2, .int a1), (3, .ref qo)] := hl
  unfold lm_setCenter at h
  refine lv_aload_n hx hb dL_setCenter_0 rfl (lv_at hl 3 rfl) ?_
  refine lv_iconst (v := 0) hx hb dL_setCenter_1 (by decide) ?_
  refine lv_aload_n hx hb dL_setCenter_2 rfl (lv_at hl 0 rfl) ?_
  refine lv_iload_n hx hb dL_setCenter_3 rfl (lv_at hl 1 rfl) ?_
  refine lv_iload_n hx hb dL_setCenter_4 rfl (lv_at hl 2 rfl) ?_
  by_cases hs_a0 : a0 = 0
  · replace h := ite_t hs_a0 h
    rcases lq_e h with ⟨k0, gx, h⟩ | ⟨gx, h⟩
    · by_cases hk2 : k0 = 2
      · subst hk2
        cases h
        refine lwC (k := 2) (rest := [.int 0, .ref qo]) (As := [.int a0, .int a1]) S (by decide) (cxX4_setCenter l hfl G (ad 0) (ad 1) (ad 11) (ad 12) (ad 13) (ad 14) (ad 15) (ad 16) (ad 17) (ad 18) (ad 2) (ad 5) (ad 10) c.gain (ad 11) (ad 19) (ad 27) c.s0.pr c.s0.a c.s0.b c.s0.c c.s0.d c.s0.sp c.s0.mi c.s0.ti c.s0.w c.s0.s c.s0.h c.s0.va c.s0.ov c.s0.ra c.s0.ol c.s0.od c.s0.ne a0 a1 2 gx 0 (by decide) (by rw [hs_a0]; decide) rfl) (cwV 2 hts gL_setCenter_X4_setCenter rfl rfl rfl hvX4_setCenter ⟨Nat.le_of_ble_eq_true rfl, Nat.le_of_ble_eq_true rfl⟩) hK hT hP hD hS [0, 1, 11, 12, 13, 14, 15, 16, 17, 18] rfl 0 4 rfl rfl rfl rfl hl.1 rfl (Nat.le_of_ble_eq_true rfl) dL_setCenter_5 ⟨Nat.le_of_ble_eq_true rfl, Nat.le_of_ble_eq_true rfl⟩ [{ startPc := 0, endPc := 10, handlerPc := 13, catchType := 20 }] { startPc := 0, endPc := 10, handlerPc := 17, catchType := 15 } [] (by rw [htab]; rfl) (tp_cons (nm := exn 3) (by decide) (hts (.classLink RL 20 "java/lang/IndexOutOfBoundsException") lkL_setCenter_c20) (hN 2 (by decide) 3 (by decide) (by decide)) tp_nil) rfl (by decide) (hts (.classLink RL 15 "java/lang/IllegalStateException") lkL_setCenter_c15) rfl (fun H locs q hP hD hS => ?_)
        refine lv_astore (lv' := [(4, .ref q), (0, .ref (ad 0)), (1, .int a0), (2, .int a1), (3, .ref qo)]) hx hb dL_setCenter_17 hl (by decide) rfl (fun ls hl => ?_)
        refine lv_iconst (v := 2) hx hb dL_setCenter_19 (by decide) ?_
        exact hret _ _ _ _ _ rfl hP hD hS dL_setCenter_20
      replace h := ite_f hk2 h
      by_cases hk3 : k0 = 3
      · subst hk3
        cases h
        refine lwC (k := 3) (rest := [.int 0, .ref qo]) (As := [.int a0, .int a1]) S (by decide) (cxX4_setCenter l hfl G (ad 0) (ad 1) (ad 11) (ad 12) (ad 13) (ad 14) (ad 15) (ad 16) (ad 17) (ad 18) (ad 2) (ad 5) (ad 10) c.gain (ad 11) (ad 19) (ad 27) c.s0.pr c.s0.a c.s0.b c.s0.c c.s0.d c.s0.sp c.s0.mi c.s0.ti c.s0.w c.s0.s c.s0.h c.s0.va c.s0.ov c.s0.ra c.s0.ol c.s0.od c.s0.ne a0 a1 3 gx 0 (by decide) (by rw [hs_a0]; decide) rfl) (cwV 2 hts gL_setCenter_X4_setCenter rfl rfl rfl hvX4_setCenter ⟨Nat.le_of_ble_eq_true rfl, Nat.le_of_ble_eq_true rfl⟩) hK hT hP hD hS [0, 1, 11, 12, 13, 14, 15, 16, 17, 18] rfl 0 4 rfl rfl rfl rfl hl.1 rfl (Nat.le_of_ble_eq_true rfl) dL_setCenter_5 ⟨Nat.le_of_ble_eq_true rfl, Nat.le_of_ble_eq_true rfl⟩ [] { startPc := 0, endPc := 10, handlerPc := 13, catchType := 20 } [{ startPc := 0, endPc := 10, handlerPc := 17, catchType := 15 }] (by rw [htab]; rfl) tp_nil rfl (by decide) (hts (.classLink RL 20 "java/lang/IndexOutOfBoundsException") lkL_setCenter_c20) rfl (fun H locs q hP hD hS => ?_)
        refine lv_astore (lv' := [(4, .ref q), (0, .ref (ad 0)), (1, .int a0), (2, .int a1), (3, .ref qo)]) hx hb dL_setCenter_13 hl (by decide) rfl (fun ls hl => ?_)
        refine lv_iconst (v := 1) hx hb dL_setCenter_15 (by decide) ?_
        exact hret _ _ _ _ _ rfl hP hD hS dL_setCenter_16
      cases (ite_f hk3 h)
    · obtain ⟨o0, o1, o2, o3, o4, o5, o6, o7, o8, o9, o10, g, h⟩ := bnd11_e h
      cases h
      refine rwV_back (rest := [.int 0, .ref qo]) (As := [.int a0, .int a1]) (wr := List.filterMap (fun i => (wdF G ad c ++ [(qo, .inl (G.2 3, 1, .inr (.inl f)))])[i]?) [2, 3, 4, 5, 6, 7, 8, 9, 10, 19, 20, 21, 22, 23, 24, 25, 26, 27, 28, 29, 30, 31, 32, 33, 34, 35]) (wf := wdF G ad (mkC c.gain c.il c.ip c.ia c.ig c.is c.im c.ic c.iq c.dn c.dm c.dj c.dt c.dx c.dy c.dr c.dv c.dw c.dq c.fw c.fs c.fh (mkS c.s0.pr c.s0.a c.s0.b c.s0.c c.s0.d c.s0.sp o1 c.s0.ti o2 o3 o4 o5 o6 o7 o8 o9 o10) c.s1 c.s2) ++ [(qo, .inl (G.2 3, 1, .inr (.inl f)))]) S (ctX4_setCenter l G (ad 0) (ad 1) (ad 11) (ad 12) (ad 13) (ad 14) (ad 15) (ad 16) (ad 17) (ad 18) (ad 2) (ad 5) (ad 10) c.gain (ad 11) (ad 19) (ad 27) c.s0.pr c.s0.a c.s0.b c.s0.c c.s0.d c.s0.sp c.s0.mi c.s0.ti c.s0.w c.s0.s c.s0.h c.s0.va c.s0.ov c.s0.ra c.s0.ol c.s0.od c.s0.ne a0 a1 o0 o1 o2 o3 o4 o5 o6 o7 o8 o9 o10 g z_a1 0 (by decide) (by rw [hs_a0]; decide) rfl) (cwV 2 hts gL_setCenter_X4_setCenter rfl rfl rfl hvX4_setCenter ⟨Nat.le_of_ble_eq_true rfl, Nat.le_of_ble_eq_true rfl⟩) hK hP hD hS (SK.blind _) (fun U hU hW => SK.call hX hA hD hS [0, 1, 11, 12, 13, 14, 15, 16, 17, 18] rfl hU hW) [0, 1, 11, 12, 13, 14, 15, 16, 17, 18] [2, 3, 4, 5, 6, 7, 8, 9, 10, 19, 20, 21, 22, 23, 24, 25, 26, 27, 28, 29, 30, 31, 32, 33, 34, 35] [26, 27, 0, 1, 2, 3, 4, 5, 6, 7, 8, 28, 29, 30, 31, 32, 33, 34, 35, 9, 10, 11, 12, 13, 14, 15, 16, 17, 18, 19, 20, 21, 22, 23, 24, 25] rfl rfl rfl rfl rfl rfl rfl 0 4 rfl rfl rfl rfl hl.1 rfl (Nat.le_of_ble_eq_true rfl) dL_setCenter_5 ⟨Nat.zero_le _, Nat.zero_le _⟩ (fun _ H locs hP hD hS => ?_)
      refine lv_i2l hx hb dL_setCenter_8 rfl ?_
      refine va_last hx hb hK.1 hP hD hS 35 3 rfl rfl (i := 0) (vp_in_iff.mpr ⟨by decide, by decide⟩) dL_setCenter_9 (fun H locs hP hD hS => ?_)
      refine lv_goto (tgt := 21) hx hb dL_setCenter_10 (by decide) ?_
      refine lv_iconst (v := 0) hx hb dL_setCenter_21 (by decide) ?_
      refine W.widen (k := 1) (n := 6) (by omega) (by omega) ?_
      exact hret _ _ _ _ _ rfl hP hD hS dL_setCenter_22
  replace h := ite_f hs_a0 h
  have hn_a00 := hs_a0
  clear hs_a0
  by_cases hs_a0 : a0 = 1
  · replace h := ite_t hs_a0 h
    rcases lq_e h with ⟨k0, gx, h⟩ | ⟨gx, h⟩
    · by_cases hk2 : k0 = 2
      · subst hk2
        cases h
        refine lwC (k := 2) (rest := [.int 0, .ref qo]) (As := [.int a0, .int a1]) S (by decide) (cxX4_setCenter l hfl G (ad 0) (ad 1) (ad 19) (ad 20) (ad 21) (ad 22) (ad 23) (ad 24) (ad 25) (ad 26) (ad 2) (ad 5) (ad 10) c.gain (ad 11) (ad 19) (ad 27) c.s1.pr c.s1.a c.s1.b c.s1.c c.s1.d c.s1.sp c.s1.mi c.s1.ti c.s1.w c.s1.s c.s1.h c.s1.va c.s1.ov c.s1.ra c.s1.ol c.s1.od c.s1.ne a0 a1 2 gx 1 (by decide) (by rw [hs_a0]; decide) rfl) (cwV 2 hts gL_setCenter_X4_setCenter rfl rfl rfl hvX4_setCenter ⟨Nat.le_of_ble_eq_true rfl, Nat.le_of_ble_eq_true rfl⟩) hK hT hP hD hS [0, 1, 19, 20, 21, 22, 23, 24, 25, 26] rfl 0 4 rfl rfl rfl rfl hl.1 rfl (Nat.le_of_ble_eq_true rfl) dL_setCenter_5 ⟨Nat.le_of_ble_eq_true rfl, Nat.le_of_ble_eq_true rfl⟩ [{ startPc := 0, endPc := 10, handlerPc := 13, catchType := 20 }] { startPc := 0, endPc := 10, handlerPc := 17, catchType := 15 } [] (by rw [htab]; rfl) (tp_cons (nm := exn 3) (by decide) (hts (.classLink RL 20 "java/lang/IndexOutOfBoundsException") lkL_setCenter_c20) (hN 2 (by decide) 3 (by decide) (by decide)) tp_nil) rfl (by decide) (hts (.classLink RL 15 "java/lang/IllegalStateException") lkL_setCenter_c15) rfl (fun H locs q hP hD hS => ?_)
        refine lv_astore (lv' := [(4, .ref q), (0, .ref (ad 0)), (1, .int a0), (2, .int a1), (3, .ref qo)]) hx hb dL_setCenter_17 hl (by decide) rfl (fun ls hl => ?_)
        refine lv_iconst (v := 2) hx hb dL_setCenter_19 (by decide) ?_
        exact hret _ _ _ _ _ rfl hP hD hS dL_setCenter_20
      replace h := ite_f hk2 h
      by_cases hk3 : k0 = 3
      · subst hk3
        cases h
        refine lwC (k := 3) (rest := [.int 0, .ref qo]) (As := [.int a0, .int a1]) S (by decide) (cxX4_setCenter l hfl G (ad 0) (ad 1) (ad 19) (ad 20) (ad 21) (ad 22) (ad 23) (ad 24) (ad 25) (ad 26) (ad 2) (ad 5) (ad 10) c.gain (ad 11) (ad 19) (ad 27) c.s1.pr c.s1.a c.s1.b c.s1.c c.s1.d c.s1.sp c.s1.mi c.s1.ti c.s1.w c.s1.s c.s1.h c.s1.va c.s1.ov c.s1.ra c.s1.ol c.s1.od c.s1.ne a0 a1 3 gx 1 (by decide) (by rw [hs_a0]; decide) rfl) (cwV 2 hts gL_setCenter_X4_setCenter rfl rfl rfl hvX4_setCenter ⟨Nat.le_of_ble_eq_true rfl, Nat.le_of_ble_eq_true rfl⟩) hK hT hP hD hS [0, 1, 19, 20, 21, 22, 23, 24, 25, 26] rfl 0 4 rfl rfl rfl rfl hl.1 rfl (Nat.le_of_ble_eq_true rfl) dL_setCenter_5 ⟨Nat.le_of_ble_eq_true rfl, Nat.le_of_ble_eq_true rfl⟩ [] { startPc := 0, endPc := 10, handlerPc := 13, catchType := 20 } [{ startPc := 0, endPc := 10, handlerPc := 17, catchType := 15 }] (by rw [htab]; rfl) tp_nil rfl (by decide) (hts (.classLink RL 20 "java/lang/IndexOutOfBoundsException") lkL_setCenter_c20) rfl (fun H locs q hP hD hS => ?_)
        refine lv_astore (lv' := [(4, .ref q), (0, .ref (ad 0)), (1, .int a0), (2, .int a1), (3, .ref qo)]) hx hb dL_setCenter_13 hl (by decide) rfl (fun ls hl => ?_)
        refine lv_iconst (v := 1) hx hb dL_setCenter_15 (by decide) ?_
        exact hret _ _ _ _ _ rfl hP hD hS dL_setCenter_16
      cases (ite_f hk3 h)
    · obtain ⟨o0, o1, o2, o3, o4, o5, o6, o7, o8, o9, o10, g, h⟩ := bnd11_e h
      cases h
      refine rwV_back (rest := [.int 0, .ref qo]) (As := [.int a0, .int a1]) (wr := List.filterMap (fun i => (wdF G ad c ++ [(qo, .inl (G.2 3, 1, .inr (.inl f)))])[i]?) [2, 3, 4, 5, 6, 7, 8, 9, 10, 11, 12, 13, 14, 15, 16, 17, 18, 27, 28, 29, 30, 31, 32, 33, 34, 35]) (wf := wdF G ad (mkC c.gain c.il c.ip c.ia c.ig c.is c.im c.ic c.iq c.dn c.dm c.dj c.dt c.dx c.dy c.dr c.dv c.dw c.dq c.fw c.fs c.fh c.s0 (mkS c.s1.pr c.s1.a c.s1.b c.s1.c c.s1.d c.s1.sp o1 c.s1.ti o2 o3 o4 o5 o6 o7 o8 o9 o10) c.s2) ++ [(qo, .inl (G.2 3, 1, .inr (.inl f)))]) S (ctX4_setCenter l G (ad 0) (ad 1) (ad 19) (ad 20) (ad 21) (ad 22) (ad 23) (ad 24) (ad 25) (ad 26) (ad 2) (ad 5) (ad 10) c.gain (ad 11) (ad 19) (ad 27) c.s1.pr c.s1.a c.s1.b c.s1.c c.s1.d c.s1.sp c.s1.mi c.s1.ti c.s1.w c.s1.s c.s1.h c.s1.va c.s1.ov c.s1.ra c.s1.ol c.s1.od c.s1.ne a0 a1 o0 o1 o2 o3 o4 o5 o6 o7 o8 o9 o10 g z_a1 1 (by decide) (by rw [hs_a0]; decide) rfl) (cwV 2 hts gL_setCenter_X4_setCenter rfl rfl rfl hvX4_setCenter ⟨Nat.le_of_ble_eq_true rfl, Nat.le_of_ble_eq_true rfl⟩) hK hP hD hS (SK.blind _) (fun U hU hW => SK.call hX hA hD hS [0, 1, 19, 20, 21, 22, 23, 24, 25, 26] rfl hU hW) [0, 1, 19, 20, 21, 22, 23, 24, 25, 26] [2, 3, 4, 5, 6, 7, 8, 9, 10, 11, 12, 13, 14, 15, 16, 17, 18, 27, 28, 29, 30, 31, 32, 33, 34, 35] [26, 27, 0, 1, 2, 3, 4, 5, 6, 7, 8, 9, 10, 11, 12, 13, 14, 15, 16, 28, 29, 30, 31, 32, 33, 34, 35, 17, 18, 19, 20, 21, 22, 23, 24, 25] rfl rfl rfl rfl rfl rfl rfl 0 4 rfl rfl rfl rfl hl.1 rfl (Nat.le_of_ble_eq_true rfl) dL_setCenter_5 ⟨Nat.zero_le _, Nat.zero_le _⟩ (fun _ H locs hP hD hS => ?_)
      refine lv_i2l hx hb dL_setCenter_8 rfl ?_
      refine va_last hx hb hK.1 hP hD hS 35 3 rfl rfl (i := 0) (vp_in_iff.mpr ⟨by decide, by decide⟩) dL_setCenter_9 (fun H locs hP hD hS => ?_)
      refine lv_goto (tgt := 21) hx hb dL_setCenter_10 (by decide) ?_
      refine lv_iconst (v := 0) hx hb dL_setCenter_21 (by decide) ?_
      refine W.widen (k := 1) (n := 6) (by omega) (by omega) ?_
      exact hret _ _ _ _ _ rfl hP hD hS dL_setCenter_22
  replace h := ite_f hs_a0 h
  have hn_a01 := hs_a0
  clear hs_a0
  by_cases hs_a0 : a0 = 2
  · replace h := ite_t hs_a0 h
    rcases lq_e h with ⟨k0, gx, h⟩ | ⟨gx, h⟩
    · by_cases hk2 : k0 = 2
      · subst hk2
        cases h
        refine lwC (k := 2) (rest := [.int 0, .ref qo]) (As := [.int a0, .int a1]) S (by decide) (cxX4_setCenter l hfl G (ad 0) (ad 1) (ad 27) (ad 28) (ad 29) (ad 30) (ad 31) (ad 32) (ad 33) (ad 34) (ad 2) (ad 5) (ad 10) c.gain (ad 11) (ad 19) (ad 27) c.s2.pr c.s2.a c.s2.b c.s2.c c.s2.d c.s2.sp c.s2.mi c.s2.ti c.s2.w c.s2.s c.s2.h c.s2.va c.s2.ov c.s2.ra c.s2.ol c.s2.od c.s2.ne a0 a1 2 gx 2 (by decide) (by rw [hs_a0]; decide) rfl) (cwV 2 hts gL_setCenter_X4_setCenter rfl rfl rfl hvX4_setCenter ⟨Nat.le_of_ble_eq_true rfl, Nat.le_of_ble_eq_true rfl⟩) hK hT hP hD hS [0, 1, 27, 28, 29, 30, 31, 32, 33, 34] rfl 0 4 rfl rfl rfl rfl hl.1 rfl (Nat.le_of_ble_eq_true rfl) dL_setCenter_5 ⟨Nat.le_of_ble_eq_true rfl, Nat.le_of_ble_eq_true rfl⟩ [{ startPc := 0, endPc := 10, handlerPc := 13, catchType := 20 }] { startPc := 0, endPc := 10, handlerPc := 17, catchType := 15 } [] (by rw [htab]; rfl) (tp_cons (nm := exn 3) (by decide) (hts (.classLink RL 20 "java/lang/IndexOutOfBoundsException") lkL_setCenter_c20) (hN 2 (by decide) 3 (by decide) (by decide)) tp_nil) rfl (by decide) (hts (.classLink RL 15 "java/lang/IllegalStateException") lkL_setCenter_c15) rfl (fun H locs q hP hD hS => ?_)
        refine lv_astore (lv' := [(4, .ref q), (0, .ref (ad 0)), (1, .int a0), (2, .int a1), (3, .ref qo)]) hx hb dL_setCenter_17 hl (by decide) rfl (fun ls hl => ?_)
        refine lv_iconst (v := 2) hx hb dL_setCenter_19 (by decide) ?_
        exact hret _ _ _ _ _ rfl hP hD hS dL_setCenter_20
      replace h := ite_f hk2 h
      by_cases hk3 : k0 = 3
      · subst hk3
        cases h
        refine lwC (k := 3) (rest := [.int 0, .ref qo]) (As := [.int a0, .int a1]) S (by decide) (cxX4_setCenter l hfl G (ad 0) (ad 1) (ad 27) (ad 28) (ad 29) (ad 30) (ad 31) (ad 32) (ad 33) (ad 34) (ad 2) (ad 5) (ad 10) c.gain (ad 11) (ad 19) (ad 27) c.s2.pr c.s2.a c.s2.b c.s2.c c.s2.d c.s2.sp c.s2.mi c.s2.ti c.s2.w c.s2.s c.s2.h c.s2.va c.s2.ov c.s2.ra c.s2.ol c.s2.od c.s2.ne a0 a1 3 gx 2 (by decide) (by rw [hs_a0]; decide) rfl) (cwV 2 hts gL_setCenter_X4_setCenter rfl rfl rfl hvX4_setCenter ⟨Nat.le_of_ble_eq_true rfl, Nat.le_of_ble_eq_true rfl⟩) hK hT hP hD hS [0, 1, 27, 28, 29, 30, 31, 32, 33, 34] rfl 0 4 rfl rfl rfl rfl hl.1 rfl (Nat.le_of_ble_eq_true rfl) dL_setCenter_5 ⟨Nat.le_of_ble_eq_true rfl, Nat.le_of_ble_eq_true rfl⟩ [] { startPc := 0, endPc := 10, handlerPc := 13, catchType := 20 } [{ startPc := 0, endPc := 10, handlerPc := 17, catchType := 15 }] (by rw [htab]; rfl) tp_nil rfl (by decide) (hts (.classLink RL 20 "java/lang/IndexOutOfBoundsException") lkL_setCenter_c20) rfl (fun H locs q hP hD hS => ?_)
        refine lv_astore (lv' := [(4, .ref q), (0, .ref (ad 0)), (1, .int a0), (2, .int a1), (3, .ref qo)]) hx hb dL_setCenter_13 hl (by decide) rfl (fun ls hl => ?_)
        refine lv_iconst (v := 1) hx hb dL_setCenter_15 (by decide) ?_
        exact hret _ _ _ _ _ rfl hP hD hS dL_setCenter_16
      cases (ite_f hk3 h)
    · obtain ⟨o0, o1, o2, o3, o4, o5, o6, o7, o8, o9, o10, g, h⟩ := bnd11_e h
      cases h
      refine rwV_back (rest := [.int 0, .ref qo]) (As := [.int a0, .int a1]) (wr := List.filterMap (fun i => (wdF G ad c ++ [(qo, .inl (G.2 3, 1, .inr (.inl f)))])[i]?) [2, 3, 4, 5, 6, 7, 8, 9, 10, 11, 12, 13, 14, 15, 16, 17, 18, 19, 20, 21, 22, 23, 24, 25, 26, 35]) (wf := wdF G ad (mkC c.gain c.il c.ip c.ia c.ig c.is c.im c.ic c.iq c.dn c.dm c.dj c.dt c.dx c.dy c.dr c.dv c.dw c.dq c.fw c.fs c.fh c.s0 c.s1 (mkS c.s2.pr c.s2.a c.s2.b c.s2.c c.s2.d c.s2.sp o1 c.s2.ti o2 o3 o4 o5 o6 o7 o8 o9 o10)) ++ [(qo, .inl (G.2 3, 1, .inr (.inl f)))]) S (ctX4_setCenter l G (ad 0) (ad 1) (ad 27) (ad 28) (ad 29) (ad 30) (ad 31) (ad 32) (ad 33) (ad 34) (ad 2) (ad 5) (ad 10) c.gain (ad 11) (ad 19) (ad 27) c.s2.pr c.s2.a c.s2.b c.s2.c c.s2.d c.s2.sp c.s2.mi c.s2.ti c.s2.w c.s2.s c.s2.h c.s2.va c.s2.ov c.s2.ra c.s2.ol c.s2.od c.s2.ne a0 a1 o0 o1 o2 o3 o4 o5 o6 o7 o8 o9 o10 g z_a1 2 (by decide) (by rw [hs_a0]; decide) rfl) (cwV 2 hts gL_setCenter_X4_setCenter rfl rfl rfl hvX4_setCenter ⟨Nat.le_of_ble_eq_true rfl, Nat.le_of_ble_eq_true rfl⟩) hK hP hD hS (SK.blind _) (fun U hU hW => SK.call hX hA hD hS [0, 1, 27, 28, 29, 30, 31, 32, 33, 34] rfl hU hW) [0, 1, 27, 28, 29, 30, 31, 32, 33, 34] [2, 3, 4, 5, 6, 7, 8, 9, 10, 11, 12, 13, 14, 15, 16, 17, 18, 19, 20, 21, 22, 23, 24, 25, 26, 35] [26, 27, 0, 1, 2, 3, 4, 5, 6, 7, 8, 9, 10, 11, 12, 13, 14, 15, 16, 17, 18, 19, 20, 21, 22, 23, 24, 28, 29, 30, 31, 32, 33, 34, 35, 25] rfl rfl rfl rfl rfl rfl rfl 0 4 rfl rfl rfl rfl hl.1 rfl (Nat.le_of_ble_eq_true rfl) dL_setCenter_5 ⟨Nat.zero_le _, Nat.zero_le _⟩ (fun _ H locs hP hD hS => ?_)
      refine lv_i2l hx hb dL_setCenter_8 rfl ?_
      refine va_last hx hb hK.1 hP hD hS 35 3 rfl rfl (i := 0) (vp_in_iff.mpr ⟨by decide, by decide⟩) dL_setCenter_9 (fun H locs hP hD hS => ?_)
      refine lv_goto (tgt := 21) hx hb dL_setCenter_10 (by decide) ?_
      refine lv_iconst (v := 0) hx hb dL_setCenter_21 (by decide) ?_
      refine W.widen (k := 1) (n := 6) (by omega) (by omega) ?_
      exact hret _ _ _ _ _ rfl hP hD hS dL_setCenter_22
  replace h := ite_f hs_a0 h
  have hn_a02 := hs_a0
  clear hs_a0
  have ho_a0 := slot_out hn_a00 hn_a01 hn_a02
  cases h
  refine lwC (k := 3) (rest := [.int 0, .ref qo]) (As := [.int a0, .int a1]) S (by decide) (cxX4_setCentero l hfl G (ad 0) (ad 1) (ad 2) (ad 5) (ad 10) c.gain (ad 11) (ad 19) (ad 27) a0 a1 ho_a0) (cwV 2 hts gL_setCenter_X4_setCenter rfl rfl rfl hvX4_setCenter ⟨Nat.le_of_ble_eq_true rfl, Nat.le_of_ble_eq_true rfl⟩) hK hT hP hD hS [0, 1] rfl 0 4 rfl rfl rfl rfl hl.1 rfl (Nat.le_of_ble_eq_true rfl) dL_setCenter_5 ⟨Nat.le_of_ble_eq_true rfl, Nat.le_of_ble_eq_true rfl⟩ [] { startPc := 0, endPc := 10, handlerPc := 13, catchType := 20 } [{ startPc := 0, endPc := 10, handlerPc := 17, catchType := 15 }] (by rw [htab]; rfl) tp_nil rfl (by decide) (hts (.classLink RL 20 "java/lang/IndexOutOfBoundsException") lkL_setCenter_c20) rfl (fun H locs q hP hD hS => ?_)
  refine lv_astore (lv' := [(4, .ref q), (0, .ref (ad 0)), (1, .int a0), (2, .int a1), (3, .ref qo)]) hx hb dL_setCenter_13 hl (by decide) rfl (fun ls hl => ?_)
  refine lv_iconst (v := 1) hx hb dL_setCenter_15 (by decide) ?_
  exact hret _ _ _ _ _ rfl hP hD hS dL_setCenter_16
abbrev rmL_setTint : Room := { frames := 9, cells := 1, slots := 6, locals := 158 }
theorem hsX4_setTint : yX4_setTint.cls ≠ "java/lang/invoke/MethodHandle" ∧ yX4_setTint.cls ≠ "java/lang/invoke/VarHandle" ∧ (parseMethodDescriptor yX4_setTint.desc).map (fun d => d.parameters.length) = some 2 := by decide +kernel
theorem hvX4_setTint : yX4_setTint.cls = RX4 ∧ yX4_setTint.cls ≠ "java/lang/invoke/MethodHandle" ∧ yX4_setTint.cls ≠ "java/lang/invoke/VarHandle" ∧ (parseMethodDescriptor yX4_setTint.desc).map (fun d => d.parameters.length) = some 2 := ⟨rfl, hsX4_setTint⟩
theorem lkL_setTint_c15 : Cond.classLink RL 15 "java/lang/IllegalStateException" ∈ wsL_setTint := List.mem_of_getElem? (i := 2) rfl
theorem lkL_setTint_c20 : Cond.classLink RL 20 "java/lang/IndexOutOfBoundsException" ∈ wsL_setTint := List.mem_of_getElem? (i := 1) rfl
theorem lkL_setTint_c13 : Cond.classLink RL 13 "java/lang/IllegalArgumentException" ∈ wsL_setTint := List.mem_of_getElem? (i := 3) rfl
set_option maxHeartbeats 4000000 in
set_option maxRecDepth 100000 in
theorem lw_setTint (l : Launch) (hfl : l.stackTraces = false) (G : GG) (ad : Nat → Nat) (qo : Nat) (c c' : Cls) (f f' : Nat → Int64) (a0 : Int32) (a1 : Int32) (r0 : Int32) (h : lm_setTint c f a0 a1 = some (r0, c', f')) : Met l yL_setTint wsL_setTint rmL_setTint (va_Pc [.ref (ad 0), .int a0, .int a1, .ref qo] (PreD G (wdF G ad c ++ [(qo, .inl (G.2 3, 1, .inr (.inl f)))]) (XL (wdF G ad c ++ [(qo, .inl (G.2 3, 1, .inr (.inl f)))])))) (QwA G (va_A0 (wdF G ad c ++ [(qo, .inl (G.2 3, 1, .inr (.inl f)))])) (wdF G ad c' ++ [(qo, .inl (G.2 3, 1, .inr (.inl f')))]) (some (.int r0)) True) 1 6 (va_A0 (wdF G ad c ++ [(qo, .inl (G.2 3, 1, .inr (.inl f)))])) := by
  refine of_lw (cc := cL_setTint) (maxL := 5) (hh := [(0, 10, 13, 20), (0, 10, 17, 15), (0, 10, 21, 13)]) (by decide) rfl (Nat.le_of_ble_eq_true rfl) ?_
  intro p e s m args below meth c1 ls Q A S htab hl hP hD hS hK hT hN hX hA hret
  obtain ⟨H, hH⟩ : ∃ H, H = s.heap := ⟨_, rfl⟩
  obtain ⟨locs, hlocs⟩ : ∃ L : List Loc, L = [] := ⟨_, rfl⟩
  rw [← hlocs]
  rw [← hlocs] at hS
  have hP : va_P G.1 vwCl (wdF G ad c ++ [(qo, .inl (G.2 3, 1, .inr (.inl f)))]) H := by rw [hH]; exact hP
  have hS : va_S A s.heap H locs := by rw [hH]; exact hS
  have hT : TT A s H := by rw [hH]; exact hT
  suffices hgo : W p l e rmL_setTint s m args below meth c1 H locs 0 0 Q (F0 m 0 ls []) by rw [hH] at hgo; exact hgo
  have S : CallFix p m c1 cL_setTint 5 s args wsL_setTint RL := S
  obtain ⟨hx, hb, hml, hown, hts⟩ := id S
  have hl : lv_has ls 5 [(0, .ref (ad 0)), (1, .int a0), (2, .int a1), (3, .ref qo)] := hl
  unfold lm_setTint at h
  refine lv_aload_n hx hb dL_setTint_0 rfl (lv_at hl 3 rfl) ?_
  refine lv_iconst (v := 0) hx hb dL_setTint_1 (by decide) ?_
  refine lv_aload_n hx hb dL_setTint_2 rfl (lv_at hl 0 rfl) ?_
  refine lv_iload_n hx hb dL_setTint_3 rfl (lv_at hl 1 rfl) ?_
  refine lv_iload_n hx hb dL_setTint_4 rfl (lv_at hl 2 rfl) ?_
  by_cases hs_a0 : a0 = 0
  · replace h := ite_t hs_a0 h
    rcases lq_e h with ⟨k0, gx, h⟩ | ⟨gx, h⟩
    · by_cases hk1 : k0 = 1
      · subst hk1
        cases h
        refine lwC (k := 1) (rest := [.int 0, .ref qo]) (As := [.int a0, .int a1]) S (by decide) (cxX4_setTint l hfl G (ad 0) (ad 1) (ad 11) (ad 12) (ad 13) (ad 14) (ad 15) (ad 16) (ad 17) (ad 18) (ad 2) (ad 5) (ad 10) c.gain (ad 11) (ad 19) (ad 27) c.s0.pr c.s0.a c.s0.b c.s0.c c.s0.d c.s0.sp c.s0.mi c.s0.ti c.s0.w c.s0.s c.s0.h c.s0.va c.s0.ov c.s0.ra c.s0.ol c.s0.od c.s0.ne a0 a1 1 gx 0 (by decide) (by rw [hs_a0]; decide) rfl) (cwV 2 hts gL_setTint_X4_setTint rfl rfl rfl hvX4_setTint ⟨Nat.le_of_ble_eq_true rfl, Nat.le_of_ble_eq_true rfl⟩) hK hT hP hD hS [0, 1, 11, 12, 13, 14, 15, 16, 17, 18] rfl 0 4 rfl rfl rfl rfl hl.1 rfl (Nat.le_of_ble_eq_true rfl) dL_setTint_5 ⟨Nat.le_of_ble_eq_true rfl, Nat.le_of_ble_eq_true rfl⟩ [{ startPc := 0, endPc := 10, handlerPc := 13, catchType := 20 }, { startPc := 0, endPc := 10, handlerPc := 17, catchType := 15 }] { startPc := 0, endPc := 10, handlerPc := 21, catchType := 13 } [] (by rw [htab]; rfl) (tp_cons (nm := exn 3) (by decide) (hts (.classLink RL 20 "java/lang/IndexOutOfBoundsException") lkL_setTint_c20) (hN 1 (by decide) 3 (by decide) (by decide)) (tp_cons (nm := exn 2) (by decide) (hts (.classLink RL 15 "java/lang/IllegalStateException") lkL_setTint_c15) (hN 1 (by decide) 2 (by decide) (by decide)) tp_nil)) rfl (by decide) (hts (.classLink RL 13 "java/lang/IllegalArgumentException") lkL_setTint_c13) rfl (fun H locs q hP hD hS => ?_)
        refine lv_astore (lv' := [(4, .ref q), (0, .ref (ad 0)), (1, .int a0), (2, .int a1), (3, .ref qo)]) hx hb dL_setTint_21 hl (by decide) rfl (fun ls hl => ?_)
        refine lv_iconst (v := 3) hx hb dL_setTint_23 (by decide) ?_
        exact hret _ _ _ _ _ rfl hP hD hS dL_setTint_24
      replace h := ite_f hk1 h
      by_cases hk2 : k0 = 2
      · subst hk2
        cases h
        refine lwC (k := 2) (rest := [.int 0, .ref qo]) (As := [.int a0, .int a1]) S (by decide) (cxX4_setTint l hfl G (ad 0) (ad 1) (ad 11) (ad 12) (ad 13) (ad 14) (ad 15) (ad 16) (ad 17) (ad 18) (ad 2) (ad 5) (ad 10) c.gain (ad 11) (ad 19) (ad 27) c.s0.pr c.s0.a c.s0.b c.s0.c c.s0.d c.s0.sp c.s0.mi c.s0.ti c.s0.w c.s0.s c.s0.h c.s0.va c.s0.ov c.s0.ra c.s0.ol c.s0.od c.s0.ne a0 a1 2 gx 0 (by decide) (by rw [hs_a0]; decide) rfl) (cwV 2 hts gL_setTint_X4_setTint rfl rfl rfl hvX4_setTint ⟨Nat.le_of_ble_eq_true rfl, Nat.le_of_ble_eq_true rfl⟩) hK hT hP hD hS [0, 1, 11, 12, 13, 14, 15, 16, 17, 18] rfl 0 4 rfl rfl rfl rfl hl.1 rfl (Nat.le_of_ble_eq_true rfl) dL_setTint_5 ⟨Nat.le_of_ble_eq_true rfl, Nat.le_of_ble_eq_true rfl⟩ [{ startPc := 0, endPc := 10, handlerPc := 13, catchType := 20 }] { startPc := 0, endPc := 10, handlerPc := 17, catchType := 15 } [{ startPc := 0, endPc := 10, handlerPc := 21, catchType := 13 }] (by rw [htab]; rfl) (tp_cons (nm := exn 3) (by decide) (hts (.classLink RL 20 "java/lang/IndexOutOfBoundsException") lkL_setTint_c20) (hN 2 (by decide) 3 (by decide) (by decide)) tp_nil) rfl (by decide) (hts (.classLink RL 15 "java/lang/IllegalStateException") lkL_setTint_c15) rfl (fun H locs q hP hD hS => ?_)
        refine lv_astore (lv' := [(4, .ref q), (0, .ref (ad 0)), (1, .int a0), (2, .int a1), (3, .ref qo)]) hx hb dL_setTint_17 hl (by decide) rfl (fun ls hl => ?_)
        refine lv_iconst (v := 2) hx hb dL_setTint_19 (by decide) ?_
        exact hret _ _ _ _ _ rfl hP hD hS dL_setTint_20
      replace h := ite_f hk2 h
      by_cases hk3 : k0 = 3
      · subst hk3
        cases h
        refine lwC (k := 3) (rest := [.int 0, .ref qo]) (As := [.int a0, .int a1]) S (by decide) (cxX4_setTint l hfl G (ad 0) (ad 1) (ad 11) (ad 12) (ad 13) (ad 14) (ad 15) (ad 16) (ad 17) (ad 18) (ad 2) (ad 5) (ad 10) c.gain (ad 11) (ad 19) (ad 27) c.s0.pr c.s0.a c.s0.b c.s0.c c.s0.d c.s0.sp c.s0.mi c.s0.ti c.s0.w c.s0.s c.s0.h c.s0.va c.s0.ov c.s0.ra c.s0.ol c.s0.od c.s0.ne a0 a1 3 gx 0 (by decide) (by rw [hs_a0]; decide) rfl) (cwV 2 hts gL_setTint_X4_setTint rfl rfl rfl hvX4_setTint ⟨Nat.le_of_ble_eq_true rfl, Nat.le_of_ble_eq_true rfl⟩) hK hT hP hD hS [0, 1, 11, 12, 13, 14, 15, 16, 17, 18] rfl 0 4 rfl rfl rfl rfl hl.1 rfl (Nat.le_of_ble_eq_true rfl) dL_setTint_5 ⟨Nat.le_of_ble_eq_true rfl, Nat.le_of_ble_eq_true rfl⟩ [] { startPc := 0, endPc := 10, handlerPc := 13, catchType := 20 } [{ startPc := 0, endPc := 10, handlerPc := 17, catchType := 15 }, { startPc := 0, endPc := 10, handlerPc := 21, catchType := 13 }] (by rw [htab]; rfl) tp_nil rfl (by decide) (hts (.classLink RL 20 "java/lang/IndexOutOfBoundsException") lkL_setTint_c20) rfl (fun H locs q hP hD hS => ?_)
        refine lv_astore (lv' := [(4, .ref q), (0, .ref (ad 0)), (1, .int a0), (2, .int a1), (3, .ref qo)]) hx hb dL_setTint_13 hl (by decide) rfl (fun ls hl => ?_)
        refine lv_iconst (v := 1) hx hb dL_setTint_15 (by decide) ?_
        exact hret _ _ _ _ _ rfl hP hD hS dL_setTint_16
      cases (ite_f hk3 h)
    · obtain ⟨o0, o1, g, h⟩ := bnd2_e h
      cases h
      refine rwV_back (rest := [.int 0, .ref qo]) (As := [.int a0, .int a1]) (wr := List.filterMap (fun i => (wdF G ad c ++ [(qo, .inl (G.2 3, 1, .inr (.inl f)))])[i]?) [2, 3, 4, 5, 6, 7, 8, 9, 10, 19, 20, 21, 22, 23, 24, 25, 26, 27, 28, 29, 30, 31, 32, 33, 34, 35]) (wf := wdF G ad (mkC c.gain c.il c.ip c.ia c.ig c.is c.im c.ic c.iq c.dn c.dm c.dj c.dt c.dx c.dy c.dr c.dv c.dw c.dq c.fw c.fs c.fh (mkS c.s0.pr c.s0.a c.s0.b c.s0.c c.s0.d c.s0.sp c.s0.mi o1 c.s0.w c.s0.s c.s0.h c.s0.va c.s0.ov c.s0.ra c.s0.ol c.s0.od c.s0.ne) c.s1 c.s2) ++ [(qo, .inl (G.2 3, 1, .inr (.inl f)))]) S (ctX4_setTint l G (ad 0) (ad 1) (ad 11) (ad 12) (ad 13) (ad 14) (ad 15) (ad 16) (ad 17) (ad 18) (ad 2) (ad 5) (ad 10) c.gain (ad 11) (ad 19) (ad 27) c.s0.pr c.s0.a c.s0.b c.s0.c c.s0.d c.s0.sp c.s0.mi c.s0.ti c.s0.w c.s0.s c.s0.h c.s0.va c.s0.ov c.s0.ra c.s0.ol c.s0.od c.s0.ne a0 a1 o0 o1 g 0 (by decide) (by rw [hs_a0]; decide) rfl) (cwV 2 hts gL_setTint_X4_setTint rfl rfl rfl hvX4_setTint ⟨Nat.le_of_ble_eq_true rfl, Nat.le_of_ble_eq_true rfl⟩) hK hP hD hS xb_triv (fun _ _ _ => trivial) [0, 1, 11, 12, 13, 14, 15, 16, 17, 18] [2, 3, 4, 5, 6, 7, 8, 9, 10, 19, 20, 21, 22, 23, 24, 25, 26, 27, 28, 29, 30, 31, 32, 33, 34, 35] [26, 27, 0, 1, 2, 3, 4, 5, 6, 7, 8, 28, 29, 30, 31, 32, 33, 34, 35, 9, 10, 11, 12, 13, 14, 15, 16, 17, 18, 19, 20, 21, 22, 23, 24, 25] rfl rfl rfl rfl rfl rfl rfl 0 4 rfl rfl rfl rfl hl.1 rfl (Nat.le_of_ble_eq_true rfl) dL_setTint_5 ⟨Nat.zero_le _, Nat.zero_le _⟩ (fun _ H locs hP hD hS => ?_)
      refine lv_i2l hx hb dL_setTint_8 rfl ?_
      refine va_last hx hb hK.1 hP hD hS 35 3 rfl rfl (i := 0) (vp_in_iff.mpr ⟨by decide, by decide⟩) dL_setTint_9 (fun H locs hP hD hS => ?_)
      refine lv_goto (tgt := 25) hx hb dL_setTint_10 (by decide) ?_
      refine lv_iconst (v := 0) hx hb dL_setTint_25 (by decide) ?_
      refine W.widen (k := 1) (n := 6) (by omega) (by omega) ?_
      exact hret _ _ _ _ _ rfl hP hD hS dL_setTint_26
  replace h := ite_f hs_a0 h
  have hn_a00 := hs_a0
  clear hs_a0
  by_cases hs_a0 : a0 = 1
  · replace h := ite_t hs_a0 h
    rcases lq_e h with ⟨k0, gx, h⟩ | ⟨gx, h⟩
    · by_cases hk1 : k0 = 1
      · subst hk1
        cases h
        refine lwC (k := 1) (rest := [.int 0, .ref qo]) (As := [.int a0, .int a1]) S (by decide) (cxX4_setTint l hfl G (ad 0) (ad 1) (ad 19) (ad 20) (ad 21) (ad 22) (ad 23) (ad 24) (ad 25) (ad 26) (ad 2) (ad 5) (ad 10) c.gain (ad 11) (ad 19) (ad 27) c.s1.pr c.s1.a c.s1.b c.s1.c c.s1.d c.s1.sp c.s1.mi c.s1.ti c.s1.w c.s1.s c.s1.h c.s1.va c.s1.ov c.s1.ra c.s1.ol c.s1.od c.s1.ne a0 a1 1 gx 1 (by decide) (by rw [hs_a0]; decide) rfl) (cwV 2 hts gL_setTint_X4_setTint rfl rfl rfl hvX4_setTint ⟨Nat.le_of_ble_eq_true rfl, Nat.le_of_ble_eq_true rfl⟩) hK hT hP hD hS [0, 1, 19, 20, 21, 22, 23, 24, 25, 26] rfl 0 4 rfl rfl rfl rfl hl.1 rfl (Nat.le_of_ble_eq_true rfl) dL_setTint_5 ⟨Nat.le_of_ble_eq_true rfl, Nat.le_of_ble_eq_true rfl⟩ [{ startPc := 0, endPc := 10, handlerPc := 13, catchType := 20 }, { startPc := 0, endPc := 10, handlerPc := 17, catchType := 15 }] { startPc := 0, endPc := 10, handlerPc := 21, catchType := 13 } [] (by rw [htab]; rfl) (tp_cons (nm := exn 3) (by decide) (hts (.classLink RL 20 "java/lang/IndexOutOfBoundsException") lkL_setTint_c20) (hN 1 (by decide) 3 (by decide) (by decide)) (tp_cons (nm := exn 2) (by decide) (hts (.classLink RL 15 "java/lang/IllegalStateException") lkL_setTint_c15) (hN 1 (by decide) 2 (by decide) (by decide)) tp_nil)) rfl (by decide) (hts (.classLink RL 13 "java/lang/IllegalArgumentException") lkL_setTint_c13) rfl (fun H locs q hP hD hS => ?_)
        refine lv_astore (lv' := [(4, .ref q), (0, .ref (ad 0)), (1, .int a0), (2, .int a1), (3, .ref qo)]) hx hb dL_setTint_21 hl (by decide) rfl (fun ls hl => ?_)
        refine lv_iconst (v := 3) hx hb dL_setTint_23 (by decide) ?_
        exact hret _ _ _ _ _ rfl hP hD hS dL_setTint_24
      replace h := ite_f hk1 h
      by_cases hk2 : k0 = 2
      · subst hk2
        cases h
        refine lwC (k := 2) (rest := [.int 0, .ref qo]) (As := [.int a0, .int a1]) S (by decide) (cxX4_setTint l hfl G (ad 0) (ad 1) (ad 19) (ad 20) (ad 21) (ad 22) (ad 23) (ad 24) (ad 25) (ad 26) (ad 2) (ad 5) (ad 10) c.gain (ad 11) (ad 19) (ad 27) c.s1.pr c.s1.a c.s1.b c.s1.c c.s1.d c.s1.sp c.s1.mi c.s1.ti c.s1.w c.s1.s c.s1.h c.s1.va c.s1.ov c.s1.ra c.s1.ol c.s1.od c.s1.ne a0 a1 2 gx 1 (by decide) (by rw [hs_a0]; decide) rfl) (cwV 2 hts gL_setTint_X4_setTint rfl rfl rfl hvX4_setTint ⟨Nat.le_of_ble_eq_true rfl, Nat.le_of_ble_eq_true rfl⟩) hK hT hP hD hS [0, 1, 19, 20, 21, 22, 23, 24, 25, 26] rfl 0 4 rfl rfl rfl rfl hl.1 rfl (Nat.le_of_ble_eq_true rfl) dL_setTint_5 ⟨Nat.le_of_ble_eq_true rfl, Nat.le_of_ble_eq_true rfl⟩ [{ startPc := 0, endPc := 10, handlerPc := 13, catchType := 20 }] { startPc := 0, endPc := 10, handlerPc := 17, catchType := 15 } [{ startPc := 0, endPc := 10, handlerPc := 21, catchType := 13 }] (by rw [htab]; rfl) (tp_cons (nm := exn 3) (by decide) (hts (.classLink RL 20 "java/lang/IndexOutOfBoundsException") lkL_setTint_c20) (hN 2 (by decide) 3 (by decide) (by decide)) tp_nil) rfl (by decide) (hts (.classLink RL 15 "java/lang/IllegalStateException") lkL_setTint_c15) rfl (fun H locs q hP hD hS => ?_)
        refine lv_astore (lv' := [(4, .ref q), (0, .ref (ad 0)), (1, .int a0), (2, .int a1), (3, .ref qo)]) hx hb dL_setTint_17 hl (by decide) rfl (fun ls hl => ?_)
        refine lv_iconst (v := 2) hx hb dL_setTint_19 (by decide) ?_
        exact hret _ _ _ _ _ rfl hP hD hS dL_setTint_20
      replace h := ite_f hk2 h
      by_cases hk3 : k0 = 3
      · subst hk3
        cases h
        refine lwC (k := 3) (rest := [.int 0, .ref qo]) (As := [.int a0, .int a1]) S (by decide) (cxX4_setTint l hfl G (ad 0) (ad 1) (ad 19) (ad 20) (ad 21) (ad 22) (ad 23) (ad 24) (ad 25) (ad 26) (ad 2) (ad 5) (ad 10) c.gain (ad 11) (ad 19) (ad 27) c.s1.pr c.s1.a c.s1.b c.s1.c c.s1.d c.s1.sp c.s1.mi c.s1.ti c.s1.w c.s1.s c.s1.h c.s1.va c.s1.ov c.s1.ra c.s1.ol c.s1.od c.s1.ne a0 a1 3 gx 1 (by decide) (by rw [hs_a0]; decide) rfl) (cwV 2 hts gL_setTint_X4_setTint rfl rfl rfl hvX4_setTint ⟨Nat.le_of_ble_eq_true rfl, Nat.le_of_ble_eq_true rfl⟩) hK hT hP hD hS [0, 1, 19, 20, 21, 22, 23, 24, 25, 26] rfl 0 4 rfl rfl rfl rfl hl.1 rfl (Nat.le_of_ble_eq_true rfl) dL_setTint_5 ⟨Nat.le_of_ble_eq_true rfl, Nat.le_of_ble_eq_true rfl⟩ [] { startPc := 0, endPc := 10, handlerPc := 13, catchType := 20 } [{ startPc := 0, endPc := 10, handlerPc := 17, catchType := 15 }, { startPc := 0, endPc := 10, handlerPc := 21, catchType := 13 }] (by rw [htab]; rfl) tp_nil rfl (by decide) (hts (.classLink RL 20 "java/lang/IndexOutOfBoundsException") lkL_setTint_c20) rfl (fun H locs q hP hD hS => ?_)
        refine lv_astore (lv' := [(4, .ref q), (0, .ref (ad 0)), (1, .int a0), (2, .int a1), (3, .ref qo)]) hx hb dL_setTint_13 hl (by decide) rfl (fun ls hl => ?_)
        refine lv_iconst (v := 1) hx hb dL_setTint_15 (by decide) ?_
        exact hret _ _ _ _ _ rfl hP hD hS dL_setTint_16
      cases (ite_f hk3 h)
    · obtain ⟨o0, o1, g, h⟩ := bnd2_e h
      cases h
      refine rwV_back (rest := [.int 0, .ref qo]) (As := [.int a0, .int a1]) (wr := List.filterMap (fun i => (wdF G ad c ++ [(qo, .inl (G.2 3, 1, .inr (.inl f)))])[i]?) [2, 3, 4, 5, 6, 7, 8, 9, 10, 11, 12, 13, 14, 15, 16, 17, 18, 27, 28, 29, 30, 31, 32, 33, 34, 35]) (wf := wdF G ad (mkC c.gain c.il c.ip c.ia c.ig c.is c.im c.ic c.iq c.dn c.dm c.dj c.dt c.dx c.dy c.dr c.dv c.dw c.dq c.fw c.fs c.fh c.s0 (mkS c.s1.pr c.s1.a c.s1.b c.s1.c c.s1.d c.s1.sp c.s1.mi o1 c.s1.w c.s1.s c.s1.h c.s1.va c.s1.ov c.s1.ra c.s1.ol c.s1.od c.s1.ne) c.s2) ++ [(qo, .inl (G.2 3, 1, .inr (.inl f)))]) S (ctX4_setTint l G (ad 0) (ad 1) (ad 19) (ad 20) (ad 21) (ad 22) (ad 23) (ad 24) (ad 25) (ad 26) (ad 2) (ad 5) (ad 10) c.gain (ad 11) (ad 19) (ad 27) c.s1.pr c.s1.a c.s1.b c.s1.c c.s1.d c.s1.sp c.s1.mi c.s1.ti c.s1.w c.s1.s c.s1.h c.s1.va c.s1.ov c.s1.ra c.s1.ol c.s1.od c.s1.ne a0 a1 o0 o1 g 1 (by decide) (by rw [hs_a0]; decide) rfl) (cwV 2 hts gL_setTint_X4_setTint rfl rfl rfl hvX4_setTint ⟨Nat.le_of_ble_eq_true rfl, Nat.le_of_ble_eq_true rfl⟩) hK hP hD hS xb_triv (fun _ _ _ => trivial) [0, 1, 19, 20, 21, 22, 23, 24, 25, 26] [2, 3, 4, 5, 6, 7, 8, 9, 10, 11, 12, 13, 14, 15, 16, 17, 18, 27, 28, 29, 30, 31, 32, 33, 34, 35] [26, 27, 0, 1, 2, 3, 4, 5, 6, 7, 8, 9, 10, 11, 12, 13, 14, 15, 16, 28, 29, 30, 31, 32, 33, 34, 35, 17, 18, 19, 20, 21, 22, 23, 24, 25] rfl rfl rfl rfl rfl rfl rfl 0 4 rfl rfl rfl rfl hl.1 rfl (Nat.le_of_ble_eq_true rfl) dL_setTint_5 ⟨Nat.zero_le _, Nat.zero_le _⟩ (fun _ H locs hP hD hS => ?_)
      refine lv_i2l hx hb dL_setTint_8 rfl ?_
      refine va_last hx hb hK.1 hP hD hS 35 3 rfl rfl (i := 0) (vp_in_iff.mpr ⟨by decide, by decide⟩) dL_setTint_9 (fun H locs hP hD hS => ?_)
      refine lv_goto (tgt := 25) hx hb dL_setTint_10 (by decide) ?_
      refine lv_iconst (v := 0) hx hb dL_setTint_25 (by decide) ?_
      refine W.widen (k := 1) (n := 6) (by omega) (by omega) ?_
      exact hret _ _ _ _ _ rfl hP hD hS dL_setTint_26
  replace h := ite_f hs_a0 h
  have hn_a01 := hs_a0
  clear hs_a0
  by_cases hs_a0 : a0 = 2
  · replace h := ite_t hs_a0 h
    rcases lq_e h with ⟨k0, gx, h⟩ | ⟨gx, h⟩
    · by_cases hk1 : k0 = 1
      · subst hk1
        cases h
        refine lwC (k := 1) (rest := [.int 0, .ref qo]) (As := [.int a0, .int a1]) S (by decide) (cxX4_setTint l hfl G (ad 0) (ad 1) (ad 27) (ad 28) (ad 29) (ad 30) (ad 31) (ad 32) (ad 33) (ad 34) (ad 2) (ad 5) (ad 10) c.gain (ad 11) (ad 19) (ad 27) c.s2.pr c.s2.a c.s2.b c.s2.c c.s2.d c.s2.sp c.s2.mi c.s2.ti c.s2.w c.s2.s c.s2.h c.s2.va c.s2.ov c.s2.ra c.s2.ol c.s2.od c.s2.ne a0 a1 1 gx 2 (by decide) (by rw [hs_a0]; decide) rfl) (cwV 2 hts gL_setTint_X4_setTint rfl rfl rfl hvX4_setTint ⟨Nat.le_of_ble_eq_true rfl, Nat.le_of_ble_eq_true rfl⟩) hK hT hP hD hS [0, 1, 27, 28, 29, 30, 31, 32, 33, 34] rfl 0 4 rfl rfl rfl rfl hl.1 rfl (Nat.le_of_ble_eq_true rfl) dL_setTint_5 ⟨Nat.le_of_ble_eq_true rfl, Nat.le_of_ble_eq_true rfl⟩ [{ startPc := 0, endPc := 10, handlerPc := 13, catchType := 20 }, { startPc := 0, endPc := 10, handlerPc := 17, catchType := 15 }] { startPc := 0, endPc := 10, handlerPc := 21, catchType := 13 } [] (by rw [htab]; rfl) (tp_cons (nm := exn 3) (by decide) (hts (.classLink RL 20 "java/lang/IndexOutOfBoundsException") lkL_setTint_c20) (hN 1 (by decide) 3 (by decide) (by decide)) (tp_cons (nm := exn 2) (by decide) (hts (.classLink RL 15 "java/lang/IllegalStateException") lkL_setTint_c15) (hN 1 (by decide) 2 (by decide) (by decide)) tp_nil)) rfl (by decide) (hts (.classLink RL 13 "java/lang/IllegalArgumentException") lkL_setTint_c13) rfl (fun H locs q hP hD hS => ?_)
        refine lv_astore (lv' := [(4, .ref q), (0, .ref (ad 0)), (1, .int a0), (2, .int a1), (3, .ref qo)]) hx hb dL_setTint_21 hl (by decide) rfl (fun ls hl => ?_)
        refine lv_iconst (v := 3) hx hb dL_setTint_23 (by decide) ?_
        exact hret _ _ _ _ _ rfl hP hD hS dL_setTint_24
      replace h := ite_f hk1 h
      by_cases hk2 : k0 = 2
      · subst hk2
        cases h
        refine lwC (k := 2) (rest := [.int 0, .ref qo]) (As := [.int a0, .int a1]) S (by decide) (cxX4_setTint l hfl G (ad 0) (ad 1) (ad 27) (ad 28) (ad 29) (ad 30) (ad 31) (ad 32) (ad 33) (ad 34) (ad 2) (ad 5) (ad 10) c.gain (ad 11) (ad 19) (ad 27) c.s2.pr c.s2.a c.s2.b c.s2.c c.s2.d c.s2.sp c.s2.mi c.s2.ti c.s2.w c.s2.s c.s2.h c.s2.va c.s2.ov c.s2.ra c.s2.ol c.s2.od c.s2.ne a0 a1 2 gx 2 (by decide) (by rw [hs_a0]; decide) rfl) (cwV 2 hts gL_setTint_X4_setTint rfl rfl rfl hvX4_setTint ⟨Nat.le_of_ble_eq_true rfl, Nat.le_of_ble_eq_true rfl⟩) hK hT hP hD hS [0, 1, 27, 28, 29, 30, 31, 32, 33, 34] rfl 0 4 rfl rfl rfl rfl hl.1 rfl (Nat.le_of_ble_eq_true rfl) dL_setTint_5 ⟨Nat.le_of_ble_eq_true rfl, Nat.le_of_ble_eq_true rfl⟩ [{ startPc := 0, endPc := 10, handlerPc := 13, catchType := 20 }] { startPc := 0, endPc := 10, handlerPc := 17, catchType := 15 } [{ startPc := 0, endPc := 10, handlerPc := 21, catchType := 13 }] (by rw [htab]; rfl) (tp_cons (nm := exn 3) (by decide) (hts (.classLink RL 20 "java/lang/IndexOutOfBoundsException") lkL_setTint_c20) (hN 2 (by decide) 3 (by decide) (by decide)) tp_nil) rfl (by decide) (hts (.classLink RL 15 "java/lang/IllegalStateException") lkL_setTint_c15) rfl (fun H locs q hP hD hS => ?_)
        refine lv_astore (lv' := [(4, .ref q), (0, .ref (ad 0)), (1, .int a0), (2, .int a1), (3, .ref qo)]) hx hb dL_setTint_17 hl (by decide) rfl (fun ls hl => ?_)
        refine lv_iconst (v := 2) hx hb dL_setTint_19 (by decide) ?_
        exact hret _ _ _ _ _ rfl hP hD hS dL_setTint_20
      replace h := ite_f hk2 h
      by_cases hk3 : k0 = 3
      · subst hk3
        cases h
        refine lwC (k := 3) (rest := [.int 0, .ref qo]) (As := [.int a0, .int a1]) S (by decide) (cxX4_setTint l hfl G (ad 0) (ad 1) (ad 27) (ad 28) (ad 29) (ad 30) (ad 31) (ad 32) (ad 33) (ad 34) (ad 2) (ad 5) (ad 10) c.gain (ad 11) (ad 19) (ad 27) c.s2.pr c.s2.a c.s2.b c.s2.c c.s2.d c.s2.sp c.s2.mi c.s2.ti c.s2.w c.s2.s c.s2.h c.s2.va c.s2.ov c.s2.ra c.s2.ol c.s2.od c.s2.ne a0 a1 3 gx 2 (by decide) (by rw [hs_a0]; decide) rfl) (cwV 2 hts gL_setTint_X4_setTint rfl rfl rfl hvX4_setTint ⟨Nat.le_of_ble_eq_true rfl, Nat.le_of_ble_eq_true rfl⟩) hK hT hP hD hS [0, 1, 27, 28, 29, 30, 31, 32, 33, 34] rfl 0 4 rfl rfl rfl rfl hl.1 rfl (Nat.le_of_ble_eq_true rfl) dL_setTint_5 ⟨Nat.le_of_ble_eq_true rfl, Nat.le_of_ble_eq_true rfl⟩ [] { startPc := 0, endPc := 10, handlerPc := 13, catchType := 20 } [{ startPc := 0, endPc := 10, handlerPc := 17, catchType := 15 }, { startPc := 0, endPc := 10, handlerPc := 21, catchType := 13 }] (by rw [htab]; rfl) tp_nil rfl (by decide) (hts (.classLink RL 20 "java/lang/IndexOutOfBoundsException") lkL_setTint_c20) rfl (fun H locs q hP hD hS => ?_)
        refine lv_astore (lv' := [(4, .ref q), (0, .ref (ad 0)), (1, .int a0), (2, .int a1), (3, .ref qo)]) hx hb dL_setTint_13 hl (by decide) rfl (fun ls hl => ?_)
        refine lv_iconst (v := 1) hx hb dL_setTint_15 (by decide) ?_
        exact hret _ _ _ _ _ rfl hP hD hS dL_setTint_16
      cases (ite_f hk3 h)
    · obtain ⟨o0, o1, g, h⟩ := bnd2_e h
      cases h
      refine rwV_back (rest := [.int 0, .ref qo]) (As := [.int a0, .int a1]) (wr := List.filterMap (fun i => (wdF G ad c ++ [(qo, .inl (G.2 3, 1, .inr (.inl f)))])[i]?) [2, 3, 4, 5, 6, 7, 8, 9, 10, 11, 12, 13, 14, 15, 16, 17, 18, 19, 20, 21, 22, 23, 24, 25, 26, 35]) (wf := wdF G ad (mkC c.gain c.il c.ip c.ia c.ig c.is c.im c.ic c.iq c.dn c.dm c.dj c.dt c.dx c.dy c.dr c.dv c.dw c.dq c.fw c.fs c.fh c.s0 c.s1 (mkS c.s2.pr c.s2.a c.s2.b c.s2.c c.s2.d c.s2.sp c.s2.mi o1 c.s2.w c.s2.s c.s2.h c.s2.va c.s2.ov c.s2.ra c.s2.ol c.s2.od c.s2.ne)) ++ [(qo, .inl (G.2 3, 1, .inr (.inl f)))]) S (ctX4_setTint l G (ad 0) (ad 1) (ad 27) (ad 28) (ad 29) (ad 30) (ad 31) (ad 32) (ad 33) (ad 34) (ad 2) (ad 5) (ad 10) c.gain (ad 11) (ad 19) (ad 27) c.s2.pr c.s2.a c.s2.b c.s2.c c.s2.d c.s2.sp c.s2.mi c.s2.ti c.s2.w c.s2.s c.s2.h c.s2.va c.s2.ov c.s2.ra c.s2.ol c.s2.od c.s2.ne a0 a1 o0 o1 g 2 (by decide) (by rw [hs_a0]; decide) rfl) (cwV 2 hts gL_setTint_X4_setTint rfl rfl rfl hvX4_setTint ⟨Nat.le_of_ble_eq_true rfl, Nat.le_of_ble_eq_true rfl⟩) hK hP hD hS xb_triv (fun _ _ _ => trivial) [0, 1, 27, 28, 29, 30, 31, 32, 33, 34] [2, 3, 4, 5, 6, 7, 8, 9, 10, 11, 12, 13, 14, 15, 16, 17, 18, 19, 20, 21, 22, 23, 24, 25, 26, 35] [26, 27, 0, 1, 2, 3, 4, 5, 6, 7, 8, 9, 10, 11, 12, 13, 14, 15, 16, 17, 18, 19, 20, 21, 22, 23, 24, 28, 29, 30, 31, 32, 33, 34, 35, 25] rfl rfl rfl rfl rfl rfl rfl 0 4 rfl rfl rfl rfl hl.1 rfl (Nat.le_of_ble_eq_true rfl) dL_setTint_5 ⟨Nat.zero_le _, Nat.zero_le _⟩ (fun _ H locs hP hD hS => ?_)
      refine lv_i2l hx hb dL_setTint_8 rfl ?_
      refine va_last hx hb hK.1 hP hD hS 35 3 rfl rfl (i := 0) (vp_in_iff.mpr ⟨by decide, by decide⟩) dL_setTint_9 (fun H locs hP hD hS => ?_)
      refine lv_goto (tgt := 25) hx hb dL_setTint_10 (by decide) ?_
      refine lv_iconst (v := 0) hx hb dL_setTint_25 (by decide) ?_
      refine W.widen (k := 1) (n := 6) (by omega) (by omega) ?_
      exact hret _ _ _ _ _ rfl hP hD hS dL_setTint_26
  replace h := ite_f hs_a0 h
  have hn_a02 := hs_a0
  clear hs_a0
  have ho_a0 := slot_out hn_a00 hn_a01 hn_a02
  cases h
  refine lwC (k := 3) (rest := [.int 0, .ref qo]) (As := [.int a0, .int a1]) S (by decide) (cxX4_setTinto l hfl G (ad 0) (ad 1) (ad 2) (ad 5) (ad 10) c.gain (ad 11) (ad 19) (ad 27) a0 a1 ho_a0) (cwV 2 hts gL_setTint_X4_setTint rfl rfl rfl hvX4_setTint ⟨Nat.le_of_ble_eq_true rfl, Nat.le_of_ble_eq_true rfl⟩) hK hT hP hD hS [0, 1] rfl 0 4 rfl rfl rfl rfl hl.1 rfl (Nat.le_of_ble_eq_true rfl) dL_setTint_5 ⟨Nat.le_of_ble_eq_true rfl, Nat.le_of_ble_eq_true rfl⟩ [] { startPc := 0, endPc := 10, handlerPc := 13, catchType := 20 } [{ startPc := 0, endPc := 10, handlerPc := 17, catchType := 15 }, { startPc := 0, endPc := 10, handlerPc := 21, catchType := 13 }] (by rw [htab]; rfl) tp_nil rfl (by decide) (hts (.classLink RL 20 "java/lang/IndexOutOfBoundsException") lkL_setTint_c20) rfl (fun H locs q hP hD hS => ?_)
  refine lv_astore (lv' := [(4, .ref q), (0, .ref (ad 0)), (1, .int a0), (2, .int a1), (3, .ref qo)]) hx hb dL_setTint_13 hl (by decide) rfl (fun ls hl => ?_)
  refine lv_iconst (v := 1) hx hb dL_setTint_15 (by decide) ?_
  exact hret _ _ _ _ _ rfl hP hD hS dL_setTint_16
abbrev rmL_place : Room := { frames := 8, cells := 1, slots := 6, locals := 135 }
theorem hsX4_place : yX4_place.cls ≠ "java/lang/invoke/MethodHandle" ∧ yX4_place.cls ≠ "java/lang/invoke/VarHandle" ∧ (parseMethodDescriptor yX4_place.desc).map (fun d => d.parameters.length) = some 3 := by decide +kernel
theorem hvX4_place : yX4_place.cls = RX4 ∧ yX4_place.cls ≠ "java/lang/invoke/MethodHandle" ∧ yX4_place.cls ≠ "java/lang/invoke/VarHandle" ∧ (parseMethodDescriptor yX4_place.desc).map (fun d => d.parameters.length) = some 3 := ⟨rfl, hsX4_place⟩
theorem lkL_place_c20 : Cond.classLink RL 20 "java/lang/IndexOutOfBoundsException" ∈ wsL_place := List.mem_of_getElem? (i := 1) rfl
theorem lkL_place_c13 : Cond.classLink RL 13 "java/lang/IllegalArgumentException" ∈ wsL_place := List.mem_of_getElem? (i := 2) rfl
theorem lkL_place_c15 : Cond.classLink RL 15 "java/lang/IllegalStateException" ∈ wsL_place := List.mem_of_getElem? (i := 3) rfl
set_option maxHeartbeats 4000000 in
set_option maxRecDepth 100000 in
theorem lw_place (l : Launch) (hfl : l.stackTraces = false) (G : GG) (ad : Nat → Nat) (qo : Nat) (c c' : Cls) (f f' : Nat → Int64) (a0 : Int32) (a1 : Int32) (a2 : Int32) (r0 : Int32) (h : lm_place c f a0 a1 a2 = some (r0, c', f')) : Met l yL_place wsL_place rmL_place (va_Pc [.ref (ad 0), .int a0, .int a1, .int a2, .ref qo] (PreD G (wdF G ad c ++ [(qo, .inl (G.2 3, 1, .inr (.inl f)))]) (XL (wdF G ad c ++ [(qo, .inl (G.2 3, 1, .inr (.inl f)))])))) (QwA G (va_A0 (wdF G ad c ++ [(qo, .inl (G.2 3, 1, .inr (.inl f)))])) (wdF G ad c' ++ [(qo, .inl (G.2 3, 1, .inr (.inl f')))]) (some (.int r0)) True) 1 6 (va_A0 (wdF G ad c ++ [(qo, .inl (G.2 3, 1, .inr (.inl f)))])) := by
  refine of_lw (cc := cL_place) (maxL := 6) (hh := [(0, 12, 15, 20), (0, 12, 19, 13), (0, 12, 23, 15)]) (by decide) rfl (Nat.le_of_ble_eq_true rfl) ?_
  intro p e s m args below meth c1 ls Q A S htab hl hP hD hS hK hT hN hX hA hret
  obtain ⟨H, hH⟩ : ∃ H, H = s.heap := ⟨_, rfl⟩
  obtain ⟨locs, hlocs⟩ : ∃ L : List Loc, L = [] := ⟨_, rfl⟩
  rw [← hlocs]
  rw [← hlocs] at hS
  have hP : va_P G.1 vwCl (wdF G ad c ++ [(qo, .inl (G.2 3, 1, .inr (.inl f)))]) H := by rw [hH]; exact hP
  have hS : va_S A s.heap H locs := by rw [hH]; exact hS
  have hT : TT A s H := by rw [hH]; exact hT
  suffices hgo : W p l e rmL_place s m args below meth c1 H locs 0 0 Q (F0 m 0 ls []) by rw [hH] at hgo; exact hgo
  have S : CallFix p m c1 cL_place 6 s args wsL_place RL := S
  obtain ⟨hx, hb, hml, hown, hts⟩ := id S
  have hl : lv_has ls 6 [(0, .ref (ad 0)), (1, .int a0), (2, .int a1), (3, .int a2), (4, .ref qo)] := hl
  unfold lm_place at h
  refine lv_aload hx hb dL_place_0 (lv_at hl 4 rfl) ?_
  refine lv_iconst (v := 0) hx hb dL_place_2 (by decide) ?_
  refine lv_aload_n hx hb dL_place_3 rfl (lv_at hl 0 rfl) ?_
  refine lv_iload_n hx hb dL_place_4 rfl (lv_at hl 1 rfl) ?_
  refine lv_iload_n hx hb dL_place_5 rfl (lv_at hl 2 rfl) ?_
  refine lv_iload_n hx hb dL_place_6 rfl (lv_at hl 3 rfl) ?_
  by_cases hs_a0 : a0 = 0
  · replace h := ite_t hs_a0 h
    rcases lq_e h with ⟨k0, gx, h⟩ | ⟨gx, h⟩
    · by_cases hk1 : k0 = 1
      · subst hk1
        cases h
        refine lwC (k := 1) (rest := [.int 0, .ref qo]) (As := [.int a0, .int a1, .int a2]) S (by decide) (cxX4_place l hfl G (ad 0) (ad 1) (ad 11) (ad 12) (ad 13) (ad 14) (ad 15) (ad 16) (ad 17) (ad 18) (ad 2) (ad 5) (ad 10) c.gain (ad 11) (ad 19) (ad 27) c.s0.pr c.s0.a c.s0.b c.s0.c c.s0.d c.s0.sp c.s0.mi c.s0.ti c.s0.w c.s0.s c.s0.h c.s0.va c.s0.ov c.s0.ra c.s0.ol c.s0.od c.s0.ne a0 a1 a2 1 gx 0 (by decide) (by rw [hs_a0]; decide) rfl) (cwV 3 hts gL_place_X4_place rfl rfl rfl hvX4_place ⟨Nat.le_of_ble_eq_true rfl, Nat.le_of_ble_eq_true rfl⟩) hK hT hP hD hS [0, 1, 11, 12, 13, 14, 15, 16, 17, 18] rfl 0 4 rfl rfl rfl rfl hl.1 rfl (Nat.le_of_ble_eq_true rfl) dL_place_7 ⟨Nat.le_of_ble_eq_true rfl, Nat.le_of_ble_eq_true rfl⟩ [{ startPc := 0, endPc := 12, handlerPc := 15, catchType := 20 }] { startPc := 0, endPc := 12, handlerPc := 19, catchType := 13 } [{ startPc := 0, endPc := 12, handlerPc := 23, catchType := 15 }] (by rw [htab]; rfl) (tp_cons (nm := exn 3) (by decide) (hts (.classLink RL 20 "java/lang/IndexOutOfBoundsException") lkL_place_c20) (hN 1 (by decide) 3 (by decide) (by decide)) tp_nil) rfl (by decide) (hts (.classLink RL 13 "java/lang/IllegalArgumentException") lkL_place_c13) rfl (fun H locs q hP hD hS => ?_)
        refine lv_astore (lv' := [(5, .ref q), (0, .ref (ad 0)), (1, .int a0), (2, .int a1), (3, .int a2), (4, .ref qo)]) hx hb dL_place_19 hl (by decide) rfl (fun ls hl => ?_)
        refine lv_iconst (v := 2) hx hb dL_place_21 (by decide) ?_
        exact hret _ _ _ _ _ rfl hP hD hS dL_place_22
      replace h := ite_f hk1 h
      by_cases hk2 : k0 = 2
      · subst hk2
        cases h
        refine lwC (k := 2) (rest := [.int 0, .ref qo]) (As := [.int a0, .int a1, .int a2]) S (by decide) (cxX4_place l hfl G (ad 0) (ad 1) (ad 11) (ad 12) (ad 13) (ad 14) (ad 15) (ad 16) (ad 17) (ad 18) (ad 2) (ad 5) (ad 10) c.gain (ad 11) (ad 19) (ad 27) c.s0.pr c.s0.a c.s0.b c.s0.c c.s0.d c.s0.sp c.s0.mi c.s0.ti c.s0.w c.s0.s c.s0.h c.s0.va c.s0.ov c.s0.ra c.s0.ol c.s0.od c.s0.ne a0 a1 a2 2 gx 0 (by decide) (by rw [hs_a0]; decide) rfl) (cwV 3 hts gL_place_X4_place rfl rfl rfl hvX4_place ⟨Nat.le_of_ble_eq_true rfl, Nat.le_of_ble_eq_true rfl⟩) hK hT hP hD hS [0, 1, 11, 12, 13, 14, 15, 16, 17, 18] rfl 0 4 rfl rfl rfl rfl hl.1 rfl (Nat.le_of_ble_eq_true rfl) dL_place_7 ⟨Nat.le_of_ble_eq_true rfl, Nat.le_of_ble_eq_true rfl⟩ [{ startPc := 0, endPc := 12, handlerPc := 15, catchType := 20 }, { startPc := 0, endPc := 12, handlerPc := 19, catchType := 13 }] { startPc := 0, endPc := 12, handlerPc := 23, catchType := 15 } [] (by rw [htab]; rfl) (tp_cons (nm := exn 3) (by decide) (hts (.classLink RL 20 "java/lang/IndexOutOfBoundsException") lkL_place_c20) (hN 2 (by decide) 3 (by decide) (by decide)) (tp_cons (nm := exn 1) (by decide) (hts (.classLink RL 13 "java/lang/IllegalArgumentException") lkL_place_c13) (hN 2 (by decide) 1 (by decide) (by decide)) tp_nil)) rfl (by decide) (hts (.classLink RL 15 "java/lang/IllegalStateException") lkL_place_c15) rfl (fun H locs q hP hD hS => ?_)
        refine lv_astore (lv' := [(5, .ref q), (0, .ref (ad 0)), (1, .int a0), (2, .int a1), (3, .int a2), (4, .ref qo)]) hx hb dL_place_23 hl (by decide) rfl (fun ls hl => ?_)
        refine lv_iconst (v := 3) hx hb dL_place_25 (by decide) ?_
        exact hret _ _ _ _ _ rfl hP hD hS dL_place_26
      replace h := ite_f hk2 h
      by_cases hk3 : k0 = 3
      · subst hk3
        cases h
        refine lwC (k := 3) (rest := [.int 0, .ref qo]) (As := [.int a0, .int a1, .int a2]) S (by decide) (cxX4_place l hfl G (ad 0) (ad 1) (ad 11) (ad 12) (ad 13) (ad 14) (ad 15) (ad 16) (ad 17) (ad 18) (ad 2) (ad 5) (ad 10) c.gain (ad 11) (ad 19) (ad 27) c.s0.pr c.s0.a c.s0.b c.s0.c c.s0.d c.s0.sp c.s0.mi c.s0.ti c.s0.w c.s0.s c.s0.h c.s0.va c.s0.ov c.s0.ra c.s0.ol c.s0.od c.s0.ne a0 a1 a2 3 gx 0 (by decide) (by rw [hs_a0]; decide) rfl) (cwV 3 hts gL_place_X4_place rfl rfl rfl hvX4_place ⟨Nat.le_of_ble_eq_true rfl, Nat.le_of_ble_eq_true rfl⟩) hK hT hP hD hS [0, 1, 11, 12, 13, 14, 15, 16, 17, 18] rfl 0 4 rfl rfl rfl rfl hl.1 rfl (Nat.le_of_ble_eq_true rfl) dL_place_7 ⟨Nat.le_of_ble_eq_true rfl, Nat.le_of_ble_eq_true rfl⟩ [] { startPc := 0, endPc := 12, handlerPc := 15, catchType := 20 } [{ startPc := 0, endPc := 12, handlerPc := 19, catchType := 13 }, { startPc := 0, endPc := 12, handlerPc := 23, catchType := 15 }] (by rw [htab]; rfl) tp_nil rfl (by decide) (hts (.classLink RL 20 "java/lang/IndexOutOfBoundsException") lkL_place_c20) rfl (fun H locs q hP hD hS => ?_)
        refine lv_astore (lv' := [(5, .ref q), (0, .ref (ad 0)), (1, .int a0), (2, .int a1), (3, .int a2), (4, .ref qo)]) hx hb dL_place_15 hl (by decide) rfl (fun ls hl => ?_)
        refine lv_iconst (v := 1) hx hb dL_place_17 (by decide) ?_
        exact hret _ _ _ _ _ rfl hP hD hS dL_place_18
      cases (ite_f hk3 h)
    · obtain ⟨o0, g, h⟩ := bnd1_e h
      cases h
      refine roVi1 (rest := [.int 0, .ref qo]) (As := [.int a0, .int a1, .int a2]) S (ctX4_place l G (ad 0) (ad 1) (ad 11) (ad 12) (ad 13) (ad 14) (ad 15) (ad 16) (ad 17) (ad 18) (ad 2) (ad 5) (ad 10) c.gain (ad 11) (ad 19) (ad 27) c.s0.pr c.s0.a c.s0.b c.s0.c c.s0.d c.s0.sp c.s0.mi c.s0.ti c.s0.w c.s0.s c.s0.h c.s0.va c.s0.ov c.s0.ra c.s0.ol c.s0.od c.s0.ne a0 a1 a2 o0 g 0 (by decide) (by rw [hs_a0]; decide) rfl) (cwV 3 hts gL_place_X4_place rfl rfl rfl hvX4_place ⟨Nat.le_of_ble_eq_true rfl, Nat.le_of_ble_eq_true rfl⟩) hK hP [0, 1, 11, 12, 13, 14, 15, 16, 17, 18] rfl 0 4 rfl rfl rfl rfl hl.1 rfl (Nat.le_of_ble_eq_true rfl) dL_place_7 ⟨Nat.zero_le _, Nat.zero_le _⟩ (fun _ => ?_)
      refine lv_i2l hx hb dL_place_10 rfl ?_
      refine va_last hx hb hK.1 hP hD hS 35 3 rfl rfl (i := 0) (vp_in_iff.mpr ⟨by decide, by decide⟩) dL_place_11 (fun H locs hP hD hS => ?_)
      refine lv_goto (tgt := 27) hx hb dL_place_12 (by decide) ?_
      refine lv_iconst (v := 0) hx hb dL_place_27 (by decide) ?_
      refine W.widen (k := 1) (n := 6) (by omega) (by omega) ?_
      exact hret _ _ _ _ _ rfl hP hD hS dL_place_28
  replace h := ite_f hs_a0 h
  have hn_a00 := hs_a0
  clear hs_a0
  by_cases hs_a0 : a0 = 1
  · replace h := ite_t hs_a0 h
    rcases lq_e h with ⟨k0, gx, h⟩ | ⟨gx, h⟩
    · by_cases hk1 : k0 = 1
      · subst hk1
        cases h
        refine lwC (k := 1) (rest := [.int 0, .ref qo]) (As := [.int a0, .int a1, .int a2]) S (by decide) (cxX4_place l hfl G (ad 0) (ad 1) (ad 19) (ad 20) (ad 21) (ad 22) (ad 23) (ad 24) (ad 25) (ad 26) (ad 2) (ad 5) (ad 10) c.gain (ad 11) (ad 19) (ad 27) c.s1.pr c.s1.a c.s1.b c.s1.c c.s1.d c.s1.sp c.s1.mi c.s1.ti c.s1.w c.s1.s c.s1.h c.s1.va c.s1.ov c.s1.ra c.s1.ol c.s1.od c.s1.ne a0 a1 a2 1 gx 1 (by decide) (by rw [hs_a0]; decide) rfl) (cwV 3 hts gL_place_X4_place rfl rfl rfl hvX4_place ⟨Nat.le_of_ble_eq_true rfl, Nat.le_of_ble_eq_true rfl⟩) hK hT hP hD hS [0, 1, 19, 20, 21, 22, 23, 24, 25, 26] rfl 0 4 rfl rfl rfl rfl hl.1 rfl (Nat.le_of_ble_eq_true rfl) dL_place_7 ⟨Nat.le_of_ble_eq_true rfl, Nat.le_of_ble_eq_true rfl⟩ [{ startPc := 0, endPc := 12, handlerPc := 15, catchType := 20 }] { startPc := 0, endPc := 12, handlerPc := 19, catchType := 13 } [{ startPc := 0, endPc := 12, handlerPc := 23, catchType := 15 }] (by rw [htab]; rfl) (tp_cons (nm := exn 3) (by decide) (hts (.classLink RL 20 "java/lang/IndexOutOfBoundsException") lkL_place_c20) (hN 1 (by decide) 3 (by decide) (by decide)) tp_nil) rfl (by decide) (hts (.classLink RL 13 "java/lang/IllegalArgumentException") lkL_place_c13) rfl (fun H locs q hP hD hS => ?_)
        refine lv_astore (lv' := [(5, .ref q), (0, .ref (ad 0)), (1, .int a0), (2, .int a1), (3, .int a2), (4, .ref qo)]) hx hb dL_place_19 hl (by decide) rfl (fun ls hl => ?_)
        refine lv_iconst (v := 2) hx hb dL_place_21 (by decide) ?_
        exact hret _ _ _ _ _ rfl hP hD hS dL_place_22
      replace h := ite_f hk1 h
      by_cases hk2 : k0 = 2
      · subst hk2
        cases h
        refine lwC (k := 2) (rest := [.int 0, .ref qo]) (As := [.int a0, .int a1, .int a2]) S (by decide) (cxX4_place l hfl G (ad 0) (ad 1) (ad 19) (ad 20) (ad 21) (ad 22) (ad 23) (ad 24) (ad 25) (ad 26) (ad 2) (ad 5) (ad 10) c.gain (ad 11) (ad 19) (ad 27) c.s1.pr c.s1.a c.s1.b c.s1.c c.s1.d c.s1.sp c.s1.mi c.s1.ti c.s1.w c.s1.s c.s1.h c.s1.va c.s1.ov c.s1.ra c.s1.ol c.s1.od c.s1.ne a0 a1 a2 2 gx 1 (by decide) (by rw [hs_a0]; decide) rfl) (cwV 3 hts gL_place_X4_place rfl rfl rfl hvX4_place ⟨Nat.le_of_ble_eq_true rfl, Nat.le_of_ble_eq_true rfl⟩) hK hT hP hD hS [0, 1, 19, 20, 21, 22, 23, 24, 25, 26] rfl 0 4 rfl rfl rfl rfl hl.1 rfl (Nat.le_of_ble_eq_true rfl) dL_place_7 ⟨Nat.le_of_ble_eq_true rfl, Nat.le_of_ble_eq_true rfl⟩ [{ startPc := 0, endPc := 12, handlerPc := 15, catchType := 20 }, { startPc := 0, endPc := 12, handlerPc := 19, catchType := 13 }] { startPc := 0, endPc := 12, handlerPc := 23, catchType := 15 } [] (by rw [htab]; rfl) (tp_cons (nm := exn 3) (by decide) (hts (.classLink RL 20 "java/lang/IndexOutOfBoundsException") lkL_place_c20) (hN 2 (by decide) 3 (by decide) (by decide)) (tp_cons (nm := exn 1) (by decide) (hts (.classLink RL 13 "java/lang/IllegalArgumentException") lkL_place_c13) (hN 2 (by decide) 1 (by decide) (by decide)) tp_nil)) rfl (by decide) (hts (.classLink RL 15 "java/lang/IllegalStateException") lkL_place_c15) rfl (fun H locs q hP hD hS => ?_)
        refine lv_astore (lv' := [(5, .ref q), (0, .ref (ad 0)), (1, .int a0), (2, .int a1), (3, .int a2), (4, .ref qo)]) hx hb dL_place_23 hl (by decide) rfl (fun ls hl => ?_)
        refine lv_iconst (v := 3) hx hb dL_place_25 (by decide) ?_
        exact hret _ _ _ _ _ rfl hP hD hS dL_place_26
      replace h := ite_f hk2 h
      by_cases hk3 : k0 = 3
      · subst hk3
        cases h
        refine lwC (k := 3) (rest := [.int 0, .ref qo]) (As := [.int a0, .int a1, .int a2]) S (by decide) (cxX4_place l hfl G (ad 0) (ad 1) (ad 19) (ad 20) (ad 21) (ad 22) (ad 23) (ad 24) (ad 25) (ad 26) (ad 2) (ad 5) (ad 10) c.gain (ad 11) (ad 19) (ad 27) c.s1.pr c.s1.a c.s1.b c.s1.c c.s1.d c.s1.sp c.s1.mi c.s1.ti c.s1.w c.s1.s c.s1.h c.s1.va c.s1.ov c.s1.ra c.s1.ol c.s1.od c.s1.ne a0 a1 a2 3 gx 1 (by decide) (by rw [hs_a0]; decide) rfl) (cwV 3 hts gL_place_X4_place rfl rfl rfl hvX4_place ⟨Nat.le_of_ble_eq_true rfl, Nat.le_of_ble_eq_true rfl⟩) hK hT hP hD hS [0, 1, 19, 20, 21, 22, 23, 24, 25, 26] rfl 0 4 rfl rfl rfl rfl hl.1 rfl (Nat.le_of_ble_eq_true rfl) dL_place_7 ⟨Nat.le_of_ble_eq_true rfl, Nat.le_of_ble_eq_true rfl⟩ [] { startPc := 0, endPc := 12, handlerPc := 15, catchType := 20 } [{ startPc := 0, endPc := 12, handlerPc := 19, catchType := 13 }, { startPc := 0, endPc := 12, handlerPc := 23, catchType := 15 }] (by rw [htab]; rfl) tp_nil rfl (by decide) (hts (.classLink RL 20 "java/lang/IndexOutOfBoundsException") lkL_place_c20) rfl (fun H locs q hP hD hS => ?_)
        refine lv_astore (lv' := [(5, .ref q), (0, .ref (ad 0)), (1, .int a0), (2, .int a1), (3, .int a2), (4, .ref qo)]) hx hb dL_place_15 hl (by decide) rfl (fun ls hl => ?_)
        refine lv_iconst (v := 1) hx hb dL_place_17 (by decide) ?_
        exact hret _ _ _ _ _ rfl hP hD hS dL_place_18
      cases (ite_f hk3 h)
    · obtain ⟨o0, g, h⟩ := bnd1_e h
      cases h
      refine roVi1 (rest := [.int 0, .ref qo]) (As := [.int a0, .int a1, .int a2]) S (ctX4_place l G (ad 0) (ad 1) (ad 19) (ad 20) (ad 21) (ad 22) (ad 23) (ad 24) (ad 25) (ad 26) (ad 2) (ad 5) (ad 10) c.gain (ad 11) (ad 19) (ad 27) c.s1.pr c.s1.a c.s1.b c.s1.c c.s1.d c.s1.sp c.s1.mi c.s1.ti c.s1.w c.s1.s c.s1.h c.s1.va c.s1.ov c.s1.ra c.s1.ol c.s1.od c.s1.ne a0 a1 a2 o0 g 1 (by decide) (by rw [hs_a0]; decide) rfl) (cwV 3 hts gL_place_X4_place rfl rfl rfl hvX4_place ⟨Nat.le_of_ble_eq_true rfl, Nat.le_of_ble_eq_true rfl⟩) hK hP [0, 1, 19, 20, 21, 22, 23, 24, 25, 26] rfl 0 4 rfl rfl rfl rfl hl.1 rfl (Nat.le_of_ble_eq_true rfl) dL_place_7 ⟨Nat.zero_le _, Nat.zero_le _⟩ (fun _ => ?_)
      refine lv_i2l hx hb dL_place_10 rfl ?_
      refine va_last hx hb hK.1 hP hD hS 35 3 rfl rfl (i := 0) (vp_in_iff.mpr ⟨by decide, by decide⟩) dL_place_11 (fun H locs hP hD hS => ?_)
      refine lv_goto (tgt := 27) hx hb dL_place_12 (by decide) ?_
      refine lv_iconst (v := 0) hx hb dL_place_27 (by decide) ?_
      refine W.widen (k := 1) (n := 6) (by omega) (by omega) ?_
      exact hret _ _ _ _ _ rfl hP hD hS dL_place_28
  replace h := ite_f hs_a0 h
  have hn_a01 := hs_a0
  clear hs_a0
  by_cases hs_a0 : a0 = 2
  · replace h := ite_t hs_a0 h
    rcases lq_e h with ⟨k0, gx, h⟩ | ⟨gx, h⟩
    · by_cases hk1 : k0 = 1
      · subst hk1
        cases h
        refine lwC (k := 1) (rest := [.int 0, .ref qo]) (As := [.int a0, .int a1, .int a2]) S (by decide) (cxX4_place l hfl G (ad 0) (ad 1) (ad 27) (ad 28) (ad 29) (ad 30) (ad 31) (ad 32) (ad 33) (ad 34) (ad 2) (ad 5) (ad 10) c.gain (ad 11) (ad 19) (ad 27) c.s2.pr c.s2.a c.s2.b c.s2.c c.s2.d c.s2.sp c.s2.mi c.s2.ti c.s2.w c.s2.s c.s2.h c.s2.va c.s2.ov c.s2.ra c.s2.ol c.s2.od c.s2.ne a0 a1 a2 1 gx 2 (by decide) (by rw [hs_a0]; decide) rfl) (cwV 3 hts gL_place_X4_place rfl rfl rfl hvX4_place ⟨Nat.le_of_ble_eq_true rfl, Nat.le_of_ble_eq_true rfl⟩) hK hT hP hD hS [0, 1, 27, 28, 29, 30, 31, 32, 33, 34] rfl 0 4 rfl rfl rfl rfl hl.1 rfl (Nat.le_of_ble_eq_true rfl) dL_place_7 ⟨Nat.le_of_ble_eq_true rfl, Nat.le_of_ble_eq_true rfl⟩ [{ startPc := 0, endPc := 12, handlerPc := 15, catchType := 20 }] { startPc := 0, endPc := 12, handlerPc := 19, catchType := 13 } [{ startPc := 0, endPc := 12, handlerPc := 23, catchType := 15 }] (by rw [htab]; rfl) (tp_cons (nm := exn 3) (by decide) (hts (.classLink RL 20 "java/lang/IndexOutOfBoundsException") lkL_place_c20) (hN 1 (by decide) 3 (by decide) (by decide)) tp_nil) rfl (by decide) (hts (.classLink RL 13 "java/lang/IllegalArgumentException") lkL_place_c13) rfl (fun H locs q hP hD hS => ?_)
        refine lv_astore (lv' := [(5, .ref q), (0, .ref (ad 0)), (1, .int a0), (2, .int a1), (3, .int a2), (4, .ref qo)]) hx hb dL_place_19 hl (by decide) rfl (fun ls hl => ?_)
        refine lv_iconst (v := 2) hx hb dL_place_21 (by decide) ?_
        exact hret _ _ _ _ _ rfl hP hD hS dL_place_22
      replace h := ite_f hk1 h
      by_cases hk2 : k0 = 2
      · subst hk2
        cases h
        refine lwC (k := 2) (rest := [.int 0, .ref qo]) (As := [.int a0, .int a1, .int a2]) S (by decide) (cxX4_place l hfl G (ad 0) (ad 1) (ad 27) (ad 28) (ad 29) (ad 30) (ad 31) (ad 32) (ad 33) (ad 34) (ad 2) (ad 5) (ad 10) c.gain (ad 11) (ad 19) (ad 27) c.s2.pr c.s2.a c.s2.b c.s2.c c.s2.d c.s2.sp c.s2.mi c.s2.ti c.s2.w c.s2.s c.s2.h c.s2.va c.s2.ov c.s2.ra c.s2.ol c.s2.od c.s2.ne a0 a1 a2 2 gx 2 (by decide) (by rw [hs_a0]; decide) rfl) (cwV 3 hts gL_place_X4_place rfl rfl rfl hvX4_place ⟨Nat.le_of_ble_eq_true rfl, Nat.le_of_ble_eq_true rfl⟩) hK hT hP hD hS [0, 1, 27, 28, 29, 30, 31, 32, 33, 34] rfl 0 4 rfl rfl rfl rfl hl.1 rfl (Nat.le_of_ble_eq_true rfl) dL_place_7 ⟨Nat.le_of_ble_eq_true rfl, Nat.le_of_ble_eq_true rfl⟩ [{ startPc := 0, endPc := 12, handlerPc := 15, catchType := 20 }, { startPc := 0, endPc := 12, handlerPc := 19, catchType := 13 }] { startPc := 0, endPc := 12, handlerPc := 23, catchType := 15 } [] (by rw [htab]; rfl) (tp_cons (nm := exn 3) (by decide) (hts (.classLink RL 20 "java/lang/IndexOutOfBoundsException") lkL_place_c20) (hN 2 (by decide) 3 (by decide) (by decide)) (tp_cons (nm := exn 1) (by decide) (hts (.classLink RL 13 "java/lang/IllegalArgumentException") lkL_place_c13) (hN 2 (by decide) 1 (by decide) (by decide)) tp_nil)) rfl (by decide) (hts (.classLink RL 15 "java/lang/IllegalStateException") lkL_place_c15) rfl (fun H locs q hP hD hS => ?_)
        refine lv_astore (lv' := [(5, .ref q), (0, .ref (ad 0)), (1, .int a0), (2, .int a1), (3, .int a2), (4, .ref qo)]) hx hb dL_place_23 hl (by decide) rfl (fun ls hl => ?_)
        refine lv_iconst (v := 3) hx hb dL_place_25 (by decide) ?_
        exact hret _ _ _ _ _ rfl hP hD hS dL_place_26
      replace h := ite_f hk2 h
      by_cases hk3 : k0 = 3
      · subst hk3
        cases h
        refine lwC (k := 3) (rest := [.int 0, .ref qo]) (As := [.int a0, .int a1, .int a2]) S (by decide) (cxX4_place l hfl G (ad 0) (ad 1) (ad 27) (ad 28) (ad 29) (ad 30) (ad 31) (ad 32) (ad 33) (ad 34) (ad 2) (ad 5) (ad 10) c.gain (ad 11) (ad 19) (ad 27) c.s2.pr c.s2.a c.s2.b c.s2.c c.s2.d c.s2.sp c.s2.mi c.s2.ti c.s2.w c.s2.s c.s2.h c.s2.va c.s2.ov c.s2.ra c.s2.ol c.s2.od c.s2.ne a0 a1 a2 3 gx 2 (by decide) (by rw [hs_a0]; decide) rfl) (cwV 3 hts gL_place_X4_place rfl rfl rfl hvX4_place ⟨Nat.le_of_ble_eq_true rfl, Nat.le_of_ble_eq_true rfl⟩) hK hT hP hD hS [0, 1, 27, 28, 29, 30, 31, 32, 33, 34] rfl 0 4 rfl rfl rfl rfl hl.1 rfl (Nat.le_of_ble_eq_true rfl) dL_place_7 ⟨Nat.le_of_ble_eq_true rfl, Nat.le_of_ble_eq_true rfl⟩ [] { startPc := 0, endPc := 12, handlerPc := 15, catchType := 20 } [{ startPc := 0, endPc := 12, handlerPc := 19, catchType := 13 }, { startPc := 0, endPc := 12, handlerPc := 23, catchType := 15 }] (by rw [htab]; rfl) tp_nil rfl (by decide) (hts (.classLink RL 20 "java/lang/IndexOutOfBoundsException") lkL_place_c20) rfl (fun H locs q hP hD hS => ?_)
        refine lv_astore (lv' := [(5, .ref q), (0, .ref (ad 0)), (1, .int a0), (2, .int a1), (3, .int a2), (4, .ref qo)]) hx hb dL_place_15 hl (by decide) rfl (fun ls hl => ?_)
        refine lv_iconst (v := 1) hx hb dL_place_17 (by decide) ?_
        exact hret _ _ _ _ _ rfl hP hD hS dL_place_18
      cases (ite_f hk3 h)
    · obtain ⟨o0, g, h⟩ := bnd1_e h
      cases h
      refine roVi1 (rest := [.int 0, .ref qo]) (As := [.int a0, .int a1, .int a2]) S (ctX4_place l G (ad 0) (ad 1) (ad 27) (ad 28) (ad 29) (ad 30) (ad 31) (ad 32) (ad 33) (ad 34) (ad 2) (ad 5) (ad 10) c.gain (ad 11) (ad 19) (ad 27) c.s2.pr c.s2.a c.s2.b c.s2.c c.s2.d c.s2.sp c.s2.mi c.s2.ti c.s2.w c.s2.s c.s2.h c.s2.va c.s2.ov c.s2.ra c.s2.ol c.s2.od c.s2.ne a0 a1 a2 o0 g 2 (by decide) (by rw [hs_a0]; decide) rfl) (cwV 3 hts gL_place_X4_place rfl rfl rfl hvX4_place ⟨Nat.le_of_ble_eq_true rfl, Nat.le_of_ble_eq_true rfl⟩) hK hP [0, 1, 27, 28, 29, 30, 31, 32, 33, 34] rfl 0 4 rfl rfl rfl rfl hl.1 rfl (Nat.le_of_ble_eq_true rfl) dL_place_7 ⟨Nat.zero_le _, Nat.zero_le _⟩ (fun _ => ?_)
      refine lv_i2l hx hb dL_place_10 rfl ?_
      refine va_last hx hb hK.1 hP hD hS 35 3 rfl rfl (i := 0) (vp_in_iff.mpr ⟨by decide, by decide⟩) dL_place_11 (fun H locs hP hD hS => ?_)
      refine lv_goto (tgt := 27) hx hb dL_place_12 (by decide) ?_
      refine lv_iconst (v := 0) hx hb dL_place_27 (by decide) ?_
      refine W.widen (k := 1) (n := 6) (by omega) (by omega) ?_
      exact hret _ _ _ _ _ rfl hP hD hS dL_place_28
  replace h := ite_f hs_a0 h
  have hn_a02 := hs_a0
  clear hs_a0
  have ho_a0 := slot_out hn_a00 hn_a01 hn_a02
  cases h
  refine lwC (k := 3) (rest := [.int 0, .ref qo]) (As := [.int a0, .int a1, .int a2]) S (by decide) (cxX4_placeo l hfl G (ad 0) (ad 1) (ad 2) (ad 5) (ad 10) c.gain (ad 11) (ad 19) (ad 27) a0 a1 a2 ho_a0) (cwV 3 hts gL_place_X4_place rfl rfl rfl hvX4_place ⟨Nat.le_of_ble_eq_true rfl, Nat.le_of_ble_eq_true rfl⟩) hK hT hP hD hS [0, 1] rfl 0 4 rfl rfl rfl rfl hl.1 rfl (Nat.le_of_ble_eq_true rfl) dL_place_7 ⟨Nat.le_of_ble_eq_true rfl, Nat.le_of_ble_eq_true rfl⟩ [] { startPc := 0, endPc := 12, handlerPc := 15, catchType := 20 } [{ startPc := 0, endPc := 12, handlerPc := 19, catchType := 13 }, { startPc := 0, endPc := 12, handlerPc := 23, catchType := 15 }] (by rw [htab]; rfl) tp_nil rfl (by decide) (hts (.classLink RL 20 "java/lang/IndexOutOfBoundsException") lkL_place_c20) rfl (fun H locs q hP hD hS => ?_)
  refine lv_astore (lv' := [(5, .ref q), (0, .ref (ad 0)), (1, .int a0), (2, .int a1), (3, .int a2), (4, .ref qo)]) hx hb dL_place_15 hl (by decide) rfl (fun ls hl => ?_)
  refine lv_iconst (v := 1) hx hb dL_place_17 (by decide) ?_
  exact hret _ _ _ _ _ rfl hP hD hS dL_place_18
abbrev rmL_pixel : Room := { frames := 8, cells := 1, slots := 6, locals := 135 }
theorem hsX4_pixel : yX4_pixel.cls ≠ "java/lang/invoke/MethodHandle" ∧ yX4_pixel.cls ≠ "java/lang/invoke/VarHandle" ∧ (parseMethodDescriptor yX4_pixel.desc).map (fun d => d.parameters.length) = some 2 := by decide +kernel
theorem hvX4_pixel : yX4_pixel.cls = RX4 ∧ yX4_pixel.cls ≠ "java/lang/invoke/MethodHandle" ∧ yX4_pixel.cls ≠ "java/lang/invoke/VarHandle" ∧ (parseMethodDescriptor yX4_pixel.desc).map (fun d => d.parameters.length) = some 2 := ⟨rfl, hsX4_pixel⟩
theorem lkL_pixel_c13 : Cond.classLink RL 13 "java/lang/IllegalArgumentException" ∈ wsL_pixel := List.mem_of_getElem? (i := 1) rfl
set_option maxHeartbeats 4000000 in
set_option maxRecDepth 100000 in
theorem lw_pixel (l : Launch) (hfl : l.stackTraces = false) (G : GG) (ad : Nat → Nat) (qo : Nat) (c c' : Cls) (f f' : Nat → Int64) (a0 : Int32) (a1 : Int32) (r0 : Int32) (h : lm_pixel c f a0 a1 = some (r0, c', f')) : Met l yL_pixel wsL_pixel rmL_pixel (va_Pc [.ref (ad 0), .int a0, .int a1, .ref qo] (PreD G (wdF G ad c ++ [(qo, .inl (G.2 3, 1, .inr (.inl f)))]) (XL (wdF G ad c ++ [(qo, .inl (G.2 3, 1, .inr (.inl f)))])))) (QwA G (va_A0 (wdF G ad c ++ [(qo, .inl (G.2 3, 1, .inr (.inl f)))])) (wdF G ad c' ++ [(qo, .inl (G.2 3, 1, .inr (.inl f')))]) (some (.int r0)) True) 1 6 (va_A0 (wdF G ad c ++ [(qo, .inl (G.2 3, 1, .inr (.inl f)))])) := by
  refine of_lw (cc := cL_pixel) (maxL := 5) (hh := [(0, 10, 13, 13)]) (by decide) rfl (Nat.le_of_ble_eq_true rfl) ?_
  intro p e s m args below meth c1 ls Q A S htab hl hP hD hS hK hT hN hX hA hret
  obtain ⟨H, hH⟩ : ∃ H, H = s.heap := ⟨_, rfl⟩
  obtain ⟨locs, hlocs⟩ : ∃ L : List Loc, L = [] := ⟨_, rfl⟩
  rw [← hlocs]
  rw [← hlocs] at hS
  have hP : va_P G.1 vwCl (wdF G ad c ++ [(qo, .inl (G.2 3, 1, .inr (.inl f)))]) H := by rw [hH]; exact hP
  have hS : va_S A s.heap H locs := by rw [hH]; exact hS
  have hT : TT A s H := by rw [hH]; exact hT
  suffices hgo : W p l e rmL_pixel s m args below meth c1 H locs 0 0 Q (F0 m 0 ls []) by rw [hH] at hgo; exact hgo
  have S : CallFix p m c1 cL_pixel 5 s args wsL_pixel RL := S
  obtain ⟨hx, hb, hml, hown, hts⟩ := id S
  have hl : lv_has ls 5 [(0, .ref (ad 0)), (1, .int a0), (2, .int a1), (3, .ref qo)] := hl
  unfold lm_pixel at h
  refine lv_aload_n hx hb dL_pixel_0 rfl (lv_at hl 3 rfl) ?_
  refine lv_iconst (v := 0) hx hb dL_pixel_1 (by decide) ?_
  refine lv_aload_n hx hb dL_pixel_2 rfl (lv_at hl 0 rfl) ?_
  refine lv_iload_n hx hb dL_pixel_3 rfl (lv_at hl 1 rfl) ?_
  refine lv_iload_n hx hb dL_pixel_4 rfl (lv_at hl 2 rfl) ?_
  rcases lq_e h with ⟨k0, gx, h⟩ | ⟨gx, h⟩
  · by_cases hk1 : k0 = 1
    · subst hk1
      cases h
      refine lwC (k := 1) (rest := [.int 0, .ref qo]) (As := [.int a0, .int a1]) S (by decide) (cxX4_pixel l hfl G (ad 0) (ad 1) (ad 2) (ad 5) (ad 10) c.gain (ad 11) (ad 19) (ad 27) a0 a1 1 gx) (cwV 2 hts gL_pixel_X4_pixel rfl rfl rfl hvX4_pixel ⟨Nat.le_of_ble_eq_true rfl, Nat.le_of_ble_eq_true rfl⟩) hK hT hP hD hS [0, 1] rfl 0 4 rfl rfl rfl rfl hl.1 rfl (Nat.le_of_ble_eq_true rfl) dL_pixel_5 ⟨Nat.le_of_ble_eq_true rfl, Nat.le_of_ble_eq_true rfl⟩ [] { startPc := 0, endPc := 10, handlerPc := 13, catchType := 13 } [] (by rw [htab]; rfl) tp_nil rfl (by decide) (hts (.classLink RL 13 "java/lang/IllegalArgumentException") lkL_pixel_c13) rfl (fun H locs q hP hD hS => ?_)
      refine lv_astore (lv' := [(4, .ref q), (0, .ref (ad 0)), (1, .int a0), (2, .int a1), (3, .ref qo)]) hx hb dL_pixel_13 hl (by decide) rfl (fun ls hl => ?_)
      refine lv_iconst (v := 1) hx hb dL_pixel_15 (by decide) ?_
      exact hret _ _ _ _ _ rfl hP hD hS dL_pixel_16
    cases (ite_f hk1 h)
  · obtain ⟨o0, g, h⟩ := bnd1_e h
    cases h
    refine roVi1 (rest := [.int 0, .ref qo]) (As := [.int a0, .int a1]) S (ctX4_pixel l G (ad 0) (ad 1) (ad 11) (ad 12) (ad 13) (ad 14) (ad 15) (ad 16) (ad 17) (ad 18) (ad 19) (ad 20) (ad 21) (ad 22) (ad 23) (ad 24) (ad 25) (ad 26) (ad 27) (ad 28) (ad 29) (ad 30) (ad 31) (ad 32) (ad 33) (ad 34) (ad 2) (ad 5) (ad 10) c.gain c.s0.pr c.s0.a c.s0.b c.s0.c c.s0.d c.s0.sp c.s0.mi c.s0.ti c.s0.w c.s0.s c.s0.h c.s0.va c.s0.ov c.s0.ra c.s0.ol c.s0.od c.s0.ne c.s1.pr c.s1.a c.s1.b c.s1.c c.s1.d c.s1.sp c.s1.mi c.s1.ti c.s1.w c.s1.s c.s1.h c.s1.va c.s1.ov c.s1.ra c.s1.ol c.s1.od c.s1.ne c.s2.pr c.s2.a c.s2.b c.s2.c c.s2.d c.s2.sp c.s2.mi c.s2.ti c.s2.w c.s2.s c.s2.h c.s2.va c.s2.ov c.s2.ra c.s2.ol c.s2.od c.s2.ne a0 a1 o0 g) (cwV 2 hts gL_pixel_X4_pixel rfl rfl rfl hvX4_pixel ⟨Nat.le_of_ble_eq_true rfl, Nat.le_of_ble_eq_true rfl⟩) hK hP [0, 1, 11, 12, 13, 14, 15, 16, 17, 18, 19, 20, 21, 22, 23, 24, 25, 26, 27, 28, 29, 30, 31, 32, 33, 34] rfl 0 4 rfl rfl rfl rfl hl.1 rfl (Nat.le_of_ble_eq_true rfl) dL_pixel_5 ⟨Nat.zero_le _, Nat.zero_le _⟩ (fun _ => ?_)
    refine lv_i2l hx hb dL_pixel_8 rfl ?_
    refine va_last hx hb hK.1 hP hD hS 35 3 rfl rfl (i := 0) (vp_in_iff.mpr ⟨by decide, by decide⟩) dL_pixel_9 (fun H locs hP hD hS => ?_)
    refine lv_goto (tgt := 17) hx hb dL_pixel_10 (by decide) ?_
    refine lv_iconst (v := 0) hx hb dL_pixel_17 (by decide) ?_
    refine W.widen (k := 1) (n := 6) (by omega) (by omega) ?_
    exact hret _ _ _ _ _ rfl hP hD hS dL_pixel_18
abbrev rmL_joined : Room := { frames := 9, cells := 1, slots := 6, locals := 156 }
theorem hsX4_joined : yX4_joined.cls ≠ "java/lang/invoke/MethodHandle" ∧ yX4_joined.cls ≠ "java/lang/invoke/VarHandle" ∧ (parseMethodDescriptor yX4_joined.desc).map (fun d => d.parameters.length) = some 2 := by decide +kernel
theorem hvX4_joined : yX4_joined.cls = RX4 ∧ yX4_joined.cls ≠ "java/lang/invoke/MethodHandle" ∧ yX4_joined.cls ≠ "java/lang/invoke/VarHandle" ∧ (parseMethodDescriptor yX4_joined.desc).map (fun d => d.parameters.length) = some 2 := ⟨rfl, hsX4_joined⟩
theorem lkL_joined_c15 : Cond.classLink RL 15 "java/lang/IllegalStateException" ∈ wsL_joined := List.mem_of_getElem? (i := 2) rfl
theorem lkL_joined_c20 : Cond.classLink RL 20 "java/lang/IndexOutOfBoundsException" ∈ wsL_joined := List.mem_of_getElem? (i := 1) rfl
theorem lkL_joined_c13 : Cond.classLink RL 13 "java/lang/IllegalArgumentException" ∈ wsL_joined := List.mem_of_getElem? (i := 3) rfl
set_option maxHeartbeats 4000000 in
set_option maxRecDepth 100000 in
theorem lw_joined (l : Launch) (hfl : l.stackTraces = false) (G : GG) (ad : Nat → Nat) (qo : Nat) (c c' : Cls) (f f' : Nat → Int64) (a0 : Int32) (a1 : Int32) (r0 : Int32) (h : lm_joined c f a0 a1 = some (r0, c', f')) : Met l yL_joined wsL_joined rmL_joined (va_Pc [.ref (ad 0), .int a0, .int a1, .ref qo] (PreD G (wdF G ad c ++ [(qo, .inl (G.2 3, 1, .inr (.inl f)))]) (XL (wdF G ad c ++ [(qo, .inl (G.2 3, 1, .inr (.inl f)))])))) (QwA G (va_A0 (wdF G ad c ++ [(qo, .inl (G.2 3, 1, .inr (.inl f)))])) (wdF G ad c' ++ [(qo, .inl (G.2 3, 1, .inr (.inl f')))]) (some (.int r0)) True) 1 6 (va_A0 (wdF G ad c ++ [(qo, .inl (G.2 3, 1, .inr (.inl f)))])) := by
  refine of_lw (cc := cL_joined) (maxL := 5) (hh := [(0, 10, 13, 20), (0, 10, 17, 15), (0, 10, 21, 13)]) (by decide) rfl (Nat.le_of_ble_eq_true rfl) ?_
  intro p e s m args below meth c1 ls Q A S htab hl hP hD hS hK hT hN hX hA hret
  obtain ⟨H, hH⟩ : ∃ H, H = s.heap := ⟨_, rfl⟩
  obtain ⟨locs, hlocs⟩ : ∃ L : List Loc, L = [] := ⟨_, rfl⟩
  rw [← hlocs]
  rw [← hlocs] at hS
  have hP : va_P G.1 vwCl (wdF G ad c ++ [(qo, .inl (G.2 3, 1, .inr (.inl f)))]) H := by rw [hH]; exact hP
  have hS : va_S A s.heap H locs := by rw [hH]; exact hS
  have hT : TT A s H := by rw [hH]; exact hT
  suffices hgo : W p l e rmL_joined s m args below meth c1 H locs 0 0 Q (F0 m 0 ls []) by rw [hH] at hgo; exact hgo
  have S : CallFix p m c1 cL_joined 5 s args wsL_joined RL := S
  obtain ⟨hx, hb, hml, hown, hts⟩ := id S
  have hl : lv_has ls 5 [(0, .ref (ad 0)), (1, .int a0), (2, .int a1), (3, .ref qo)] := hl
  unfold lm_joined at h
  refine lv_aload_n hx hb dL_joined_0 rfl (lv_at hl 3 rfl) ?_
  refine lv_iconst (v := 0) hx hb dL_joined_1 (by decide) ?_
  refine lv_aload_n hx hb dL_joined_2 rfl (lv_at hl 0 rfl) ?_
  refine lv_iload_n hx hb dL_joined_3 rfl (lv_at hl 1 rfl) ?_
  refine lv_iload_n hx hb dL_joined_4 rfl (lv_at hl 2 rfl) ?_
  by_cases hs_a0 : a0 = 0
  · replace h := ite_t hs_a0 h
    rcases lq_e h with ⟨k0, gx, h⟩ | ⟨gx, h⟩
    · by_cases hk1 : k0 = 1
      · subst hk1
        cases h
        refine lwC (k := 1) (rest := [.int 0, .ref qo]) (As := [.int a0, .int a1]) S (by decide) (cxX4_joined l hfl G (ad 0) (ad 1) (ad 11) (ad 12) (ad 13) (ad 14) (ad 15) (ad 16) (ad 17) (ad 18) (ad 2) (ad 5) (ad 10) c.gain (ad 11) (ad 19) (ad 27) c.s0.pr c.s0.a c.s0.b c.s0.c c.s0.d c.s0.sp c.s0.mi c.s0.ti c.s0.w c.s0.s c.s0.h c.s0.va c.s0.ov c.s0.ra c.s0.ol c.s0.od c.s0.ne a0 a1 1 gx 0 (by decide) (by rw [hs_a0]; decide) rfl) (cwV 2 hts gL_joined_X4_joined rfl rfl rfl hvX4_joined ⟨Nat.le_of_ble_eq_true rfl, Nat.le_of_ble_eq_true rfl⟩) hK hT hP hD hS [0, 1, 11, 12, 13, 14, 15, 16, 17, 18] rfl 0 4 rfl rfl rfl rfl hl.1 rfl (Nat.le_of_ble_eq_true rfl) dL_joined_5 ⟨Nat.le_of_ble_eq_true rfl, Nat.le_of_ble_eq_true rfl⟩ [{ startPc := 0, endPc := 10, handlerPc := 13, catchType := 20 }, { startPc := 0, endPc := 10, handlerPc := 17, catchType := 15 }] { startPc := 0, endPc := 10, handlerPc := 21, catchType := 13 } [] (by rw [htab]; rfl) (tp_cons (nm := exn 3) (by decide) (hts (.classLink RL 20 "java/lang/IndexOutOfBoundsException") lkL_joined_c20) (hN 1 (by decide) 3 (by decide) (by decide)) (tp_cons (nm := exn 2) (by decide) (hts (.classLink RL 15 "java/lang/IllegalStateException") lkL_joined_c15) (hN 1 (by decide) 2 (by decide) (by decide)) tp_nil)) rfl (by decide) (hts (.classLink RL 13 "java/lang/IllegalArgumentException") lkL_joined_c13) rfl (fun H locs q hP hD hS => ?_)
        refine lv_astore (lv' := [(4, .ref q), (0, .ref (ad 0)), (1, .int a0), (2, .int a1), (3, .ref qo)]) hx hb dL_joined_21 hl (by decide) rfl (fun ls hl => ?_)
        refine lv_iconst (v := 3) hx hb dL_joined_23 (by decide) ?_
        exact hret _ _ _ _ _ rfl hP hD hS dL_joined_24
      replace h := ite_f hk1 h
      by_cases hk2 : k0 = 2
      · subst hk2
        cases h
        refine lwC (k := 2) (rest := [.int 0, .ref qo]) (As := [.int a0, .int a1]) S (by decide) (cxX4_joined l hfl G (ad 0) (ad 1) (ad 11) (ad 12) (ad 13) (ad 14) (ad 15) (ad 16) (ad 17) (ad 18) (ad 2) (ad 5) (ad 10) c.gain (ad 11) (ad 19) (ad 27) c.s0.pr c.s0.a c.s0.b c.s0.c c.s0.d c.s0.sp c.s0.mi c.s0.ti c.s0.w c.s0.s c.s0.h c.s0.va c.s0.ov c.s0.ra c.s0.ol c.s0.od c.s0.ne a0 a1 2 gx 0 (by decide) (by rw [hs_a0]; decide) rfl) (cwV 2 hts gL_joined_X4_joined rfl rfl rfl hvX4_joined ⟨Nat.le_of_ble_eq_true rfl, Nat.le_of_ble_eq_true rfl⟩) hK hT hP hD hS [0, 1, 11, 12, 13, 14, 15, 16, 17, 18] rfl 0 4 rfl rfl rfl rfl hl.1 rfl (Nat.le_of_ble_eq_true rfl) dL_joined_5 ⟨Nat.le_of_ble_eq_true rfl, Nat.le_of_ble_eq_true rfl⟩ [{ startPc := 0, endPc := 10, handlerPc := 13, catchType := 20 }] { startPc := 0, endPc := 10, handlerPc := 17, catchType := 15 } [{ startPc := 0, endPc := 10, handlerPc := 21, catchType := 13 }] (by rw [htab]; rfl) (tp_cons (nm := exn 3) (by decide) (hts (.classLink RL 20 "java/lang/IndexOutOfBoundsException") lkL_joined_c20) (hN 2 (by decide) 3 (by decide) (by decide)) tp_nil) rfl (by decide) (hts (.classLink RL 15 "java/lang/IllegalStateException") lkL_joined_c15) rfl (fun H locs q hP hD hS => ?_)
        refine lv_astore (lv' := [(4, .ref q), (0, .ref (ad 0)), (1, .int a0), (2, .int a1), (3, .ref qo)]) hx hb dL_joined_17 hl (by decide) rfl (fun ls hl => ?_)
        refine lv_iconst (v := 2) hx hb dL_joined_19 (by decide) ?_
        exact hret _ _ _ _ _ rfl hP hD hS dL_joined_20
      replace h := ite_f hk2 h
      by_cases hk3 : k0 = 3
      · subst hk3
        cases h
        refine lwC (k := 3) (rest := [.int 0, .ref qo]) (As := [.int a0, .int a1]) S (by decide) (cxX4_joined l hfl G (ad 0) (ad 1) (ad 11) (ad 12) (ad 13) (ad 14) (ad 15) (ad 16) (ad 17) (ad 18) (ad 2) (ad 5) (ad 10) c.gain (ad 11) (ad 19) (ad 27) c.s0.pr c.s0.a c.s0.b c.s0.c c.s0.d c.s0.sp c.s0.mi c.s0.ti c.s0.w c.s0.s c.s0.h c.s0.va c.s0.ov c.s0.ra c.s0.ol c.s0.od c.s0.ne a0 a1 3 gx 0 (by decide) (by rw [hs_a0]; decide) rfl) (cwV 2 hts gL_joined_X4_joined rfl rfl rfl hvX4_joined ⟨Nat.le_of_ble_eq_true rfl, Nat.le_of_ble_eq_true rfl⟩) hK hT hP hD hS [0, 1, 11, 12, 13, 14, 15, 16, 17, 18] rfl 0 4 rfl rfl rfl rfl hl.1 rfl (Nat.le_of_ble_eq_true rfl) dL_joined_5 ⟨Nat.le_of_ble_eq_true rfl, Nat.le_of_ble_eq_true rfl⟩ [] { startPc := 0, endPc := 10, handlerPc := 13, catchType := 20 } [{ startPc := 0, endPc := 10, handlerPc := 17, catchType := 15 }, { startPc := 0, endPc := 10, handlerPc := 21, catchType := 13 }] (by rw [htab]; rfl) tp_nil rfl (by decide) (hts (.classLink RL 20 "java/lang/IndexOutOfBoundsException") lkL_joined_c20) rfl (fun H locs q hP hD hS => ?_)
        refine lv_astore (lv' := [(4, .ref q), (0, .ref (ad 0)), (1, .int a0), (2, .int a1), (3, .ref qo)]) hx hb dL_joined_13 hl (by decide) rfl (fun ls hl => ?_)
        refine lv_iconst (v := 1) hx hb dL_joined_15 (by decide) ?_
        exact hret _ _ _ _ _ rfl hP hD hS dL_joined_16
      cases (ite_f hk3 h)
    · obtain ⟨o0, o1, o2, o3, o4, o5, o6, o7, o8, o9, o10, g, h⟩ := bnd11_e h
      cases h
      refine rwV_back (rest := [.int 0, .ref qo]) (As := [.int a0, .int a1]) (wr := List.filterMap (fun i => (wdF G ad c ++ [(qo, .inl (G.2 3, 1, .inr (.inl f)))])[i]?) [2, 3, 4, 10, 19, 20, 21, 22, 23, 24, 25, 26, 27, 28, 29, 30, 31, 32, 33, 34, 35]) (wf := wdF G ad (mkC c.gain c.il c.ip c.ia c.ig c.is c.im c.ic c.iq o1 o2 o3 o4 o5 o6 o7 o8 o9 o10 c.fw c.fs c.fh c.s0 c.s1 c.s2) ++ [(qo, .inl (G.2 3, 1, .inr (.inl f)))]) S (ctX4_joined l G (ad 0) (ad 1) (ad 5) (ad 6) (ad 7) (ad 8) (ad 9) (ad 11) (ad 12) (ad 13) (ad 14) (ad 15) (ad 16) (ad 17) (ad 18) (ad 2) (ad 10) c.gain (ad 11) (ad 19) (ad 27) c.dn c.dm c.dj c.dt c.dx c.dy c.dr c.dv c.dw c.dq c.s0.pr c.s0.a c.s0.b c.s0.c c.s0.d c.s0.sp c.s0.mi c.s0.ti c.s0.w c.s0.s c.s0.h c.s0.va c.s0.ov c.s0.ra c.s0.ol c.s0.od c.s0.ne a0 a1 o0 o1 o2 o3 o4 o5 o6 o7 o8 o9 o10 g 0 (by decide) (by rw [hs_a0]; decide) rfl) (cwV 2 hts gL_joined_X4_joined rfl rfl rfl hvX4_joined ⟨Nat.le_of_ble_eq_true rfl, Nat.le_of_ble_eq_true rfl⟩) hK hP hD hS (SK.blind _) (fun U hU hW => SK.call hX hA hD hS [0, 1, 5, 6, 7, 8, 9, 11, 12, 13, 14, 15, 16, 17, 18] rfl hU hW) [0, 1, 5, 6, 7, 8, 9, 11, 12, 13, 14, 15, 16, 17, 18] [2, 3, 4, 10, 19, 20, 21, 22, 23, 24, 25, 26, 27, 28, 29, 30, 31, 32, 33, 34, 35] [21, 22, 0, 1, 2, 23, 24, 25, 26, 27, 3, 28, 29, 30, 31, 32, 33, 34, 35, 4, 5, 6, 7, 8, 9, 10, 11, 12, 13, 14, 15, 16, 17, 18, 19, 20] rfl rfl rfl rfl rfl rfl rfl 0 4 rfl rfl rfl rfl hl.1 rfl (Nat.le_of_ble_eq_true rfl) dL_joined_5 ⟨Nat.zero_le _, Nat.zero_le _⟩ (fun _ H locs hP hD hS => ?_)
      refine lv_i2l hx hb dL_joined_8 rfl ?_
      refine va_last hx hb hK.1 hP hD hS 35 3 rfl rfl (i := 0) (vp_in_iff.mpr ⟨by decide, by decide⟩) dL_joined_9 (fun H locs hP hD hS => ?_)
      refine lv_goto (tgt := 25) hx hb dL_joined_10 (by decide) ?_
      refine lv_iconst (v := 0) hx hb dL_joined_25 (by decide) ?_
      refine W.widen (k := 1) (n := 6) (by omega) (by omega) ?_
      exact hret _ _ _ _ _ rfl hP hD hS dL_joined_26
  replace h := ite_f hs_a0 h
  have hn_a00 := hs_a0
  clear hs_a0
  by_cases hs_a0 : a0 = 1
  · replace h := ite_t hs_a0 h
    rcases lq_e h with ⟨k0, gx, h⟩ | ⟨gx, h⟩
    · by_cases hk1 : k0 = 1
      · subst hk1
        cases h
        refine lwC (k := 1) (rest := [.int 0, .ref qo]) (As := [.int a0, .int a1]) S (by decide) (cxX4_joined l hfl G (ad 0) (ad 1) (ad 19) (ad 20) (ad 21) (ad 22) (ad 23) (ad 24) (ad 25) (ad 26) (ad 2) (ad 5) (ad 10) c.gain (ad 11) (ad 19) (ad 27) c.s1.pr c.s1.a c.s1.b c.s1.c c.s1.d c.s1.sp c.s1.mi c.s1.ti c.s1.w c.s1.s c.s1.h c.s1.va c.s1.ov c.s1.ra c.s1.ol c.s1.od c.s1.ne a0 a1 1 gx 1 (by decide) (by rw [hs_a0]; decide) rfl) (cwV 2 hts gL_joined_X4_joined rfl rfl rfl hvX4_joined ⟨Nat.le_of_ble_eq_true rfl, Nat.le_of_ble_eq_true rfl⟩) hK hT hP hD hS [0, 1, 19, 20, 21, 22, 23, 24, 25, 26] rfl 0 4 rfl rfl rfl rfl hl.1 rfl (Nat.le_of_ble_eq_true rfl) dL_joined_5 ⟨Nat.le_of_ble_eq_true rfl, Nat.le_of_ble_eq_true rfl⟩ [{ startPc := 0, endPc := 10, handlerPc := 13, catchType := 20 }, { startPc := 0, endPc := 10, handlerPc := 17, catchType := 15 }] { startPc := 0, endPc := 10, handlerPc := 21, catchType := 13 } [] (by rw [htab]; rfl) (tp_cons (nm := exn 3) (by decide) (hts (.classLink RL 20 "java/lang/IndexOutOfBoundsException") lkL_joined_c20) (hN 1 (by decide) 3 (by decide) (by decide)) (tp_cons (nm := exn 2) (by decide) (hts (.classLink RL 15 "java/lang/IllegalStateException") lkL_joined_c15) (hN 1 (by decide) 2 (by decide) (by decide)) tp_nil)) rfl (by decide) (hts (.classLink RL 13 "java/lang/IllegalArgumentException") lkL_joined_c13) rfl (fun H locs q hP hD hS => ?_)
        refine lv_astore (lv' := [(4, .ref q), (0, .ref (ad 0)), (1, .int a0), (2, .int a1), (3, .ref qo)]) hx hb dL_joined_21 hl (by decide) rfl (fun ls hl => ?_)
        refine lv_iconst (v := 3) hx hb dL_joined_23 (by decide) ?_
        exact hret _ _ _ _ _ rfl hP hD hS dL_joined_24
      replace h := ite_f hk1 h
      by_cases hk2 : k0 = 2
      · subst hk2
        cases h
        refine lwC (k := 2) (rest := [.int 0, .ref qo]) (As := [.int a0, .int a1]) S (by decide) (cxX4_joined l hfl G (ad 0) (ad 1) (ad 19) (ad 20) (ad 21) (ad 22) (ad 23) (ad 24) (ad 25) (ad 26) (ad 2) (ad 5) (ad 10) c.gain (ad 11) (ad 19) (ad 27) c.s1.pr c.s1.a c.s1.b c.s1.c c.s1.d c.s1.sp c.s1.mi c.s1.ti c.s1.w c.s1.s c.s1.h c.s1.va c.s1.ov c.s1.ra c.s1.ol c.s1.od c.s1.ne a0 a1 2 gx 1 (by decide) (by rw [hs_a0]; decide) rfl) (cwV 2 hts gL_joined_X4_joined rfl rfl rfl hvX4_joined ⟨Nat.le_of_ble_eq_true rfl, Nat.le_of_ble_eq_true rfl⟩) hK hT hP hD hS [0, 1, 19, 20, 21, 22, 23, 24, 25, 26] rfl 0 4 rfl rfl rfl rfl hl.1 rfl (Nat.le_of_ble_eq_true rfl) dL_joined_5 ⟨Nat.le_of_ble_eq_true rfl, Nat.le_of_ble_eq_true rfl⟩ [{ startPc := 0, endPc := 10, handlerPc := 13, catchType := 20 }] { startPc := 0, endPc := 10, handlerPc := 17, catchType := 15 } [{ startPc := 0, endPc := 10, handlerPc := 21, catchType := 13 }] (by rw [htab]; rfl) (tp_cons (nm := exn 3) (by decide) (hts (.classLink RL 20 "java/lang/IndexOutOfBoundsException") lkL_joined_c20) (hN 2 (by decide) 3 (by decide) (by decide)) tp_nil) rfl (by decide) (hts (.classLink RL 15 "java/lang/IllegalStateException") lkL_joined_c15) rfl (fun H locs q hP hD hS => ?_)
        refine lv_astore (lv' := [(4, .ref q), (0, .ref (ad 0)), (1, .int a0), (2, .int a1), (3, .ref qo)]) hx hb dL_joined_17 hl (by decide) rfl (fun ls hl => ?_)
        refine lv_iconst (v := 2) hx hb dL_joined_19 (by decide) ?_
        exact hret _ _ _ _ _ rfl hP hD hS dL_joined_20
      replace h := ite_f hk2 h
      by_cases hk3 : k0 = 3
      · subst hk3
        cases h
        refine lwC (k := 3) (rest := [.int 0, .ref qo]) (As := [.int a0, .int a1]) S (by decide) (cxX4_joined l hfl G (ad 0) (ad 1) (ad 19) (ad 20) (ad 21) (ad 22) (ad 23) (ad 24) (ad 25) (ad 26) (ad 2) (ad 5) (ad 10) c.gain (ad 11) (ad 19) (ad 27) c.s1.pr c.s1.a c.s1.b c.s1.c c.s1.d c.s1.sp c.s1.mi c.s1.ti c.s1.w c.s1.s c.s1.h c.s1.va c.s1.ov c.s1.ra c.s1.ol c.s1.od c.s1.ne a0 a1 3 gx 1 (by decide) (by rw [hs_a0]; decide) rfl) (cwV 2 hts gL_joined_X4_joined rfl rfl rfl hvX4_joined ⟨Nat.le_of_ble_eq_true rfl, Nat.le_of_ble_eq_true rfl⟩) hK hT hP hD hS [0, 1, 19, 20, 21, 22, 23, 24, 25, 26] rfl 0 4 rfl rfl rfl rfl hl.1 rfl (Nat.le_of_ble_eq_true rfl) dL_joined_5 ⟨Nat.le_of_ble_eq_true rfl, Nat.le_of_ble_eq_true rfl⟩ [] { startPc := 0, endPc := 10, handlerPc := 13, catchType := 20 } [{ startPc := 0, endPc := 10, handlerPc := 17, catchType := 15 }, { startPc := 0, endPc := 10, handlerPc := 21, catchType := 13 }] (by rw [htab]; rfl) tp_nil rfl (by decide) (hts (.classLink RL 20 "java/lang/IndexOutOfBoundsException") lkL_joined_c20) rfl (fun H locs q hP hD hS => ?_)
        refine lv_astore (lv' := [(4, .ref q), (0, .ref (ad 0)), (1, .int a0), (2, .int a1), (3, .ref qo)]) hx hb dL_joined_13 hl (by decide) rfl (fun ls hl => ?_)
        refine lv_iconst (v := 1) hx hb dL_joined_15 (by decide) ?_
        exact hret _ _ _ _ _ rfl hP hD hS dL_joined_16
      cases (ite_f hk3 h)
    · obtain ⟨o0, o1, o2, o3, o4, o5, o6, o7, o8, o9, o10, g, h⟩ := bnd11_e h
      cases h
      refine rwV_back (rest := [.int 0, .ref qo]) (As := [.int a0, .int a1]) (wr := List.filterMap (fun i => (wdF G ad c ++ [(qo, .inl (G.2 3, 1, .inr (.inl f)))])[i]?) [2, 3, 4, 10, 11, 12, 13, 14, 15, 16, 17, 18, 27, 28, 29, 30, 31, 32, 33, 34, 35]) (wf := wdF G ad (mkC c.gain c.il c.ip c.ia c.ig c.is c.im c.ic c.iq o1 o2 o3 o4 o5 o6 o7 o8 o9 o10 c.fw c.fs c.fh c.s0 c.s1 c.s2) ++ [(qo, .inl (G.2 3, 1, .inr (.inl f)))]) S (ctX4_joined l G (ad 0) (ad 1) (ad 5) (ad 6) (ad 7) (ad 8) (ad 9) (ad 19) (ad 20) (ad 21) (ad 22) (ad 23) (ad 24) (ad 25) (ad 26) (ad 2) (ad 10) c.gain (ad 11) (ad 19) (ad 27) c.dn c.dm c.dj c.dt c.dx c.dy c.dr c.dv c.dw c.dq c.s1.pr c.s1.a c.s1.b c.s1.c c.s1.d c.s1.sp c.s1.mi c.s1.ti c.s1.w c.s1.s c.s1.h c.s1.va c.s1.ov c.s1.ra c.s1.ol c.s1.od c.s1.ne a0 a1 o0 o1 o2 o3 o4 o5 o6 o7 o8 o9 o10 g 1 (by decide) (by rw [hs_a0]; decide) rfl) (cwV 2 hts gL_joined_X4_joined rfl rfl rfl hvX4_joined ⟨Nat.le_of_ble_eq_true rfl, Nat.le_of_ble_eq_true rfl⟩) hK hP hD hS (SK.blind _) (fun U hU hW => SK.call hX hA hD hS [0, 1, 5, 6, 7, 8, 9, 19, 20, 21, 22, 23, 24, 25, 26] rfl hU hW) [0, 1, 5, 6, 7, 8, 9, 19, 20, 21, 22, 23, 24, 25, 26] [2, 3, 4, 10, 11, 12, 13, 14, 15, 16, 17, 18, 27, 28, 29, 30, 31, 32, 33, 34, 35] [21, 22, 0, 1, 2, 23, 24, 25, 26, 27, 3, 4, 5, 6, 7, 8, 9, 10, 11, 28, 29, 30, 31, 32, 33, 34, 35, 12, 13, 14, 15, 16, 17, 18, 19, 20] rfl rfl rfl rfl rfl rfl rfl 0 4 rfl rfl rfl rfl hl.1 rfl (Nat.le_of_ble_eq_true rfl) dL_joined_5 ⟨Nat.zero_le _, Nat.zero_le _⟩ (fun _ H locs hP hD hS => ?_)
      refine lv_i2l hx hb dL_joined_8 rfl ?_
      refine va_last hx hb hK.1 hP hD hS 35 3 rfl rfl (i := 0) (vp_in_iff.mpr ⟨by decide, by decide⟩) dL_joined_9 (fun H locs hP hD hS => ?_)
      refine lv_goto (tgt := 25) hx hb dL_joined_10 (by decide) ?_
      refine lv_iconst (v := 0) hx hb dL_joined_25 (by decide) ?_
      refine W.widen (k := 1) (n := 6) (by omega) (by omega) ?_
      exact hret _ _ _ _ _ rfl hP hD hS dL_joined_26
  replace h := ite_f hs_a0 h
  have hn_a01 := hs_a0
  clear hs_a0
  by_cases hs_a0 : a0 = 2
  · replace h := ite_t hs_a0 h
    rcases lq_e h with ⟨k0, gx, h⟩ | ⟨gx, h⟩
    · by_cases hk1 : k0 = 1
      · subst hk1
        cases h
        refine lwC (k := 1) (rest := [.int 0, .ref qo]) (As := [.int a0, .int a1]) S (by decide) (cxX4_joined l hfl G (ad 0) (ad 1) (ad 27) (ad 28) (ad 29) (ad 30) (ad 31) (ad 32) (ad 33) (ad 34) (ad 2) (ad 5) (ad 10) c.gain (ad 11) (ad 19) (ad 27) c.s2.pr c.s2.a c.s2.b c.s2.c c.s2.d c.s2.sp c.s2.mi c.s2.ti c.s2.w c.s2.s c.s2.h c.s2.va c.s2.ov c.s2.ra c.s2.ol c.s2.od c.s2.ne a0 a1 1 gx 2 (by decide) (by rw [hs_a0]; decide) rfl) (cwV 2 hts gL_joined_X4_joined rfl rfl rfl hvX4_joined ⟨Nat.le_of_ble_eq_true rfl, Nat.le_of_ble_eq_true rfl⟩) hK hT hP hD hS [0, 1, 27, 28, 29, 30, 31, 32, 33, 34] rfl 0 4 rfl rfl rfl rfl hl.1 rfl (Nat.le_of_ble_eq_true rfl) dL_joined_5 ⟨Nat.le_of_ble_eq_true rfl, Nat.le_of_ble_eq_true rfl⟩ [{ startPc := 0, endPc := 10, handlerPc := 13, catchType := 20 }, { startPc := 0, endPc := 10, handlerPc := 17, catchType := 15 }] { startPc := 0, endPc := 10, handlerPc := 21, catchType := 13 } [] (by rw [htab]; rfl) (tp_cons (nm := exn 3) (by decide) (hts (.classLink RL 20 "java/lang/IndexOutOfBoundsException") lkL_joined_c20) (hN 1 (by decide) 3 (by decide) (by decide)) (tp_cons (nm := exn 2) (by decide) (hts (.classLink RL 15 "java/lang/IllegalStateException") lkL_joined_c15) (hN 1 (by decide) 2 (by decide) (by decide)) tp_nil)) rfl (by decide) (hts (.classLink RL 13 "java/lang/IllegalArgumentException") lkL_joined_c13) rfl (fun H locs q hP hD hS => ?_)
        refine lv_astore (lv' := [(4, .ref q), (0, .ref (ad 0)), (1, .int a0), (2, .int a1), (3, .ref qo)]) hx hb dL_joined_21 hl (by decide) rfl (fun ls hl => ?_)
        refine lv_iconst (v := 3) hx hb dL_joined_23 (by decide) ?_
        exact hret _ _ _ _ _ rfl hP hD hS dL_joined_24
      replace h := ite_f hk1 h
      by_cases hk2 : k0 = 2
      · subst hk2
        cases h
        refine lwC (k := 2) (rest := [.int 0, .ref qo]) (As := [.int a0, .int a1]) S (by decide) (cxX4_joined l hfl G (ad 0) (ad 1) (ad 27) (ad 28) (ad 29) (ad 30) (ad 31) (ad 32) (ad 33) (ad 34) (ad 2) (ad 5) (ad 10) c.gain (ad 11) (ad 19) (ad 27) c.s2.pr c.s2.a c.s2.b c.s2.c c.s2.d c.s2.sp c.s2.mi c.s2.ti c.s2.w c.s2.s c.s2.h c.s2.va c.s2.ov c.s2.ra c.s2.ol c.s2.od c.s2.ne a0 a1 2 gx 2 (by decide) (by rw [hs_a0]; decide) rfl) (cwV 2 hts gL_joined_X4_joined rfl rfl rfl hvX4_joined ⟨Nat.le_of_ble_eq_true rfl, Nat.le_of_ble_eq_true rfl⟩) hK hT hP hD hS [0, 1, 27, 28, 29, 30, 31, 32, 33, 34] rfl 0 4 rfl rfl rfl rfl hl.1 rfl (Nat.le_of_ble_eq_true rfl) dL_joined_5 ⟨Nat.le_of_ble_eq_true rfl, Nat.le_of_ble_eq_true rfl⟩ [{ startPc := 0, endPc := 10, handlerPc := 13, catchType := 20 }] { startPc := 0, endPc := 10, handlerPc := 17, catchType := 15 } [{ startPc := 0, endPc := 10, handlerPc := 21, catchType := 13 }] (by rw [htab]; rfl) (tp_cons (nm := exn 3) (by decide) (hts (.classLink RL 20 "java/lang/IndexOutOfBoundsException") lkL_joined_c20) (hN 2 (by decide) 3 (by decide) (by decide)) tp_nil) rfl (by decide) (hts (.classLink RL 15 "java/lang/IllegalStateException") lkL_joined_c15) rfl (fun H locs q hP hD hS => ?_)
        refine lv_astore (lv' := [(4, .ref q), (0, .ref (ad 0)), (1, .int a0), (2, .int a1), (3, .ref qo)]) hx hb dL_joined_17 hl (by decide) rfl (fun ls hl => ?_)
        refine lv_iconst (v := 2) hx hb dL_joined_19 (by decide) ?_
        exact hret _ _ _ _ _ rfl hP hD hS dL_joined_20
      replace h := ite_f hk2 h
      by_cases hk3 : k0 = 3
      · subst hk3
        cases h
        refine lwC (k := 3) (rest := [.int 0, .ref qo]) (As := [.int a0, .int a1]) S (by decide) (cxX4_joined l hfl G (ad 0) (ad 1) (ad 27) (ad 28) (ad 29) (ad 30) (ad 31) (ad 32) (ad 33) (ad 34) (ad 2) (ad 5) (ad 10) c.gain (ad 11) (ad 19) (ad 27) c.s2.pr c.s2.a c.s2.b c.s2.c c.s2.d c.s2.sp c.s2.mi c.s2.ti c.s2.w c.s2.s c.s2.h c.s2.va c.s2.ov c.s2.ra c.s2.ol c.s2.od c.s2.ne a0 a1 3 gx 2 (by decide) (by rw [hs_a0]; decide) rfl) (cwV 2 hts gL_joined_X4_joined rfl rfl rfl hvX4_joined ⟨Nat.le_of_ble_eq_true rfl, Nat.le_of_ble_eq_true rfl⟩) hK hT hP hD hS [0, 1, 27, 28, 29, 30, 31, 32, 33, 34] rfl 0 4 rfl rfl rfl rfl hl.1 rfl (Nat.le_of_ble_eq_true rfl) dL_joined_5 ⟨Nat.le_of_ble_eq_true rfl, Nat.le_of_ble_eq_true rfl⟩ [] { startPc := 0, endPc := 10, handlerPc := 13, catchType := 20 } [{ startPc := 0, endPc := 10, handlerPc := 17, catchType := 15 }, { startPc := 0, endPc := 10, handlerPc := 21, catchType := 13 }] (by rw [htab]; rfl) tp_nil rfl (by decide) (hts (.classLink RL 20 "java/lang/IndexOutOfBoundsException") lkL_joined_c20) rfl (fun H locs q hP hD hS => ?_)
        refine lv_astore (lv' := [(4, .ref q), (0, .ref (ad 0)), (1, .int a0), (2, .int a1), (3, .ref qo)]) hx hb dL_joined_13 hl (by decide) rfl (fun ls hl => ?_)
        refine lv_iconst (v := 1) hx hb dL_joined_15 (by decide) ?_
        exact hret _ _ _ _ _ rfl hP hD hS dL_joined_16
      cases (ite_f hk3 h)
    · obtain ⟨o0, o1, o2, o3, o4, o5, o6, o7, o8, o9, o10, g, h⟩ := bnd11_e h
      cases h
      refine rwV_back (rest := [.int 0, .ref qo]) (As := [.int a0, .int a1]) (wr := List.filterMap (fun i => (wdF G ad c ++ [(qo, .inl (G.2 3, 1, .inr (.inl f)))])[i]?) [2, 3, 4, 10, 11, 12, 13, 14, 15, 16, 17, 18, 19, 20, 21, 22, 23, 24, 25, 26, 35]) (wf := wdF G ad (mkC c.gain c.il c.ip c.ia c.ig c.is c.im c.ic c.iq o1 o2 o3 o4 o5 o6 o7 o8 o9 o10 c.fw c.fs c.fh c.s0 c.s1 c.s2) ++ [(qo, .inl (G.2 3, 1, .inr (.inl f)))]) S (ctX4_joined l G (ad 0) (ad 1) (ad 5) (ad 6) (ad 7) (ad 8) (ad 9) (ad 27) (ad 28) (ad 29) (ad 30) (ad 31) (ad 32) (ad 33) (ad 34) (ad 2) (ad 10) c.gain (ad 11) (ad 19) (ad 27) c.dn c.dm c.dj c.dt c.dx c.dy c.dr c.dv c.dw c.dq c.s2.pr c.s2.a c.s2.b c.s2.c c.s2.d c.s2.sp c.s2.mi c.s2.ti c.s2.w c.s2.s c.s2.h c.s2.va c.s2.ov c.s2.ra c.s2.ol c.s2.od c.s2.ne a0 a1 o0 o1 o2 o3 o4 o5 o6 o7 o8 o9 o10 g 2 (by decide) (by rw [hs_a0]; decide) rfl) (cwV 2 hts gL_joined_X4_joined rfl rfl rfl hvX4_joined ⟨Nat.le_of_ble_eq_true rfl, Nat.le_of_ble_eq_true rfl⟩) hK hP hD hS (SK.blind _) (fun U hU hW => SK.call hX hA hD hS [0, 1, 5, 6, 7, 8, 9, 27, 28, 29, 30, 31, 32, 33, 34] rfl hU hW) [0, 1, 5, 6, 7, 8, 9, 27, 28, 29, 30, 31, 32, 33, 34] [2, 3, 4, 10, 11, 12, 13, 14, 15, 16, 17, 18, 19, 20, 21, 22, 23, 24, 25, 26, 35] [21, 22, 0, 1, 2, 23, 24, 25, 26, 27, 3, 4, 5, 6, 7, 8, 9, 10, 11, 12, 13, 14, 15, 16, 17, 18, 19, 28, 29, 30, 31, 32, 33, 34, 35, 20] rfl rfl rfl rfl rfl rfl rfl 0 4 rfl rfl rfl rfl hl.1 rfl (Nat.le_of_ble_eq_true rfl) dL_joined_5 ⟨Nat.zero_le _, Nat.zero_le _⟩ (fun _ H locs hP hD hS => ?_)
      refine lv_i2l hx hb dL_joined_8 rfl ?_
      refine va_last hx hb hK.1 hP hD hS 35 3 rfl rfl (i := 0) (vp_in_iff.mpr ⟨by decide, by decide⟩) dL_joined_9 (fun H locs hP hD hS => ?_)
      refine lv_goto (tgt := 25) hx hb dL_joined_10 (by decide) ?_
      refine lv_iconst (v := 0) hx hb dL_joined_25 (by decide) ?_
      refine W.widen (k := 1) (n := 6) (by omega) (by omega) ?_
      exact hret _ _ _ _ _ rfl hP hD hS dL_joined_26
  replace h := ite_f hs_a0 h
  have hn_a02 := hs_a0
  clear hs_a0
  have ho_a0 := slot_out hn_a00 hn_a01 hn_a02
  cases h
  refine lwC (k := 3) (rest := [.int 0, .ref qo]) (As := [.int a0, .int a1]) S (by decide) (cxX4_joinedo l hfl G (ad 0) (ad 1) (ad 2) (ad 5) (ad 10) c.gain (ad 11) (ad 19) (ad 27) a0 a1 ho_a0) (cwV 2 hts gL_joined_X4_joined rfl rfl rfl hvX4_joined ⟨Nat.le_of_ble_eq_true rfl, Nat.le_of_ble_eq_true rfl⟩) hK hT hP hD hS [0, 1] rfl 0 4 rfl rfl rfl rfl hl.1 rfl (Nat.le_of_ble_eq_true rfl) dL_joined_5 ⟨Nat.le_of_ble_eq_true rfl, Nat.le_of_ble_eq_true rfl⟩ [] { startPc := 0, endPc := 10, handlerPc := 13, catchType := 20 } [{ startPc := 0, endPc := 10, handlerPc := 17, catchType := 15 }, { startPc := 0, endPc := 10, handlerPc := 21, catchType := 13 }] (by rw [htab]; rfl) tp_nil rfl (by decide) (hts (.classLink RL 20 "java/lang/IndexOutOfBoundsException") lkL_joined_c20) rfl (fun H locs q hP hD hS => ?_)
  refine lv_astore (lv' := [(4, .ref q), (0, .ref (ad 0)), (1, .int a0), (2, .int a1), (3, .ref qo)]) hx hb dL_joined_13 hl (by decide) rfl (fun ls hl => ?_)
  refine lv_iconst (v := 1) hx hb dL_joined_15 (by decide) ?_
  exact hret _ _ _ _ _ rfl hP hD hS dL_joined_16
abbrev rmL_compensated : Room := { frames := 8, cells := 1, slots := 6, locals := 139 }
theorem hsX4_compensated : yX4_compensated.cls ≠ "java/lang/invoke/MethodHandle" ∧ yX4_compensated.cls ≠ "java/lang/invoke/VarHandle" ∧ (parseMethodDescriptor yX4_compensated.desc).map (fun d => d.parameters.length) = some 2 := by decide +kernel
theorem hvX4_compensated : yX4_compensated.cls = RX4 ∧ yX4_compensated.cls ≠ "java/lang/invoke/MethodHandle" ∧ yX4_compensated.cls ≠ "java/lang/invoke/VarHandle" ∧ (parseMethodDescriptor yX4_compensated.desc).map (fun d => d.parameters.length) = some 2 := ⟨rfl, hsX4_compensated⟩
theorem lkL_compensated_c20 : Cond.classLink RL 20 "java/lang/IndexOutOfBoundsException" ∈ wsL_compensated := List.mem_of_getElem? (i := 1) rfl
theorem lkL_compensated_c13 : Cond.classLink RL 13 "java/lang/IllegalArgumentException" ∈ wsL_compensated := List.mem_of_getElem? (i := 2) rfl
theorem lkL_compensated_c15 : Cond.classLink RL 15 "java/lang/IllegalStateException" ∈ wsL_compensated := List.mem_of_getElem? (i := 3) rfl
set_option maxHeartbeats 4000000 in
set_option maxRecDepth 100000 in
theorem lw_compensated (l : Launch) (hfl : l.stackTraces = false) (G : GG) (ad : Nat → Nat) (qo : Nat) (c c' : Cls) (f f' : Nat → Int64) (a0 : Int32) (a1 : Int32) (r0 : Int32) (h : lm_compensated c f a0 a1 = some (r0, c', f')) : Met l yL_compensated wsL_compensated rmL_compensated (va_Pc [.ref (ad 0), .int a0, .int a1, .ref qo] (PreD G (wdF G ad c ++ [(qo, .inl (G.2 3, 1, .inr (.inl f)))]) (XL (wdF G ad c ++ [(qo, .inl (G.2 3, 1, .inr (.inl f)))])))) (QwA G (va_A0 (wdF G ad c ++ [(qo, .inl (G.2 3, 1, .inr (.inl f)))])) (wdF G ad c' ++ [(qo, .inl (G.2 3, 1, .inr (.inl f')))]) (some (.int r0)) True) 1 6 (va_A0 (wdF G ad c ++ [(qo, .inl (G.2 3, 1, .inr (.inl f)))])) := by
  refine of_lw (cc := cL_compensated) (maxL := 5) (hh := [(0, 10, 13, 20), (0, 10, 17, 13), (0, 10, 21, 15)]) (by decide) rfl (Nat.le_of_ble_eq_true rfl) ?_
  intro p e s m args below meth c1 ls Q A S htab hl hP hD hS hK hT hN hX hA hret
  obtain ⟨H, hH⟩ : ∃ H, H = s.heap := ⟨_, rfl⟩
  obtain ⟨locs, hlocs⟩ : ∃ L : List Loc, L = [] := ⟨_, rfl⟩
  rw [← hlocs]
  rw [← hlocs] at hS
  have hP : va_P G.1 vwCl (wdF G ad c ++ [(qo, .inl (G.2 3, 1, .inr (.inl f)))]) H := by rw [hH]; exact hP
  have hS : va_S A s.heap H locs := by rw [hH]; exact hS
  have hT : TT A s H := by rw [hH]; exact hT
  suffices hgo : W p l e rmL_compensated s m args below meth c1 H locs 0 0 Q (F0 m 0 ls []) by rw [hH] at hgo; exact hgo
  have S : CallFix p m c1 cL_compensated 5 s args wsL_compensated RL := S
  obtain ⟨hx, hb, hml, hown, hts⟩ := id S
  have hl : lv_has ls 5 [(0, .ref (ad 0)), (1, .int a0), (2, .int a1), (3, .ref qo)] := hl
  unfold lm_compensated at h
  refine lv_aload_n hx hb dL_compensated_0 rfl (lv_at hl 3 rfl) ?_
  refine lv_iconst (v := 0) hx hb dL_compensated_1 (by decide) ?_
  refine lv_aload_n hx hb dL_compensated_2 rfl (lv_at hl 0 rfl) ?_
  refine lv_iload_n hx hb dL_compensated_3 rfl (lv_at hl 1 rfl) ?_
  refine lv_iload_n hx hb dL_compensated_4 rfl (lv_at hl 2 rfl) ?_
  by_cases hs_a0 : a0 = 0
  · replace h := ite_t hs_a0 h
    rcases lq_e h with ⟨k0, gx, h⟩ | ⟨gx, h⟩
    · by_cases hk1 : k0 = 1
      · subst hk1
        cases h
        refine lwC (k := 1) (rest := [.int 0, .ref qo]) (As := [.int a0, .int a1]) S (by decide) (cxX4_compensated l hfl G (ad 0) (ad 1) (ad 11) (ad 12) (ad 13) (ad 14) (ad 15) (ad 16) (ad 17) (ad 18) (ad 2) (ad 5) (ad 10) c.gain (ad 11) (ad 19) (ad 27) c.s0.pr c.s0.a c.s0.b c.s0.c c.s0.d c.s0.sp c.s0.mi c.s0.ti c.s0.w c.s0.s c.s0.h c.s0.va c.s0.ov c.s0.ra c.s0.ol c.s0.od c.s0.ne a0 a1 1 gx 0 (by decide) (by rw [hs_a0]; decide) rfl) (cwV 2 hts gL_compensated_X4_compensated rfl rfl rfl hvX4_compensated ⟨Nat.le_of_ble_eq_true rfl, Nat.le_of_ble_eq_true rfl⟩) hK hT hP hD hS [0, 1, 11, 12, 13, 14, 15, 16, 17, 18] rfl 0 4 rfl rfl rfl rfl hl.1 rfl (Nat.le_of_ble_eq_true rfl) dL_compensated_5 ⟨Nat.le_of_ble_eq_true rfl, Nat.le_of_ble_eq_true rfl⟩ [{ startPc := 0, endPc := 10, handlerPc := 13, catchType := 20 }] { startPc := 0, endPc := 10, handlerPc := 17, catchType := 13 } [{ startPc := 0, endPc := 10, handlerPc := 21, catchType := 15 }] (by rw [htab]; rfl) (tp_cons (nm := exn 3) (by decide) (hts (.classLink RL 20 "java/lang/IndexOutOfBoundsException") lkL_compensated_c20) (hN 1 (by decide) 3 (by decide) (by decide)) tp_nil) rfl (by decide) (hts (.classLink RL 13 "java/lang/IllegalArgumentException") lkL_compensated_c13) rfl (fun H locs q hP hD hS => ?_)
        refine lv_astore (lv' := [(4, .ref q), (0, .ref (ad 0)), (1, .int a0), (2, .int a1), (3, .ref qo)]) hx hb dL_compensated_17 hl (by decide) rfl (fun ls hl => ?_)
        refine lv_iconst (v := 2) hx hb dL_compensated_19 (by decide) ?_
        exact hret _ _ _ _ _ rfl hP hD hS dL_compensated_20
      replace h := ite_f hk1 h
      by_cases hk2 : k0 = 2
      · subst hk2
        cases h
        refine lwC (k := 2) (rest := [.int 0, .ref qo]) (As := [.int a0, .int a1]) S (by decide) (cxX4_compensated l hfl G (ad 0) (ad 1) (ad 11) (ad 12) (ad 13) (ad 14) (ad 15) (ad 16) (ad 17) (ad 18) (ad 2) (ad 5) (ad 10) c.gain (ad 11) (ad 19) (ad 27) c.s0.pr c.s0.a c.s0.b c.s0.c c.s0.d c.s0.sp c.s0.mi c.s0.ti c.s0.w c.s0.s c.s0.h c.s0.va c.s0.ov c.s0.ra c.s0.ol c.s0.od c.s0.ne a0 a1 2 gx 0 (by decide) (by rw [hs_a0]; decide) rfl) (cwV 2 hts gL_compensated_X4_compensated rfl rfl rfl hvX4_compensated ⟨Nat.le_of_ble_eq_true rfl, Nat.le_of_ble_eq_true rfl⟩) hK hT hP hD hS [0, 1, 11, 12, 13, 14, 15, 16, 17, 18] rfl 0 4 rfl rfl rfl rfl hl.1 rfl (Nat.le_of_ble_eq_true rfl) dL_compensated_5 ⟨Nat.le_of_ble_eq_true rfl, Nat.le_of_ble_eq_true rfl⟩ [{ startPc := 0, endPc := 10, handlerPc := 13, catchType := 20 }, { startPc := 0, endPc := 10, handlerPc := 17, catchType := 13 }] { startPc := 0, endPc := 10, handlerPc := 21, catchType := 15 } [] (by rw [htab]; rfl) (tp_cons (nm := exn 3) (by decide) (hts (.classLink RL 20 "java/lang/IndexOutOfBoundsException") lkL_compensated_c20) (hN 2 (by decide) 3 (by decide) (by decide)) (tp_cons (nm := exn 1) (by decide) (hts (.classLink RL 13 "java/lang/IllegalArgumentException") lkL_compensated_c13) (hN 2 (by decide) 1 (by decide) (by decide)) tp_nil)) rfl (by decide) (hts (.classLink RL 15 "java/lang/IllegalStateException") lkL_compensated_c15) rfl (fun H locs q hP hD hS => ?_)
        refine lv_astore (lv' := [(4, .ref q), (0, .ref (ad 0)), (1, .int a0), (2, .int a1), (3, .ref qo)]) hx hb dL_compensated_21 hl (by decide) rfl (fun ls hl => ?_)
        refine lv_iconst (v := 3) hx hb dL_compensated_23 (by decide) ?_
        exact hret _ _ _ _ _ rfl hP hD hS dL_compensated_24
      replace h := ite_f hk2 h
      by_cases hk3 : k0 = 3
      · subst hk3
        cases h
        refine lwC (k := 3) (rest := [.int 0, .ref qo]) (As := [.int a0, .int a1]) S (by decide) (cxX4_compensated l hfl G (ad 0) (ad 1) (ad 11) (ad 12) (ad 13) (ad 14) (ad 15) (ad 16) (ad 17) (ad 18) (ad 2) (ad 5) (ad 10) c.gain (ad 11) (ad 19) (ad 27) c.s0.pr c.s0.a c.s0.b c.s0.c c.s0.d c.s0.sp c.s0.mi c.s0.ti c.s0.w c.s0.s c.s0.h c.s0.va c.s0.ov c.s0.ra c.s0.ol c.s0.od c.s0.ne a0 a1 3 gx 0 (by decide) (by rw [hs_a0]; decide) rfl) (cwV 2 hts gL_compensated_X4_compensated rfl rfl rfl hvX4_compensated ⟨Nat.le_of_ble_eq_true rfl, Nat.le_of_ble_eq_true rfl⟩) hK hT hP hD hS [0, 1, 11, 12, 13, 14, 15, 16, 17, 18] rfl 0 4 rfl rfl rfl rfl hl.1 rfl (Nat.le_of_ble_eq_true rfl) dL_compensated_5 ⟨Nat.le_of_ble_eq_true rfl, Nat.le_of_ble_eq_true rfl⟩ [] { startPc := 0, endPc := 10, handlerPc := 13, catchType := 20 } [{ startPc := 0, endPc := 10, handlerPc := 17, catchType := 13 }, { startPc := 0, endPc := 10, handlerPc := 21, catchType := 15 }] (by rw [htab]; rfl) tp_nil rfl (by decide) (hts (.classLink RL 20 "java/lang/IndexOutOfBoundsException") lkL_compensated_c20) rfl (fun H locs q hP hD hS => ?_)
        refine lv_astore (lv' := [(4, .ref q), (0, .ref (ad 0)), (1, .int a0), (2, .int a1), (3, .ref qo)]) hx hb dL_compensated_13 hl (by decide) rfl (fun ls hl => ?_)
        refine lv_iconst (v := 1) hx hb dL_compensated_15 (by decide) ?_
        exact hret _ _ _ _ _ rfl hP hD hS dL_compensated_16
      cases (ite_f hk3 h)
    · obtain ⟨o0, g, h⟩ := bnd1_e h
      cases h
      refine roVi1 (rest := [.int 0, .ref qo]) (As := [.int a0, .int a1]) S (ctX4_compensated l G (ad 0) (ad 1) (ad 11) (ad 12) (ad 13) (ad 14) (ad 15) (ad 16) (ad 17) (ad 18) (ad 2) (ad 5) (ad 10) c.gain (ad 11) (ad 19) (ad 27) c.s0.pr c.s0.a c.s0.b c.s0.c c.s0.d c.s0.sp c.s0.mi c.s0.ti c.s0.w c.s0.s c.s0.h c.s0.va c.s0.ov c.s0.ra c.s0.ol c.s0.od c.s0.ne a0 a1 o0 g 0 (by decide) (by rw [hs_a0]; decide) rfl) (cwV 2 hts gL_compensated_X4_compensated rfl rfl rfl hvX4_compensated ⟨Nat.le_of_ble_eq_true rfl, Nat.le_of_ble_eq_true rfl⟩) hK hP [0, 1, 11, 12, 13, 14, 15, 16, 17, 18] rfl 0 4 rfl rfl rfl rfl hl.1 rfl (Nat.le_of_ble_eq_true rfl) dL_compensated_5 ⟨Nat.zero_le _, Nat.zero_le _⟩ (fun _ => ?_)
      refine lv_i2l hx hb dL_compensated_8 rfl ?_
      refine va_last hx hb hK.1 hP hD hS 35 3 rfl rfl (i := 0) (vp_in_iff.mpr ⟨by decide, by decide⟩) dL_compensated_9 (fun H locs hP hD hS => ?_)
      refine lv_goto (tgt := 25) hx hb dL_compensated_10 (by decide) ?_
      refine lv_iconst (v := 0) hx hb dL_compensated_25 (by decide) ?_
      refine W.widen (k := 1) (n := 6) (by omega) (by omega) ?_
      exact hret _ _ _ _ _ rfl hP hD hS dL_compensated_26
  replace h := ite_f hs_a0 h
  have hn_a00 := hs_a0
  clear hs_a0
  by_cases hs_a0 : a0 = 1
  · replace h := ite_t hs_a0 h
    rcases lq_e h with ⟨k0, gx, h⟩ | ⟨gx, h⟩
    · by_cases hk1 : k0 = 1
      · subst hk1
        cases h
        refine lwC (k := 1) (rest := [.int 0, .ref qo]) (As := [.int a0, .int a1]) S (by decide) (cxX4_compensated l hfl G (ad 0) (ad 1) (ad 19) (ad 20) (ad 21) (ad 22) (ad 23) (ad 24) (ad 25) (ad 26) (ad 2) (ad 5) (ad 10) c.gain (ad 11) (ad 19) (ad 27) c.s1.pr c.s1.a c.s1.b c.s1.c c.s1.d c.s1.sp c.s1.mi c.s1.ti c.s1.w c.s1.s c.s1.h c.s1.va c.s1.ov c.s1.ra c.s1.ol c.s1.od c.s1.ne a0 a1 1 gx 1 (by decide) (by rw [hs_a0]; decide) rfl) (cwV 2 hts gL_compensated_X4_compensated rfl rfl rfl hvX4_compensated ⟨Nat.le_of_ble_eq_true rfl, Nat.le_of_ble_eq_true rfl⟩) hK hT hP hD hS [0, 1, 19, 20, 21, 22, 23, 24, 25, 26] rfl 0 4 rfl rfl rfl rfl hl.1 rfl (Nat.le_of_ble_eq_true rfl) dL_compensated_5 ⟨Nat.le_of_ble_eq_true rfl, Nat.le_of_ble_eq_true rfl⟩ [{ startPc := 0, endPc := 10, handlerPc := 13, catchType := 20 }] { startPc := 0, endPc := 10, handlerPc := 17, catchType := 13 } [{ startPc := 0, endPc := 10, handlerPc := 21, catchType := 15 }] (by rw [htab]; rfl) (tp_cons (nm := exn 3) (by decide) (hts (.classLink RL 20 "java/lang/IndexOutOfBoundsException") lkL_compensated_c20) (hN 1 (by decide) 3 (by decide) (by decide)) tp_nil) rfl (by decide) (hts (.classLink RL 13 "java/lang/IllegalArgumentException") lkL_compensated_c13) rfl (fun H locs q hP hD hS => ?_)
        refine lv_astore (lv' := [(4, .ref q), (0, .ref (ad 0)), (1, .int a0), (2, .int a1), (3, .ref qo)]) hx hb dL_compensated_17 hl (by decide) rfl (fun ls hl => ?_)
        refine lv_iconst (v := 2) hx hb dL_compensated_19 (by decide) ?_
        exact hret _ _ _ _ _ rfl hP hD hS dL_compensated_20
      replace h := ite_f hk1 h
      by_cases hk2 : k0 = 2
      · subst hk2
        cases h
        refine lwC (k := 2) (rest := [.int 0, .ref qo]) (As := [.int a0, .int a1]) S (by decide) (cxX4_compensated l hfl G (ad 0) (ad 1) (ad 19) (ad 20) (ad 21) (ad 22) (ad 23) (ad 24) (ad 25) (ad 26) (ad 2) (ad 5) (ad 10) c.gain (ad 11) (ad 19) (ad 27) c.s1.pr c.s1.a c.s1.b c.s1.c c.s1.d c.s1.sp c.s1.mi c.s1.ti c.s1.w c.s1.s c.s1.h c.s1.va c.s1.ov c.s1.ra c.s1.ol c.s1.od c.s1.ne a0 a1 2 gx 1 (by decide) (by rw [hs_a0]; decide) rfl) (cwV 2 hts gL_compensated_X4_compensated rfl rfl rfl hvX4_compensated ⟨Nat.le_of_ble_eq_true rfl, Nat.le_of_ble_eq_true rfl⟩) hK hT hP hD hS [0, 1, 19, 20, 21, 22, 23, 24, 25, 26] rfl 0 4 rfl rfl rfl rfl hl.1 rfl (Nat.le_of_ble_eq_true rfl) dL_compensated_5 ⟨Nat.le_of_ble_eq_true rfl, Nat.le_of_ble_eq_true rfl⟩ [{ startPc := 0, endPc := 10, handlerPc := 13, catchType := 20 }, { startPc := 0, endPc := 10, handlerPc := 17, catchType := 13 }] { startPc := 0, endPc := 10, handlerPc := 21, catchType := 15 } [] (by rw [htab]; rfl) (tp_cons (nm := exn 3) (by decide) (hts (.classLink RL 20 "java/lang/IndexOutOfBoundsException") lkL_compensated_c20) (hN 2 (by decide) 3 (by decide) (by decide)) (tp_cons (nm := exn 1) (by decide) (hts (.classLink RL 13 "java/lang/IllegalArgumentException") lkL_compensated_c13) (hN 2 (by decide) 1 (by decide) (by decide)) tp_nil)) rfl (by decide) (hts (.classLink RL 15 "java/lang/IllegalStateException") lkL_compensated_c15) rfl (fun H locs q hP hD hS => ?_)
        refine lv_astore (lv' := [(4, .ref q), (0, .ref (ad 0)), (1, .int a0), (2, .int a1), (3, .ref qo)]) hx hb dL_compensated_21 hl (by decide) rfl (fun ls hl => ?_)
        refine lv_iconst (v := 3) hx hb dL_compensated_23 (by decide) ?_
        exact hret _ _ _ _ _ rfl hP hD hS dL_compensated_24
      replace h := ite_f hk2 h
      by_cases hk3 : k0 = 3
      · subst hk3
        cases h
        refine lwC (k := 3) (rest := [.int 0, .ref qo]) (As := [.int a0, .int a1]) S (by decide) (cxX4_compensated l hfl G (ad 0) (ad 1) (ad 19) (ad 20) (ad 21) (ad 22) (ad 23) (ad 24) (ad 25) (ad 26) (ad 2) (ad 5) (ad 10) c.gain (ad 11) (ad 19) (ad 27) c.s1.pr c.s1.a c.s1.b c.s1.c c.s1.d c.s1.sp c.s1.mi c.s1.ti c.s1.w c.s1.s c.s1.h c.s1.va c.s1.ov c.s1.ra c.s1.ol c.s1.od c.s1.ne a0 a1 3 gx 1 (by decide) (by rw [hs_a0]; decide) rfl) (cwV 2 hts gL_compensated_X4_compensated rfl rfl rfl hvX4_compensated ⟨Nat.le_of_ble_eq_true rfl, Nat.le_of_ble_eq_true rfl⟩) hK hT hP hD hS [0, 1, 19, 20, 21, 22, 23, 24, 25, 26] rfl 0 4 rfl rfl rfl rfl hl.1 rfl (Nat.le_of_ble_eq_true rfl) dL_compensated_5 ⟨Nat.le_of_ble_eq_true rfl, Nat.le_of_ble_eq_true rfl⟩ [] { startPc := 0, endPc := 10, handlerPc := 13, catchType := 20 } [{ startPc := 0, endPc := 10, handlerPc := 17, catchType := 13 }, { startPc := 0, endPc := 10, handlerPc := 21, catchType := 15 }] (by rw [htab]; rfl) tp_nil rfl (by decide) (hts (.classLink RL 20 "java/lang/IndexOutOfBoundsException") lkL_compensated_c20) rfl (fun H locs q hP hD hS => ?_)
        refine lv_astore (lv' := [(4, .ref q), (0, .ref (ad 0)), (1, .int a0), (2, .int a1), (3, .ref qo)]) hx hb dL_compensated_13 hl (by decide) rfl (fun ls hl => ?_)
        refine lv_iconst (v := 1) hx hb dL_compensated_15 (by decide) ?_
        exact hret _ _ _ _ _ rfl hP hD hS dL_compensated_16
      cases (ite_f hk3 h)
    · obtain ⟨o0, g, h⟩ := bnd1_e h
      cases h
      refine roVi1 (rest := [.int 0, .ref qo]) (As := [.int a0, .int a1]) S (ctX4_compensated l G (ad 0) (ad 1) (ad 19) (ad 20) (ad 21) (ad 22) (ad 23) (ad 24) (ad 25) (ad 26) (ad 2) (ad 5) (ad 10) c.gain (ad 11) (ad 19) (ad 27) c.s1.pr c.s1.a c.s1.b c.s1.c c.s1.d c.s1.sp c.s1.mi c.s1.ti c.s1.w c.s1.s c.s1.h c.s1.va c.s1.ov c.s1.ra c.s1.ol c.s1.od c.s1.ne a0 a1 o0 g 1 (by decide) (by rw [hs_a0]; decide) rfl) (cwV 2 hts gL_compensated_X4_compensated rfl rfl rfl hvX4_compensated ⟨Nat.le_of_ble_eq_true rfl, Nat.le_of_ble_eq_true rfl⟩) hK hP [0, 1, 19, 20, 21, 22, 23, 24, 25, 26] rfl 0 4 rfl rfl rfl rfl hl.1 rfl (Nat.le_of_ble_eq_true rfl) dL_compensated_5 ⟨Nat.zero_le _, Nat.zero_le _⟩ (fun _ => ?_)
      refine lv_i2l hx hb dL_compensated_8 rfl ?_
      refine va_last hx hb hK.1 hP hD hS 35 3 rfl rfl (i := 0) (vp_in_iff.mpr ⟨by decide, by decide⟩) dL_compensated_9 (fun H locs hP hD hS => ?_)
      refine lv_goto (tgt := 25) hx hb dL_compensated_10 (by decide) ?_
      refine lv_iconst (v := 0) hx hb dL_compensated_25 (by decide) ?_
      refine W.widen (k := 1) (n := 6) (by omega) (by omega) ?_
      exact hret _ _ _ _ _ rfl hP hD hS dL_compensated_26
  replace h := ite_f hs_a0 h
  have hn_a01 := hs_a0
  clear hs_a0
  by_cases hs_a0 : a0 = 2
  · replace h := ite_t hs_a0 h
    rcases lq_e h with ⟨k0, gx, h⟩ | ⟨gx, h⟩
    · by_cases hk1 : k0 = 1
      · subst hk1
        cases h
        refine lwC (k := 1) (rest := [.int 0, .ref qo]) (As := [.int a0, .int a1]) S (by decide) (cxX4_compensated l hfl G (ad 0) (ad 1) (ad 27) (ad 28) (ad 29) (ad 30) (ad 31) (ad 32) (ad 33) (ad 34) (ad 2) (ad 5) (ad 10) c.gain (ad 11) (ad 19) (ad 27) c.s2.pr c.s2.a c.s2.b c.s2.c c.s2.d c.s2.sp c.s2.mi c.s2.ti c.s2.w c.s2.s c.s2.h c.s2.va c.s2.ov c.s2.ra c.s2.ol c.s2.od c.s2.ne a0 a1 1 gx 2 (by decide) (by rw [hs_a0]; decide) rfl) (cwV 2 hts gL_compensated_X4_compensated rfl rfl rfl hvX4_compensated ⟨Nat.le_of_ble_eq_true rfl, Nat.le_of_ble_eq_true rfl⟩) hK hT hP hD hS [0, 1, 27, 28, 29, 30, 31, 32, 33, 34] rfl 0 4 rfl rfl rfl rfl hl.1 rfl (Nat.le_of_ble_eq_true rfl) dL_compensated_5 ⟨Nat.le_of_ble_eq_true rfl, Nat.le_of_ble_eq_true rfl⟩ [{ startPc := 0, endPc := 10, handlerPc := 13, catchType := 20 }] { startPc := 0, endPc := 10, handlerPc := 17, catchType := 13 } [{ startPc := 0, endPc := 10, handlerPc := 21, catchType := 15 }] (by rw [htab]; rfl) (tp_cons (nm := exn 3) (by decide) (hts (.classLink RL 20 "java/lang/IndexOutOfBoundsException") lkL_compensated_c20) (hN 1 (by decide) 3 (by decide) (by decide)) tp_nil) rfl (by decide) (hts (.classLink RL 13 "java/lang/IllegalArgumentException") lkL_compensated_c13) rfl (fun H locs q hP hD hS => ?_)
        refine lv_astore (lv' := [(4, .ref q), (0, .ref (ad 0)), (1, .int a0), (2, .int a1), (3, .ref qo)]) hx hb dL_compensated_17 hl (by decide) rfl (fun ls hl => ?_)
        refine lv_iconst (v := 2) hx hb dL_compensated_19 (by decide) ?_
        exact hret _ _ _ _ _ rfl hP hD hS dL_compensated_20
      replace h := ite_f hk1 h
      by_cases hk2 : k0 = 2
      · subst hk2
        cases h
        refine lwC (k := 2) (rest := [.int 0, .ref qo]) (As := [.int a0, .int a1]) S (by decide) (cxX4_compensated l hfl G (ad 0) (ad 1) (ad 27) (ad 28) (ad 29) (ad 30) (ad 31) (ad 32) (ad 33) (ad 34) (ad 2) (ad 5) (ad 10) c.gain (ad 11) (ad 19) (ad 27) c.s2.pr c.s2.a c.s2.b c.s2.c c.s2.d c.s2.sp c.s2.mi c.s2.ti c.s2.w c.s2.s c.s2.h c.s2.va c.s2.ov c.s2.ra c.s2.ol c.s2.od c.s2.ne a0 a1 2 gx 2 (by decide) (by rw [hs_a0]; decide) rfl) (cwV 2 hts gL_compensated_X4_compensated rfl rfl rfl hvX4_compensated ⟨Nat.le_of_ble_eq_true rfl, Nat.le_of_ble_eq_true rfl⟩) hK hT hP hD hS [0, 1, 27, 28, 29, 30, 31, 32, 33, 34] rfl 0 4 rfl rfl rfl rfl hl.1 rfl (Nat.le_of_ble_eq_true rfl) dL_compensated_5 ⟨Nat.le_of_ble_eq_true rfl, Nat.le_of_ble_eq_true rfl⟩ [{ startPc := 0, endPc := 10, handlerPc := 13, catchType := 20 }, { startPc := 0, endPc := 10, handlerPc := 17, catchType := 13 }] { startPc := 0, endPc := 10, handlerPc := 21, catchType := 15 } [] (by rw [htab]; rfl) (tp_cons (nm := exn 3) (by decide) (hts (.classLink RL 20 "java/lang/IndexOutOfBoundsException") lkL_compensated_c20) (hN 2 (by decide) 3 (by decide) (by decide)) (tp_cons (nm := exn 1) (by decide) (hts (.classLink RL 13 "java/lang/IllegalArgumentException") lkL_compensated_c13) (hN 2 (by decide) 1 (by decide) (by decide)) tp_nil)) rfl (by decide) (hts (.classLink RL 15 "java/lang/IllegalStateException") lkL_compensated_c15) rfl (fun H locs q hP hD hS => ?_)
        refine lv_astore (lv' := [(4, .ref q), (0, .ref (ad 0)), (1, .int a0), (2, .int a1), (3, .ref qo)]) hx hb dL_compensated_21 hl (by decide) rfl (fun ls hl => ?_)
        refine lv_iconst (v := 3) hx hb dL_compensated_23 (by decide) ?_
        exact hret _ _ _ _ _ rfl hP hD hS dL_compensated_24
      replace h := ite_f hk2 h
      by_cases hk3 : k0 = 3
      · subst hk3
        cases h
        refine lwC (k := 3) (rest := [.int 0, .ref qo]) (As := [.int a0, .int a1]) S (by decide) (cxX4_compensated l hfl G (ad 0) (ad 1) (ad 27) (ad 28) (ad 29) (ad 30) (ad 31) (ad 32) (ad 33) (ad 34) (ad 2) (ad 5) (ad 10) c.gain (ad 11) (ad 19) (ad 27) c.s2.pr c.s2.a c.s2.b c.s2.c c.s2.d c.s2.sp c.s2.mi c.s2.ti c.s2.w c.s2.s c.s2.h c.s2.va c.s2.ov c.s2.ra c.s2.ol c.s2.od c.s2.ne a0 a1 3 gx 2 (by decide) (by rw [hs_a0]; decide) rfl) (cwV 2 hts gL_compensated_X4_compensated rfl rfl rfl hvX4_compensated ⟨Nat.le_of_ble_eq_true rfl, Nat.le_of_ble_eq_true rfl⟩) hK hT hP hD hS [0, 1, 27, 28, 29, 30, 31, 32, 33, 34] rfl 0 4 rfl rfl rfl rfl hl.1 rfl (Nat.le_of_ble_eq_true rfl) dL_compensated_5 ⟨Nat.le_of_ble_eq_true rfl, Nat.le_of_ble_eq_true rfl⟩ [] { startPc := 0, endPc := 10, handlerPc := 13, catchType := 20 } [{ startPc := 0, endPc := 10, handlerPc := 17, catchType := 13 }, { startPc := 0, endPc := 10, handlerPc := 21, catchType := 15 }] (by rw [htab]; rfl) tp_nil rfl (by decide) (hts (.classLink RL 20 "java/lang/IndexOutOfBoundsException") lkL_compensated_c20) rfl (fun H locs q hP hD hS => ?_)
        refine lv_astore (lv' := [(4, .ref q), (0, .ref (ad 0)), (1, .int a0), (2, .int a1), (3, .ref qo)]) hx hb dL_compensated_13 hl (by decide) rfl (fun ls hl => ?_)
        refine lv_iconst (v := 1) hx hb dL_compensated_15 (by decide) ?_
        exact hret _ _ _ _ _ rfl hP hD hS dL_compensated_16
      cases (ite_f hk3 h)
    · obtain ⟨o0, g, h⟩ := bnd1_e h
      cases h
      refine roVi1 (rest := [.int 0, .ref qo]) (As := [.int a0, .int a1]) S (ctX4_compensated l G (ad 0) (ad 1) (ad 27) (ad 28) (ad 29) (ad 30) (ad 31) (ad 32) (ad 33) (ad 34) (ad 2) (ad 5) (ad 10) c.gain (ad 11) (ad 19) (ad 27) c.s2.pr c.s2.a c.s2.b c.s2.c c.s2.d c.s2.sp c.s2.mi c.s2.ti c.s2.w c.s2.s c.s2.h c.s2.va c.s2.ov c.s2.ra c.s2.ol c.s2.od c.s2.ne a0 a1 o0 g 2 (by decide) (by rw [hs_a0]; decide) rfl) (cwV 2 hts gL_compensated_X4_compensated rfl rfl rfl hvX4_compensated ⟨Nat.le_of_ble_eq_true rfl, Nat.le_of_ble_eq_true rfl⟩) hK hP [0, 1, 27, 28, 29, 30, 31, 32, 33, 34] rfl 0 4 rfl rfl rfl rfl hl.1 rfl (Nat.le_of_ble_eq_true rfl) dL_compensated_5 ⟨Nat.zero_le _, Nat.zero_le _⟩ (fun _ => ?_)
      refine lv_i2l hx hb dL_compensated_8 rfl ?_
      refine va_last hx hb hK.1 hP hD hS 35 3 rfl rfl (i := 0) (vp_in_iff.mpr ⟨by decide, by decide⟩) dL_compensated_9 (fun H locs hP hD hS => ?_)
      refine lv_goto (tgt := 25) hx hb dL_compensated_10 (by decide) ?_
      refine lv_iconst (v := 0) hx hb dL_compensated_25 (by decide) ?_
      refine W.widen (k := 1) (n := 6) (by omega) (by omega) ?_
      exact hret _ _ _ _ _ rfl hP hD hS dL_compensated_26
  replace h := ite_f hs_a0 h
  have hn_a02 := hs_a0
  clear hs_a0
  have ho_a0 := slot_out hn_a00 hn_a01 hn_a02
  cases h
  refine lwC (k := 3) (rest := [.int 0, .ref qo]) (As := [.int a0, .int a1]) S (by decide) (cxX4_compensatedo l hfl G (ad 0) (ad 1) (ad 2) (ad 5) (ad 10) c.gain (ad 11) (ad 19) (ad 27) a0 a1 ho_a0) (cwV 2 hts gL_compensated_X4_compensated rfl rfl rfl hvX4_compensated ⟨Nat.le_of_ble_eq_true rfl, Nat.le_of_ble_eq_true rfl⟩) hK hT hP hD hS [0, 1] rfl 0 4 rfl rfl rfl rfl hl.1 rfl (Nat.le_of_ble_eq_true rfl) dL_compensated_5 ⟨Nat.le_of_ble_eq_true rfl, Nat.le_of_ble_eq_true rfl⟩ [] { startPc := 0, endPc := 10, handlerPc := 13, catchType := 20 } [{ startPc := 0, endPc := 10, handlerPc := 17, catchType := 13 }, { startPc := 0, endPc := 10, handlerPc := 21, catchType := 15 }] (by rw [htab]; rfl) tp_nil rfl (by decide) (hts (.classLink RL 20 "java/lang/IndexOutOfBoundsException") lkL_compensated_c20) rfl (fun H locs q hP hD hS => ?_)
  refine lv_astore (lv' := [(4, .ref q), (0, .ref (ad 0)), (1, .int a0), (2, .int a1), (3, .ref qo)]) hx hb dL_compensated_13 hl (by decide) rfl (fun ls hl => ?_)
  refine lv_iconst (v := 1) hx hb dL_compensated_15 (by decide) ?_
  exact hret _ _ _ _ _ rfl hP hD hS dL_compensated_16
abbrev rmL_beat : Room := { frames := 8, cells := 1, slots := 6, locals := 136 }
theorem lkL_beat_c20 : Cond.classLink RL 20 "java/lang/IndexOutOfBoundsException" ∈ wsL_beat := List.mem_of_getElem? (i := 1) rfl
theorem lkL_beat_c13 : Cond.classLink RL 13 "java/lang/IllegalArgumentException" ∈ wsL_beat := List.mem_of_getElem? (i := 2) rfl
theorem lkL_beat_c15 : Cond.classLink RL 15 "java/lang/IllegalStateException" ∈ wsL_beat := List.mem_of_getElem? (i := 3) rfl
set_option maxHeartbeats 4000000 in
set_option maxRecDepth 100000 in
theorem lw_beat (l : Launch) (hfl : l.stackTraces = false) (G : GG) (ad : Nat → Nat) (qo : Nat) (c c' : Cls) (f f' : Nat → Int64) (a0 : Int32) (a1 : Int32) (a2 : Int32) (r0 : Int32) (h : lm_beat c f a0 a1 a2 = some (r0, c', f')) : Met l yL_beat wsL_beat rmL_beat (va_Pc [.ref (ad 0), .int a0, .int a1, .int a2, .ref qo] (PreD G (wdF G ad c ++ [(qo, .inl (G.2 3, 1, .inr (.inl f)))]) (XL (wdF G ad c ++ [(qo, .inl (G.2 3, 1, .inr (.inl f)))])))) (QwA G (va_A0 (wdF G ad c ++ [(qo, .inl (G.2 3, 1, .inr (.inl f)))])) (wdF G ad c' ++ [(qo, .inl (G.2 3, 1, .inr (.inl f')))]) (some (.int r0)) True) 1 6 (va_A0 (wdF G ad c ++ [(qo, .inl (G.2 3, 1, .inr (.inl f)))])) := by
  refine of_lw (cc := cL_beat) (maxL := 6) (hh := [(0, 12, 15, 20), (0, 12, 19, 13), (0, 12, 23, 15)]) (by decide) rfl (Nat.le_of_ble_eq_true rfl) ?_
  intro p e s m args below meth c1 ls Q A S htab hl hP hD hS hK hT hN hX hA hret
  obtain ⟨H, hH⟩ : ∃ H, H = s.heap := ⟨_, rfl⟩
  obtain ⟨locs, hlocs⟩ : ∃ L : List Loc, L = [] := ⟨_, rfl⟩
  rw [← hlocs]
  rw [← hlocs] at hS
  have hP : va_P G.1 vwCl (wdF G ad c ++ [(qo, .inl (G.2 3, 1, .inr (.inl f)))]) H := by rw [hH]; exact hP
  have hS : va_S A s.heap H locs := by rw [hH]; exact hS
  have hT : TT A s H := by rw [hH]; exact hT
  suffices hgo : W p l e rmL_beat s m args below meth c1 H locs 0 0 Q (F0 m 0 ls []) by rw [hH] at hgo; exact hgo
  have S : CallFix p m c1 cL_beat 6 s args wsL_beat RL := S
  obtain ⟨hx, hb, hml, hown, hts⟩ := id S
  have hl : lv_has ls 6 [(0, .ref (ad 0)), (1, .int a0), (2, .int a1), (3, .int a2), (4, .ref qo)] := hl
  unfold lm_beat at h
  refine lv_aload hx hb dL_beat_0 (lv_at hl 4 rfl) ?_
  refine lv_iconst (v := 0) hx hb dL_beat_2 (by decide) ?_
  refine lv_aload_n hx hb dL_beat_3 rfl (lv_at hl 0 rfl) ?_
  refine lv_iload_n hx hb dL_beat_4 rfl (lv_at hl 1 rfl) ?_
  refine lv_iload_n hx hb dL_beat_5 rfl (lv_at hl 2 rfl) ?_
  refine lv_iload_n hx hb dL_beat_6 rfl (lv_at hl 3 rfl) ?_
  by_cases hs_a0 : a0 = 0
  · replace h := ite_t hs_a0 h
    by_cases hs_a1 : a1 = 0
    · replace h := ite_t hs_a1 h
      rcases lq_e h with ⟨k0, gx, h⟩ | ⟨gx, h⟩
      · by_cases hk1 : k0 = 1
        · subst hk1
          cases h
          refine lwC (k := 1) (rest := [.int 0, .ref qo]) (As := [.int a0, .int a1, .int a2]) S (by decide) (cxX4_beat l hfl G (ad 0) (ad 1) (ad 11) (ad 12) (ad 13) (ad 14) (ad 15) (ad 16) (ad 17) (ad 18) (ad 11) (ad 12) (ad 13) (ad 14) (ad 15) (ad 16) (ad 17) (ad 18) (ad 2) (ad 5) (ad 10) c.gain (ad 11) (ad 19) (ad 27) c.s0.pr c.s0.a c.s0.b c.s0.c c.s0.d c.s0.sp c.s0.mi c.s0.ti c.s0.w c.s0.s c.s0.h c.s0.va c.s0.ov c.s0.ra c.s0.ol c.s0.od c.s0.ne c.s0.pr c.s0.a c.s0.b c.s0.c c.s0.d c.s0.sp c.s0.mi c.s0.ti c.s0.w c.s0.s c.s0.h c.s0.va c.s0.ov c.s0.ra c.s0.ol c.s0.od c.s0.ne a0 a1 a2 1 gx 0 (by decide) (by rw [hs_a0]; decide) rfl 0 (by decide) (by rw [hs_a1]; decide) rfl) (cwV 3 hts gL_beat_X4_beat rfl rfl rfl hvX4_beat ⟨Nat.le_of_ble_eq_true rfl, Nat.le_of_ble_eq_true rfl⟩) hK hT hP hD hS [0, 1, 11, 12, 13, 14, 15, 16, 17, 18, 11, 12, 13, 14, 15, 16, 17, 18] rfl 0 4 rfl rfl rfl rfl hl.1 rfl (Nat.le_of_ble_eq_true rfl) dL_beat_7 ⟨Nat.le_of_ble_eq_true rfl, Nat.le_of_ble_eq_true rfl⟩ [{ startPc := 0, endPc := 12, handlerPc := 15, catchType := 20 }] { startPc := 0, endPc := 12, handlerPc := 19, catchType := 13 } [{ startPc := 0, endPc := 12, handlerPc := 23, catchType := 15 }] (by rw [htab]; rfl) (tp_cons (nm := exn 3) (by decide) (hts (.classLink RL 20 "java/lang/IndexOutOfBoundsException") lkL_beat_c20) (hN 1 (by decide) 3 (by decide) (by decide)) tp_nil) rfl (by decide) (hts (.classLink RL 13 "java/lang/IllegalArgumentException") lkL_beat_c13) rfl (fun H locs q hP hD hS => ?_)
          refine lv_astore (lv' := [(5, .ref q), (0, .ref (ad 0)), (1, .int a0), (2, .int a1), (3, .int a2), (4, .ref qo)]) hx hb dL_beat_19 hl (by decide) rfl (fun ls hl => ?_)
          refine lv_iconst (v := 2) hx hb dL_beat_21 (by decide) ?_
          exact hret _ _ _ _ _ rfl hP hD hS dL_beat_22
        replace h := ite_f hk1 h
        by_cases hk2 : k0 = 2
        · subst hk2
          cases h
          refine lwC (k := 2) (rest := [.int 0, .ref qo]) (As := [.int a0, .int a1, .int a2]) S (by decide) (cxX4_beat l hfl G (ad 0) (ad 1) (ad 11) (ad 12) (ad 13) (ad 14) (ad 15) (ad 16) (ad 17) (ad 18) (ad 11) (ad 12) (ad 13) (ad 14) (ad 15) (ad 16) (ad 17) (ad 18) (ad 2) (ad 5) (ad 10) c.gain (ad 11) (ad 19) (ad 27) c.s0.pr c.s0.a c.s0.b c.s0.c c.s0.d c.s0.sp c.s0.mi c.s0.ti c.s0.w c.s0.s c.s0.h c.s0.va c.s0.ov c.s0.ra c.s0.ol c.s0.od c.s0.ne c.s0.pr c.s0.a c.s0.b c.s0.c c.s0.d c.s0.sp c.s0.mi c.s0.ti c.s0.w c.s0.s c.s0.h c.s0.va c.s0.ov c.s0.ra c.s0.ol c.s0.od c.s0.ne a0 a1 a2 2 gx 0 (by decide) (by rw [hs_a0]; decide) rfl 0 (by decide) (by rw [hs_a1]; decide) rfl) (cwV 3 hts gL_beat_X4_beat rfl rfl rfl hvX4_beat ⟨Nat.le_of_ble_eq_true rfl, Nat.le_of_ble_eq_true rfl⟩) hK hT hP hD hS [0, 1, 11, 12, 13, 14, 15, 16, 17, 18, 11, 12, 13, 14, 15, 16, 17, 18] rfl 0 4 rfl rfl rfl rfl hl.1 rfl (Nat.le_of_ble_eq_true rfl) dL_beat_7 ⟨Nat.le_of_ble_eq_true rfl, Nat.le_of_ble_eq_true rfl⟩ [{ startPc := 0, endPc := 12, handlerPc := 15, catchType := 20 }, { startPc := 0, endPc := 12, handlerPc := 19, catchType := 13 }] { startPc := 0, endPc := 12, handlerPc := 23, catchType := 15 } [] (by rw [htab]; rfl) (tp_cons (nm := exn 3) (by decide) (hts (.classLink RL 20 "java/lang/IndexOutOfBoundsException") lkL_beat_c20) (hN 2 (by decide) 3 (by decide) (by decide)) (tp_cons (nm := exn 1) (by decide) (hts (.classLink RL 13 "java/lang/IllegalArgumentException") lkL_beat_c13) (hN 2 (by decide) 1 (by decide) (by decide)) tp_nil)) rfl (by decide) (hts (.classLink RL 15 "java/lang/IllegalStateException") lkL_beat_c15) rfl (fun H locs q hP hD hS => ?_)
          refine lv_astore (lv' := [(5, .ref q), (0, .ref (ad 0)), (1, .int a0), (2, .int a1), (3, .int a2), (4, .ref qo)]) hx hb dL_beat_23 hl (by decide) rfl (fun ls hl => ?_)
          refine lv_iconst (v := 3) hx hb dL_beat_25 (by decide) ?_
          exact hret _ _ _ _ _ rfl hP hD hS dL_beat_26
        replace h := ite_f hk2 h
        by_cases hk3 : k0 = 3
        · subst hk3
          cases h
          refine lwC (k := 3) (rest := [.int 0, .ref qo]) (As := [.int a0, .int a1, .int a2]) S (by decide) (cxX4_beat l hfl G (ad 0) (ad 1) (ad 11) (ad 12) (ad 13) (ad 14) (ad 15) (ad 16) (ad 17) (ad 18) (ad 11) (ad 12) (ad 13) (ad 14) (ad 15) (ad 16) (ad 17) (ad 18) (ad 2) (ad 5) (ad 10) c.gain (ad 11) (ad 19) (ad 27) c.s0.pr c.s0.a c.s0.b c.s0.c c.s0.d c.s0.sp c.s0.mi c.s0.ti c.s0.w c.s0.s c.s0.h c.s0.va c.s0.ov c.s0.ra c.s0.ol c.s0.od c.s0.ne c.s0.pr c.s0.a c.s0.b c.s0.c c.s0.d c.s0.sp c.s0.mi c.s0.ti c.s0.w c.s0.s c.s0.h c.s0.va c.s0.ov c.s0.ra c.s0.ol c.s0.od c.s0.ne a0 a1 a2 3 gx 0 (by decide) (by rw [hs_a0]; decide) rfl 0 (by decide) (by rw [hs_a1]; decide) rfl) (cwV 3 hts gL_beat_X4_beat rfl rfl rfl hvX4_beat ⟨Nat.le_of_ble_eq_true rfl, Nat.le_of_ble_eq_true rfl⟩) hK hT hP hD hS [0, 1, 11, 12, 13, 14, 15, 16, 17, 18, 11, 12, 13, 14, 15, 16, 17, 18] rfl 0 4 rfl rfl rfl rfl hl.1 rfl (Nat.le_of_ble_eq_true rfl) dL_beat_7 ⟨Nat.le_of_ble_eq_true rfl, Nat.le_of_ble_eq_true rfl⟩ [] { startPc := 0, endPc := 12, handlerPc := 15, catchType := 20 } [{ startPc := 0, endPc := 12, handlerPc := 19, catchType := 13 }, { startPc := 0, endPc := 12, handlerPc := 23, catchType := 15 }] (by rw [htab]; rfl) tp_nil rfl (by decide) (hts (.classLink RL 20 "java/lang/IndexOutOfBoundsException") lkL_beat_c20) rfl (fun H locs q hP hD hS => ?_)
          refine lv_astore (lv' := [(5, .ref q), (0, .ref (ad 0)), (1, .int a0), (2, .int a1), (3, .int a2), (4, .ref qo)]) hx hb dL_beat_15 hl (by decide) rfl (fun ls hl => ?_)
          refine lv_iconst (v := 1) hx hb dL_beat_17 (by decide) ?_
          exact hret _ _ _ _ _ rfl hP hD hS dL_beat_18
        cases (ite_f hk3 h)
      · obtain ⟨o0, o1, o2, o3, g, h⟩ := bnd4_e h
        cases h
        refine rwV_back (rest := [.int 0, .ref qo]) (As := [.int 0, .int 0, .int a2]) (wr := List.filterMap (fun i => (wdF G ad c ++ [(qo, .inl (G.2 3, 1, .inr (.inl f)))])[i]?) [2, 3, 4, 5, 6, 7, 8, 9, 35]) (wf := wdF G ad (mkC c.gain c.il c.ip c.ia c.ig c.is c.im c.ic c.iq c.dn c.dm c.dj c.dt c.dx c.dy c.dr c.dv c.dw c.dq o1 o2 o3 c.s0 c.s1 c.s2) ++ [(qo, .inl (G.2 3, 1, .inr (.inl f)))]) S (ctX4_beat l G (ad 0) (ad 1) (ad 10) (ad 11) (ad 12) (ad 13) (ad 14) (ad 15) (ad 16) (ad 17) (ad 18) (ad 19) (ad 20) (ad 21) (ad 22) (ad 23) (ad 24) (ad 25) (ad 26) (ad 27) (ad 28) (ad 29) (ad 30) (ad 31) (ad 32) (ad 33) (ad 34) (ad 2) (ad 5) c.gain c.fw c.fs c.fh c.s0.pr c.s0.a c.s0.b c.s0.c c.s0.d c.s0.sp c.s0.mi c.s0.ti c.s0.w c.s0.s c.s0.h c.s0.va c.s0.ov c.s0.ra c.s0.ol c.s0.od c.s0.ne c.s1.pr c.s1.a c.s1.b c.s1.c c.s1.d c.s1.sp c.s1.mi c.s1.ti c.s1.w c.s1.s c.s1.h c.s1.va c.s1.ov c.s1.ra c.s1.ol c.s1.od c.s1.ne c.s2.pr c.s2.a c.s2.b c.s2.c c.s2.d c.s2.sp c.s2.mi c.s2.ti c.s2.w c.s2.s c.s2.h c.s2.va c.s2.ov c.s2.ra c.s2.ol c.s2.od c.s2.ne a2 o0 o1 o2 o3 g) (cwV 3 hts gL_beat_X4_beat rfl rfl rfl hvX4_beat ⟨Nat.le_of_ble_eq_true rfl, Nat.le_of_ble_eq_true rfl⟩) hK hP hD hS xb_triv (fun _ _ _ => trivial) [0, 1, 10, 11, 12, 13, 14, 15, 16, 17, 18, 19, 20, 21, 22, 23, 24, 25, 26, 27, 28, 29, 30, 31, 32, 33, 34] [2, 3, 4, 5, 6, 7, 8, 9, 35] [9, 10, 0, 1, 2, 3, 4, 5, 6, 7, 11, 12, 13, 14, 15, 16, 17, 18, 19, 20, 21, 22, 23, 24, 25, 26, 27, 28, 29, 30, 31, 32, 33, 34, 35, 8] rfl rfl rfl rfl rfl rfl rfl 0 4 rfl rfl rfl rfl hl.1 (by rw [hs_a0, hs_a1]; rfl) (Nat.le_of_ble_eq_true rfl) dL_beat_7 ⟨Nat.zero_le _, Nat.zero_le _⟩ (fun _ H locs hP hD hS => ?_)
        refine lv_i2l hx hb dL_beat_10 rfl ?_
        refine va_last hx hb hK.1 hP hD hS 35 3 rfl rfl (i := 0) (vp_in_iff.mpr ⟨by decide, by decide⟩) dL_beat_11 (fun H locs hP hD hS => ?_)
        refine lv_goto (tgt := 27) hx hb dL_beat_12 (by decide) ?_
        refine lv_iconst (v := 0) hx hb dL_beat_27 (by decide) ?_
        refine W.widen (k := 1) (n := 6) (by omega) (by omega) ?_
        exact hret _ _ _ _ _ rfl hP hD hS dL_beat_28
    replace h := ite_f hs_a1 h
    have hn_a10 := hs_a1
    clear hs_a1
    by_cases hs_a1 : a1 = 1
    · replace h := ite_t hs_a1 h
      rcases lq_e h with ⟨k0, gx, h⟩ | ⟨gx, h⟩
      · by_cases hk1 : k0 = 1
        · subst hk1
          cases h
          refine lwC (k := 1) (rest := [.int 0, .ref qo]) (As := [.int a0, .int a1, .int a2]) S (by decide) (cxX4_beat l hfl G (ad 0) (ad 1) (ad 11) (ad 12) (ad 13) (ad 14) (ad 15) (ad 16) (ad 17) (ad 18) (ad 19) (ad 20) (ad 21) (ad 22) (ad 23) (ad 24) (ad 25) (ad 26) (ad 2) (ad 5) (ad 10) c.gain (ad 11) (ad 19) (ad 27) c.s0.pr c.s0.a c.s0.b c.s0.c c.s0.d c.s0.sp c.s0.mi c.s0.ti c.s0.w c.s0.s c.s0.h c.s0.va c.s0.ov c.s0.ra c.s0.ol c.s0.od c.s0.ne c.s1.pr c.s1.a c.s1.b c.s1.c c.s1.d c.s1.sp c.s1.mi c.s1.ti c.s1.w c.s1.s c.s1.h c.s1.va c.s1.ov c.s1.ra c.s1.ol c.s1.od c.s1.ne a0 a1 a2 1 gx 0 (by decide) (by rw [hs_a0]; decide) rfl 1 (by decide) (by rw [hs_a1]; decide) rfl) (cwV 3 hts gL_beat_X4_beat rfl rfl rfl hvX4_beat ⟨Nat.le_of_ble_eq_true rfl, Nat.le_of_ble_eq_true rfl⟩) hK hT hP hD hS [0, 1, 11, 12, 13, 14, 15, 16, 17, 18, 19, 20, 21, 22, 23, 24, 25, 26] rfl 0 4 rfl rfl rfl rfl hl.1 rfl (Nat.le_of_ble_eq_true rfl) dL_beat_7 ⟨Nat.le_of_ble_eq_true rfl, Nat.le_of_ble_eq_true rfl⟩ [{ startPc := 0, endPc := 12, handlerPc := 15, catchType := 20 }] { startPc := 0, endPc := 12, handlerPc := 19, catchType := 13 } [{ startPc := 0, endPc := 12, handlerPc := 23, catchType := 15 }] (by rw [htab]; rfl) (tp_cons (nm := exn 3) (by decide) (hts (.classLink RL 20 "java/lang/IndexOutOfBoundsException") lkL_beat_c20) (hN 1 (by decide) 3 (by decide) (by decide)) tp_nil) rfl (by decide) (hts (.classLink RL 13 "java/lang/IllegalArgumentException") lkL_beat_c13) rfl (fun H locs q hP hD hS => ?_)
          refine lv_astore (lv' := [(5, .ref q), (0, .ref (ad 0)), (1, .int a0), (2, .int a1), (3, .int a2), (4, .ref qo)]) hx hb dL_beat_19 hl (by decide) rfl (fun ls hl => ?_)
          refine lv_iconst (v := 2) hx hb dL_beat_21 (by decide) ?_
          exact hret _ _ _ _ _ rfl hP hD hS dL_beat_22
        replace h := ite_f hk1 h
        by_cases hk2 : k0 = 2
        · subst hk2
          cases h
          refine lwC (k := 2) (rest := [.int 0, .ref qo]) (As := [.int a0, .int a1, .int a2]) S (by decide) (cxX4_beat l hfl G (ad 0) (ad 1) (ad 11) (ad 12) (ad 13) (ad 14) (ad 15) (ad 16) (ad 17) (ad 18) (ad 19) (ad 20) (ad 21) (ad 22) (ad 23) (ad 24) (ad 25) (ad 26) (ad 2) (ad 5) (ad 10) c.gain (ad 11) (ad 19) (ad 27) c.s0.pr c.s0.a c.s0.b c.s0.c c.s0.d c.s0.sp c.s0.mi c.s0.ti c.s0.w c.s0.s c.s0.h c.s0.va c.s0.ov c.s0.ra c.s0.ol c.s0.od c.s0.ne c.s1.pr c.s1.a c.s1.b c.s1.c c.s1.d c.s1.sp c.s1.mi c.s1.ti c.s1.w c.s1.s c.s1.h c.s1.va c.s1.ov c.s1.ra c.s1.ol c.s1.od c.s1.ne a0 a1 a2 2 gx 0 (by decide) (by rw [hs_a0]; decide) rfl 1 (by decide) (by rw [hs_a1]; decide) rfl) (cwV 3 hts gL_beat_X4_beat rfl rfl rfl hvX4_beat ⟨Nat.le_of_ble_eq_true rfl, Nat.le_of_ble_eq_true rfl⟩) hK hT hP hD hS [0, 1, 11, 12, 13, 14, 15, 16, 17, 18, 19, 20, 21, 22, 23, 24, 25, 26] rfl 0 4 rfl rfl rfl rfl hl.1 rfl (Nat.le_of_ble_eq_true rfl) dL_beat_7 ⟨Nat.le_of_ble_eq_true rfl, Nat.le_of_ble_eq_true rfl⟩ [{ startPc := 0, endPc := 12, handlerPc := 15, catchType := 20 }, { startPc := 0, endPc := 12, handlerPc := 19, catchType := 13 }] { startPc := 0, endPc := 12, handlerPc := 23, catchType := 15 } [] (by rw [htab]; rfl) (tp_cons (nm := exn 3) (by decide) (hts (.classLink RL 20 "java/lang/IndexOutOfBoundsException") lkL_beat_c20) (hN 2 (by decide) 3 (by decide) (by decide)) (tp_cons (nm := exn 1) (by decide) (hts (.classLink RL 13 "java/lang/IllegalArgumentException") lkL_beat_c13) (hN 2 (by decide) 1 (by decide) (by decide)) tp_nil)) rfl (by decide) (hts (.classLink RL 15 "java/lang/IllegalStateException") lkL_beat_c15) rfl (fun H locs q hP hD hS => ?_)
          refine lv_astore (lv' := [(5, .ref q), (0, .ref (ad 0)), (1, .int a0), (2, .int a1), (3, .int a2), (4, .ref qo)]) hx hb dL_beat_23 hl (by decide) rfl (fun ls hl => ?_)
          refine lv_iconst (v := 3) hx hb dL_beat_25 (by decide) ?_
          exact hret _ _ _ _ _ rfl hP hD hS dL_beat_26
        replace h := ite_f hk2 h
        by_cases hk3 : k0 = 3
        · subst hk3
          cases h
          refine lwC (k := 3) (rest := [.int 0, .ref qo]) (As := [.int a0, .int a1, .int a2]) S (by decide) (cxX4_beat l hfl G (ad 0) (ad 1) (ad 11) (ad 12) (ad 13) (ad 14) (ad 15) (ad 16) (ad 17) (ad 18) (ad 19) (ad 20) (ad 21) (ad 22) (ad 23) (ad 24) (ad 25) (ad 26) (ad 2) (ad 5) (ad 10) c.gain (ad 11) (ad 19) (ad 27) c.s0.pr c.s0.a c.s0.b c.s0.c c.s0.d c.s0.sp c.s0.mi c.s0.ti c.s0.w c.s0.s c.s0.h c.s0.va c.s0.ov c.s0.ra c.s0.ol c.s0.od c.s0.ne c.s1.pr c.s1.a c.s1.b c.s1.c c.s1.d c.s1.sp c.s1.mi c.s1.ti c.s1.w c.s1.s c.s1.h c.s1.va c.s1.ov c.s1.ra c.s1.ol c.s1.od c.s1.ne a0 a1 a2 3 gx 0 (by decide) (by rw [hs_a0]; decide) rfl 1 (by decide) (by rw [hs_a1]; decide) rfl) (cwV 3 hts gL_beat_X4_beat rfl rfl rfl hvX4_beat ⟨Nat.le_of_ble_eq_true rfl, Nat.le_of_ble_eq_true rfl⟩) hK hT hP hD hS [0, 1, 11, 12, 13, 14, 15, 16, 17, 18, 19, 20, 21, 22, 23, 24, 25, 26] rfl 0 4 rfl rfl rfl rfl hl.1 rfl (Nat.le_of_ble_eq_true rfl) dL_beat_7 ⟨Nat.le_of_ble_eq_true rfl, Nat.le_of_ble_eq_true rfl⟩ [] { startPc := 0, endPc := 12, handlerPc := 15, catchType := 20 } [{ startPc := 0, endPc := 12, handlerPc := 19, catchType := 13 }, { startPc := 0, endPc := 12, handlerPc := 23, catchType := 15 }] (by rw [htab]; rfl) tp_nil rfl (by decide) (hts (.classLink RL 20 "java/lang/IndexOutOfBoundsException") lkL_beat_c20) rfl (fun H locs q hP hD hS => ?_)
          refine lv_astore (lv' := [(5, .ref q), (0, .ref (ad 0)), (1, .int a0), (2, .int a1), (3, .int a2), (4, .ref qo)]) hx hb dL_beat_15 hl (by decide) rfl (fun ls hl => ?_)
          refine lv_iconst (v := 1) hx hb dL_beat_17 (by decide) ?_
          exact hret _ _ _ _ _ rfl hP hD hS dL_beat_18
        cases (ite_f hk3 h)
      · obtain ⟨o0, o1, o2, o3, g, h⟩ := bnd4_e h
        cases h
        refine rwV_back (rest := [.int 0, .ref qo]) (As := [.int 0, .int 1, .int a2]) (wr := List.filterMap (fun i => (wdF G ad c ++ [(qo, .inl (G.2 3, 1, .inr (.inl f)))])[i]?) [2, 3, 4, 5, 6, 7, 8, 9, 35]) (wf := wdF G ad (mkC c.gain c.il c.ip c.ia c.ig c.is c.im c.ic c.iq c.dn c.dm c.dj c.dt c.dx c.dy c.dr c.dv c.dw c.dq o1 o2 o3 c.s0 c.s1 c.s2) ++ [(qo, .inl (G.2 3, 1, .inr (.inl f)))]) S (ctX4_beatv01 l G (ad 0) (ad 1) (ad 10) (ad 11) (ad 12) (ad 13) (ad 14) (ad 15) (ad 16) (ad 17) (ad 18) (ad 19) (ad 20) (ad 21) (ad 22) (ad 23) (ad 24) (ad 25) (ad 26) (ad 27) (ad 28) (ad 29) (ad 30) (ad 31) (ad 32) (ad 33) (ad 34) (ad 2) (ad 5) c.gain c.fw c.fs c.fh c.s0.pr c.s0.a c.s0.b c.s0.c c.s0.d c.s0.sp c.s0.mi c.s0.ti c.s0.w c.s0.s c.s0.h c.s0.va c.s0.ov c.s0.ra c.s0.ol c.s0.od c.s0.ne c.s1.pr c.s1.a c.s1.b c.s1.c c.s1.d c.s1.sp c.s1.mi c.s1.ti c.s1.w c.s1.s c.s1.h c.s1.va c.s1.ov c.s1.ra c.s1.ol c.s1.od c.s1.ne c.s2.pr c.s2.a c.s2.b c.s2.c c.s2.d c.s2.sp c.s2.mi c.s2.ti c.s2.w c.s2.s c.s2.h c.s2.va c.s2.ov c.s2.ra c.s2.ol c.s2.od c.s2.ne a2 o0 o1 o2 o3 g) (cwV 3 hts gL_beat_X4_beat rfl rfl rfl hvX4_beat ⟨Nat.le_of_ble_eq_true rfl, Nat.le_of_ble_eq_true rfl⟩) hK hP hD hS xb_triv (fun _ _ _ => trivial) [0, 1, 10, 11, 12, 13, 14, 15, 16, 17, 18, 19, 20, 21, 22, 23, 24, 25, 26, 27, 28, 29, 30, 31, 32, 33, 34] [2, 3, 4, 5, 6, 7, 8, 9, 35] [9, 10, 0, 1, 2, 3, 4, 5, 6, 7, 11, 12, 13, 14, 15, 16, 17, 18, 19, 20, 21, 22, 23, 24, 25, 26, 27, 28, 29, 30, 31, 32, 33, 34, 35, 8] rfl rfl rfl rfl rfl rfl rfl 0 4 rfl rfl rfl rfl hl.1 (by rw [hs_a0, hs_a1]; rfl) (Nat.le_of_ble_eq_true rfl) dL_beat_7 ⟨Nat.zero_le _, Nat.zero_le _⟩ (fun _ H locs hP hD hS => ?_)
        refine lv_i2l hx hb dL_beat_10 rfl ?_
        refine va_last hx hb hK.1 hP hD hS 35 3 rfl rfl (i := 0) (vp_in_iff.mpr ⟨by decide, by decide⟩) dL_beat_11 (fun H locs hP hD hS => ?_)
        refine lv_goto (tgt := 27) hx hb dL_beat_12 (by decide) ?_
        refine lv_iconst (v := 0) hx hb dL_beat_27 (by decide) ?_
        refine W.widen (k := 1) (n := 6) (by omega) (by omega) ?_
        exact hret _ _ _ _ _ rfl hP hD hS dL_beat_28
    replace h := ite_f hs_a1 h
    have hn_a11 := hs_a1
    clear hs_a1
    by_cases hs_a1 : a1 = 2
    · replace h := ite_t hs_a1 h
      rcases lq_e h with ⟨k0, gx, h⟩ | ⟨gx, h⟩
      · by_cases hk1 : k0 = 1
        · subst hk1
          cases h
          refine lwC (k := 1) (rest := [.int 0, .ref qo]) (As := [.int a0, .int a1, .int a2]) S (by decide) (cxX4_beat l hfl G (ad 0) (ad 1) (ad 11) (ad 12) (ad 13) (ad 14) (ad 15) (ad 16) (ad 17) (ad 18) (ad 27) (ad 28) (ad 29) (ad 30) (ad 31) (ad 32) (ad 33) (ad 34) (ad 2) (ad 5) (ad 10) c.gain (ad 11) (ad 19) (ad 27) c.s0.pr c.s0.a c.s0.b c.s0.c c.s0.d c.s0.sp c.s0.mi c.s0.ti c.s0.w c.s0.s c.s0.h c.s0.va c.s0.ov c.s0.ra c.s0.ol c.s0.od c.s0.ne c.s2.pr c.s2.a c.s2.b c.s2.c c.s2.d c.s2.sp c.s2.mi c.s2.ti c.s2.w c.s2.s c.s2.h c.s2.va c.s2.ov c.s2.ra c.s2.ol c.s2.od c.s2.ne a0 a1 a2 1 gx 0 (by decide) (by rw [hs_a0]; decide) rfl 2 (by decide) (by rw [hs_a1]; decide) rfl) (cwV 3 hts gL_beat_X4_beat rfl rfl rfl hvX4_beat ⟨Nat.le_of_ble_eq_true rfl, Nat.le_of_ble_eq_true rfl⟩) hK hT hP hD hS [0, 1, 11, 12, 13, 14, 15, 16, 17, 18, 27, 28, 29, 30, 31, 32, 33, 34] rfl 0 4 rfl rfl rfl rfl hl.1 rfl (Nat.le_of_ble_eq_true rfl) dL_beat_7 ⟨Nat.le_of_ble_eq_true rfl, Nat.le_of_ble_eq_true rfl⟩ [{ startPc := 0, endPc := 12, handlerPc := 15, catchType := 20 }] { startPc := 0, endPc := 12, handlerPc := 19, catchType := 13 } [{ startPc := 0, endPc := 12, handlerPc := 23, catchType := 15 }] (by rw [htab]; rfl) (tp_cons (nm := exn 3) (by decide) (hts (.classLink RL 20 "java/lang/IndexOutOfBoundsException") lkL_beat_c20) (hN 1 (by decide) 3 (by decide) (by decide)) tp_nil) rfl (by decide) (hts (.classLink RL 13 "java/lang/IllegalArgumentException") lkL_beat_c13) rfl (fun H locs q hP hD hS => ?_)
          refine lv_astore (lv' := [(5, .ref q), (0, .ref (ad 0)), (1, .int a0), (2, .int a1), (3, .int a2), (4, .ref qo)]) hx hb dL_beat_19 hl (by decide) rfl (fun ls hl => ?_)
          refine lv_iconst (v := 2) hx hb dL_beat_21 (by decide) ?_
          exact hret _ _ _ _ _ rfl hP hD hS dL_beat_22
        replace h := ite_f hk1 h
        by_cases hk2 : k0 = 2
        · subst hk2
          cases h
          refine lwC (k := 2) (rest := [.int 0, .ref qo]) (As := [.int a0, .int a1, .int a2]) S (by decide) (cxX4_beat l hfl G (ad 0) (ad 1) (ad 11) (ad 12) (ad 13) (ad 14) (ad 15) (ad 16) (ad 17) (ad 18) (ad 27) (ad 28) (ad 29) (ad 30) (ad 31) (ad 32) (ad 33) (ad 34) (ad 2) (ad 5) (ad 10) c.gain (ad 11) (ad 19) (ad 27) c.s0.pr c.s0.a c.s0.b c.s0.c c.s0.d c.s0.sp c.s0.mi c.s0.ti c.s0.w c.s0.s c.s0.h c.s0.va c.s0.ov c.s0.ra c.s0.ol c.s0.od c.s0.ne c.s2.pr c.s2.a c.s2.b c.s2.c c.s2.d c.s2.sp c.s2.mi c.s2.ti c.s2.w c.s2.s c.s2.h c.s2.va c.s2.ov c.s2.ra c.s2.ol c.s2.od c.s2.ne a0 a1 a2 2 gx 0 (by decide) (by rw [hs_a0]; decide) rfl 2 (by decide) (by rw [hs_a1]; decide) rfl) (cwV 3 hts gL_beat_X4_beat rfl rfl rfl hvX4_beat ⟨Nat.le_of_ble_eq_true rfl, Nat.le_of_ble_eq_true rfl⟩) hK hT hP hD hS [0, 1, 11, 12, 13, 14, 15, 16, 17, 18, 27, 28, 29, 30, 31, 32, 33, 34] rfl 0 4 rfl rfl rfl rfl hl.1 rfl (Nat.le_of_ble_eq_true rfl) dL_beat_7 ⟨Nat.le_of_ble_eq_true rfl, Nat.le_of_ble_eq_true rfl⟩ [{ startPc := 0, endPc := 12, handlerPc := 15, catchType := 20 }, { startPc := 0, endPc := 12, handlerPc := 19, catchType := 13 }] { startPc := 0, endPc := 12, handlerPc := 23, catchType := 15 } [] (by rw [htab]; rfl) (tp_cons (nm := exn 3) (by decide) (hts (.classLink RL 20 "java/lang/IndexOutOfBoundsException") lkL_beat_c20) (hN 2 (by decide) 3 (by decide) (by decide)) (tp_cons (nm := exn 1) (by decide) (hts (.classLink RL 13 "java/lang/IllegalArgumentException") lkL_beat_c13) (hN 2 (by decide) 1 (by decide) (by decide)) tp_nil)) rfl (by decide) (hts (.classLink RL 15 "java/lang/IllegalStateException") lkL_beat_c15) rfl (fun H locs q hP hD hS => ?_)
          refine lv_astore (lv' := [(5, .ref q), (0, .ref (ad 0)), (1, .int a0), (2, .int a1), (3, .int a2), (4, .ref qo)]) hx hb dL_beat_23 hl (by decide) rfl (fun ls hl => ?_)
          refine lv_iconst (v := 3) hx hb dL_beat_25 (by decide) ?_
          exact hret _ _ _ _ _ rfl hP hD hS dL_beat_26
        replace h := ite_f hk2 h
        by_cases hk3 : k0 = 3
        · subst hk3
          cases h
          refine lwC (k := 3) (rest := [.int 0, .ref qo]) (As := [.int a0, .int a1, .int a2]) S (by decide) (cxX4_beat l hfl G (ad 0) (ad 1) (ad 11) (ad 12) (ad 13) (ad 14) (ad 15) (ad 16) (ad 17) (ad 18) (ad 27) (ad 28) (ad 29) (ad 30) (ad 31) (ad 32) (ad 33) (ad 34) (ad 2) (ad 5) (ad 10) c.gain (ad 11) (ad 19) (ad 27) c.s0.pr c.s0.a c.s0.b c.s0.c c.s0.d c.s0.sp c.s0.mi c.s0.ti c.s0.w c.s0.s c.s0.h c.s0.va c.s0.ov c.s0.ra c.s0.ol c.s0.od c.s0.ne c.s2.pr c.s2.a c.s2.b c.s2.c c.s2.d c.s2.sp c.s2.mi c.s2.ti c.s2.w c.s2.s c.s2.h c.s2.va c.s2.ov c.s2.ra c.s2.ol c.s2.od c.s2.ne a0 a1 a2 3 gx 0 (by decide) (by rw [hs_a0]; decide) rfl 2 (by decide) (by rw [hs_a1]; decide) rfl) (cwV 3 hts gL_beat_X4_beat rfl rfl rfl hvX4_beat ⟨Nat.le_of_ble_eq_true rfl, Nat.le_of_ble_eq_true rfl⟩) hK hT hP hD hS [0, 1, 11, 12, 13, 14, 15, 16, 17, 18, 27, 28, 29, 30, 31, 32, 33, 34] rfl 0 4 rfl rfl rfl rfl hl.1 rfl (Nat.le_of_ble_eq_true rfl) dL_beat_7 ⟨Nat.le_of_ble_eq_true rfl, Nat.le_of_ble_eq_true rfl⟩ [] { startPc := 0, endPc := 12, handlerPc := 15, catchType := 20 } [{ startPc := 0, endPc := 12, handlerPc := 19, catchType := 13 }, { startPc := 0, endPc := 12, handlerPc := 23, catchType := 15 }] (by rw [htab]; rfl) tp_nil rfl (by decide) (hts (.classLink RL 20 "java/lang/IndexOutOfBoundsException") lkL_beat_c20) rfl (fun H locs q hP hD hS => ?_)
          refine lv_astore (lv' := [(5, .ref q), (0, .ref (ad 0)), (1, .int a0), (2, .int a1), (3, .int a2), (4, .ref qo)]) hx hb dL_beat_15 hl (by decide) rfl (fun ls hl => ?_)
          refine lv_iconst (v := 1) hx hb dL_beat_17 (by decide) ?_
          exact hret _ _ _ _ _ rfl hP hD hS dL_beat_18
        cases (ite_f hk3 h)
      · obtain ⟨o0, o1, o2, o3, g, h⟩ := bnd4_e h
        cases h
        refine rwV_back (rest := [.int 0, .ref qo]) (As := [.int 0, .int 2, .int a2]) (wr := List.filterMap (fun i => (wdF G ad c ++ [(qo, .inl (G.2 3, 1, .inr (.inl f)))])[i]?) [2, 3, 4, 5, 6, 7, 8, 9, 35]) (wf := wdF G ad (mkC c.gain c.il c.ip c.ia c.ig c.is c.im c.ic c.iq c.dn c.dm c.dj c.dt c.dx c.dy c.dr c.dv c.dw c.dq o1 o2 o3 c.s0 c.s1 c.s2) ++ [(qo, .inl (G.2 3, 1, .inr (.inl f)))]) S (ctX4_beatv02 l G (ad 0) (ad 1) (ad 10) (ad 11) (ad 12) (ad 13) (ad 14) (ad 15) (ad 16) (ad 17) (ad 18) (ad 19) (ad 20) (ad 21) (ad 22) (ad 23) (ad 24) (ad 25) (ad 26) (ad 27) (ad 28) (ad 29) (ad 30) (ad 31) (ad 32) (ad 33) (ad 34) (ad 2) (ad 5) c.gain c.fw c.fs c.fh c.s0.pr c.s0.a c.s0.b c.s0.c c.s0.d c.s0.sp c.s0.mi c.s0.ti c.s0.w c.s0.s c.s0.h c.s0.va c.s0.ov c.s0.ra c.s0.ol c.s0.od c.s0.ne c.s1.pr c.s1.a c.s1.b c.s1.c c.s1.d c.s1.sp c.s1.mi c.s1.ti c.s1.w c.s1.s c.s1.h c.s1.va c.s1.ov c.s1.ra c.s1.ol c.s1.od c.s1.ne c.s2.pr c.s2.a c.s2.b c.s2.c c.s2.d c.s2.sp c.s2.mi c.s2.ti c.s2.w c.s2.s c.s2.h c.s2.va c.s2.ov c.s2.ra c.s2.ol c.s2.od c.s2.ne a2 o0 o1 o2 o3 g) (cwV 3 hts gL_beat_X4_beat rfl rfl rfl hvX4_beat ⟨Nat.le_of_ble_eq_true rfl, Nat.le_of_ble_eq_true rfl⟩) hK hP hD hS xb_triv (fun _ _ _ => trivial) [0, 1, 10, 11, 12, 13, 14, 15, 16, 17, 18, 19, 20, 21, 22, 23, 24, 25, 26, 27, 28, 29, 30, 31, 32, 33, 34] [2, 3, 4, 5, 6, 7, 8, 9, 35] [9, 10, 0, 1, 2, 3, 4, 5, 6, 7, 11, 12, 13, 14, 15, 16, 17, 18, 19, 20, 21, 22, 23, 24, 25, 26, 27, 28, 29, 30, 31, 32, 33, 34, 35, 8] rfl rfl rfl rfl rfl rfl rfl 0 4 rfl rfl rfl rfl hl.1 (by rw [hs_a0, hs_a1]; rfl) (Nat.le_of_ble_eq_true rfl) dL_beat_7 ⟨Nat.zero_le _, Nat.zero_le _⟩ (fun _ H locs hP hD hS => ?_)
        refine lv_i2l hx hb dL_beat_10 rfl ?_
        refine va_last hx hb hK.1 hP hD hS 35 3 rfl rfl (i := 0) (vp_in_iff.mpr ⟨by decide, by decide⟩) dL_beat_11 (fun H locs hP hD hS => ?_)
        refine lv_goto (tgt := 27) hx hb dL_beat_12 (by decide) ?_
        refine lv_iconst (v := 0) hx hb dL_beat_27 (by decide) ?_
        refine W.widen (k := 1) (n := 6) (by omega) (by omega) ?_
        exact hret _ _ _ _ _ rfl hP hD hS dL_beat_28
    replace h := ite_f hs_a1 h
    have hn_a12 := hs_a1
    clear hs_a1
    have ho_a1 := slot_out hn_a10 hn_a11 hn_a12
    cases h
    refine lwC (k := 3) (rest := [.int 0, .ref qo]) (As := [.int a0, .int a1, .int a2]) S (by decide) (cxX4_beatp l hfl G (ad 0) (ad 1) (ad 2) (ad 5) (ad 10) c.gain (ad 11) (ad 19) (ad 27) (ad 11) a0 a1 a2 0 (by decide) (by rw [hs_a0]; decide) rfl ho_a1) (cwV 3 hts gL_beat_X4_beat rfl rfl rfl hvX4_beat ⟨Nat.le_of_ble_eq_true rfl, Nat.le_of_ble_eq_true rfl⟩) hK hT hP hD hS [0, 1] rfl 0 4 rfl rfl rfl rfl hl.1 rfl (Nat.le_of_ble_eq_true rfl) dL_beat_7 ⟨Nat.le_of_ble_eq_true rfl, Nat.le_of_ble_eq_true rfl⟩ [] { startPc := 0, endPc := 12, handlerPc := 15, catchType := 20 } [{ startPc := 0, endPc := 12, handlerPc := 19, catchType := 13 }, { startPc := 0, endPc := 12, handlerPc := 23, catchType := 15 }] (by rw [htab]; rfl) tp_nil rfl (by decide) (hts (.classLink RL 20 "java/lang/IndexOutOfBoundsException") lkL_beat_c20) rfl (fun H locs q hP hD hS => ?_)
    refine lv_astore (lv' := [(5, .ref q), (0, .ref (ad 0)), (1, .int a0), (2, .int a1), (3, .int a2), (4, .ref qo)]) hx hb dL_beat_15 hl (by decide) rfl (fun ls hl => ?_)
    refine lv_iconst (v := 1) hx hb dL_beat_17 (by decide) ?_
    exact hret _ _ _ _ _ rfl hP hD hS dL_beat_18
  replace h := ite_f hs_a0 h
  have hn_a00 := hs_a0
  clear hs_a0
  by_cases hs_a0 : a0 = 1
  · replace h := ite_t hs_a0 h
    by_cases hs_a1 : a1 = 0
    · replace h := ite_t hs_a1 h
      rcases lq_e h with ⟨k0, gx, h⟩ | ⟨gx, h⟩
      · by_cases hk1 : k0 = 1
        · subst hk1
          cases h
          refine lwC (k := 1) (rest := [.int 0, .ref qo]) (As := [.int a0, .int a1, .int a2]) S (by decide) (cxX4_beat l hfl G (ad 0) (ad 1) (ad 19) (ad 20) (ad 21) (ad 22) (ad 23) (ad 24) (ad 25) (ad 26) (ad 11) (ad 12) (ad 13) (ad 14) (ad 15) (ad 16) (ad 17) (ad 18) (ad 2) (ad 5) (ad 10) c.gain (ad 11) (ad 19) (ad 27) c.s1.pr c.s1.a c.s1.b c.s1.c c.s1.d c.s1.sp c.s1.mi c.s1.ti c.s1.w c.s1.s c.s1.h c.s1.va c.s1.ov c.s1.ra c.s1.ol c.s1.od c.s1.ne c.s0.pr c.s0.a c.s0.b c.s0.c c.s0.d c.s0.sp c.s0.mi c.s0.ti c.s0.w c.s0.s c.s0.h c.s0.va c.s0.ov c.s0.ra c.s0.ol c.s0.od c.s0.ne a0 a1 a2 1 gx 1 (by decide) (by rw [hs_a0]; decide) rfl 0 (by decide) (by rw [hs_a1]; decide) rfl) (cwV 3 hts gL_beat_X4_beat rfl rfl rfl hvX4_beat ⟨Nat.le_of_ble_eq_true rfl, Nat.le_of_ble_eq_true rfl⟩) hK hT hP hD hS [0, 1, 19, 20, 21, 22, 23, 24, 25, 26, 11, 12, 13, 14, 15, 16, 17, 18] rfl 0 4 rfl rfl rfl rfl hl.1 rfl (Nat.le_of_ble_eq_true rfl) dL_beat_7 ⟨Nat.le_of_ble_eq_true rfl, Nat.le_of_ble_eq_true rfl⟩ [{ startPc := 0, endPc := 12, handlerPc := 15, catchType := 20 }] { startPc := 0, endPc := 12, handlerPc := 19, catchType := 13 } [{ startPc := 0, endPc := 12, handlerPc := 23, catchType := 15 }] (by rw [htab]; rfl) (tp_cons (nm := exn 3) (by decide) (hts (.classLink RL 20 "java/lang/IndexOutOfBoundsException") lkL_beat_c20) (hN 1 (by decide) 3 (by decide) (by decide)) tp_nil) rfl (by decide) (hts (.classLink RL 13 "java/lang/IllegalArgumentException") lkL_beat_c13) rfl (fun H locs q hP hD hS => ?_)
          refine lv_astore (lv' := [(5, .ref q), (0, .ref (ad 0)), (1, .int a0), (2, .int a1), (3, .int a2), (4, .ref qo)]) hx hb dL_beat_19 hl (by decide) rfl (fun ls hl => ?_)
          refine lv_iconst (v := 2) hx hb dL_beat_21 (by decide) ?_
          exact hret _ _ _ _ _ rfl hP hD hS dL_beat_22
        replace h := ite_f hk1 h
        by_cases hk2 : k0 = 2
        · subst hk2
          cases h
          refine lwC (k := 2) (rest := [.int 0, .ref qo]) (As := [.int a0, .int a1, .int a2]) S (by decide) (cxX4_beat l hfl G (ad 0) (ad 1) (ad 19) (ad 20) (ad 21) (ad 22) (ad 23) (ad 24) (ad 25) (ad 26) (ad 11) (ad 12) (ad 13) (ad 14) (ad 15) (ad 16) (ad 17) (ad 18) (ad 2) (ad 5) (ad 10) c.gain (ad 11) (ad 19) (ad 27) c.s1.pr c.s1.a c.s1.b c.s1.c c.s1.d c.s1.sp c.s1.mi c.s1.ti c.s1.w c.s1.s c.s1.h c.s1.va c.s1.ov c.s1.ra c.s1.ol c.s1.od c.s1.ne c.s0.pr c.s0.a c.s0.b c.s0.c c.s0.d c.s0.sp c.s0.mi c.s0.ti c.s0.w c.s0.s c.s0.h c.s0.va c.s0.ov c.s0.ra c.s0.ol c.s0.od c.s0.ne a0 a1 a2 2 gx 1 (by decide) (by rw [hs_a0]; decide) rfl 0 (by decide) (by rw [hs_a1]; decide) rfl) (cwV 3 hts gL_beat_X4_beat rfl rfl rfl hvX4_beat ⟨Nat.le_of_ble_eq_true rfl, Nat.le_of_ble_eq_true rfl⟩) hK hT hP hD hS [0, 1, 19, 20, 21, 22, 23, 24, 25, 26, 11, 12, 13, 14, 15, 16, 17, 18] rfl 0 4 rfl rfl rfl rfl hl.1 rfl (Nat.le_of_ble_eq_true rfl) dL_beat_7 ⟨Nat.le_of_ble_eq_true rfl, Nat.le_of_ble_eq_true rfl⟩ [{ startPc := 0, endPc := 12, handlerPc := 15, catchType := 20 }, { startPc := 0, endPc := 12, handlerPc := 19, catchType := 13 }] { startPc := 0, endPc := 12, handlerPc := 23, catchType := 15 } [] (by rw [htab]; rfl) (tp_cons (nm := exn 3) (by decide) (hts (.classLink RL 20 "java/lang/IndexOutOfBoundsException") lkL_beat_c20) (hN 2 (by decide) 3 (by decide) (by decide)) (tp_cons (nm := exn 1) (by decide) (hts (.classLink RL 13 "java/lang/IllegalArgumentException") lkL_beat_c13) (hN 2 (by decide) 1 (by decide) (by decide)) tp_nil)) rfl (by decide) (hts (.classLink RL 15 "java/lang/IllegalStateException") lkL_beat_c15) rfl (fun H locs q hP hD hS => ?_)
          refine lv_astore (lv' := [(5, .ref q), (0, .ref (ad 0)), (1, .int a0), (2, .int a1), (3, .int a2), (4, .ref qo)]) hx hb dL_beat_23 hl (by decide) rfl (fun ls hl => ?_)
          refine lv_iconst (v := 3) hx hb dL_beat_25 (by decide) ?_
          exact hret _ _ _ _ _ rfl hP hD hS dL_beat_26
        replace h := ite_f hk2 h
        by_cases hk3 : k0 = 3
        · subst hk3
          cases h
          refine lwC (k := 3) (rest := [.int 0, .ref qo]) (As := [.int a0, .int a1, .int a2]) S (by decide) (cxX4_beat l hfl G (ad 0) (ad 1) (ad 19) (ad 20) (ad 21) (ad 22) (ad 23) (ad 24) (ad 25) (ad 26) (ad 11) (ad 12) (ad 13) (ad 14) (ad 15) (ad 16) (ad 17) (ad 18) (ad 2) (ad 5) (ad 10) c.gain (ad 11) (ad 19) (ad 27) c.s1.pr c.s1.a c.s1.b c.s1.c c.s1.d c.s1.sp c.s1.mi c.s1.ti c.s1.w c.s1.s c.s1.h c.s1.va c.s1.ov c.s1.ra c.s1.ol c.s1.od c.s1.ne c.s0.pr c.s0.a c.s0.b c.s0.c c.s0.d c.s0.sp c.s0.mi c.s0.ti c.s0.w c.s0.s c.s0.h c.s0.va c.s0.ov c.s0.ra c.s0.ol c.s0.od c.s0.ne a0 a1 a2 3 gx 1 (by decide) (by rw [hs_a0]; decide) rfl 0 (by decide) (by rw [hs_a1]; decide) rfl) (cwV 3 hts gL_beat_X4_beat rfl rfl rfl hvX4_beat ⟨Nat.le_of_ble_eq_true rfl, Nat.le_of_ble_eq_true rfl⟩) hK hT hP hD hS [0, 1, 19, 20, 21, 22, 23, 24, 25, 26, 11, 12, 13, 14, 15, 16, 17, 18] rfl 0 4 rfl rfl rfl rfl hl.1 rfl (Nat.le_of_ble_eq_true rfl) dL_beat_7 ⟨Nat.le_of_ble_eq_true rfl, Nat.le_of_ble_eq_true rfl⟩ [] { startPc := 0, endPc := 12, handlerPc := 15, catchType := 20 } [{ startPc := 0, endPc := 12, handlerPc := 19, catchType := 13 }, { startPc := 0, endPc := 12, handlerPc := 23, catchType := 15 }] (by rw [htab]; rfl) tp_nil rfl (by decide) (hts (.classLink RL 20 "java/lang/IndexOutOfBoundsException") lkL_beat_c20) rfl (fun H locs q hP hD hS => ?_)
          refine lv_astore (lv' := [(5, .ref q), (0, .ref (ad 0)), (1, .int a0), (2, .int a1), (3, .int a2), (4, .ref qo)]) hx hb dL_beat_15 hl (by decide) rfl (fun ls hl => ?_)
          refine lv_iconst (v := 1) hx hb dL_beat_17 (by decide) ?_
          exact hret _ _ _ _ _ rfl hP hD hS dL_beat_18
        cases (ite_f hk3 h)
      · obtain ⟨o0, o1, o2, o3, g, h⟩ := bnd4_e h
        cases h
        refine rwV_back (rest := [.int 0, .ref qo]) (As := [.int 1, .int 0, .int a2]) (wr := List.filterMap (fun i => (wdF G ad c ++ [(qo, .inl (G.2 3, 1, .inr (.inl f)))])[i]?) [2, 3, 4, 5, 6, 7, 8, 9, 35]) (wf := wdF G ad (mkC c.gain c.il c.ip c.ia c.ig c.is c.im c.ic c.iq c.dn c.dm c.dj c.dt c.dx c.dy c.dr c.dv c.dw c.dq o1 o2 o3 c.s0 c.s1 c.s2) ++ [(qo, .inl (G.2 3, 1, .inr (.inl f)))]) S (ctX4_beatv10 l G (ad 0) (ad 1) (ad 10) (ad 11) (ad 12) (ad 13) (ad 14) (ad 15) (ad 16) (ad 17) (ad 18) (ad 19) (ad 20) (ad 21) (ad 22) (ad 23) (ad 24) (ad 25) (ad 26) (ad 27) (ad 28) (ad 29) (ad 30) (ad 31) (ad 32) (ad 33) (ad 34) (ad 2) (ad 5) c.gain c.fw c.fs c.fh c.s0.pr c.s0.a c.s0.b c.s0.c c.s0.d c.s0.sp c.s0.mi c.s0.ti c.s0.w c.s0.s c.s0.h c.s0.va c.s0.ov c.s0.ra c.s0.ol c.s0.od c.s0.ne c.s1.pr c.s1.a c.s1.b c.s1.c c.s1.d c.s1.sp c.s1.mi c.s1.ti c.s1.w c.s1.s c.s1.h c.s1.va c.s1.ov c.s1.ra c.s1.ol c.s1.od c.s1.ne c.s2.pr c.s2.a c.s2.b c.s2.c c.s2.d c.s2.sp c.s2.mi c.s2.ti c.s2.w c.s2.s c.s2.h c.s2.va c.s2.ov c.s2.ra c.s2.ol c.s2.od c.s2.ne a2 o0 o1 o2 o3 g) (cwV 3 hts gL_beat_X4_beat rfl rfl rfl hvX4_beat ⟨Nat.le_of_ble_eq_true rfl, Nat.le_of_ble_eq_true rfl⟩) hK hP hD hS xb_triv (fun _ _ _ => trivial) [0, 1, 10, 11, 12, 13, 14, 15, 16, 17, 18, 19, 20, 21, 22, 23, 24, 25, 26, 27, 28, 29, 30, 31, 32, 33, 34] [2, 3, 4, 5, 6, 7, 8, 9, 35] [9, 10, 0, 1, 2, 3, 4, 5, 6, 7, 11, 12, 13, 14, 15, 16, 17, 18, 19, 20, 21, 22, 23, 24, 25, 26, 27, 28, 29, 30, 31, 32, 33, 34, 35, 8] rfl rfl rfl rfl rfl rfl rfl 0 4 rfl rfl rfl rfl hl.1 (by rw [hs_a0, hs_a1]; rfl) (Nat.le_of_ble_eq_true rfl) dL_beat_7 ⟨Nat.zero_le _, Nat.zero_le _⟩ (fun _ H locs hP hD hS => ?_)
        refine lv_i2l hx hb dL_beat_10 rfl ?_
        refine va_last hx hb hK.1 hP hD hS 35 3 rfl rfl (i := 0) (vp_in_iff.mpr ⟨by decide, by decide⟩) dL_beat_11 (fun H locs hP hD hS => ?_)
        refine lv_goto (tgt := 27) hx hb dL_beat_12 (by decide) ?_
        refine lv_iconst (v := 0) hx hb dL_beat_27 (by decide) ?_
        refine W.widen (k := 1) (n := 6) (by omega) (by omega) ?_
        exact hret _ _ _ _ _ rfl hP hD hS dL_beat_28
    replace h := ite_f hs_a1 h
    have hn_a10 := hs_a1
    clear hs_a1
    by_cases hs_a1 : a1 = 1
    · replace h := ite_t hs_a1 h
      rcases lq_e h with ⟨k0, gx, h⟩ | ⟨gx, h⟩
      · by_cases hk1 : k0 = 1
        · subst hk1
          cases h
          refine lwC (k := 1) (rest := [.int 0, .ref qo]) (As := [.int a0, .int a1, .int a2]) S (by decide) (cxX4_beat l hfl G (ad 0) (ad 1) (ad 19) (ad 20) (ad 21) (ad 22) (ad 23) (ad 24) (ad 25) (ad 26) (ad 19) (ad 20) (ad 21) (ad 22) (ad 23) (ad 24) (ad 25) (ad 26) (ad 2) (ad 5) (ad 10) c.gain (ad 11) (ad 19) (ad 27) c.s1.pr c.s1.a c.s1.b c.s1.c c.s1.d c.s1.sp c.s1.mi c.s1.ti c.s1.w c.s1.s c.s1.h c.s1.va c.s1.ov c.s1.ra c.s1.ol c.s1.od c.s1.ne c.s1.pr c.s1.a c.s1.b c.s1.c c.s1.d c.s1.sp c.s1.mi c.s1.ti c.s1.w c.s1.s c.s1.h c.s1.va c.s1.ov c.s1.ra c.s1.ol c.s1.od c.s1.ne a0 a1 a2 1 gx 1 (by decide) (by rw [hs_a0]; decide) rfl 1 (by decide) (by rw [hs_a1]; decide) rfl) (cwV 3 hts gL_beat_X4_beat rfl rfl rfl hvX4_beat ⟨Nat.le_of_ble_eq_true rfl, Nat.le_of_ble_eq_true rfl⟩) hK hT hP hD hS [0, 1, 19, 20, 21, 22, 23, 24, 25, 26, 19, 20, 21, 22, 23, 24, 25, 26] rfl 0 4 rfl rfl rfl rfl hl.1 rfl (Nat.le_of_ble_eq_true rfl) dL_beat_7 ⟨Nat.le_of_ble_eq_true rfl, Nat.le_of_ble_eq_true rfl⟩ [{ startPc := 0, endPc := 12, handlerPc := 15, catchType := 20 }] { startPc := 0, endPc := 12, handlerPc := 19, catchType := 13 } [{ startPc := 0, endPc := 12, handlerPc := 23, catchType := 15 }] (by rw [htab]; rfl) (tp_cons (nm := exn 3) (by decide) (hts (.classLink RL 20 "java/lang/IndexOutOfBoundsException") lkL_beat_c20) (hN 1 (by decide) 3 (by decide) (by decide)) tp_nil) rfl (by decide) (hts (.classLink RL 13 "java/lang/IllegalArgumentException") lkL_beat_c13) rfl (fun H locs q hP hD hS => ?_)
          refine lv_astore (lv' := [(5, .ref q), (0, .ref (ad 0)), (1, .int a0), (2, .int a1), (3, .int a2), (4, .ref qo)]) hx hb dL_beat_19 hl (by decide) rfl (fun ls hl => ?_)
          refine lv_iconst (v := 2) hx hb dL_beat_21 (by decide) ?_
          exact hret _ _ _ _ _ rfl hP hD hS dL_beat_22
        replace h := ite_f hk1 h
        by_cases hk2 : k0 = 2
        · subst hk2
          cases h
          refine lwC (k := 2) (rest := [.int 0, .ref qo]) (As := [.int a0, .int a1, .int a2]) S (by decide) (cxX4_beat l hfl G (ad 0) (ad 1) (ad 19) (ad 20) (ad 21) (ad 22) (ad 23) (ad 24) (ad 25) (ad 26) (ad 19) (ad 20) (ad 21) (ad 22) (ad 23) (ad 24) (ad 25) (ad 26) (ad 2) (ad 5) (ad 10) c.gain (ad 11) (ad 19) (ad 27) c.s1.pr c.s1.a c.s1.b c.s1.c c.s1.d c.s1.sp c.s1.mi c.s1.ti c.s1.w c.s1.s c.s1.h c.s1.va c.s1.ov c.s1.ra c.s1.ol c.s1.od c.s1.ne c.s1.pr c.s1.a c.s1.b c.s1.c c.s1.d c.s1.sp c.s1.mi c.s1.ti c.s1.w c.s1.s c.s1.h c.s1.va c.s1.ov c.s1.ra c.s1.ol c.s1.od c.s1.ne a0 a1 a2 2 gx 1 (by decide) (by rw [hs_a0]; decide) rfl 1 (by decide) (by rw [hs_a1]; decide) rfl) (cwV 3 hts gL_beat_X4_beat rfl rfl rfl hvX4_beat ⟨Nat.le_of_ble_eq_true rfl, Nat.le_of_ble_eq_true rfl⟩) hK hT hP hD hS [0, 1, 19, 20, 21, 22, 23, 24, 25, 26, 19, 20, 21, 22, 23, 24, 25, 26] rfl 0 4 rfl rfl rfl rfl hl.1 rfl (Nat.le_of_ble_eq_true rfl) dL_beat_7 ⟨Nat.le_of_ble_eq_true rfl, Nat.le_of_ble_eq_true rfl⟩ [{ startPc := 0, endPc := 12, handlerPc := 15, catchType := 20 }, { startPc := 0, endPc := 12, handlerPc := 19, catchType := 13 }] { startPc := 0, endPc := 12, handlerPc := 23, catchType := 15 } [] (by rw [htab]; rfl) (tp_cons (nm := exn 3) (by decide) (hts (.classLink RL 20 "java/lang/IndexOutOfBoundsException") lkL_beat_c20) (hN 2 (by decide) 3 (by decide) (by decide)) (tp_cons (nm := exn 1) (by decide) (hts (.classLink RL 13 "java/lang/IllegalArgumentException") lkL_beat_c13) (hN 2 (by decide) 1 (by decide) (by decide)) tp_nil)) rfl (by decide) (hts (.classLink RL 15 "java/lang/IllegalStateException") lkL_beat_c15) rfl (fun H locs q hP hD hS => ?_)
          refine lv_astore (lv' := [(5, .ref q), (0, .ref (ad 0)), (1, .int a0), (2, .int a1), (3, .int a2), (4, .ref qo)]) hx hb dL_beat_23 hl (by decide) rfl (fun ls hl => ?_)
          refine lv_iconst (v := 3) hx hb dL_beat_25 (by decide) ?_
          exact hret _ _ _ _ _ rfl hP hD hS dL_beat_26
        replace h := ite_f hk2 h
        by_cases hk3 : k0 = 3
        · subst hk3
          cases h
          refine lwC (k := 3) (rest := [.int 0, .ref qo]) (As := [.int a0, .int a1, .int a2]) S (by decide) (cxX4_beat l hfl G (ad 0) (ad 1) (ad 19) (ad 20) (ad 21) (ad 22) (ad 23) (ad 24) (ad 25) (ad 26) (ad 19) (ad 20) (ad 21) (ad 22) (ad 23) (ad 24) (ad 25) (ad 26) (ad 2) (ad 5) (ad 10) c.gain (ad 11) (ad 19) (ad 27) c.s1.pr c.s1.a c.s1.b c.s1.c c.s1.d c.s1.sp c.s1.mi c.s1.ti c.s1.w c.s1.s c.s1.h c.s1.va c.s1.ov c.s1.ra c.s1.ol c.s1.od c.s1.ne c.s1.pr c.s1.a c.s1.b c.s1.c c.s1.d c.s1.sp c.s1.mi c.s1.ti c.s1.w c.s1.s c.s1.h c.s1.va c.s1.ov c.s1.ra c.s1.ol c.s1.od c.s1.ne a0 a1 a2 3 gx 1 (by decide) (by rw [hs_a0]; decide) rfl 1 (by decide) (by rw [hs_a1]; decide) rfl) (cwV 3 hts gL_beat_X4_beat rfl rfl rfl hvX4_beat ⟨Nat.le_of_ble_eq_true rfl, Nat.le_of_ble_eq_true rfl⟩) hK hT hP hD hS [0, 1, 19, 20, 21, 22, 23, 24, 25, 26, 19, 20, 21, 22, 23, 24, 25, 26] rfl 0 4 rfl rfl rfl rfl hl.1 rfl (Nat.le_of_ble_eq_true rfl) dL_beat_7 ⟨Nat.le_of_ble_eq_true rfl, Nat.le_of_ble_eq_true rfl⟩ [] { startPc := 0, endPc := 12, handlerPc := 15, catchType := 20 } [{ startPc := 0, endPc := 12, handlerPc := 19, catchType := 13 }, { startPc := 0, endPc := 12, handlerPc := 23, catchType := 15 }] (by rw [htab]; rfl) tp_nil rfl (by decide) (hts (.classLink RL 20 "java/lang/IndexOutOfBoundsException") lkL_beat_c20) rfl (fun H locs q hP hD hS => ?_)
          refine lv_astore (lv' := [(5, .ref q), (0, .ref (ad 0)), (1, .int a0), (2, .int a1), (3, .int a2), (4, .ref qo)]) hx hb dL_beat_15 hl (by decide) rfl (fun ls hl => ?_)
          refine lv_iconst (v := 1) hx hb dL_beat_17 (by decide) ?_
          exact hret _ _ _ _ _ rfl hP hD hS dL_beat_18
        cases (ite_f hk3 h)
      · obtain ⟨o0, o1, o2, o3, g, h⟩ := bnd4_e h
        cases h
        refine rwV_back (rest := [.int 0, .ref qo]) (As := [.int 1, .int 1, .int a2]) (wr := List.filterMap (fun i => (wdF G ad c ++ [(qo, .inl (G.2 3, 1, .inr (.inl f)))])[i]?) [2, 3, 4, 5, 6, 7, 8, 9, 35]) (wf := wdF G ad (mkC c.gain c.il c.ip c.ia c.ig c.is c.im c.ic c.iq c.dn c.dm c.dj c.dt c.dx c.dy c.dr c.dv c.dw c.dq o1 o2 o3 c.s0 c.s1 c.s2) ++ [(qo, .inl (G.2 3, 1, .inr (.inl f)))]) S (ctX4_beatv11 l G (ad 0) (ad 1) (ad 10) (ad 11) (ad 12) (ad 13) (ad 14) (ad 15) (ad 16) (ad 17) (ad 18) (ad 19) (ad 20) (ad 21) (ad 22) (ad 23) (ad 24) (ad 25) (ad 26) (ad 27) (ad 28) (ad 29) (ad 30) (ad 31) (ad 32) (ad 33) (ad 34) (ad 2) (ad 5) c.gain c.fw c.fs c.fh c.s0.pr c.s0.a c.s0.b c.s0.c c.s0.d c.s0.sp c.s0.mi c.s0.ti c.s0.w c.s0.s c.s0.h c.s0.va c.s0.ov c.s0.ra c.s0.ol c.s0.od c.s0.ne c.s1.pr c.s1.a c.s1.b c.s1.c c.s1.d c.s1.sp c.s1.mi c.s1.ti c.s1.w c.s1.s c.s1.h c.s1.va c.s1.ov c.s1.ra c.s1.ol c.s1.od c.s1.ne c.s2.pr c.s2.a c.s2.b c.s2.c c.s2.d c.s2.sp c.s2.mi c.s2.ti c.s2.w c.s2.s c.s2.h c.s2.va c.s2.ov c.s2.ra c.s2.ol c.s2.od c.s2.ne a2 o0 o1 o2 o3 g) (cwV 3 hts gL_beat_X4_beat rfl rfl rfl hvX4_beat ⟨Nat.le_of_ble_eq_true rfl, Nat.le_of_ble_eq_true rfl⟩) hK hP hD hS xb_triv (fun _ _ _ => trivial) [0, 1, 10, 11, 12, 13, 14, 15, 16, 17, 18, 19, 20, 21, 22, 23, 24, 25, 26, 27, 28, 29, 30, 31, 32, 33, 34] [2, 3, 4, 5, 6, 7, 8, 9, 35] [9, 10, 0, 1, 2, 3, 4, 5, 6, 7, 11, 12, 13, 14, 15, 16, 17, 18, 19, 20, 21, 22, 23, 24, 25, 26, 27, 28, 29, 30, 31, 32, 33, 34, 35, 8] rfl rfl rfl rfl rfl rfl rfl 0 4 rfl rfl rfl rfl hl.1 (by rw [hs_a0, hs_a1]; rfl) (Nat.le_of_ble_eq_true rfl) dL_beat_7 ⟨Nat.zero_le _, Nat.zero_le _⟩ (fun _ H locs hP hD hS => ?_)
        refine lv_i2l hx hb dL_beat_10 rfl ?_
        refine va_last hx hb hK.1 hP hD hS 35 3 rfl rfl (i := 0) (vp_in_iff.mpr ⟨by decide, by decide⟩) dL_beat_11 (fun H locs hP hD hS => ?_)
        refine lv_goto (tgt := 27) hx hb dL_beat_12 (by decide) ?_
        refine lv_iconst (v := 0) hx hb dL_beat_27 (by decide) ?_
        refine W.widen (k := 1) (n := 6) (by omega) (by omega) ?_
        exact hret _ _ _ _ _ rfl hP hD hS dL_beat_28
    replace h := ite_f hs_a1 h
    have hn_a11 := hs_a1
    clear hs_a1
    by_cases hs_a1 : a1 = 2
    · replace h := ite_t hs_a1 h
      rcases lq_e h with ⟨k0, gx, h⟩ | ⟨gx, h⟩
      · by_cases hk1 : k0 = 1
        · subst hk1
          cases h
          refine lwC (k := 1) (rest := [.int 0, .ref qo]) (As := [.int a0, .int a1, .int a2]) S (by decide) (cxX4_beat l hfl G (ad 0) (ad 1) (ad 19) (ad 20) (ad 21) (ad 22) (ad 23) (ad 24) (ad 25) (ad 26) (ad 27) (ad 28) (ad 29) (ad 30) (ad 31) (ad 32) (ad 33) (ad 34) (ad 2) (ad 5) (ad 10) c.gain (ad 11) (ad 19) (ad 27) c.s1.pr c.s1.a c.s1.b c.s1.c c.s1.d c.s1.sp c.s1.mi c.s1.ti c.s1.w c.s1.s c.s1.h c.s1.va c.s1.ov c.s1.ra c.s1.ol c.s1.od c.s1.ne c.s2.pr c.s2.a c.s2.b c.s2.c c.s2.d c.s2.sp c.s2.mi c.s2.ti c.s2.w c.s2.s c.s2.h c.s2.va c.s2.ov c.s2.ra c.s2.ol c.s2.od c.s2.ne a0 a1 a2 1 gx 1 (by decide) (by rw [hs_a0]; decide) rfl 2 (by decide) (by rw [hs_a1]; decide) rfl) (cwV 3 hts gL_beat_X4_beat rfl rfl rfl hvX4_beat ⟨Nat.le_of_ble_eq_true rfl, Nat.le_of_ble_eq_true rfl⟩) hK hT hP hD hS [0, 1, 19, 20, 21, 22, 23, 24, 25, 26, 27, 28, 29, 30, 31, 32, 33, 34] rfl 0 4 rfl rfl rfl rfl hl.1 rfl (Nat.le_of_ble_eq_true rfl) dL_beat_7 ⟨Nat.le_of_ble_eq_true rfl, Nat.le_of_ble_eq_true rfl⟩ [{ startPc := 0, endPc := 12, handlerPc := 15, catchType := 20 }] { startPc := 0, endPc := 12, handlerPc := 19, catchType := 13 } [{ startPc := 0, endPc := 12, handlerPc := 23, catchType := 15 }] (by rw [htab]; rfl) (tp_cons (nm := exn 3) (by decide) (hts (.classLink RL 20 "java/lang/IndexOutOfBoundsException") lkL_beat_c20) (hN 1 (by decide) 3 (by decide) (by decide)) tp_nil) rfl (by decide) (hts (.classLink RL 13 "java/lang/IllegalArgumentException") lkL_beat_c13) rfl (fun H locs q hP hD hS => ?_)
          refine lv_astore (lv' := [(5, .ref q), (0, .ref (ad 0)), (1, .int a0), (2, .int a1), (3, .int a2), (4, .ref qo)]) hx hb dL_beat_19 hl (by decide) rfl (fun ls hl => ?_)
          refine lv_iconst (v := 2) hx hb dL_beat_21 (by decide) ?_
          exact hret _ _ _ _ _ rfl hP hD hS dL_beat_22
        replace h := ite_f hk1 h
        by_cases hk2 : k0 = 2
        · subst hk2
          cases h
          refine lwC (k := 2) (rest := [.int 0, .ref qo]) (As := [.int a0, .int a1, .int a2]) S (by decide) (cxX4_beat l hfl G (ad 0) (ad 1) (ad 19) (ad 20) (ad 21) (ad 22) (ad 23) (ad 24) (ad 25) (ad 26) (ad 27) (ad 28) (ad 29) (ad 30) (ad 31) (ad 32) (ad 33) (ad 34) (ad 2) (ad 5) (ad 10) c.gain (ad 11) (ad 19) (ad 27) c.s1.pr c.s1.a c.s1.b c.s1.c c.s1.d c.s1.sp c.s1.mi c.s1.ti c.s1.w c.s1.s c.s1.h c.s1.va c.s1.ov c.s1.ra c.s1.ol c.s1.od c.s1.ne c.s2.pr c.s2.a c.s2.b c.s2.c c.s2.d c.s2.sp c.s2.mi c.s2.ti c.s2.w c.s2.s c.s2.h c.s2.va c.s2.ov c.s2.ra c.s2.ol c.s2.od c.s2.ne a0 a1 a2 2 gx 1 (by decide) (by rw [hs_a0]; decide) rfl 2 (by decide) (by rw [hs_a1]; decide) rfl) (cwV 3 hts gL_beat_X4_beat rfl rfl rfl hvX4_beat ⟨Nat.le_of_ble_eq_true rfl, Nat.le_of_ble_eq_true rfl⟩) hK hT hP hD hS [0, 1, 19, 20, 21, 22, 23, 24, 25, 26, 27, 28, 29, 30, 31, 32, 33, 34] rfl 0 4 rfl rfl rfl rfl hl.1 rfl (Nat.le_of_ble_eq_true rfl) dL_beat_7 ⟨Nat.le_of_ble_eq_true rfl, Nat.le_of_ble_eq_true rfl⟩ [{ startPc := 0, endPc := 12, handlerPc := 15, catchType := 20 }, { startPc := 0, endPc := 12, handlerPc := 19, catchType := 13 }] { startPc := 0, endPc := 12, handlerPc := 23, catchType := 15 } [] (by rw [htab]; rfl) (tp_cons (nm := exn 3) (by decide) (hts (.classLink RL 20 "java/lang/IndexOutOfBoundsException") lkL_beat_c20) (hN 2 (by decide) 3 (by decide) (by decide)) (tp_cons (nm := exn 1) (by decide) (hts (.classLink RL 13 "java/lang/IllegalArgumentException") lkL_beat_c13) (hN 2 (by decide) 1 (by decide) (by decide)) tp_nil)) rfl (by decide) (hts (.classLink RL 15 "java/lang/IllegalStateException") lkL_beat_c15) rfl (fun H locs q hP hD hS => ?_)
          refine lv_astore (lv' := [(5, .ref q), (0, .ref (ad 0)), (1, .int a0), (2, .int a1), (3, .int a2), (4, .ref qo)]) hx hb dL_beat_23 hl (by decide) rfl (fun ls hl => ?_)
          refine lv_iconst (v := 3) hx hb dL_beat_25 (by decide) ?_
          exact hret _ _ _ _ _ rfl hP hD hS dL_beat_26
        replace h := ite_f hk2 h
        by_cases hk3 : k0 = 3
        · subst hk3
          cases h
          refine lwC (k := 3) (rest := [.int 0, .ref qo]) (As := [.int a0, .int a1, .int a2]) S (by decide) (cxX4_beat l hfl G (ad 0) (ad 1) (ad 19) (ad 20) (ad 21) (ad 22) (ad 23) (ad 24) (ad 25) (ad 26) (ad 27) (ad 28) (ad 29) (ad 30) (ad 31) (ad 32) (ad 33) (ad 34) (ad 2) (ad 5) (ad 10) c.gain (ad 11) (ad 19) (ad 27) c.s1.pr c.s1.a c.s1.b c.s1.c c.s1.d c.s1.sp c.s1.mi c.s1.ti c.s1.w c.s1.s c.s1.h c.s1.va c.s1.ov c.s1.ra c.s1.ol c.s1.od c.s1.ne c.s2.pr c.s2.a c.s2.b c.s2.c c.s2.d c.s2.sp c.s2.mi c.s2.ti c.s2.w c.s2.s c.s2.h c.s2.va c.s2.ov c.s2.ra c.s2.ol c.s2.od c.s2.ne a0 a1 a2 3 gx 1 (by decide) (by rw [hs_a0]; decide) rfl 2 (by decide) (by rw [hs_a1]; decide) rfl) (cwV 3 hts gL_beat_X4_beat rfl rfl rfl hvX4_beat ⟨Nat.le_of_ble_eq_true rfl, Nat.le_of_ble_eq_true rfl⟩) hK hT hP hD hS [0, 1, 19, 20, 21, 22, 23, 24, 25, 26, 27, 28, 29, 30, 31, 32, 33, 34] rfl 0 4 rfl rfl rfl rfl hl.1 rfl (Nat.le_of_ble_eq_true rfl) dL_beat_7 ⟨Nat.le_of_ble_eq_true rfl, Nat.le_of_ble_eq_true rfl⟩ [] { startPc := 0, endPc := 12, handlerPc := 15, catchType := 20 } [{ startPc := 0, endPc := 12, handlerPc := 19, catchType := 13 }, { startPc := 0, endPc := 12, handlerPc := 23, catchType := 15 }] (by rw [htab]; rfl) tp_nil rfl (by decide) (hts (.classLink RL 20 "java/lang/IndexOutOfBoundsException") lkL_beat_c20) rfl (fun H locs q hP hD hS => ?_)
          refine lv_astore (lv' := [(5, .ref q), (0, .ref (ad 0)), (1, .int a0), (2, .int a1), (3, .int a2), (4, .ref qo)]) hx hb dL_beat_15 hl (by decide) rfl (fun ls hl => ?_)
          refine lv_iconst (v := 1) hx hb dL_beat_17 (by decide) ?_
          exact hret _ _ _ _ _ rfl hP hD hS dL_beat_18
        cases (ite_f hk3 h)
      · obtain ⟨o0, o1, o2, o3, g, h⟩ := bnd4_e h
        cases h
        refine rwV_back (rest := [.int 0, .ref qo]) (As := [.int 1, .int 2, .int a2]) (wr := List.filterMap (fun i => (wdF G ad c ++ [(qo, .inl (G.2 3, 1, .inr (.inl f)))])[i]?) [2, 3, 4, 5, 6, 7, 8, 9, 35]) (wf := wdF G ad (mkC c.gain c.il c.ip c.ia c.ig c.is c.im c.ic c.iq c.dn c.dm c.dj c.dt c.dx c.dy c.dr c.dv c.dw c.dq o1 o2 o3 c.s0 c.s1 c.s2) ++ [(qo, .inl (G.2 3, 1, .inr (.inl f)))]) S (ctX4_beatv12 l G (ad 0) (ad 1) (ad 10) (ad 11) (ad 12) (ad 13) (ad 14) (ad 15) (ad 16) (ad 17) (ad 18) (ad 19) (ad 20) (ad 21) (ad 22) (ad 23) (ad 24) (ad 25) (ad 26) (ad 27) (ad 28) (ad 29) (ad 30) (ad 31) (ad 32) (ad 33) (ad 34) (ad 2) (ad 5) c.gain c.fw c.fs c.fh c.s0.pr c.s0.a c.s0.b c.s0.c c.s0.d c.s0.sp c.s0.mi c.s0.ti c.s0.w c.s0.s c.s0.h c.s0.va c.s0.ov c.s0.ra c.s0.ol c.s0.od c.s0.ne c.s1.pr c.s1.a c.s1.b c.s1.c c.s1.d c.s1.sp c.s1.mi c.s1.ti c.s1.w c.s1.s c.s1.h c.s1.va c.s1.ov c.s1.ra c.s1.ol c.s1.od c.s1.ne c.s2.pr c.s2.a c.s2.b c.s2.c c.s2.d c.s2.sp c.s2.mi c.s2.ti c.s2.w c.s2.s c.s2.h c.s2.va c.s2.ov c.s2.ra c.s2.ol c.s2.od c.s2.ne a2 o0 o1 o2 o3 g) (cwV 3 hts gL_beat_X4_beat rfl rfl rfl hvX4_beat ⟨Nat.le_of_ble_eq_true rfl, Nat.le_of_ble_eq_true rfl⟩) hK hP hD hS xb_triv (fun _ _ _ => trivial) [0, 1, 10, 11, 12, 13, 14, 15, 16, 17, 18, 19, 20, 21, 22, 23, 24, 25, 26, 27, 28, 29, 30, 31, 32, 33, 34] [2, 3, 4, 5, 6, 7, 8, 9, 35] [9, 10, 0, 1, 2, 3, 4, 5, 6, 7, 11, 12, 13, 14, 15, 16, 17, 18, 19, 20, 21, 22, 23, 24, 25, 26, 27, 28, 29, 30, 31, 32, 33, 34, 35, 8] rfl rfl rfl rfl rfl rfl rfl 0 4 rfl rfl rfl rfl hl.1 (by rw [hs_a0, hs_a1]; rfl) (Nat.le_of_ble_eq_true rfl) dL_beat_7 ⟨Nat.zero_le _, Nat.zero_le _⟩ (fun _ H locs hP hD hS => ?_)
        refine lv_i2l hx hb dL_beat_10 rfl ?_
        refine va_last hx hb hK.1 hP hD hS 35 3 rfl rfl (i := 0) (vp_in_iff.mpr ⟨by decide, by decide⟩) dL_beat_11 (fun H locs hP hD hS => ?_)
        refine lv_goto (tgt := 27) hx hb dL_beat_12 (by decide) ?_
        refine lv_iconst (v := 0) hx hb dL_beat_27 (by decide) ?_
        refine W.widen (k := 1) (n := 6) (by omega) (by omega) ?_
        exact hret _ _ _ _ _ rfl hP hD hS dL_beat_28
    replace h := ite_f hs_a1 h
    have hn_a12 := hs_a1
    clear hs_a1
    have ho_a1 := slot_out hn_a10 hn_a11 hn_a12
    cases h
    refine lwC (k := 3) (rest := [.int 0, .ref qo]) (As := [.int a0, .int a1, .int a2]) S (by decide) (cxX4_beatp l hfl G (ad 0) (ad 1) (ad 2) (ad 5) (ad 10) c.gain (ad 11) (ad 19) (ad 27) (ad 19) a0 a1 a2 1 (by decide) (by rw [hs_a0]; decide) rfl ho_a1) (cwV 3 hts gL_beat_X4_beat rfl rfl rfl hvX4_beat ⟨Nat.le_of_ble_eq_true rfl, Nat.le_of_ble_eq_true rfl⟩) hK hT hP hD hS [0, 1] rfl 0 4 rfl rfl rfl rfl hl.1 rfl (Nat.le_of_ble_eq_true rfl) dL_beat_7 ⟨Nat.le_of_ble_eq_true rfl, Nat.le_of_ble_eq_true rfl⟩ [] { startPc := 0, endPc := 12, handlerPc := 15, catchType := 20 } [{ startPc := 0, endPc := 12, handlerPc := 19, catchType := 13 }, { startPc := 0, endPc := 12, handlerPc := 23, catchType := 15 }] (by rw [htab]; rfl) tp_nil rfl (by decide) (hts (.classLink RL 20 "java/lang/IndexOutOfBoundsException") lkL_beat_c20) rfl (fun H locs q hP hD hS => ?_)
    refine lv_astore (lv' := [(5, .ref q), (0, .ref (ad 0)), (1, .int a0), (2, .int a1), (3, .int a2), (4, .ref qo)]) hx hb dL_beat_15 hl (by decide) rfl (fun ls hl => ?_)
    refine lv_iconst (v := 1) hx hb dL_beat_17 (by decide) ?_
    exact hret _ _ _ _ _ rfl hP hD hS dL_beat_18
  replace h := ite_f hs_a0 h
  have hn_a01 := hs_a0
  clear hs_a0
  by_cases hs_a0 : a0 = 2
  · replace h := ite_t hs_a0 h
    by_cases hs_a1 : a1 = 0
    · replace h := ite_t hs_a1 h
      rcases lq_e h with ⟨k0, gx, h⟩ | ⟨gx, h⟩
      · by_cases hk1 : k0 = 1
        · subst hk1
          cases h
          refine lwC (k := 1) (rest := [.int 0, .ref qo]) (As := [.int a0, .int a1, .int a2]) S (by decide) (cxX4_beat l hfl G (ad 0) (ad 1) (ad 27) (ad 28) (ad 29) (ad 30) (ad 31) (ad 32) (ad 33) (ad 34) (ad 11) (ad 12) (ad 13) (ad 14) (ad 15) (ad 16) (ad 17) (ad 18) (ad 2) (ad 5) (ad 10) c.gain (ad 11) (ad 19) (ad 27) c.s2.pr c.s2.a c.s2.b c.s2.c c.s2.d c.s2.sp c.s2.mi c.s2.ti c.s2.w c.s2.s c.s2.h c.s2.va c.s2.ov c.s2.ra c.s2.ol c.s2.od c.s2.ne c.s0.pr c.s0.a c.s0.b c.s0.c c.s0.d c.s0.sp c.s0.mi c.s0.ti c.s0.w c.s0.s c.s0.h c.s0.va c.s0.ov c.s0.ra c.s0.ol c.s0.od c.s0.ne a0 a1 a2 1 gx 2 (by decide) (by rw [hs_a0]; decide) rfl 0 (by decide) (by rw [hs_a1]; decide) rfl) (cwV 3 hts gL_beat_X4_beat rfl rfl rfl hvX4_beat ⟨Nat.le_of_ble_eq_true rfl, Nat.le_of_ble_eq_true rfl⟩) hK hT hP hD hS [0, 1, 27, 28, 29, 30, 31, 32, 33, 34, 11, 12, 13, 14, 15, 16, 17, 18] rfl 0 4 rfl rfl rfl rfl hl.1 rfl (Nat.le_of_ble_eq_true rfl) dL_beat_7 ⟨Nat.le_of_ble_eq_true rfl, Nat.le_of_ble_eq_true rfl⟩ [{ startPc := 0, endPc := 12, handlerPc := 15, catchType := 20 }] { startPc := 0, endPc := 12, handlerPc := 19, catchType := 13 } [{ startPc := 0, endPc := 12, handlerPc := 23, catchType := 15 }] (by rw [htab]; rfl) (tp_cons (nm := exn 3) (by decide) (hts (.classLink RL 20 "java/lang/IndexOutOfBoundsException") lkL_beat_c20) (hN 1 (by decide) 3 (by decide) (by decide)) tp_nil) rfl (by decide) (hts (.classLink RL 13 "java/lang/IllegalArgumentException") lkL_beat_c13) rfl (fun H locs q hP hD hS => ?_)
          refine lv_astore (lv' := [(5, .ref q), (0, .ref (ad 0)), (1, .int a0), (2, .int a1), (3, .int a2), (4, .ref qo)]) hx hb dL_beat_19 hl (by decide) rfl (fun ls hl => ?_)
          refine lv_iconst (v := 2) hx hb dL_beat_21 (by decide) ?_
          exact hret _ _ _ _ _ rfl hP hD hS dL_beat_22
        replace h := ite_f hk1 h
        by_cases hk2 : k0 = 2
        · subst hk2
          cases h
          refine lwC (k := 2) (rest := [.int 0, .ref qo]) (As := [.int a0, .int a1, .int a2]) S (by decide) (cxX4_beat l hfl G (ad 0) (ad 1) (ad 27) (ad 28) (ad 29) (ad 30) (ad 31) (ad 32) (ad 33) (ad 34) (ad 11) (ad 12) (ad 13) (ad 14) (ad 15) (ad 16) (ad 17) (ad 18) (ad 2) (ad 5) (ad 10) c.gain (ad 11) (ad 19) (ad 27) c.s2.pr c.s2.a c.s2.b c.s2.c c.s2.d c.s2.sp c.s2.mi c.s2.ti c.s2.w c.s2.s c.s2.h c.s2.va c.s2.ov c.s2.ra c.s2.ol c.s2.od c.s2.ne c.s0.pr c.s0.a c.s0.b c.s0.c c.s0.d c.s0.sp c.s0.mi c.s0.ti c.s0.w c.s0.s c.s0.h c.s0.va c.s0.ov c.s0.ra c.s0.ol c.s0.od c.s0.ne a0 a1 a2 2 gx 2 (by decide) (by rw [hs_a0]; decide) rfl 0 (by decide) (by rw [hs_a1]; decide) rfl) (cwV 3 hts gL_beat_X4_beat rfl rfl rfl hvX4_beat ⟨Nat.le_of_ble_eq_true rfl, Nat.le_of_ble_eq_true rfl⟩) hK hT hP hD hS [0, 1, 27, 28, 29, 30, 31, 32, 33, 34, 11, 12, 13, 14, 15, 16, 17, 18] rfl 0 4 rfl rfl rfl rfl hl.1 rfl (Nat.le_of_ble_eq_true rfl) dL_beat_7 ⟨Nat.le_of_ble_eq_true rfl, Nat.le_of_ble_eq_true rfl⟩ [{ startPc := 0, endPc := 12, handlerPc := 15, catchType := 20 }, { startPc := 0, endPc := 12, handlerPc := 19, catchType := 13 }] { startPc := 0, endPc := 12, handlerPc := 23, catchType := 15 } [] (by rw [htab]; rfl) (tp_cons (nm := exn 3) (by decide) (hts (.classLink RL 20 "java/lang/IndexOutOfBoundsException") lkL_beat_c20) (hN 2 (by decide) 3 (by decide) (by decide)) (tp_cons (nm := exn 1) (by decide) (hts (.classLink RL 13 "java/lang/IllegalArgumentException") lkL_beat_c13) (hN 2 (by decide) 1 (by decide) (by decide)) tp_nil)) rfl (by decide) (hts (.classLink RL 15 "java/lang/IllegalStateException") lkL_beat_c15) rfl (fun H locs q hP hD hS => ?_)
          refine lv_astore (lv' := [(5, .ref q), (0, .ref (ad 0)), (1, .int a0), (2, .int a1), (3, .int a2), (4, .ref qo)]) hx hb dL_beat_23 hl (by decide) rfl (fun ls hl => ?_)
          refine lv_iconst (v := 3) hx hb dL_beat_25 (by decide) ?_
          exact hret _ _ _ _ _ rfl hP hD hS dL_beat_26
        replace h := ite_f hk2 h
        by_cases hk3 : k0 = 3
        · subst hk3
          cases h
          refine lwC (k := 3) (rest := [.int 0, .ref qo]) (As := [.int a0, .int a1, .int a2]) S (by decide) (cxX4_beat l hfl G (ad 0) (ad 1) (ad 27) (ad 28) (ad 29) (ad 30) (ad 31) (ad 32) (ad 33) (ad 34) (ad 11) (ad 12) (ad 13) (ad 14) (ad 15) (ad 16) (ad 17) (ad 18) (ad 2) (ad 5) (ad 10) c.gain (ad 11) (ad 19) (ad 27) c.s2.pr c.s2.a c.s2.b c.s2.c c.s2.d c.s2.sp c.s2.mi c.s2.ti c.s2.w c.s2.s c.s2.h c.s2.va c.s2.ov c.s2.ra c.s2.ol c.s2.od c.s2.ne c.s0.pr c.s0.a c.s0.b c.s0.c c.s0.d c.s0.sp c.s0.mi c.s0.ti c.s0.w c.s0.s c.s0.h c.s0.va c.s0.ov c.s0.ra c.s0.ol c.s0.od c.s0.ne a0 a1 a2 3 gx 2 (by decide) (by rw [hs_a0]; decide) rfl 0 (by decide) (by rw [hs_a1]; decide) rfl) (cwV 3 hts gL_beat_X4_beat rfl rfl rfl hvX4_beat ⟨Nat.le_of_ble_eq_true rfl, Nat.le_of_ble_eq_true rfl⟩) hK hT hP hD hS [0, 1, 27, 28, 29, 30, 31, 32, 33, 34, 11, 12, 13, 14, 15, 16, 17, 18] rfl 0 4 rfl rfl rfl rfl hl.1 rfl (Nat.le_of_ble_eq_true rfl) dL_beat_7 ⟨Nat.le_of_ble_eq_true rfl, Nat.le_of_ble_eq_true rfl⟩ [] { startPc := 0, endPc := 12, handlerPc := 15, catchType := 20 } [{ startPc := 0, endPc := 12, handlerPc := 19, catchType := 13 }, { startPc := 0, endPc := 12, handlerPc := 23, catchType := 15 }] (by rw [htab]; rfl) tp_nil rfl (by decide) (hts (.classLink RL 20 "java/lang/IndexOutOfBoundsException") lkL_beat_c20) rfl (fun H locs q hP hD hS => ?_)
          refine lv_astore (lv' := [(5, .ref q), (0, .ref (ad 0)), (1, .int a0), (2, .int a1), (3, .int a2), (4, .ref qo)]) hx hb dL_beat_15 hl (by decide) rfl (fun ls hl => ?_)
          refine lv_iconst (v := 1) hx hb dL_beat_17 (by decide) ?_
          exact hret _ _ _ _ _ rfl hP hD hS dL_beat_18
        cases (ite_f hk3 h)
      · obtain ⟨o0, o1, o2, o3, g, h⟩ := bnd4_e h
        cases h
        refine rwV_back (rest := [.int 0, .ref qo]) (As := [.int 2, .int 0, .int a2]) (wr := List.filterMap (fun i => (wdF G ad c ++ [(qo, .inl (G.2 3, 1, .inr (.inl f)))])[i]?) [2, 3, 4, 5, 6, 7, 8, 9, 35]) (wf := wdF G ad (mkC c.gain c.il c.ip c.ia c.ig c.is c.im c.ic c.iq c.dn c.dm c.dj c.dt c.dx c.dy c.dr c.dv c.dw c.dq o1 o2 o3 c.s0 c.s1 c.s2) ++ [(qo, .inl (G.2 3, 1, .inr (.inl f)))]) S (ctX4_beatv20 l G (ad 0) (ad 1) (ad 10) (ad 11) (ad 12) (ad 13) (ad 14) (ad 15) (ad 16) (ad 17) (ad 18) (ad 19) (ad 20) (ad 21) (ad 22) (ad 23) (ad 24) (ad 25) (ad 26) (ad 27) (ad 28) (ad 29) (ad 30) (ad 31) (ad 32) (ad 33) (ad 34) (ad 2) (ad 5) c.gain c.fw c.fs c.fh c.s0.pr c.s0.a c.s0.b c.s0.c c.s0.d c.s0.sp c.s0.mi c.s0.ti c.s0.w c.s0.s c.s0.h c.s0.va c.s0.ov c.s0.ra c.s0.ol c.s0.od c.s0.ne c.s1.pr c.s1.a c.s1.b c.s1.c c.s1.d c.s1.sp c.s1.mi c.s1.ti c.s1.w c.s1.s c.s1.h c.s1.va c.s1.ov c.s1.ra c.s1.ol c.s1.od c.s1.ne c.s2.pr c.s2.a c.s2.b c.s2.c c.s2.d c.s2.sp c.s2.mi c.s2.ti c.s2.w c.s2.s c.s2.h c.s2.va c.s2.ov c.s2.ra c.s2.ol c.s2.od c.s2.ne a2 o0 o1 o2 o3 g) (cwV 3 hts gL_beat_X4_beat rfl rfl rfl hvX4_beat ⟨Nat.le_of_ble_eq_true rfl, Nat.le_of_ble_eq_true rfl⟩) hK hP hD hS xb_triv (fun _ _ _ => trivial) [0, 1, 10, 11, 12, 13, 14, 15, 16, 17, 18, 19, 20, 21, 22, 23, 24, 25, 26, 27, 28, 29, 30, 31, 32, 33, 34] [2, 3, 4, 5, 6, 7, 8, 9, 35] [9, 10, 0, 1, 2, 3, 4, 5, 6, 7, 11, 12, 13, 14, 15, 16, 17, 18, 19, 20, 21, 22, 23, 24, 25, 26, 27, 28, 29, 30, 31, 32, 33, 34, 35, 8] rfl rfl rfl rfl rfl rfl rfl 0 4 rfl rfl rfl rfl hl.1 (by rw [hs_a0, hs_a1]; rfl) (Nat.le_of_ble_eq_true rfl) dL_beat_7 ⟨Nat.zero_le _, Nat.zero_le _⟩ (fun _ H locs hP hD hS => ?_)
        refine lv_i2l hx hb dL_beat_10 rfl ?_
        refine va_last hx hb hK.1 hP hD hS 35 3 rfl rfl (i := 0) (vp_in_iff.mpr ⟨by decide, by decide⟩) dL_beat_11 (fun H locs hP hD hS => ?_)
        refine lv_goto (tgt := 27) hx hb dL_beat_12 (by decide) ?_
        refine lv_iconst (v := 0) hx hb dL_beat_27 (by decide) ?_
        refine W.widen (k := 1) (n := 6) (by omega) (by omega) ?_
        exact hret _ _ _ _ _ rfl hP hD hS dL_beat_28
    replace h := ite_f hs_a1 h
    have hn_a10 := hs_a1
    clear hs_a1
    by_cases hs_a1 : a1 = 1
    · replace h := ite_t hs_a1 h
      rcases lq_e h with ⟨k0, gx, h⟩ | ⟨gx, h⟩
      · by_cases hk1 : k0 = 1
        · subst hk1
          cases h
          refine lwC (k := 1) (rest := [.int 0, .ref qo]) (As := [.int a0, .int a1, .int a2]) S (by decide) (cxX4_beat l hfl G (ad 0) (ad 1) (ad 27) (ad 28) (ad 29) (ad 30) (ad 31) (ad 32) (ad 33) (ad 34) (ad 19) (ad 20) (ad 21) (ad 22) (ad 23) (ad 24) (ad 25) (ad 26) (ad 2) (ad 5) (ad 10) c.gain (ad 11) (ad 19) (ad 27) c.s2.pr c.s2.a c.s2.b c.s2.c c.s2.d c.s2.sp c.s2.mi c.s2.ti c.s2.w c.s2.s c.s2.h c.s2.va c.s2.ov c.s2.ra c.s2.ol c.s2.od c.s2.ne c.s1.pr c.s1.a c.s1.b c.s1.c c.s1.d c.s1.sp c.s1.mi c.s1.ti c.s1.w c.s1.s c.s1.h c.s1.va c.s1.ov c.s1.ra c.s1.ol c.s1.od c.s1.ne a0 a1 a2 1 gx 2 (by decide) (by rw [hs_a0]; decide) rfl 1 (by decide) (by rw [hs_a1]; decide) rfl) (cwV 3 hts gL_beat_X4_beat rfl rfl rfl hvX4_beat ⟨Nat.le_of_ble_eq_true rfl, Nat.le_of_ble_eq_true rfl⟩) hK hT hP hD hS [0, 1, 27, 28, 29, 30, 31, 32, 33, 34, 19, 20, 21, 22, 23, 24, 25, 26] rfl 0 4 rfl rfl rfl rfl hl.1 rfl (Nat.le_of_ble_eq_true rfl) dL_beat_7 ⟨Nat.le_of_ble_eq_true rfl, Nat.le_of_ble_eq_true rfl⟩ [{ startPc := 0, endPc := 12, handlerPc := 15, catchType := 20 }] { startPc := 0, endPc := 12, handlerPc := 19, catchType := 13 } [{ startPc := 0, endPc := 12, handlerPc := 23, catchType := 15 }] (by rw [htab]; rfl) (tp_cons (nm := exn 3) (by decide) (hts (.classLink RL 20 "java/lang/IndexOutOfBoundsException") lkL_beat_c20) (hN 1 (by decide) 3 (by decide) (by decide)) tp_nil) rfl (by decide) (hts (.classLink RL 13 "java/lang/IllegalArgumentException") lkL_beat_c13) rfl (fun H locs q hP hD hS => ?_)
          refine lv_astore (lv' := [(5, .ref q), (0, .ref (ad 0)), (1, .int a0), (2, .int a1), (3, .int a2), (4, .ref qo)]) hx hb dL_beat_19 hl (by decide) rfl (fun ls hl => ?_)
          refine lv_iconst (v := 2) hx hb dL_beat_21 (by decide) ?_
          exact hret _ _ _ _ _ rfl hP hD hS dL_beat_22
        replace h := ite_f hk1 h
        by_cases hk2 : k0 = 2
        · subst hk2
          cases h
          refine lwC (k := 2) (rest := [.int 0, .ref qo]) (As := [.int a0, .int a1, .int a2]) S (by decide) (cxX4_beat l hfl G (ad 0) (ad 1) (ad 27) (ad 28) (ad 29) (ad 30) (ad 31) (ad 32) (ad 33) (ad 34) (ad 19) (ad 20) (ad 21) (ad 22) (ad 23) (ad 24) (ad 25) (ad 26) (ad 2) (ad 5) (ad 10) c.gain (ad 11) (ad 19) (ad 27) c.s2.pr c.s2.a c.s2.b c.s2.c c.s2.d c.s2.sp c.s2.mi c.s2.ti c.s2.w c.s2.s c.s2.h c.s2.va c.s2.ov c.s2.ra c.s2.ol c.s2.od c.s2.ne c.s1.pr c.s1.a c.s1.b c.s1.c c.s1.d c.s1.sp c.s1.mi c.s1.ti c.s1.w c.s1.s c.s1.h c.s1.va c.s1.ov c.s1.ra c.s1.ol c.s1.od c.s1.ne a0 a1 a2 2 gx 2 (by decide) (by rw [hs_a0]; decide) rfl 1 (by decide) (by rw [hs_a1]; decide) rfl) (cwV 3 hts gL_beat_X4_beat rfl rfl rfl hvX4_beat ⟨Nat.le_of_ble_eq_true rfl, Nat.le_of_ble_eq_true rfl⟩) hK hT hP hD hS [0, 1, 27, 28, 29, 30, 31, 32, 33, 34, 19, 20, 21, 22, 23, 24, 25, 26] rfl 0 4 rfl rfl rfl rfl hl.1 rfl (Nat.le_of_ble_eq_true rfl) dL_beat_7 ⟨Nat.le_of_ble_eq_true rfl, Nat.le_of_ble_eq_true rfl⟩ [{ startPc := 0, endPc := 12, handlerPc := 15, catchType := 20 }, { startPc := 0, endPc := 12, handlerPc := 19, catchType := 13 }] { startPc := 0, endPc := 12, handlerPc := 23, catchType := 15 } [] (by rw [htab]; rfl) (tp_cons (nm := exn 3) (by decide) (hts (.classLink RL 20 "java/lang/IndexOutOfBoundsException") lkL_beat_c20) (hN 2 (by decide) 3 (by decide) (by decide)) (tp_cons (nm := exn 1) (by decide) (hts (.classLink RL 13 "java/lang/IllegalArgumentException") lkL_beat_c13) (hN 2 (by decide) 1 (by decide) (by decide)) tp_nil)) rfl (by decide) (hts (.classLink RL 15 "java/lang/IllegalStateException") lkL_beat_c15) rfl (fun H locs q hP hD hS => ?_)
          refine lv_astore (lv' := [(5, .ref q), (0, .ref (ad 0)), (1, .int a0), (2, .int a1), (3, .int a2), (4, .ref qo)]) hx hb dL_beat_23 hl (by decide) rfl (fun ls hl => ?_)
          refine lv_iconst (v := 3) hx hb dL_beat_25 (by decide) ?_
          exact hret _ _ _ _ _ rfl hP hD hS dL_beat_26
        replace h := ite_f hk2 h
        by_cases hk3 : k0 = 3
        · subst hk3
          cases h
          refine lwC (k := 3) (rest := [.int 0, .ref qo]) (As := [.int a0, .int a1, .int a2]) S (by decide) (cxX4_beat l hfl G (ad 0) (ad 1) (ad 27) (ad 28) (ad 29) (ad 30) (ad 31) (ad 32) (ad 33) (ad 34) (ad 19) (ad 20) (ad 21) (ad 22) (ad 23) (ad 24) (ad 25) (ad 26) (ad 2) (ad 5) (ad 10) c.gain (ad 11) (ad 19) (ad 27) c.s2.pr c.s2.a c.s2.b c.s2.c c.s2.d c.s2.sp c.s2.mi c.s2.ti c.s2.w c.s2.s c.s2.h c.s2.va c.s2.ov c.s2.ra c.s2.ol c.s2.od c.s2.ne c.s1.pr c.s1.a c.s1.b c.s1.c c.s1.d c.s1.sp c.s1.mi c.s1.ti c.s1.w c.s1.s c.s1.h c.s1.va c.s1.ov c.s1.ra c.s1.ol c.s1.od c.s1.ne a0 a1 a2 3 gx 2 (by decide) (by rw [hs_a0]; decide) rfl 1 (by decide) (by rw [hs_a1]; decide) rfl) (cwV 3 hts gL_beat_X4_beat rfl rfl rfl hvX4_beat ⟨Nat.le_of_ble_eq_true rfl, Nat.le_of_ble_eq_true rfl⟩) hK hT hP hD hS [0, 1, 27, 28, 29, 30, 31, 32, 33, 34, 19, 20, 21, 22, 23, 24, 25, 26] rfl 0 4 rfl rfl rfl rfl hl.1 rfl (Nat.le_of_ble_eq_true rfl) dL_beat_7 ⟨Nat.le_of_ble_eq_true rfl, Nat.le_of_ble_eq_true rfl⟩ [] { startPc := 0, endPc := 12, handlerPc := 15, catchType := 20 } [{ startPc := 0, endPc := 12, handlerPc := 19, catchType := 13 }, { startPc := 0, endPc := 12, handlerPc := 23, catchType := 15 }] (by rw [htab]; rfl) tp_nil rfl (by decide) (hts (.classLink RL 20 "java/lang/IndexOutOfBoundsException") lkL_beat_c20) rfl (fun H locs q hP hD hS => ?_)
          refine lv_astore (lv' := [(5, .ref q), (0, .ref (ad 0)), (1, .int a0), (2, .int a1), (3, .int a2), (4, .ref qo)]) hx hb dL_beat_15 hl (by decide) rfl (fun ls hl => ?_)
          refine lv_iconst (v := 1) hx hb dL_beat_17 (by decide) ?_
          exact hret _ _ _ _ _ rfl hP hD hS dL_beat_18
        cases (ite_f hk3 h)
      · obtain ⟨o0, o1, o2, o3, g, h⟩ := bnd4_e h
        cases h
        refine rwV_back (rest := [.int 0, .ref qo]) (As := [.int 2, .int 1, .int a2]) (wr := List.filterMap (fun i => (wdF G ad c ++ [(qo, .inl (G.2 3, 1, .inr (.inl f)))])[i]?) [2, 3, 4, 5, 6, 7, 8, 9, 35]) (wf := wdF G ad (mkC c.gain c.il c.ip c.ia c.ig c.is c.im c.ic c.iq c.dn c.dm c.dj c.dt c.dx c.dy c.dr c.dv c.dw c.dq o1 o2 o3 c.s0 c.s1 c.s2) ++ [(qo, .inl (G.2 3, 1, .inr (.inl f)))]) S (ctX4_beatv21 l G (ad 0) (ad 1) (ad 10) (ad 11) (ad 12) (ad 13) (ad 14) (ad 15) (ad 16) (ad 17) (ad 18) (ad 19) (ad 20) (ad 21) (ad 22) (ad 23) (ad 24) (ad 25) (ad 26) (ad 27) (ad 28) (ad 29) (ad 30) (ad 31) (ad 32) (ad 33) (ad 34) (ad 2) (ad 5) c.gain c.fw c.fs c.fh c.s0.pr c.s0.a c.s0.b c.s0.c c.s0.d c.s0.sp c.s0.mi c.s0.ti c.s0.w c.s0.s c.s0.h c.s0.va c.s0.ov c.s0.ra c.s0.ol c.s0.od c.s0.ne c.s1.pr c.s1.a c.s1.b c.s1.c c.s1.d c.s1.sp c.s1.mi c.s1.ti c.s1.w c.s1.s c.s1.h c.s1.va c.s1.ov c.s1.ra c.s1.ol c.s1.od c.s1.ne c.s2.pr c.s2.a c.s2.b c.s2.c c.s2.d c.s2.sp c.s2.mi c.s2.ti c.s2.w c.s2.s c.s2.h c.s2.va c.s2.ov c.s2.ra c.s2.ol c.s2.od c.s2.ne a2 o0 o1 o2 o3 g) (cwV 3 hts gL_beat_X4_beat rfl rfl rfl hvX4_beat ⟨Nat.le_of_ble_eq_true rfl, Nat.le_of_ble_eq_true rfl⟩) hK hP hD hS xb_triv (fun _ _ _ => trivial) [0, 1, 10, 11, 12, 13, 14, 15, 16, 17, 18, 19, 20, 21, 22, 23, 24, 25, 26, 27, 28, 29, 30, 31, 32, 33, 34] [2, 3, 4, 5, 6, 7, 8, 9, 35] [9, 10, 0, 1, 2, 3, 4, 5, 6, 7, 11, 12, 13, 14, 15, 16, 17, 18, 19, 20, 21, 22, 23, 24, 25, 26, 27, 28, 29, 30, 31, 32, 33, 34, 35, 8] rfl rfl rfl rfl rfl rfl rfl 0 4 rfl rfl rfl rfl hl.1 (by rw [hs_a0, hs_a1]; rfl) (Nat.le_of_ble_eq_true rfl) dL_beat_7 ⟨Nat.zero_le _, Nat.zero_le _⟩ (fun _ H locs hP hD hS => ?_)
        refine lv_i2l hx hb dL_beat_10 rfl ?_
        refine va_last hx hb hK.1 hP hD hS 35 3 rfl rfl (i := 0) (vp_in_iff.mpr ⟨by decide, by decide⟩) dL_beat_11 (fun H locs hP hD hS => ?_)
        refine lv_goto (tgt := 27) hx hb dL_beat_12 (by decide) ?_
        refine lv_iconst (v := 0) hx hb dL_beat_27 (by decide) ?_
        refine W.widen (k := 1) (n := 6) (by omega) (by omega) ?_
        exact hret _ _ _ _ _ rfl hP hD hS dL_beat_28
    replace h := ite_f hs_a1 h
    have hn_a11 := hs_a1
    clear hs_a1
    by_cases hs_a1 : a1 = 2
    · replace h := ite_t hs_a1 h
      rcases lq_e h with ⟨k0, gx, h⟩ | ⟨gx, h⟩
      · by_cases hk1 : k0 = 1
        · subst hk1
          cases h
          refine lwC (k := 1) (rest := [.int 0, .ref qo]) (As := [.int a0, .int a1, .int a2]) S (by decide) (cxX4_beat l hfl G (ad 0) (ad 1) (ad 27) (ad 28) (ad 29) (ad 30) (ad 31) (ad 32) (ad 33) (ad 34) (ad 27) (ad 28) (ad 29) (ad 30) (ad 31) (ad 32) (ad 33) (ad 34) (ad 2) (ad 5) (ad 10) c.gain (ad 11) (ad 19) (ad 27) c.s2.pr c.s2.a c.s2.b c.s2.c c.s2.d c.s2.sp c.s2.mi c.s2.ti c.s2.w c.s2.s c.s2.h c.s2.va c.s2.ov c.s2.ra c.s2.ol c.s2.od c.s2.ne c.s2.pr c.s2.a c.s2.b c.s2.c c.s2.d c.s2.sp c.s2.mi c.s2.ti c.s2.w c.s2.s c.s2.h c.s2.va c.s2.ov c.s2.ra c.s2.ol c.s2.od c.s2.ne a0 a1 a2 1 gx 2 (by decide) (by rw [hs_a0]; decide) rfl 2 (by decide) (by rw [hs_a1]; decide) rfl) (cwV 3 hts gL_beat_X4_beat rfl rfl rfl hvX4_beat ⟨Nat.le_of_ble_eq_true rfl, Nat.le_of_ble_eq_true rfl⟩) hK hT hP hD hS [0, 1, 27, 28, 29, 30, 31, 32, 33, 34, 27, 28, 29, 30, 31, 32, 33, 34] rfl 0 4 rfl rfl rfl rfl hl.1 rfl (Nat.le_of_ble_eq_true rfl) dL_beat_7 ⟨Nat.le_of_ble_eq_true rfl, Nat.le_of_ble_eq_true rfl⟩ [{ startPc := 0, endPc := 12, handlerPc := 15, catchType := 20 }] { startPc := 0, endPc := 12, handlerPc := 19, catchType := 13 } [{ startPc := 0, endPc := 12, handlerPc := 23, catchType := 15 }] (by rw [htab]; rfl) (tp_cons (nm := exn 3) (by decide) (hts (.classLink RL 20 "java/lang/IndexOutOfBoundsException") lkL_beat_c20) (hN 1 (by decide) 3 (by decide) (by decide)) tp_nil) rfl (by decide) (hts (.classLink RL 13 "java/lang/IllegalArgumentException") lkL_beat_c13) rfl (fun H locs q hP hD hS => ?_)
          refine lv_astore (lv' := [(5, .ref q), (0, .ref (ad 0)), (1, .int a0), (2, .int a1), (3, .int a2), (4, .ref qo)]) hx hb dL_beat_19 hl (by decide) rfl (fun ls hl => ?_)
          refine lv_iconst (v := 2) hx hb dL_beat_21 (by decide) ?_
          exact hret _ _ _ _ _ rfl hP hD hS dL_beat_22
        replace h := ite_f hk1 h
        by_cases hk2 : k0 = 2
        · subst hk2
          cases h
          refine lwC (k := 2) (rest := [.int 0, .ref qo]) (As := [.int a0, .int a1, .int a2]) S (by decide) (cxX4_beat l hfl G (ad 0) (ad 1) (ad 27) (ad 28) (ad 29) (ad 30) (ad 31) (ad 32) (ad 33) (ad 34) (ad 27) (ad 28) (ad 29) (ad 30) (ad 31) (ad 32) (ad 33) (ad 34) (ad 2) (ad 5) (ad 10) c.gain (ad 11) (ad 19) (ad 27) c.s2.pr c.s2.a c.s2.b c.s2.c c.s2.d c.s2.sp c.s2.mi c.s2.ti c.s2.w c.s2.s c.s2.h c.s2.va c.s2.ov c.s2.ra c.s2.ol c.s2.od c.s2.ne c.s2.pr c.s2.a c.s2.b c.s2.c c.s2.d c.s2.sp c.s2.mi c.s2.ti c.s2.w c.s2.s c.s2.h c.s2.va c.s2.ov c.s2.ra c.s2.ol c.s2.od c.s2.ne a0 a1 a2 2 gx 2 (by decide) (by rw [hs_a0]; decide) rfl 2 (by decide) (by rw [hs_a1]; decide) rfl) (cwV 3 hts gL_beat_X4_beat rfl rfl rfl hvX4_beat ⟨Nat.le_of_ble_eq_true rfl, Nat.le_of_ble_eq_true rfl⟩) hK hT hP hD hS [0, 1, 27, 28, 29, 30, 31, 32, 33, 34, 27, 28, 29, 30, 31, 32, 33, 34] rfl 0 4 rfl rfl rfl rfl hl.1 rfl (Nat.le_of_ble_eq_true rfl) dL_beat_7 ⟨Nat.le_of_ble_eq_true rfl, Nat.le_of_ble_eq_true rfl⟩ [{ startPc := 0, endPc := 12, handlerPc := 15, catchType := 20 }, { startPc := 0, endPc := 12, handlerPc := 19, catchType := 13 }] { startPc := 0, endPc := 12, handlerPc := 23, catchType := 15 } [] (by rw [htab]; rfl) (tp_cons (nm := exn 3) (by decide) (hts (.classLink RL 20 "java/lang/IndexOutOfBoundsException") lkL_beat_c20) (hN 2 (by decide) 3 (by decide) (by decide)) (tp_cons (nm := exn 1) (by decide) (hts (.classLink RL 13 "java/lang/IllegalArgumentException") lkL_beat_c13) (hN 2 (by decide) 1 (by decide) (by decide)) tp_nil)) rfl (by decide) (hts (.classLink RL 15 "java/lang/IllegalStateException") lkL_beat_c15) rfl (fun H locs q hP hD hS => ?_)
          refine lv_astore (lv' := [(5, .ref q), (0, .ref (ad 0)), (1, .int a0), (2, .int a1), (3, .int a2), (4, .ref qo)]) hx hb dL_beat_23 hl (by decide) rfl (fun ls hl => ?_)
          refine lv_iconst (v := 3) hx hb dL_beat_25 (by decide) ?_
          exact hret _ _ _ _ _ rfl hP hD hS dL_beat_26
        replace h := ite_f hk2 h
        by_cases hk3 : k0 = 3
        · subst hk3
          cases h
          refine lwC (k := 3) (rest := [.int 0, .ref qo]) (As := [.int a0, .int a1, .int a2]) S (by decide) (cxX4_beat l hfl G (ad 0) (ad 1) (ad 27) (ad 28) (ad 29) (ad 30) (ad 31) (ad 32) (ad 33) (ad 34) (ad 27) (ad 28) (ad 29) (ad 30) (ad 31) (ad 32) (ad 33) (ad 34) (ad 2) (ad 5) (ad 10) c.gain (ad 11) (ad 19) (ad 27) c.s2.pr c.s2.a c.s2.b c.s2.c c.s2.d c.s2.sp c.s2.mi c.s2.ti c.s2.w c.s2.s c.s2.h c.s2.va c.s2.ov c.s2.ra c.s2.ol c.s2.od c.s2.ne c.s2.pr c.s2.a c.s2.b c.s2.c c.s2.d c.s2.sp c.s2.mi c.s2.ti c.s2.w c.s2.s c.s2.h c.s2.va c.s2.ov c.s2.ra c.s2.ol c.s2.od c.s2.ne a0 a1 a2 3 gx 2 (by decide) (by rw [hs_a0]; decide) rfl 2 (by decide) (by rw [hs_a1]; decide) rfl) (cwV 3 hts gL_beat_X4_beat rfl rfl rfl hvX4_beat ⟨Nat.le_of_ble_eq_true rfl, Nat.le_of_ble_eq_true rfl⟩) hK hT hP hD hS [0, 1, 27, 28, 29, 30, 31, 32, 33, 34, 27, 28, 29, 30, 31, 32, 33, 34] rfl 0 4 rfl rfl rfl rfl hl.1 rfl (Nat.le_of_ble_eq_true rfl) dL_beat_7 ⟨Nat.le_of_ble_eq_true rfl, Nat.le_of_ble_eq_true rfl⟩ [] { startPc := 0, endPc := 12, handlerPc := 15, catchType := 20 } [{ startPc := 0, endPc := 12, handlerPc := 19, catchType := 13 }, { startPc := 0, endPc := 12, handlerPc := 23, catchType := 15 }] (by rw [htab]; rfl) tp_nil rfl (by decide) (hts (.classLink RL 20 "java/lang/IndexOutOfBoundsException") lkL_beat_c20) rfl (fun H locs q hP hD hS => ?_)
          refine lv_astore (lv' := [(5, .ref q), (0, .ref (ad 0)), (1, .int a0), (2, .int a1), (3, .int a2), (4, .ref qo)]) hx hb dL_beat_15 hl (by decide) rfl (fun ls hl => ?_)
          refine lv_iconst (v := 1) hx hb dL_beat_17 (by decide) ?_
          exact hret _ _ _ _ _ rfl hP hD hS dL_beat_18
        cases (ite_f hk3 h)
      · obtain ⟨o0, o1, o2, o3, g, h⟩ := bnd4_e h
        cases h
        refine rwV_back (rest := [.int 0, .ref qo]) (As := [.int 2, .int 2, .int a2]) (wr := List.filterMap (fun i => (wdF G ad c ++ [(qo, .inl (G.2 3, 1, .inr (.inl f)))])[i]?) [2, 3, 4, 5, 6, 7, 8, 9, 35]) (wf := wdF G ad (mkC c.gain c.il c.ip c.ia c.ig c.is c.im c.ic c.iq c.dn c.dm c.dj c.dt c.dx c.dy c.dr c.dv c.dw c.dq o1 o2 o3 c.s0 c.s1 c.s2) ++ [(qo, .inl (G.2 3, 1, .inr (.inl f)))]) S (ctX4_beatv22 l G (ad 0) (ad 1) (ad 10) (ad 11) (ad 12) (ad 13) (ad 14) (ad 15) (ad 16) (ad 17) (ad 18) (ad 19) (ad 20) (ad 21) (ad 22) (ad 23) (ad 24) (ad 25) (ad 26) (ad 27) (ad 28) (ad 29) (ad 30) (ad 31) (ad 32) (ad 33) (ad 34) (ad 2) (ad 5) c.gain c.fw c.fs c.fh c.s0.pr c.s0.a c.s0.b c.s0.c c.s0.d c.s0.sp c.s0.mi c.s0.ti c.s0.w c.s0.s c.s0.h c.s0.va c.s0.ov c.s0.ra c.s0.ol c.s0.od c.s0.ne c.s1.pr c.s1.a c.s1.b c.s1.c c.s1.d c.s1.sp c.s1.mi c.s1.ti c.s1.w c.s1.s c.s1.h c.s1.va c.s1.ov c.s1.ra c.s1.ol c.s1.od c.s1.ne c.s2.pr c.s2.a c.s2.b c.s2.c c.s2.d c.s2.sp c.s2.mi c.s2.ti c.s2.w c.s2.s c.s2.h c.s2.va c.s2.ov c.s2.ra c.s2.ol c.s2.od c.s2.ne a2 o0 o1 o2 o3 g) (cwV 3 hts gL_beat_X4_beat rfl rfl rfl hvX4_beat ⟨Nat.le_of_ble_eq_true rfl, Nat.le_of_ble_eq_true rfl⟩) hK hP hD hS xb_triv (fun _ _ _ => trivial) [0, 1, 10, 11, 12, 13, 14, 15, 16, 17, 18, 19, 20, 21, 22, 23, 24, 25, 26, 27, 28, 29, 30, 31, 32, 33, 34] [2, 3, 4, 5, 6, 7, 8, 9, 35] [9, 10, 0, 1, 2, 3, 4, 5, 6, 7, 11, 12, 13, 14, 15, 16, 17, 18, 19, 20, 21, 22, 23, 24, 25, 26, 27, 28, 29, 30, 31, 32, 33, 34, 35, 8] rfl rfl rfl rfl rfl rfl rfl 0 4 rfl rfl rfl rfl hl.1 (by rw [hs_a0, hs_a1]; rfl) (Nat.le_of_ble_eq_true rfl) dL_beat_7 ⟨Nat.zero_le _, Nat.zero_le _⟩ (fun _ H locs hP hD hS => ?_)
        refine lv_i2l hx hb dL_beat_10 rfl ?_
        refine va_last hx hb hK.1 hP hD hS 35 3 rfl rfl (i := 0) (vp_in_iff.mpr ⟨by decide, by decide⟩) dL_beat_11 (fun H locs hP hD hS => ?_)
        refine lv_goto (tgt := 27) hx hb dL_beat_12 (by decide) ?_
        refine lv_iconst (v := 0) hx hb dL_beat_27 (by decide) ?_
        refine W.widen (k := 1) (n := 6) (by omega) (by omega) ?_
        exact hret _ _ _ _ _ rfl hP hD hS dL_beat_28
    replace h := ite_f hs_a1 h
    have hn_a12 := hs_a1
    clear hs_a1
    have ho_a1 := slot_out hn_a10 hn_a11 hn_a12
    cases h
    refine lwC (k := 3) (rest := [.int 0, .ref qo]) (As := [.int a0, .int a1, .int a2]) S (by decide) (cxX4_beatp l hfl G (ad 0) (ad 1) (ad 2) (ad 5) (ad 10) c.gain (ad 11) (ad 19) (ad 27) (ad 27) a0 a1 a2 2 (by decide) (by rw [hs_a0]; decide) rfl ho_a1) (cwV 3 hts gL_beat_X4_beat rfl rfl rfl hvX4_beat ⟨Nat.le_of_ble_eq_true rfl, Nat.le_of_ble_eq_true rfl⟩) hK hT hP hD hS [0, 1] rfl 0 4 rfl rfl rfl rfl hl.1 rfl (Nat.le_of_ble_eq_true rfl) dL_beat_7 ⟨Nat.le_of_ble_eq_true rfl, Nat.le_of_ble_eq_true rfl⟩ [] { startPc := 0, endPc := 12, handlerPc := 15, catchType := 20 } [{ startPc := 0, endPc := 12, handlerPc := 19, catchType := 13 }, { startPc := 0, endPc := 12, handlerPc := 23, catchType := 15 }] (by rw [htab]; rfl) tp_nil rfl (by decide) (hts (.classLink RL 20 "java/lang/IndexOutOfBoundsException") lkL_beat_c20) rfl (fun H locs q hP hD hS => ?_)
    refine lv_astore (lv' := [(5, .ref q), (0, .ref (ad 0)), (1, .int a0), (2, .int a1), (3, .int a2), (4, .ref qo)]) hx hb dL_beat_15 hl (by decide) rfl (fun ls hl => ?_)
    refine lv_iconst (v := 1) hx hb dL_beat_17 (by decide) ?_
    exact hret _ _ _ _ _ rfl hP hD hS dL_beat_18
  replace h := ite_f hs_a0 h
  have hn_a02 := hs_a0
  clear hs_a0
  have ho_a0 := slot_out hn_a00 hn_a01 hn_a02
  cases h
  refine lwC (k := 3) (rest := [.int 0, .ref qo]) (As := [.int a0, .int a1, .int a2]) S (by decide) (cxX4_beato l hfl G (ad 0) (ad 1) (ad 2) (ad 5) (ad 10) c.gain (ad 11) (ad 19) (ad 27) a0 a1 a2 ho_a0) (cwV 3 hts gL_beat_X4_beat rfl rfl rfl hvX4_beat ⟨Nat.le_of_ble_eq_true rfl, Nat.le_of_ble_eq_true rfl⟩) hK hT hP hD hS [0, 1] rfl 0 4 rfl rfl rfl rfl hl.1 rfl (Nat.le_of_ble_eq_true rfl) dL_beat_7 ⟨Nat.le_of_ble_eq_true rfl, Nat.le_of_ble_eq_true rfl⟩ [] { startPc := 0, endPc := 12, handlerPc := 15, catchType := 20 } [{ startPc := 0, endPc := 12, handlerPc := 19, catchType := 13 }, { startPc := 0, endPc := 12, handlerPc := 23, catchType := 15 }] (by rw [htab]; rfl) tp_nil rfl (by decide) (hts (.classLink RL 20 "java/lang/IndexOutOfBoundsException") lkL_beat_c20) rfl (fun H locs q hP hD hS => ?_)
  refine lv_astore (lv' := [(5, .ref q), (0, .ref (ad 0)), (1, .int a0), (2, .int a1), (3, .int a2), (4, .ref qo)]) hx hb dL_beat_15 hl (by decide) rfl (fun ls hl => ?_)
  refine lv_iconst (v := 1) hx hb dL_beat_17 (by decide) ?_
  exact hret _ _ _ _ _ rfl hP hD hS dL_beat_18
abbrev rmL_count : Room := { frames := 8, cells := 1, slots := 6, locals := 136 }
theorem lkL_count_c13 : Cond.classLink RL 13 "java/lang/IllegalArgumentException" ∈ wsL_count := List.mem_of_getElem? (i := 1) rfl
set_option maxHeartbeats 4000000 in
set_option maxRecDepth 100000 in
theorem lw_count (l : Launch) (hfl : l.stackTraces = false) (G : GG) (ad : Nat → Nat) (qo : Nat) (c c' : Cls) (f f' : Nat → Int64) (a0 : Int32) (r0 : Int32) (h : lm_count c f a0 = some (r0, c', f')) : Met l yL_count wsL_count rmL_count (va_Pc [.ref (ad 0), .int a0, .ref qo] (PreD G (wdF G ad c ++ [(qo, .inl (G.2 3, 1, .inr (.inl f)))]) (XL (wdF G ad c ++ [(qo, .inl (G.2 3, 1, .inr (.inl f)))])))) (QwA G (va_A0 (wdF G ad c ++ [(qo, .inl (G.2 3, 1, .inr (.inl f)))])) (wdF G ad c' ++ [(qo, .inl (G.2 3, 1, .inr (.inl f')))]) (some (.int r0)) True) 1 6 (va_A0 (wdF G ad c ++ [(qo, .inl (G.2 3, 1, .inr (.inl f)))])) := by
  refine of_lw (cc := cL_count) (maxL := 4) (hh := [(0, 9, 12, 13)]) (by decide) rfl (Nat.le_of_ble_eq_true rfl) ?_
  intro p e s m args below meth c1 ls Q A S htab hl hP hD hS hK hT hN hX hA hret
  obtain ⟨H, hH⟩ : ∃ H, H = s.heap := ⟨_, rfl⟩
  obtain ⟨locs, hlocs⟩ : ∃ L : List Loc, L = [] := ⟨_, rfl⟩
  rw [← hlocs]
  rw [← hlocs] at hS
  have hP : va_P G.1 vwCl (wdF G ad c ++ [(qo, .inl (G.2 3, 1, .inr (.inl f)))]) H := by rw [hH]; exact hP
  have hS : va_S A s.heap H locs := by rw [hH]; exact hS
  have hT : TT A s H := by rw [hH]; exact hT
  suffices hgo : W p l e rmL_count s m args below meth c1 H locs 0 0 Q (F0 m 0 ls []) by rw [hH] at hgo; exact hgo
  have S : CallFix p m c1 cL_count 4 s args wsL_count RL := S
  obtain ⟨hx, hb, hml, hown, hts⟩ := id S
  have hl : lv_has ls 4 [(0, .ref (ad 0)), (1, .int a0), (2, .ref qo)] := hl
  unfold lm_count at h
  refine lv_aload_n hx hb dL_count_0 rfl (lv_at hl 2 rfl) ?_
  refine lv_iconst (v := 0) hx hb dL_count_1 (by decide) ?_
  refine lv_aload_n hx hb dL_count_2 rfl (lv_at hl 0 rfl) ?_
  refine lv_iload_n hx hb dL_count_3 rfl (lv_at hl 1 rfl) ?_
  rcases lq_e h with ⟨k0, gx, h⟩ | ⟨gx, h⟩
  · by_cases hk1 : k0 = 1
    · subst hk1
      cases h
      refine lwC (k := 1) (rest := [.int 0, .ref qo]) (As := [.int a0]) S (by decide) (cxX4_count l hfl G (ad 0) (ad 1) (ad 2) (ad 5) (ad 10) c.gain (ad 11) (ad 19) (ad 27) a0 1 gx) (cwV 1 hts gL_count_X4_count rfl rfl rfl hvX4_count ⟨Nat.le_of_ble_eq_true rfl, Nat.le_of_ble_eq_true rfl⟩) hK hT hP hD hS [0, 1] rfl 0 4 rfl rfl rfl rfl hl.1 rfl (Nat.le_of_ble_eq_true rfl) dL_count_4 ⟨Nat.le_of_ble_eq_true rfl, Nat.le_of_ble_eq_true rfl⟩ [] { startPc := 0, endPc := 9, handlerPc := 12, catchType := 13 } [] (by rw [htab]; rfl) tp_nil rfl (by decide) (hts (.classLink RL 13 "java/lang/IllegalArgumentException") lkL_count_c13) rfl (fun H locs q hP hD hS => ?_)
      refine lv_astore_n (lv' := [(3, .ref q), (0, .ref (ad 0)), (1, .int a0), (2, .ref qo)]) hx hb dL_count_12 rfl hl (by decide) rfl (fun ls hl => ?_)
      refine lv_iconst (v := 1) hx hb dL_count_13 (by decide) ?_
      exact hret _ _ _ _ _ rfl hP hD hS dL_count_14
    cases (ite_f hk1 h)
  · obtain ⟨o0, g, h⟩ := bnd1_e h
    cases h
    refine roVi1 (rest := [.int 0, .ref qo]) (As := [.int a0]) S (ctX4_count l G (ad 0) (ad 1) (ad 2) (ad 3) (ad 4) (ad 11) (ad 12) (ad 13) (ad 14) (ad 15) (ad 16) (ad 17) (ad 18) (ad 19) (ad 20) (ad 21) (ad 22) (ad 23) (ad 24) (ad 25) (ad 26) (ad 27) (ad 28) (ad 29) (ad 30) (ad 31) (ad 32) (ad 33) (ad 34) (ad 5) (ad 10) c.gain c.il c.ip c.ia c.ig c.is c.im c.ic c.iq c.s0.pr c.s0.a c.s0.b c.s0.c c.s0.d c.s0.sp c.s0.mi c.s0.ti c.s0.w c.s0.s c.s0.h c.s0.va c.s0.ov c.s0.ra c.s0.ol c.s0.od c.s0.ne c.s1.pr c.s1.a c.s1.b c.s1.c c.s1.d c.s1.sp c.s1.mi c.s1.ti c.s1.w c.s1.s c.s1.h c.s1.va c.s1.ov c.s1.ra c.s1.ol c.s1.od c.s1.ne c.s2.pr c.s2.a c.s2.b c.s2.c c.s2.d c.s2.sp c.s2.mi c.s2.ti c.s2.w c.s2.s c.s2.h c.s2.va c.s2.ov c.s2.ra c.s2.ol c.s2.od c.s2.ne a0 o0 g) (cwV 1 hts gL_count_X4_count rfl rfl rfl hvX4_count ⟨Nat.le_of_ble_eq_true rfl, Nat.le_of_ble_eq_true rfl⟩) hK hP [0, 1, 2, 3, 4, 11, 12, 13, 14, 15, 16, 17, 18, 19, 20, 21, 22, 23, 24, 25, 26, 27, 28, 29, 30, 31, 32, 33, 34] rfl 0 4 rfl rfl rfl rfl hl.1 rfl (Nat.le_of_ble_eq_true rfl) dL_count_4 ⟨Nat.zero_le _, Nat.zero_le _⟩ (fun _ => ?_)
    refine lv_i2l hx hb dL_count_7 rfl ?_
    refine va_last hx hb hK.1 hP hD hS 35 3 rfl rfl (i := 0) (vp_in_iff.mpr ⟨by decide, by decide⟩) dL_count_8 (fun H locs hP hD hS => ?_)
    refine lv_goto (tgt := 15) hx hb dL_count_9 (by decide) ?_
    refine lv_iconst (v := 0) hx hb dL_count_15 (by decide) ?_
    refine W.widen (k := 1) (n := 6) (by omega) (by omega) ?_
    exact hret _ _ _ _ _ rfl hP hD hS dL_count_16
