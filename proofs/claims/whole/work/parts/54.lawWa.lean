-- contracts of the law's wrappers (laid by program)
abbrev rmL_append : Room := { frames := 8, cells := 1, slots := 6, locals := 131 }
theorem hsX4_append : yX4_append.cls ≠ "java/lang/invoke/MethodHandle" ∧ yX4_append.cls ≠ "java/lang/invoke/VarHandle" ∧ (parseMethodDescriptor yX4_append.desc).map (fun d => d.parameters.length) = some 1 := by decide +kernel
theorem hvX4_append : yX4_append.cls = RX4 ∧ yX4_append.cls ≠ "java/lang/invoke/MethodHandle" ∧ yX4_append.cls ≠ "java/lang/invoke/VarHandle" ∧ (parseMethodDescriptor yX4_append.desc).map (fun d => d.parameters.length) = some 1 := ⟨rfl, hsX4_append⟩
theorem lkL_append_c13 : Cond.classLink RL 13 "java/lang/IllegalArgumentException" ∈ wsL_append := List.mem_of_getElem? (i := 1) rfl
theorem lkL_append_c15 : Cond.classLink RL 15 "java/lang/IllegalStateException" ∈ wsL_append := List.mem_of_getElem? (i := 2) rfl
set_option maxHeartbeats 4000000 in
set_option maxRecDepth 100000 in
theorem lw_append (l : Launch) (hfl : l.stackTraces = false) (G : GG) (ad : Nat → Nat) (qo : Nat) (c c' : Cls) (f f' : Nat → Int64) (a0 : Int32) (r0 : Int32) (h : lm_append c f a0 = some (r0, c', f')) : Met l yL_append wsL_append rmL_append (va_Pc [.ref (ad 0), .int a0, .ref qo] (PreD G (wdF G ad c ++ [(qo, .inl (G.2 3, 1, .inr (.inl f)))]) (XL (wdF G ad c ++ [(qo, .inl (G.2 3, 1, .inr (.inl f)))])))) (QwA G (va_A0 (wdF G ad c ++ [(qo, .inl (G.2 3, 1, .inr (.inl f)))])) (wdF G ad c' ++ [(qo, .inl (G.2 3, 1, .inr (.inl f')))]) (some (.int r0)) True) 1 6 (va_A0 (wdF G ad c ++ [(qo, .inl (G.2 3, 1, .inr (.inl f)))])) := by
  refine of_lw (cc := cL_append) (maxL := 4) (hh := [(0, 9, 12, 13), (0, 9, 15, 15)]) (by decide) rfl (Nat.le_of_ble_eq_true rfl) ?_
  intro p e s m args below meth c1 ls Q A S htab hl hP hD hS hK hT hN hX hA hret
  obtain ⟨H, hH⟩ : ∃ H, H = s.heap := ⟨_, rfl⟩
  obtain ⟨locs, hlocs⟩ : ∃ L : List Loc, L = [] := ⟨_, rfl⟩
  rw [← hlocs]
  rw [← hlocs] at hS
  have hP : va_P G.1 vwCl (wdF G ad c ++ [(qo, .inl (G.2 3, 1, .inr (.inl f)))]) H := by rw [hH]; exact hP
  have hS : va_S A s.heap H locs := by rw [hH]; exact hS
  have hT : TT A s H := by rw [hH]; exact hT
  suffices hgo : W p l e rmL_append s m args below meth c1 H locs 0 0 Q (F0 m 0 ls []) by rw [hH] at hgo; exact hgo
  have S : CallFix p m c1 cL_append 4 s args wsL_append RL := S
  obtain ⟨hx, hb, hml, hown, hts⟩ := id S
  have hl : lv_has ls 4 [(0, .ref (ad 0)), (1, .int a0), (2, .ref qo)] := hl
  unfold lm_append at h
  refine lv_aload_n hx hb dL_append_0 rfl (lv_at hl 2 rfl) ?_
  refine lv_iconst (v := 0) hx hb dL_append_1 (by decide) ?_
  refine lv_aload_n hx hb dL_append_2 rfl (lv_at hl 0 rfl) ?_
  refine lv_iload_n hx hb dL_append_3 rfl (lv_at hl 1 rfl) ?_
  rcases lq_e h with ⟨k0, gx, h⟩ | ⟨gx, h⟩
  · by_cases hk1 : k0 = 1
    · subst hk1
      cases h
      refine lwC (k := 1) (rest := [.int 0, .ref qo]) (As := [.int a0]) S (by decide) (cxX4_append l hfl G (ad 0) (ad 1) (ad 2) (ad 3) (ad 4) (ad 5) (ad 10) c.gain (ad 11) (ad 19) (ad 27) c.il c.ip c.ia c.ig c.is c.im c.ic c.iq a0 1 gx) (cwV 1 hts gL_append_X4_append rfl rfl rfl hvX4_append ⟨Nat.le_of_ble_eq_true rfl, Nat.le_of_ble_eq_true rfl⟩) hK hT hP hD hS [0, 1, 2, 3, 4] rfl 0 4 rfl rfl rfl rfl hl.1 rfl (Nat.le_of_ble_eq_true rfl) dL_append_4 ⟨Nat.le_of_ble_eq_true rfl, Nat.le_of_ble_eq_true rfl⟩ [] { startPc := 0, endPc := 9, handlerPc := 12, catchType := 13 } [{ startPc := 0, endPc := 9, handlerPc := 15, catchType := 15 }] (by rw [htab]; rfl) tp_nil rfl (by decide) (hts (.classLink RL 13 "java/lang/IllegalArgumentException") lkL_append_c13) rfl (fun H locs q hP hD hS => ?_)
      refine lv_astore_n (lv' := [(3, .ref q), (0, .ref (ad 0)), (1, .int a0), (2, .ref qo)]) hx hb dL_append_12 rfl hl (by decide) rfl (fun ls hl => ?_)
      refine lv_iconst (v := 1) hx hb dL_append_13 (by decide) ?_
      exact hret _ _ _ _ _ rfl hP hD hS dL_append_14
    replace h := ite_f hk1 h
    by_cases hk2 : k0 = 2
    · subst hk2
      cases h
      refine lwC (k := 2) (rest := [.int 0, .ref qo]) (As := [.int a0]) S (by decide) (cxX4_append l hfl G (ad 0) (ad 1) (ad 2) (ad 3) (ad 4) (ad 5) (ad 10) c.gain (ad 11) (ad 19) (ad 27) c.il c.ip c.ia c.ig c.is c.im c.ic c.iq a0 2 gx) (cwV 1 hts gL_append_X4_append rfl rfl rfl hvX4_append ⟨Nat.le_of_ble_eq_true rfl, Nat.le_of_ble_eq_true rfl⟩) hK hT hP hD hS [0, 1, 2, 3, 4] rfl 0 4 rfl rfl rfl rfl hl.1 rfl (Nat.le_of_ble_eq_true rfl) dL_append_4 ⟨Nat.le_of_ble_eq_true rfl, Nat.le_of_ble_eq_true rfl⟩ [{ startPc := 0, endPc := 9, handlerPc := 12, catchType := 13 }] { startPc := 0, endPc := 9, handlerPc := 15, catchType := 15 } [] (by rw [htab]; rfl) (tp_cons (nm := exn 1) (by decide) (hts (.classLink RL 13 "java/lang/IllegalArgumentException") lkL_append_c13) (hN 2 (by decide) 1 (by decide) (by decide)) tp_nil) rfl (by decide) (hts (.classLink RL 15 "java/lang/IllegalStateException") lkL_append_c15) rfl (fun H locs q hP hD hS => ?_)
      refine lv_astore_n (lv' := [(3, .ref q), (0, .ref (ad 0)), (1, .int a0), (2, .ref qo)]) hx hb dL_append_15 rfl hl (by decide) rfl (fun ls hl => ?_)
      refine lv_iconst (v := 2) hx hb dL_append_16 (by decide) ?_
      exact hret _ _ _ _ _ rfl hP hD hS dL_append_17
    cases (ite_f hk2 h)
  · obtain ⟨o0, o1, o2, g, h⟩ := bnd3_e h
    cases h
    refine rwV_back (rest := [.int 0, .ref qo]) (As := [.int a0]) (wr := List.filterMap (fun i => (wdF G ad c ++ [(qo, .inl (G.2 3, 1, .inr (.inl f)))])[i]?) [5, 6, 7, 8, 9, 10, 11, 12, 13, 14, 15, 16, 17, 18, 19, 20, 21, 22, 23, 24, 25, 26, 27, 28, 29, 30, 31, 32, 33, 34, 35]) (wf := wdF G ad (mkC c.gain o1 c.ip c.ia c.ig c.is c.im o2 c.iq c.dn c.dm c.dj c.dt c.dx c.dy c.dr c.dv c.dw c.dq c.fw c.fs c.fh c.s0 c.s1 c.s2) ++ [(qo, .inl (G.2 3, 1, .inr (.inl f)))]) S (ctX4_append l G (ad 0) (ad 1) (ad 2) (ad 3) (ad 4) (ad 5) (ad 10) c.gain (ad 11) (ad 19) (ad 27) c.il c.ip c.ia c.ig c.is c.im c.ic c.iq a0 o0 o1 o2 g) (cwV 1 hts gL_append_X4_append rfl rfl rfl hvX4_append ⟨Nat.le_of_ble_eq_true rfl, Nat.le_of_ble_eq_true rfl⟩) hK hP hD hS xb_triv (fun _ _ _ => trivial) [0, 1, 2, 3, 4] [5, 6, 7, 8, 9, 10, 11, 12, 13, 14, 15, 16, 17, 18, 19, 20, 21, 22, 23, 24, 25, 26, 27, 28, 29, 30, 31, 32, 33, 34, 35] [31, 32, 33, 34, 35, 0, 1, 2, 3, 4, 5, 6, 7, 8, 9, 10, 11, 12, 13, 14, 15, 16, 17, 18, 19, 20, 21, 22, 23, 24, 25, 26, 27, 28, 29, 30] rfl rfl rfl rfl rfl rfl rfl 0 4 rfl rfl rfl rfl hl.1 rfl (Nat.le_of_ble_eq_true rfl) dL_append_4 ⟨Nat.zero_le _, Nat.zero_le _⟩ (fun _ H locs hP hD hS => ?_)
    refine lv_i2l hx hb dL_append_7 rfl ?_
    refine va_last hx hb hK.1 hP hD hS 35 3 rfl rfl (i := 0) (vp_in_iff.mpr ⟨by decide, by decide⟩) dL_append_8 (fun H locs hP hD hS => ?_)
    refine lv_goto (tgt := 18) hx hb dL_append_9 (by decide) ?_
    refine lv_iconst (v := 0) hx hb dL_append_18 (by decide) ?_
    refine W.widen (k := 1) (n := 6) (by omega) (by omega) ?_
    exact hret _ _ _ _ _ rfl hP hD hS dL_append_19
abbrev rmL_remove : Room := { frames := 9, cells := 1, slots := 6, locals := 158 }
theorem hsX4_remove : yX4_remove.cls ≠ "java/lang/invoke/MethodHandle" ∧ yX4_remove.cls ≠ "java/lang/invoke/VarHandle" ∧ (parseMethodDescriptor yX4_remove.desc).map (fun d => d.parameters.length) = some 1 := by decide +kernel
theorem hvX4_remove : yX4_remove.cls = RX4 ∧ yX4_remove.cls ≠ "java/lang/invoke/MethodHandle" ∧ yX4_remove.cls ≠ "java/lang/invoke/VarHandle" ∧ (parseMethodDescriptor yX4_remove.desc).map (fun d => d.parameters.length) = some 1 := ⟨rfl, hsX4_remove⟩
theorem lkL_remove_c20 : Cond.classLink RL 20 "java/lang/IndexOutOfBoundsException" ∈ wsL_remove := List.mem_of_getElem? (i := 1) rfl
theorem lkL_remove_c15 : Cond.classLink RL 15 "java/lang/IllegalStateException" ∈ wsL_remove := List.mem_of_getElem? (i := 2) rfl
set_option maxHeartbeats 4000000 in
set_option maxRecDepth 100000 in
theorem lw_remove (l : Launch) (hfl : l.stackTraces = false) (G : GG) (ad : Nat → Nat) (qo : Nat) (c c' : Cls) (f f' : Nat → Int64) (a0 : Int32) (r0 : Int32) (h : lm_remove c f a0 = some (r0, c', f')) : Met l yL_remove wsL_remove rmL_remove (va_Pc [.ref (ad 0), .int a0, .ref qo] (PreD G (wdF G ad c ++ [(qo, .inl (G.2 3, 1, .inr (.inl f)))]) (XL (wdF G ad c ++ [(qo, .inl (G.2 3, 1, .inr (.inl f)))])))) (QwA G (va_A0 (wdF G ad c ++ [(qo, .inl (G.2 3, 1, .inr (.inl f)))])) (wdF G ad c' ++ [(qo, .inl (G.2 3, 1, .inr (.inl f')))]) (some (.int r0)) True) 1 6 (va_A0 (wdF G ad c ++ [(qo, .inl (G.2 3, 1, .inr (.inl f)))])) := by
  refine of_lw (cc := cL_remove) (maxL := 4) (hh := [(0, 9, 12, 20), (0, 9, 15, 15)]) (by decide) rfl (Nat.le_of_ble_eq_true rfl) ?_
  intro p e s m args below meth c1 ls Q A S htab hl hP hD hS hK hT hN hX hA hret
  obtain ⟨H, hH⟩ : ∃ H, H = s.heap := ⟨_, rfl⟩
  obtain ⟨locs, hlocs⟩ : ∃ L : List Loc, L = [] := ⟨_, rfl⟩
  rw [← hlocs]
  rw [← hlocs] at hS
  have hP : va_P G.1 vwCl (wdF G ad c ++ [(qo, .inl (G.2 3, 1, .inr (.inl f)))]) H := by rw [hH]; exact hP
  have hS : va_S A s.heap H locs := by rw [hH]; exact hS
  have hT : TT A s H := by rw [hH]; exact hT
  suffices hgo : W p l e rmL_remove s m args below meth c1 H locs 0 0 Q (F0 m 0 ls []) by rw [hH] at hgo; exact hgo
  have S : CallFix p m c1 cL_remove 4 s args wsL_remove RL := S
  obtain ⟨hx, hb, hml, hown, hts⟩ := id S
  have hl : lv_has ls 4 [(0, .ref (ad 0)), (1, .int a0), (2, .ref qo)] := hl
  unfold lm_remove at h
  refine lv_aload_n hx hb dL_remove_0 rfl (lv_at hl 2 rfl) ?_
  refine lv_iconst (v := 0) hx hb dL_remove_1 (by decide) ?_
  refine lv_aload_n hx hb dL_remove_2 rfl (lv_at hl 0 rfl) ?_
  refine lv_iload_n hx hb dL_remove_3 rfl (lv_at hl 1 rfl) ?_
  by_cases hs_a0 : a0 = 0
  · replace h := ite_t hs_a0 h
    rcases lq_e h with ⟨k0, gx, h⟩ | ⟨gx, h⟩
    · by_cases hk2 : k0 = 2
      · subst hk2
        cases h
        refine lwC (k := 2) (rest := [.int 0, .ref qo]) (As := [.int a0]) S (by decide) (cxX4_remove l hfl G (ad 0) (ad 1) (ad 11) (ad 12) (ad 13) (ad 14) (ad 15) (ad 16) (ad 17) (ad 18) (ad 2) (ad 5) (ad 10) c.gain (ad 11) (ad 19) (ad 27) c.s0.pr c.s0.a c.s0.b c.s0.c c.s0.d c.s0.sp c.s0.mi c.s0.ti c.s0.w c.s0.s c.s0.h c.s0.va c.s0.ov c.s0.ra c.s0.ol c.s0.od c.s0.ne a0 2 gx 0 (by decide) (by rw [hs_a0]; decide) rfl) (cwV 1 hts gL_remove_X4_remove rfl rfl rfl hvX4_remove ⟨Nat.le_of_ble_eq_true rfl, Nat.le_of_ble_eq_true rfl⟩) hK hT hP hD hS [0, 1, 11, 12, 13, 14, 15, 16, 17, 18] rfl 0 4 rfl rfl rfl rfl hl.1 rfl (Nat.le_of_ble_eq_true rfl) dL_remove_4 ⟨Nat.le_of_ble_eq_true rfl, Nat.le_of_ble_eq_true rfl⟩ [{ startPc := 0, endPc := 9, handlerPc := 12, catchType := 20 }] { startPc := 0, endPc := 9, handlerPc := 15, catchType := 15 } [] (by rw [htab]; rfl) (tp_cons (nm := exn 3) (by decide) (hts (.classLink RL 20 "java/lang/IndexOutOfBoundsException") lkL_remove_c20) (hN 2 (by decide) 3 (by decide) (by decide)) tp_nil) rfl (by decide) (hts (.classLink RL 15 "java/lang/IllegalStateException") lkL_remove_c15) rfl (fun H locs q hP hD hS => ?_)
        refine lv_astore_n (lv' := [(3, .ref q), (0, .ref (ad 0)), (1, .int a0), (2, .ref qo)]) hx hb dL_remove_15 rfl hl (by decide) rfl (fun ls hl => ?_)
        refine lv_iconst (v := 2) hx hb dL_remove_16 (by decide) ?_
        exact hret _ _ _ _ _ rfl hP hD hS dL_remove_17
      replace h := ite_f hk2 h
      by_cases hk3 : k0 = 3
      · subst hk3
        cases h
        refine lwC (k := 3) (rest := [.int 0, .ref qo]) (As := [.int a0]) S (by decide) (cxX4_remove l hfl G (ad 0) (ad 1) (ad 11) (ad 12) (ad 13) (ad 14) (ad 15) (ad 16) (ad 17) (ad 18) (ad 2) (ad 5) (ad 10) c.gain (ad 11) (ad 19) (ad 27) c.s0.pr c.s0.a c.s0.b c.s0.c c.s0.d c.s0.sp c.s0.mi c.s0.ti c.s0.w c.s0.s c.s0.h c.s0.va c.s0.ov c.s0.ra c.s0.ol c.s0.od c.s0.ne a0 3 gx 0 (by decide) (by rw [hs_a0]; decide) rfl) (cwV 1 hts gL_remove_X4_remove rfl rfl rfl hvX4_remove ⟨Nat.le_of_ble_eq_true rfl, Nat.le_of_ble_eq_true rfl⟩) hK hT hP hD hS [0, 1, 11, 12, 13, 14, 15, 16, 17, 18] rfl 0 4 rfl rfl rfl rfl hl.1 rfl (Nat.le_of_ble_eq_true rfl) dL_remove_4 ⟨Nat.le_of_ble_eq_true rfl, Nat.le_of_ble_eq_true rfl⟩ [] { startPc := 0, endPc := 9, handlerPc := 12, catchType := 20 } [{ startPc := 0, endPc := 9, handlerPc := 15, catchType := 15 }] (by rw [htab]; rfl) tp_nil rfl (by decide) (hts (.classLink RL 20 "java/lang/IndexOutOfBoundsException") lkL_remove_c20) rfl (fun H locs q hP hD hS => ?_)
        refine lv_astore_n (lv' := [(3, .ref q), (0, .ref (ad 0)), (1, .int a0), (2, .ref qo)]) hx hb dL_remove_12 rfl hl (by decide) rfl (fun ls hl => ?_)
        refine lv_iconst (v := 1) hx hb dL_remove_13 (by decide) ?_
        exact hret _ _ _ _ _ rfl hP hD hS dL_remove_14
      cases (ite_f hk3 h)
    · obtain ⟨o0, o1, g, h⟩ := bnd2_e h
      cases h
      refine rwV_back (rest := [.int 0, .ref qo]) (As := [.int 0]) (wr := List.filterMap (fun i => (wdF G ad c ++ [(qo, .inl (G.2 3, 1, .inr (.inl f)))])[i]?) [5, 6, 7, 8, 9, 10, 35]) (wf := wdF G ad (mkC c.gain c.il c.ip c.ia c.ig c.is c.im c.ic c.iq c.dn c.dm c.dj c.dt c.dx c.dy c.dr c.dv c.dw c.dq c.fw c.fs c.fh (mkS o1 c.s0.a c.s0.b c.s0.c c.s0.d c.s0.sp c.s0.mi c.s0.ti c.s0.w c.s0.s c.s0.h c.s0.va c.s0.ov c.s0.ra c.s0.ol c.s0.od c.s0.ne) c.s1 c.s2) ++ [(qo, .inl (G.2 3, 1, .inr (.inl f)))]) S (ctX4_remove l G (ad 0) (ad 1) (ad 2) (ad 3) (ad 4) (ad 11) (ad 12) (ad 13) (ad 14) (ad 15) (ad 16) (ad 17) (ad 18) (ad 19) (ad 20) (ad 21) (ad 22) (ad 23) (ad 24) (ad 25) (ad 26) (ad 27) (ad 28) (ad 29) (ad 30) (ad 31) (ad 32) (ad 33) (ad 34) (ad 5) (ad 10) c.gain c.il c.ip c.ia c.ig c.is c.im c.ic c.iq c.s0.pr c.s0.a c.s0.b c.s0.c c.s0.d c.s0.sp c.s0.mi c.s0.ti c.s0.w c.s0.s c.s0.h c.s0.va c.s0.ov c.s0.ra c.s0.ol c.s0.od c.s0.ne c.s1.pr c.s1.a c.s1.b c.s1.c c.s1.d c.s1.sp c.s1.mi c.s1.ti c.s1.w c.s1.s c.s1.h c.s1.va c.s1.ov c.s1.ra c.s1.ol c.s1.od c.s1.ne c.s2.pr c.s2.a c.s2.b c.s2.c c.s2.d c.s2.sp c.s2.mi c.s2.ti c.s2.w c.s2.s c.s2.h c.s2.va c.s2.ov c.s2.ra c.s2.ol c.s2.od c.s2.ne o0 o1 g) (cwV 1 hts gL_remove_X4_remove rfl rfl rfl hvX4_remove ⟨Nat.le_of_ble_eq_true rfl, Nat.le_of_ble_eq_true rfl⟩) hK hP hD hS xb_triv (fun _ _ _ => trivial) [0, 1, 2, 3, 4, 11, 12, 13, 14, 15, 16, 17, 18, 19, 20, 21, 22, 23, 24, 25, 26, 27, 28, 29, 30, 31, 32, 33, 34] [5, 6, 7, 8, 9, 10, 35] [7, 8, 9, 10, 11, 0, 1, 2, 3, 4, 5, 12, 13, 14, 15, 16, 17, 18, 19, 20, 21, 22, 23, 24, 25, 26, 27, 28, 29, 30, 31, 32, 33, 34, 35, 6] rfl rfl rfl rfl rfl rfl rfl 0 4 rfl rfl rfl rfl hl.1 (by rw [hs_a0]; rfl) (Nat.le_of_ble_eq_true rfl) dL_remove_4 ⟨Nat.zero_le _, Nat.zero_le _⟩ (fun _ H locs hP hD hS => ?_)
      refine lv_i2l hx hb dL_remove_7 rfl ?_
      refine va_last hx hb hK.1 hP hD hS 35 3 rfl rfl (i := 0) (vp_in_iff.mpr ⟨by decide, by decide⟩) dL_remove_8 (fun H locs hP hD hS => ?_)
      refine lv_goto (tgt := 18) hx hb dL_remove_9 (by decide) ?_
      refine lv_iconst (v := 0) hx hb dL_remove_18 (by decide) ?_
      refine W.widen (k := 1) (n := 6) (by omega) (by omega) ?_
      exact hret _ _ _ _ _ rfl hP hD hS dL_remove_19
  replace h := ite_f hs_a0 h
  have hn_a00 := hs_a0
  clear hs_a0
  by_cases hs_a0 : a0 = 1
  · replace h := ite_t hs_a0 h
    rcases lq_e h with ⟨k0, gx, h⟩ | ⟨gx, h⟩
    · by_cases hk2 : k0 = 2
      · subst hk2
        cases h
        refine lwC (k := 2) (rest := [.int 0, .ref qo]) (As := [.int a0]) S (by decide) (cxX4_remove l hfl G (ad 0) (ad 1) (ad 19) (ad 20) (ad 21) (ad 22) (ad 23) (ad 24) (ad 25) (ad 26) (ad 2) (ad 5) (ad 10) c.gain (ad 11) (ad 19) (ad 27) c.s1.pr c.s1.a c.s1.b c.s1.c c.s1.d c.s1.sp c.s1.mi c.s1.ti c.s1.w c.s1.s c.s1.h c.s1.va c.s1.ov c.s1.ra c.s1.ol c.s1.od c.s1.ne a0 2 gx 1 (by decide) (by rw [hs_a0]; decide) rfl) (cwV 1 hts gL_remove_X4_remove rfl rfl rfl hvX4_remove ⟨Nat.le_of_ble_eq_true rfl, Nat.le_of_ble_eq_true rfl⟩) hK hT hP hD hS [0, 1, 19, 20, 21, 22, 23, 24, 25, 26] rfl 0 4 rfl rfl rfl rfl hl.1 rfl (Nat.le_of_ble_eq_true rfl) dL_remove_4 ⟨Nat.le_of_ble_eq_true rfl, Nat.le_of_ble_eq_true rfl⟩ [{ startPc := 0, endPc := 9, handlerPc := 12, catchType := 20 }] { startPc := 0, endPc := 9, handlerPc := 15, catchType := 15 } [] (by rw [htab]; rfl) (tp_cons (nm := exn 3) (by decide) (hts (.classLink RL 20 "java/lang/IndexOutOfBoundsException") lkL_remove_c20) (hN 2 (by decide) 3 (by decide) (by decide)) tp_nil) rfl (by decide) (hts (.classLink RL 15 "java/lang/IllegalStateException") lkL_remove_c15) rfl (fun H locs q hP hD hS => ?_)
        refine lv_astore_n (lv' := [(3, .ref q), (0, .ref (ad 0)), (1, .int a0), (2, .ref qo)]) hx hb dL_remove_15 rfl hl (by decide) rfl (fun ls hl => ?_)
        refine lv_iconst (v := 2) hx hb dL_remove_16 (by decide) ?_
        exact hret _ _ _ _ _ rfl hP hD hS dL_remove_17
      replace h := ite_f hk2 h
      by_cases hk3 : k0 = 3
      · subst hk3
        cases h
        refine lwC (k := 3) (rest := [.int 0, .ref qo]) (As := [.int a0]) S (by decide) (cxX4_remove l hfl G (ad 0) (ad 1) (ad 19) (ad 20) (ad 21) (ad 22) (ad 23) (ad 24) (ad 25) (ad 26) (ad 2) (ad 5) (ad 10) c.gain (ad 11) (ad 19) (ad 27) c.s1.pr c.s1.a c.s1.b c.s1.c c.s1.d c.s1.sp c.s1.mi c.s1.ti c.s1.w c.s1.s c.s1.h c.s1.va c.s1.ov c.s1.ra c.s1.ol c.s1.od c.s1.ne a0 3 gx 1 (by decide) (by rw [hs_a0]; decide) rfl) (cwV 1 hts gL_remove_X4_remove rfl rfl rfl hvX4_remove ⟨Nat.le_of_ble_eq_true rfl, Nat.le_of_ble_eq_true rfl⟩) hK hT hP hD hS [0, 1, 19, 20, 21, 22, 23, 24, 25, 26] rfl 0 4 rfl rfl rfl rfl hl.1 rfl (Nat.le_of_ble_eq_true rfl) dL_remove_4 ⟨Nat.le_of_ble_eq_true rfl, Nat.le_of_ble_eq_true rfl⟩ [] { startPc := 0, endPc := 9, handlerPc := 12, catchType := 20 } [{ startPc := 0, endPc := 9, handlerPc := 15, catchType := 15 }] (by rw [htab]; rfl) tp_nil rfl (by decide) (hts (.classLink RL 20 "java/lang/IndexOutOfBoundsException") lkL_remove_c20) rfl (fun H locs q hP hD hS => ?_)
        refine lv_astore_n (lv' := [(3, .ref q), (0, .ref (ad 0)), (1, .int a0), (2, .ref qo)]) hx hb dL_remove_12 rfl hl (by decide) rfl (fun ls hl => ?_)
        refine lv_iconst (v := 1) hx hb dL_remove_13 (by decide) ?_
        exact hret _ _ _ _ _ rfl hP hD hS dL_remove_14
      cases (ite_f hk3 h)
    · obtain ⟨o0, o1, g, h⟩ := bnd2_e h
      cases h
      refine rwV_back (rest := [.int 0, .ref qo]) (As := [.int 1]) (wr := List.filterMap (fun i => (wdF G ad c ++ [(qo, .inl (G.2 3, 1, .inr (.inl f)))])[i]?) [5, 6, 7, 8, 9, 10, 35]) (wf := wdF G ad (mkC c.gain c.il c.ip c.ia c.ig c.is c.im c.ic c.iq c.dn c.dm c.dj c.dt c.dx c.dy c.dr c.dv c.dw c.dq c.fw c.fs c.fh c.s0 (mkS o1 c.s1.a c.s1.b c.s1.c c.s1.d c.s1.sp c.s1.mi c.s1.ti c.s1.w c.s1.s c.s1.h c.s1.va c.s1.ov c.s1.ra c.s1.ol c.s1.od c.s1.ne) c.s2) ++ [(qo, .inl (G.2 3, 1, .inr (.inl f)))]) S (ctX4_removeb l G (ad 0) (ad 1) (ad 2) (ad 3) (ad 4) (ad 11) (ad 12) (ad 13) (ad 14) (ad 15) (ad 16) (ad 17) (ad 18) (ad 19) (ad 20) (ad 21) (ad 22) (ad 23) (ad 24) (ad 25) (ad 26) (ad 27) (ad 28) (ad 29) (ad 30) (ad 31) (ad 32) (ad 33) (ad 34) (ad 5) (ad 10) c.gain c.il c.ip c.ia c.ig c.is c.im c.ic c.iq c.s0.pr c.s0.a c.s0.b c.s0.c c.s0.d c.s0.sp c.s0.mi c.s0.ti c.s0.w c.s0.s c.s0.h c.s0.va c.s0.ov c.s0.ra c.s0.ol c.s0.od c.s0.ne c.s1.pr c.s1.a c.s1.b c.s1.c c.s1.d c.s1.sp c.s1.mi c.s1.ti c.s1.w c.s1.s c.s1.h c.s1.va c.s1.ov c.s1.ra c.s1.ol c.s1.od c.s1.ne c.s2.pr c.s2.a c.s2.b c.s2.c c.s2.d c.s2.sp c.s2.mi c.s2.ti c.s2.w c.s2.s c.s2.h c.s2.va c.s2.ov c.s2.ra c.s2.ol c.s2.od c.s2.ne o0 o1 g) (cwV 1 hts gL_remove_X4_remove rfl rfl rfl hvX4_remove ⟨Nat.le_of_ble_eq_true rfl, Nat.le_of_ble_eq_true rfl⟩) hK hP hD hS xb_triv (fun _ _ _ => trivial) [0, 1, 2, 3, 4, 11, 12, 13, 14, 15, 16, 17, 18, 19, 20, 21, 22, 23, 24, 25, 26, 27, 28, 29, 30, 31, 32, 33, 34] [5, 6, 7, 8, 9, 10, 35] [7, 8, 9, 10, 11, 0, 1, 2, 3, 4, 5, 12, 13, 14, 15, 16, 17, 18, 19, 20, 21, 22, 23, 24, 25, 26, 27, 28, 29, 30, 31, 32, 33, 34, 35, 6] rfl rfl rfl rfl rfl rfl rfl 0 4 rfl rfl rfl rfl hl.1 (by rw [hs_a0]; rfl) (Nat.le_of_ble_eq_true rfl) dL_remove_4 ⟨Nat.zero_le _, Nat.zero_le _⟩ (fun _ H locs hP hD hS => ?_)
      refine lv_i2l hx hb dL_remove_7 rfl ?_
      refine va_last hx hb hK.1 hP hD hS 35 3 rfl rfl (i := 0) (vp_in_iff.mpr ⟨by decide, by decide⟩) dL_remove_8 (fun H locs hP hD hS => ?_)
      refine lv_goto (tgt := 18) hx hb dL_remove_9 (by decide) ?_
      refine lv_iconst (v := 0) hx hb dL_remove_18 (by decide) ?_
      refine W.widen (k := 1) (n := 6) (by omega) (by omega) ?_
      exact hret _ _ _ _ _ rfl hP hD hS dL_remove_19
  replace h := ite_f hs_a0 h
  have hn_a01 := hs_a0
  clear hs_a0
  by_cases hs_a0 : a0 = 2
  · replace h := ite_t hs_a0 h
    rcases lq_e h with ⟨k0, gx, h⟩ | ⟨gx, h⟩
    · by_cases hk2 : k0 = 2
      · subst hk2
        cases h
        refine lwC (k := 2) (rest := [.int 0, .ref qo]) (As := [.int a0]) S (by decide) (cxX4_remove l hfl G (ad 0) (ad 1) (ad 27) (ad 28) (ad 29) (ad 30) (ad 31) (ad 32) (ad 33) (ad 34) (ad 2) (ad 5) (ad 10) c.gain (ad 11) (ad 19) (ad 27) c.s2.pr c.s2.a c.s2.b c.s2.c c.s2.d c.s2.sp c.s2.mi c.s2.ti c.s2.w c.s2.s c.s2.h c.s2.va c.s2.ov c.s2.ra c.s2.ol c.s2.od c.s2.ne a0 2 gx 2 (by decide) (by rw [hs_a0]; decide) rfl) (cwV 1 hts gL_remove_X4_remove rfl rfl rfl hvX4_remove ⟨Nat.le_of_ble_eq_true rfl, Nat.le_of_ble_eq_true rfl⟩) hK hT hP hD hS [0, 1, 27, 28, 29, 30, 31, 32, 33, 34] rfl 0 4 rfl rfl rfl rfl hl.1 rfl (Nat.le_of_ble_eq_true rfl) dL_remove_4 ⟨Nat.le_of_ble_eq_true rfl, Nat.le_of_ble_eq_true rfl⟩ [{ startPc := 0, endPc := 9, handlerPc := 12, catchType := 20 }] { startPc := 0, endPc := 9, handlerPc := 15, catchType := 15 } [] (by rw [htab]; rfl) (tp_cons (nm := exn 3) (by decide) (hts (.classLink RL 20 "java/lang/IndexOutOfBoundsException") lkL_remove_c20) (hN 2 (by decide) 3 (by decide) (by decide)) tp_nil) rfl (by decide) (hts (.classLink RL 15 "java/lang/IllegalStateException") lkL_remove_c15) rfl (fun H locs q hP hD hS => ?_)
        refine lv_astore_n (lv' := [(3, .ref q), (0, .ref (ad 0)), (1, .int a0), (2, .ref qo)]) hx hb dL_remove_15 rfl hl (by decide) rfl (fun ls hl => ?_)
        refine lv_iconst (v := 2) hx hb dL_remove_16 (by decide) ?_
        exact hret _ _ _ _ _ rfl hP hD hS dL_remove_17
      replace h := ite_f hk2 h
      by_cases hk3 : k0 = 3
      · subst hk3
        cases h
        refine lwC (k := 3) (rest := [.int 0, .ref qo]) (As := [.int a0]) S (by decide) (cxX4_remove l hfl G (ad 0) (ad 1) (ad 27) (ad 28) (ad 29) (ad 30) (ad 31) (ad 32) (ad 33) (ad 34) (ad 2) (ad 5) (ad 10) c.gain (ad 11) (ad 19) (ad 27) c.s2.pr c.s2.a c.s2.b c.s2.c c.s2.d c.s2.sp c.s2.mi c.s2.ti c.s2.w c.s2.s c.s2.h c.s2.va c.s2.ov c.s2.ra c.s2.ol c.s2.od c.s2.ne a0 3 gx 2 (by decide) (by rw [hs_a0]; decide) rfl) (cwV 1 hts gL_remove_X4_remove rfl rfl rfl hvX4_remove ⟨Nat.le_of_ble_eq_true rfl, Nat.le_of_ble_eq_true rfl⟩) hK hT hP hD hS [0, 1, 27, 28, 29, 30, 31, 32, 33, 34] rfl 0 4 rfl rfl rfl rfl hl.1 rfl (Nat.le_of_ble_eq_true rfl) dL_remove_4 ⟨Nat.le_of_ble_eq_true rfl, Nat.le_of_ble_eq_true rfl⟩ [] { startPc := 0, endPc := 9, handlerPc := 12, catchType := 20 } [{ startPc := 0, endPc := 9, handlerPc := 15, catchType := 15 }] (by rw [htab]; rfl) tp_nil rfl (by decide) (hts (.classLink RL 20 "java/lang/IndexOutOfBoundsException") lkL_remove_c20) rfl (fun H locs q hP hD hS => ?_)
        refine lv_astore_n (lv' := [(3, .ref q), (0, .ref (ad 0)), (1, .int a0), (2, .ref qo)]) hx hb dL_remove_12 rfl hl (by decide) rfl (fun ls hl => ?_)
        refine lv_iconst (v := 1) hx hb dL_remove_13 (by decide) ?_
        exact hret _ _ _ _ _ rfl hP hD hS dL_remove_14
      cases (ite_f hk3 h)
    · obtain ⟨o0, o1, g, h⟩ := bnd2_e h
      cases h
      refine rwV_back (rest := [.int 0, .ref qo]) (As := [.int 2]) (wr := List.filterMap (fun i => (wdF G ad c ++ [(qo, .inl (G.2 3, 1, .inr (.inl f)))])[i]?) [5, 6, 7, 8, 9, 10, 35]) (wf := wdF G ad (mkC c.gain c.il c.ip c.ia c.ig c.is c.im c.ic c.iq c.dn c.dm c.dj c.dt c.dx c.dy c.dr c.dv c.dw c.dq c.fw c.fs c.fh c.s0 c.s1 (mkS o1 c.s2.a c.s2.b c.s2.c c.s2.d c.s2.sp c.s2.mi c.s2.ti c.s2.w c.s2.s c.s2.h c.s2.va c.s2.ov c.s2.ra c.s2.ol c.s2.od c.s2.ne)) ++ [(qo, .inl (G.2 3, 1, .inr (.inl f)))]) S (ctX4_removec l G (ad 0) (ad 1) (ad 2) (ad 3) (ad 4) (ad 11) (ad 12) (ad 13) (ad 14) (ad 15) (ad 16) (ad 17) (ad 18) (ad 19) (ad 20) (ad 21) (ad 22) (ad 23) (ad 24) (ad 25) (ad 26) (ad 27) (ad 28) (ad 29) (ad 30) (ad 31) (ad 32) (ad 33) (ad 34) (ad 5) (ad 10) c.gain c.il c.ip c.ia c.ig c.is c.im c.ic c.iq c.s0.pr c.s0.a c.s0.b c.s0.c c.s0.d c.s0.sp c.s0.mi c.s0.ti c.s0.w c.s0.s c.s0.h c.s0.va c.s0.ov c.s0.ra c.s0.ol c.s0.od c.s0.ne c.s1.pr c.s1.a c.s1.b c.s1.c c.s1.d c.s1.sp c.s1.mi c.s1.ti c.s1.w c.s1.s c.s1.h c.s1.va c.s1.ov c.s1.ra c.s1.ol c.s1.od c.s1.ne c.s2.pr c.s2.a c.s2.b c.s2.c c.s2.d c.s2.sp c.s2.mi c.s2.ti c.s2.w c.s2.s c.s2.h c.s2.va c.s2.ov c.s2.ra c.s2.ol c.s2.od c.s2.ne o0 o1 g) (cwV 1 hts gL_remove_X4_remove rfl rfl rfl hvX4_remove ⟨Nat.le_of_ble_eq_true rfl, Nat.le_of_ble_eq_true rfl⟩) hK hP hD hS xb_triv (fun _ _ _ => trivial) [0, 1, 2, 3, 4, 11, 12, 13, 14, 15, 16, 17, 18, 19, 20, 21, 22, 23, 24, 25, 26, 27, 28, 29, 30, 31, 32, 33, 34] [5, 6, 7, 8, 9, 10, 35] [7, 8, 9, 10, 11, 0, 1, 2, 3, 4, 5, 12, 13, 14, 15, 16, 17, 18, 19, 20, 21, 22, 23, 24, 25, 26, 27, 28, 29, 30, 31, 32, 33, 34, 35, 6] rfl rfl rfl rfl rfl rfl rfl 0 4 rfl rfl rfl rfl hl.1 (by rw [hs_a0]; rfl) (Nat.le_of_ble_eq_true rfl) dL_remove_4 ⟨Nat.zero_le _, Nat.zero_le _⟩ (fun _ H locs hP hD hS => ?_)
      refine lv_i2l hx hb dL_remove_7 rfl ?_
      refine va_last hx hb hK.1 hP hD hS 35 3 rfl rfl (i := 0) (vp_in_iff.mpr ⟨by decide, by decide⟩) dL_remove_8 (fun H locs hP hD hS => ?_)
      refine lv_goto (tgt := 18) hx hb dL_remove_9 (by decide) ?_
      refine lv_iconst (v := 0) hx hb dL_remove_18 (by decide) ?_
      refine W.widen (k := 1) (n := 6) (by omega) (by omega) ?_
      exact hret _ _ _ _ _ rfl hP hD hS dL_remove_19
  replace h := ite_f hs_a0 h
  have hn_a02 := hs_a0
  clear hs_a0
  have ho_a0 := slot_out hn_a00 hn_a01 hn_a02
  cases h
  refine lwC (k := 3) (rest := [.int 0, .ref qo]) (As := [.int a0]) S (by decide) (cxX4_removeo l hfl G (ad 0) (ad 1) (ad 2) (ad 5) (ad 10) c.gain (ad 11) (ad 19) (ad 27) a0 ho_a0) (cwV 1 hts gL_remove_X4_remove rfl rfl rfl hvX4_remove ⟨Nat.le_of_ble_eq_true rfl, Nat.le_of_ble_eq_true rfl⟩) hK hT hP hD hS [0, 1] rfl 0 4 rfl rfl rfl rfl hl.1 rfl (Nat.le_of_ble_eq_true rfl) dL_remove_4 ⟨Nat.le_of_ble_eq_true rfl, Nat.le_of_ble_eq_true rfl⟩ [] { startPc := 0, endPc := 9, handlerPc := 12, catchType := 20 } [{ startPc := 0, endPc := 9, handlerPc := 15, catchType := 15 }] (by rw [htab]; rfl) tp_nil rfl (by decide) (hts (.classLink RL 20 "java/lang/IndexOutOfBoundsException") lkL_remove_c20) rfl (fun H locs q hP hD hS => ?_)
  refine lv_astore_n (lv' := [(3, .ref q), (0, .ref (ad 0)), (1, .int a0), (2, .ref qo)]) hx hb dL_remove_12 rfl hl (by decide) rfl (fun ls hl => ?_)
  refine lv_iconst (v := 1) hx hb dL_remove_13 (by decide) ?_
  exact hret _ _ _ _ _ rfl hP hD hS dL_remove_14
abbrev rmL_shorten : Room := { frames := 8, cells := 1, slots := 6, locals := 163 }
theorem hsX4_shorten : yX4_shorten.cls ≠ "java/lang/invoke/MethodHandle" ∧ yX4_shorten.cls ≠ "java/lang/invoke/VarHandle" ∧ (parseMethodDescriptor yX4_shorten.desc).map (fun d => d.parameters.length) = some 1 := by decide +kernel
theorem hvX4_shorten : yX4_shorten.cls = RX4 ∧ yX4_shorten.cls ≠ "java/lang/invoke/MethodHandle" ∧ yX4_shorten.cls ≠ "java/lang/invoke/VarHandle" ∧ (parseMethodDescriptor yX4_shorten.desc).map (fun d => d.parameters.length) = some 1 := ⟨rfl, hsX4_shorten⟩
theorem lkL_shorten_c20 : Cond.classLink RL 20 "java/lang/IndexOutOfBoundsException" ∈ wsL_shorten := List.mem_of_getElem? (i := 1) rfl
theorem lkL_shorten_c15 : Cond.classLink RL 15 "java/lang/IllegalStateException" ∈ wsL_shorten := List.mem_of_getElem? (i := 2) rfl
set_option maxHeartbeats 4000000 in
set_option maxRecDepth 100000 in
theorem lw_shorten (l : Launch) (hfl : l.stackTraces = false) (G : GG) (ad : Nat → Nat) (qo : Nat) (c c' : Cls) (f f' : Nat → Int64) (a0 : Int32) (r0 : Int32) (h : lm_shorten c f a0 = some (r0, c', f')) : Met l yL_shorten wsL_shorten rmL_shorten (va_Pc [.ref (ad 0), .int a0, .ref qo] (PreD G (wdF G ad c ++ [(qo, .inl (G.2 3, 1, .inr (.inl f)))]) (XL (wdF G ad c ++ [(qo, .inl (G.2 3, 1, .inr (.inl f)))])))) (QwA G (va_A0 (wdF G ad c ++ [(qo, .inl (G.2 3, 1, .inr (.inl f)))])) (wdF G ad c' ++ [(qo, .inl (G.2 3, 1, .inr (.inl f')))]) (some (.int r0)) True) 1 6 (va_A0 (wdF G ad c ++ [(qo, .inl (G.2 3, 1, .inr (.inl f)))])) := by
  refine of_lw (cc := cL_shorten) (maxL := 4) (hh := [(0, 9, 12, 20), (0, 9, 15, 15)]) (by decide) rfl (Nat.le_of_ble_eq_true rfl) ?_
  intro p e s m args below meth c1 ls Q A S htab hl hP hD hS hK hT hN hX hA hret
  obtain ⟨H, hH⟩ : ∃ H, H = s.heap := ⟨_, rfl⟩
  obtain ⟨locs, hlocs⟩ : ∃ L : List Loc, L = [] := ⟨_, rfl⟩
  rw [← hlocs]
  rw [← hlocs] at hS
  have hP : va_P G.1 vwCl (wdF G ad c ++ [(qo, .inl (G.2 3, 1, .inr (.inl f)))]) H := by rw [hH]; exact hP
  have hS : va_S A s.heap H locs := by rw [hH]; exact hS
  have hT : TT A s H := by rw [hH]; exact hT
  suffices hgo : W p l e rmL_shorten s m args below meth c1 H locs 0 0 Q (F0 m 0 ls []) by rw [hH] at hgo; exact hgo
  have S : CallFix p m c1 cL_shorten 4 s args wsL_shorten RL := S
  obtain ⟨hx, hb, hml, hown, hts⟩ := id S
  have hl : lv_has ls 4 [(0, .ref (ad 0)), (1, .int a0), (2, .ref qo)] := hl
  unfold lm_shorten at h
  refine lv_aload_n hx hb dL_shorten_0 rfl (lv_at hl 2 rfl) ?_
  refine lv_iconst (v := 0) hx hb dL_shorten_1 (by decide) ?_
  refine lv_aload_n hx hb dL_shorten_2 rfl (lv_at hl 0 rfl) ?_
  refine lv_iload_n hx hb dL_shorten_3 rfl (lv_at hl 1 rfl) ?_
  by_cases hs_a0 : a0 = 0
  · replace h := ite_t hs_a0 h
    rcases lq_e h with ⟨k0, gx, h⟩ | ⟨gx, h⟩
    · by_cases hk2 : k0 = 2
      · subst hk2
        cases h
        refine lwC (k := 2) (rest := [.int 0, .ref qo]) (As := [.int a0]) S (by decide) (cxX4_shorten l hfl G (ad 0) (ad 1) (ad 11) (ad 12) (ad 13) (ad 14) (ad 15) (ad 16) (ad 17) (ad 18) (ad 2) (ad 5) (ad 10) c.gain (ad 11) (ad 19) (ad 27) c.s0.pr c.s0.a c.s0.b c.s0.c c.s0.d c.s0.sp c.s0.mi c.s0.ti c.s0.w c.s0.s c.s0.h c.s0.va c.s0.ov c.s0.ra c.s0.ol c.s0.od c.s0.ne a0 2 gx 0 (by decide) (by rw [hs_a0]; decide) rfl) (cwV 1 hts gL_shorten_X4_shorten rfl rfl rfl hvX4_shorten ⟨Nat.le_of_ble_eq_true rfl, Nat.le_of_ble_eq_true rfl⟩) hK hT hP hD hS [0, 1, 11, 12, 13, 14, 15, 16, 17, 18] rfl 0 4 rfl rfl rfl rfl hl.1 rfl (Nat.le_of_ble_eq_true rfl) dL_shorten_4 ⟨Nat.le_of_ble_eq_true rfl, Nat.le_of_ble_eq_true rfl⟩ [{ startPc := 0, endPc := 9, handlerPc := 12, catchType := 20 }] { startPc := 0, endPc := 9, handlerPc := 15, catchType := 15 } [] (by rw [htab]; rfl) (tp_cons (nm := exn 3) (by decide) (hts (.classLink RL 20 "java/lang/IndexOutOfBoundsException") lkL_shorten_c20) (hN 2 (by decide) 3 (by decide) (by decide)) tp_nil) rfl (by decide) (hts (.classLink RL 15 "java/lang/IllegalStateException") lkL_shorten_c15) rfl (fun H locs q hP hD hS => ?_)
        refine lv_astore_n (lv' := [(3, .ref q), (0, .ref (ad 0)), (1, .int a0), (2, .ref qo)]) hx hb dL_shorten_15 rfl hl (by decide) rfl (fun ls hl => ?_)
        refine lv_iconst (v := 2) hx hb dL_shorten_16 (by decide) ?_
        exact hret _ _ _ _ _ rfl hP hD hS dL_shorten_17
      replace h := ite_f hk2 h
      by_cases hk3 : k0 = 3
      · subst hk3
        cases h
        refine lwC (k := 3) (rest := [.int 0, .ref qo]) (As := [.int a0]) S (by decide) (cxX4_shorten l hfl G (ad 0) (ad 1) (ad 11) (ad 12) (ad 13) (ad 14) (ad 15) (ad 16) (ad 17) (ad 18) (ad 2) (ad 5) (ad 10) c.gain (ad 11) (ad 19) (ad 27) c.s0.pr c.s0.a c.s0.b c.s0.c c.s0.d c.s0.sp c.s0.mi c.s0.ti c.s0.w c.s0.s c.s0.h c.s0.va c.s0.ov c.s0.ra c.s0.ol c.s0.od c.s0.ne a0 3 gx 0 (by decide) (by rw [hs_a0]; decide) rfl) (cwV 1 hts gL_shorten_X4_shorten rfl rfl rfl hvX4_shorten ⟨Nat.le_of_ble_eq_true rfl, Nat.le_of_ble_eq_true rfl⟩) hK hT hP hD hS [0, 1, 11, 12, 13, 14, 15, 16, 17, 18] rfl 0 4 rfl rfl rfl rfl hl.1 rfl (Nat.le_of_ble_eq_true rfl) dL_shorten_4 ⟨Nat.le_of_ble_eq_true rfl, Nat.le_of_ble_eq_true rfl⟩ [] { startPc := 0, endPc := 9, handlerPc := 12, catchType := 20 } [{ startPc := 0, endPc := 9, handlerPc := 15, catchType := 15 }] (by rw [htab]; rfl) tp_nil rfl (by decide) (hts (.classLink RL 20 "java/lang/IndexOutOfBoundsException") lkL_shorten_c20) rfl (fun H locs q hP hD hS => ?_)
        refine lv_astore_n (lv' := [(3, .ref q), (0, .ref (ad 0)), (1, .int a0), (2, .ref qo)]) hx hb dL_shorten_12 rfl hl (by decide) rfl (fun ls hl => ?_)
        refine lv_iconst (v := 1) hx hb dL_shorten_13 (by decide) ?_
        exact hret _ _ _ _ _ rfl hP hD hS dL_shorten_14
      cases (ite_f hk3 h)
    · obtain ⟨o0, o1, o2, o3, o4, o5, o6, o7, o8, o9, o10, o11, o12, o13, g, h⟩ := bnd14_e h
      cases h
      refine rwV_back (rest := [.int 0, .ref qo]) (As := [.int a0]) (wr := List.filterMap (fun i => (wdF G ad c ++ [(qo, .inl (G.2 3, 1, .inr (.inl f)))])[i]?) [2, 3, 4, 5, 6, 7, 8, 9, 10, 19, 20, 21, 22, 23, 24, 25, 26, 27, 28, 29, 30, 31, 32, 33, 34, 35]) (wf := wdF G ad (mkC c.gain c.il c.ip c.ia c.ig c.is c.im c.ic c.iq c.dn c.dm c.dj c.dt c.dx c.dy c.dr c.dv c.dw c.dq c.fw c.fs c.fh (mkS c.s0.pr o1 o2 o3 o4 c.s0.sp c.s0.mi c.s0.ti o5 o6 o7 o8 o9 o10 o11 o12 o13) c.s1 c.s2) ++ [(qo, .inl (G.2 3, 1, .inr (.inl f)))]) S (ctX4_shorten l G (ad 0) (ad 1) (ad 11) (ad 12) (ad 13) (ad 14) (ad 15) (ad 16) (ad 17) (ad 18) (ad 2) (ad 5) (ad 10) c.gain (ad 11) (ad 19) (ad 27) c.s0.pr c.s0.a c.s0.b c.s0.c c.s0.d c.s0.sp c.s0.mi c.s0.ti c.s0.w c.s0.s c.s0.h c.s0.va c.s0.ov c.s0.ra c.s0.ol c.s0.od c.s0.ne a0 o0 o1 o2 o3 o4 o5 o6 o7 o8 o9 o10 o11 o12 o13 g 0 (by decide) (by rw [hs_a0]; decide) rfl) (cwV 1 hts gL_shorten_X4_shorten rfl rfl rfl hvX4_shorten ⟨Nat.le_of_ble_eq_true rfl, Nat.le_of_ble_eq_true rfl⟩) hK hP hD hS (SK.blind _) (fun U hU hW => SK.call hX hA hD hS [0, 1, 11, 12, 13, 14, 15, 16, 17, 18] rfl hU hW) [0, 1, 11, 12, 13, 14, 15, 16, 17, 18] [2, 3, 4, 5, 6, 7, 8, 9, 10, 19, 20, 21, 22, 23, 24, 25, 26, 27, 28, 29, 30, 31, 32, 33, 34, 35] [26, 27, 0, 1, 2, 3, 4, 5, 6, 7, 8, 28, 29, 30, 31, 32, 33, 34, 35, 9, 10, 11, 12, 13, 14, 15, 16, 17, 18, 19, 20, 21, 22, 23, 24, 25] rfl rfl rfl rfl rfl rfl rfl 0 4 rfl rfl rfl rfl hl.1 rfl (Nat.le_of_ble_eq_true rfl) dL_shorten_4 ⟨Nat.zero_le _, Nat.zero_le _⟩ (fun _ H locs hP hD hS => ?_)
      refine lv_i2l hx hb dL_shorten_7 rfl ?_
      refine va_last hx hb hK.1 hP hD hS 35 3 rfl rfl (i := 0) (vp_in_iff.mpr ⟨by decide, by decide⟩) dL_shorten_8 (fun H locs hP hD hS => ?_)
      refine lv_goto (tgt := 18) hx hb dL_shorten_9 (by decide) ?_
      refine lv_iconst (v := 0) hx hb dL_shorten_18 (by decide) ?_
      refine W.widen (k := 1) (n := 6) (by omega) (by omega) ?_
      exact hret _ _ _ _ _ rfl hP hD hS dL_shorten_19
  replace h := ite_f hs_a0 h
  have hn_a00 := hs_a0
  clear hs_a0
  by_cases hs_a0 : a0 = 1
  · replace h := ite_t hs_a0 h
    rcases lq_e h with ⟨k0, gx, h⟩ | ⟨gx, h⟩
    · by_cases hk2 : k0 = 2
      · subst hk2
        cases h
        refine lwC (k := 2) (rest := [.int 0, .ref qo]) (As := [.int a0]) S (by decide) (cxX4_shorten l hfl G (ad 0) (ad 1) (ad 19) (ad 20) (ad 21) (ad 22) (ad 23) (ad 24) (ad 25) (ad 26) (ad 2) (ad 5) (ad 10) c.gain (ad 11) (ad 19) (ad 27) c.s1.pr c.s1.a c.s1.b c.s1.c c.s1.d c.s1.sp c.s1.mi c.s1.ti c.s1.w c.s1.s c.s1.h c.s1.va c.s1.ov c.s1.ra c.s1.ol c.s1.od c.s1.ne a0 2 gx 1 (by decide) (by rw [hs_a0]; decide) rfl) (cwV 1 hts gL_shorten_X4_shorten rfl rfl rfl hvX4_shorten ⟨Nat.le_of_ble_eq_true rfl, Nat.le_of_ble_eq_true rfl⟩) hK hT hP hD hS [0, 1, 19, 20, 21, 22, 23, 24, 25, 26] rfl 0 4 rfl rfl rfl rfl hl.1 rfl (Nat.le_of_ble_eq_true rfl) dL_shorten_4 ⟨Nat.le_of_ble_eq_true rfl, Nat.le_of_ble_eq_true rfl⟩ [{ startPc := 0, endPc := 9, handlerPc := 12, catchType := 20 }] { startPc := 0, endPc := 9, handlerPc := 15, catchType := 15 } [] (by rw [htab]; rfl) (tp_cons (nm := exn 3) (by decide) (hts (.classLink RL 20 "java/lang/IndexOutOfBoundsException") lkL_shorten_c20) (hN 2 (by decide) 3 (by decide) (by decide)) tp_nil) rfl (by decide) (hts (.classLink RL 15 "java/lang/IllegalStateException") lkL_shorten_c15) rfl (fun H locs q hP hD hS => ?_)
        refine lv_astore_n (lv' := [(3, .ref q), (0, .ref (ad 0)), (1, .int a0), (2, .ref qo)]) hx hb dL_shorten_15 rfl hl (by decide) rfl (fun ls hl => ?_)
        refine lv_iconst (v := 2) hx hb dL_shorten_16 (by decide) ?_
        exact hret _ _ _ _ _ rfl hP hD hS dL_shorten_17
      replace h := ite_f hk2 h
      by_cases hk3 : k0 = 3
      · subst hk3
        cases h
        refine lwC (k := 3) (rest := [.int 0, .ref qo]) (As := [.int a0]) S (by decide) (cxX4_shorten l hfl G (ad 0) (ad 1) (ad 19) (ad 20) (ad 21) (ad 22) (ad 23) (ad 24) (ad 25) (ad 26) (ad 2) (ad 5) (ad 10) c.gain (ad 11) (ad 19) (ad 27) c.s1.pr c.s1.a c.s1.b c.s1.c c.s1.d c.s1.sp c.s1.mi c.s1.ti c.s1.w c.s1.s c.s1.h c.s1.va c.s1.ov c.s1.ra c.s1.ol c.s1.od c.s1.ne a0 3 gx 1 (by decide) (by rw [hs_a0]; decide) rfl) (cwV 1 hts gL_shorten_X4_shorten rfl rfl rfl hvX4_shorten ⟨Nat.le_of_ble_eq_true rfl, Nat.le_of_ble_eq_true rfl⟩) hK hT hP hD hS [0, 1, 19, 20, 21, 22, 23, 24, 25, 26] rfl 0 4 rfl rfl rfl rfl hl.1 rfl (Nat.le_of_ble_eq_true rfl) dL_shorten_4 ⟨Nat.le_of_ble_eq_true rfl, Nat.le_of_ble_eq_true rfl⟩ [] { startPc := 0, endPc := 9, handlerPc := 12, catchType := 20 } [{ startPc := 0, endPc := 9, handlerPc := 15, catchType := 15 }] (by rw [htab]; rfl) tp_nil rfl (by decide) (hts (.classLink RL 20 "java/lang/IndexOutOfBoundsException") lkL_shorten_c20) rfl (fun H locs q hP hD hS => ?_)
        refine lv_astore_n (lv' := [(3, .ref q), (0, .ref (ad 0)), (1, .int a0), (2, .ref qo)]) hx hb dL_shorten_12 rfl hl (by decide) rfl (fun ls hl => ?_)
        refine lv_iconst (v := 1) hx hb dL_shorten_13 (by decide) ?_
        exact hret _ _ _ _ _ rfl hP hD hS dL_shorten_14
      cases (ite_f hk3 h)
    · obtain ⟨o0, o1, o2, o3, o4, o5, o6, o7, o8, o9, o10, o11, o12, o13, g, h⟩ := bnd14_e h
      cases h
      refine rwV_back (rest := [.int 0, .ref qo]) (As := [.int a0]) (wr := List.filterMap (fun i => (wdF G ad c ++ [(qo, .inl (G.2 3, 1, .inr (.inl f)))])[i]?) [2, 3, 4, 5, 6, 7, 8, 9, 10, 11, 12, 13, 14, 15, 16, 17, 18, 27, 28, 29, 30, 31, 32, 33, 34, 35]) (wf := wdF G ad (mkC c.gain c.il c.ip c.ia c.ig c.is c.im c.ic c.iq c.dn c.dm c.dj c.dt c.dx c.dy c.dr c.dv c.dw c.dq c.fw c.fs c.fh c.s0 (mkS c.s1.pr o1 o2 o3 o4 c.s1.sp c.s1.mi c.s1.ti o5 o6 o7 o8 o9 o10 o11 o12 o13) c.s2) ++ [(qo, .inl (G.2 3, 1, .inr (.inl f)))]) S (ctX4_shorten l G (ad 0) (ad 1) (ad 19) (ad 20) (ad 21) (ad 22) (ad 23) (ad 24) (ad 25) (ad 26) (ad 2) (ad 5) (ad 10) c.gain (ad 11) (ad 19) (ad 27) c.s1.pr c.s1.a c.s1.b c.s1.c c.s1.d c.s1.sp c.s1.mi c.s1.ti c.s1.w c.s1.s c.s1.h c.s1.va c.s1.ov c.s1.ra c.s1.ol c.s1.od c.s1.ne a0 o0 o1 o2 o3 o4 o5 o6 o7 o8 o9 o10 o11 o12 o13 g 1 (by decide) (by rw [hs_a0]; decide) rfl) (cwV 1 hts gL_shorten_X4_shorten rfl rfl rfl hvX4_shorten ⟨Nat.le_of_ble_eq_true rfl, Nat.le_of_ble_eq_true rfl⟩) hK hP hD hS (SK.blind _) (fun U hU hW => SK.call hX hA hD hS [0, 1, 19, 20, 21, 22, 23, 24, 25, 26] rfl hU hW) [0, 1, 19, 20, 21, 22, 23, 24, 25, 26] [2, 3, 4, 5, 6, 7, 8, 9, 10, 11, 12, 13, 14, 15, 16, 17, 18, 27, 28, 29, 30, 31, 32, 33, 34, 35] [26, 27, 0, 1, 2, 3, 4, 5, 6, 7, 8, 9, 10, 11, 12, 13, 14, 15, 16, 28, 29, 30, 31, 32, 33, 34, 35, 17, 18, 19, 20, 21, 22, 23, 24, 25] rfl rfl rfl rfl rfl rfl rfl 0 4 rfl rfl rfl rfl hl.1 rfl (Nat.le_of_ble_eq_true rfl) dL_shorten_4 ⟨Nat.zero_le _, Nat.zero_le _⟩ (fun _ H locs hP hD hS => ?_)
      refine lv_i2l hx hb dL_shorten_7 rfl ?_
      refine va_last hx hb hK.1 hP hD hS 35 3 rfl rfl (i := 0) (vp_in_iff.mpr ⟨by decide, by decide⟩) dL_shorten_8 (fun H locs hP hD hS => ?_)
      refine lv_goto (tgt := 18) hx hb dL_shorten_9 (by decide) ?_
      refine lv_iconst (v := 0) hx hb dL_shorten_18 (by decide) ?_
      refine W.widen (k := 1) (n := 6) (by omega) (by omega) ?_
      exact hret _ _ _ _ _ rfl hP hD hS dL_shorten_19
  replace h := ite_f hs_a0 h
  have hn_a01 := hs_a0
  clear hs_a0
  by_cases hs_a0 : a0 = 2
  · replace h := ite_t hs_a0 h
    rcases lq_e h with ⟨k0, gx, h⟩ | ⟨gx, h⟩
    · by_cases hk2 : k0 = 2
      · subst hk2
        cases h
        refine lwC (k := 2) (rest := [.int 0, .ref qo]) (As := [.int a0]) S (by decide) (cxX4_shorten l hfl G (ad 0) (ad 1) (ad 27) (ad 28) (ad 29) (ad 30) (ad 31) (ad 32) (ad 33) (ad 34) (ad 2) (ad 5) (ad 10) c.gain (ad 11) (ad 19) (ad 27) c.s2.pr c.s2.a c.s2.b c.s2.c c.s2.d c.s2.sp c.s2.mi c.s2.ti c.s2.w c.s2.s c.s2.h c.s2.va c.s2.ov c.s2.ra c.s2.ol c.s2.od c.s2.ne a0 2 gx 2 (by decide) (by rw [hs_a0]; decide) rfl) (cwV 1 hts gL_shorten_X4_shorten rfl rfl rfl hvX4_shorten ⟨Nat.le_of_ble_eq_true rfl, Nat.le_of_ble_eq_true rfl⟩) hK hT hP hD hS [0, 1, 27, 28, 29, 30, 31, 32, 33, 34] rfl 0 4 rfl rfl rfl rfl hl.1 rfl (Nat.le_of_ble_eq_true rfl) dL_shorten_4 ⟨Nat.le_of_ble_eq_true rfl, Nat.le_of_ble_eq_true rfl⟩ [{ startPc := 0, endPc := 9, handlerPc := 12, catchType := 20 }] { startPc := 0, endPc := 9, handlerPc := 15, catchType := 15 } [] (by rw [htab]; rfl) (tp_cons (nm := exn 3) (by decide) (hts (.classLink RL 20 "java/lang/IndexOutOfBoundsException") lkL_shorten_c20) (hN 2 (by decide) 3 (by decide) (by decide)) tp_nil) rfl (by decide) (hts (.classLink RL 15 "java/lang/IllegalStateException") lkL_shorten_c15) rfl (fun H locs q hP hD hS => ?_)
        refine lv_astore_n (lv' := [(3, .ref q), (0, .ref (ad 0)), (1, .int a0), (2, .ref qo)]) hx hb dL_shorten_15 rfl hl (by decide) rfl (fun ls hl => ?_)
        refine lv_iconst (v := 2) hx hb dL_shorten_16 (by decide) ?_
        exact hret _ _ _ _ _ rfl hP hD hS dL_shorten_17
      replace h := ite_f hk2 h
      by_cases hk3 : k0 = 3
      · subst hk3
        cases h
        refine lwC (k := 3) (rest := [.int 0, .ref qo]) (As := [.int a0]) S (by decide) (cxX4_shorten l hfl G (ad 0) (ad 1) (ad 27) (ad 28) (ad 29) (ad 30) (ad 31) (ad 32) (ad 33) (ad 34) (ad 2) (ad 5) (ad 10) c.gain (ad 11) (ad 19) (ad 27) c.s2.pr c.s2.a c.s2.b c.s2.c c.s2.d c.s2.sp c.s2.mi c.s2.ti c.s2.w c.s2.s c.s2.h c.s2.va c.s2.ov c.s2.ra c.s2.ol c.s2.od c.s2.ne a0 3 gx 2 (by decide) (by rw [hs_a0]; decide) rfl) (cwV 1 hts gL_shorten_X4_shorten rfl rfl rfl hvX4_shorten ⟨Nat.le_of_ble_eq_true rfl, Nat.le_of_ble_eq_true rfl⟩) hK hT hP hD hS [0, 1, 27, 28, 29, 30, 31, 32, 33, 34] rfl 0 4 rfl rfl rfl rfl hl.1 rfl (Nat.le_of_ble_eq_true rfl) dL_shorten_4 ⟨Nat.le_of_ble_eq_true rfl, Nat.le_of_ble_eq_true rfl⟩ [] { startPc := 0, endPc := 9, handlerPc := 12, catchType := 20 } [{ startPc := 0, endPc := 9, handlerPc := 15, catchType := 15 }] (by rw [htab]; rfl) tp_nil rfl (by decide) (hts (.classLink RL 20 "java/lang/IndexOutOfBoundsException") lkL_shorten_c20) rfl (fun H locs q hP hD hS => ?_)
        refine lv_astore_n (lv' := [(3, .ref q), (0, .ref (ad 0)), (1, .int a0), (2, .ref qo)]) hx hb dL_shorten_12 rfl hl (by decide) rfl (fun ls hl => ?_)
        refine lv_iconst (v := 1) hx hb dL_shorten_13 (by decide) ?_
        exact hret _ _ _ _ _ rfl hP hD hS dL_shorten_14
      cases (ite_f hk3 h)
    · obtain ⟨o0, o1, o2, o3, o4, o5, o6, o7, o8, o9, o10, o11, o12, o13, g, h⟩ := bnd14_e h
      cases h
      refine rwV_back (rest := [.int 0, .ref qo]) (As := [.int a0]) (wr := List.filterMap (fun i => (wdF G ad c ++ [(qo, .inl (G.2 3, 1, .inr (.inl f)))])[i]?) [2, 3, 4, 5, 6, 7, 8, 9, 10, 11, 12, 13, 14, 15, 16, 17, 18, 19, 20, 21, 22, 23, 24, 25, 26, 35]) (wf := wdF G ad (mkC c.gain c.il c.ip c.ia c.ig c.is c.im c.ic c.iq c.dn c.dm c.dj c.dt c.dx c.dy c.dr c.dv c.dw c.dq c.fw c.fs c.fh c.s0 c.s1 (mkS c.s2.pr o1 o2 o3 o4 c.s2.sp c.s2.mi c.s2.ti o5 o6 o7 o8 o9 o10 o11 o12 o13)) ++ [(qo, .inl (G.2 3, 1, .inr (.inl f)))]) S (ctX4_shorten l G (ad 0) (ad 1) (ad 27) (ad 28) (ad 29) (ad 30) (ad 31) (ad 32) (ad 33) (ad 34) (ad 2) (ad 5) (ad 10) c.gain (ad 11) (ad 19) (ad 27) c.s2.pr c.s2.a c.s2.b c.s2.c c.s2.d c.s2.sp c.s2.mi c.s2.ti c.s2.w c.s2.s c.s2.h c.s2.va c.s2.ov c.s2.ra c.s2.ol c.s2.od c.s2.ne a0 o0 o1 o2 o3 o4 o5 o6 o7 o8 o9 o10 o11 o12 o13 g 2 (by decide) (by rw [hs_a0]; decide) rfl) (cwV 1 hts gL_shorten_X4_shorten rfl rfl rfl hvX4_shorten ⟨Nat.le_of_ble_eq_true rfl, Nat.le_of_ble_eq_true rfl⟩) hK hP hD hS (SK.blind _) (fun U hU hW => SK.call hX hA hD hS [0, 1, 27, 28, 29, 30, 31, 32, 33, 34] rfl hU hW) [0, 1, 27, 28, 29, 30, 31, 32, 33, 34] [2, 3, 4, 5, 6, 7, 8, 9, 10, 11, 12, 13, 14, 15, 16, 17, 18, 19, 20, 21, 22, 23, 24, 25, 26, 35] [26, 27, 0, 1, 2, 3, 4, 5, 6, 7, 8, 9, 10, 11, 12, 13, 14, 15, 16, 17, 18, 19, 20, 21, 22, 23, 24, 28, 29, 30, 31, 32, 33, 34, 35, 25] rfl rfl rfl rfl rfl rfl rfl 0 4 rfl rfl rfl rfl hl.1 rfl (Nat.le_of_ble_eq_true rfl) dL_shorten_4 ⟨Nat.zero_le _, Nat.zero_le _⟩ (fun _ H locs hP hD hS => ?_)
      refine lv_i2l hx hb dL_shorten_7 rfl ?_
      refine va_last hx hb hK.1 hP hD hS 35 3 rfl rfl (i := 0) (vp_in_iff.mpr ⟨by decide, by decide⟩) dL_shorten_8 (fun H locs hP hD hS => ?_)
      refine lv_goto (tgt := 18) hx hb dL_shorten_9 (by decide) ?_
      refine lv_iconst (v := 0) hx hb dL_shorten_18 (by decide) ?_
      refine W.widen (k := 1) (n := 6) (by omega) (by omega) ?_
      exact hret _ _ _ _ _ rfl hP hD hS dL_shorten_19
  replace h := ite_f hs_a0 h
  have hn_a02 := hs_a0
  clear hs_a0
  have ho_a0 := slot_out hn_a00 hn_a01 hn_a02
  cases h
  refine lwC (k := 3) (rest := [.int 0, .ref qo]) (As := [.int a0]) S (by decide) (cxX4_shorteno l hfl G (ad 0) (ad 1) (ad 2) (ad 5) (ad 10) c.gain (ad 11) (ad 19) (ad 27) a0 ho_a0) (cwV 1 hts gL_shorten_X4_shorten rfl rfl rfl hvX4_shorten ⟨Nat.le_of_ble_eq_true rfl, Nat.le_of_ble_eq_true rfl⟩) hK hT hP hD hS [0, 1] rfl 0 4 rfl rfl rfl rfl hl.1 rfl (Nat.le_of_ble_eq_true rfl) dL_shorten_4 ⟨Nat.le_of_ble_eq_true rfl, Nat.le_of_ble_eq_true rfl⟩ [] { startPc := 0, endPc := 9, handlerPc := 12, catchType := 20 } [{ startPc := 0, endPc := 9, handlerPc := 15, catchType := 15 }] (by rw [htab]; rfl) tp_nil rfl (by decide) (hts (.classLink RL 20 "java/lang/IndexOutOfBoundsException") lkL_shorten_c20) rfl (fun H locs q hP hD hS => ?_)
  refine lv_astore_n (lv' := [(3, .ref q), (0, .ref (ad 0)), (1, .int a0), (2, .ref qo)]) hx hb dL_shorten_12 rfl hl (by decide) rfl (fun ls hl => ?_)
  refine lv_iconst (v := 1) hx hb dL_shorten_13 (by decide) ?_
  exact hret _ _ _ _ _ rfl hP hD hS dL_shorten_14
abbrev rmL_screen : Room := { frames := 8, cells := 1, slots := 6, locals := 134 }
theorem hsX4_screen : yX4_screen.cls ≠ "java/lang/invoke/MethodHandle" ∧ yX4_screen.cls ≠ "java/lang/invoke/VarHandle" ∧ (parseMethodDescriptor yX4_screen.desc).map (fun d => d.parameters.length) = some 2 := by decide +kernel
theorem hvX4_screen : yX4_screen.cls = RX4 ∧ yX4_screen.cls ≠ "java/lang/invoke/MethodHandle" ∧ yX4_screen.cls ≠ "java/lang/invoke/VarHandle" ∧ (parseMethodDescriptor yX4_screen.desc).map (fun d => d.parameters.length) = some 2 := ⟨rfl, hsX4_screen⟩
theorem lkL_screen_c20 : Cond.classLink RL 20 "java/lang/IndexOutOfBoundsException" ∈ wsL_screen := List.mem_of_getElem? (i := 1) rfl
theorem lkL_screen_c13 : Cond.classLink RL 13 "java/lang/IllegalArgumentException" ∈ wsL_screen := List.mem_of_getElem? (i := 2) rfl
theorem lkL_screen_c15 : Cond.classLink RL 15 "java/lang/IllegalStateException" ∈ wsL_screen := List.mem_of_getElem? (i := 3) rfl
set_option maxHeartbeats 4000000 in
set_option maxRecDepth 100000 in
theorem lw_screen (l : Launch) (hfl : l.stackTraces = false) (G : GG) (ad : Nat → Nat) (qo : Nat) (c c' : Cls) (f f' : Nat → Int64) (a0 : Int32) (a1 : Int32) (r0 : Int32) (h : lm_screen c f a0 a1 = some (r0, c', f')) : Met l yL_screen wsL_screen rmL_screen (va_Pc [.ref (ad 0), .int a0, .int a1, .ref qo] (PreD G (wdF G ad c ++ [(qo, .inl (G.2 3, 1, .inr (.inl f)))]) (XL (wdF G ad c ++ [(qo, .inl (G.2 3, 1, .inr (.inl f)))])))) (QwA G (va_A0 (wdF G ad c ++ [(qo, .inl (G.2 3, 1, .inr (.inl f)))])) (wdF G ad c' ++ [(qo, .inl (G.2 3, 1, .inr (.inl f')))]) (some (.int r0)) True) 1 6 (va_A0 (wdF G ad c ++ [(qo, .inl (G.2 3, 1, .inr (.inl f)))])) := by
  refine of_lw (cc := cL_screen) (maxL := 5) (hh := [(0, 10, 13, 20), (0, 10, 17, 13), (0, 10, 21, 15)]) (by decide) rfl (Nat.le_of_ble_eq_true rfl) ?_
  intro p e s m args below meth c1 ls Q A S htab hl hP hD hS hK hT hN hX hA hret
  obtain ⟨H, hH⟩ : ∃ H, H = s.heap := ⟨_, rfl⟩
  obtain ⟨locs, hlocs⟩ : ∃ L : List Loc, L = [] := ⟨_, rfl⟩
  rw [← hlocs]
  rw [← hlocs] at hS
  have hP : va_P G.1 vwCl (wdF G ad c ++ [(qo, .inl (G.2 3, 1, .inr (.inl f)))]) H := by rw [hH]; exact hP
  have hS : va_S A s.heap H locs := by rw [hH]; exact hS
  have hT : TT A s H := by rw [hH]; exact hT
  suffices hgo : W p l e rmL_screen s m args below meth c1 H locs 0 0 Q (F0 m 0 ls []) by rw [hH] at hgo; exact hgo
  have S : CallFix p m c1 cL_screen 5 s args wsL_screen RL := S
  obtain ⟨hx, hb, hml, hown, hts⟩ := id S
  have hl : lv_has ls 5 [(0, .ref (ad 0)), (1, .int a0), (2, .int a1), (3, .ref qo)] := hl
  unfold lm_screen at h
  refine lv_aload_n hx hb dL_screen_0 rfl (lv_at hl 3 rfl) ?_
  refine lv_iconst (v := 0) hx hb dL_screen_1 (by decide) ?_
  refine lv_aload_n hx hb dL_screen_2 rfl (lv_at hl 0 rfl) ?_
  refine lv_iload_n hx hb dL_screen_3 rfl (lv_at hl 1 rfl) ?_
  refine lv_iload_n hx hb dL_screen_4 rfl (lv_at hl 2 rfl) ?_
  by_cases hs_a0 : a0 = 0
  · replace h := ite_t hs_a0 h
    rcases lq_e h with ⟨k0, gx, h⟩ | ⟨gx, h⟩
    · by_cases hk1 : k0 = 1
      · subst hk1
        cases h
        refine lwC (k := 1) (rest := [.int 0, .ref qo]) (As := [.int a0, .int a1]) S (by decide) (cxX4_screen l hfl G (ad 0) (ad 1) (ad 11) (ad 12) (ad 13) (ad 14) (ad 15) (ad 16) (ad 17) (ad 18) (ad 2) (ad 5) (ad 10) c.gain (ad 11) (ad 19) (ad 27) c.s0.pr c.s0.a c.s0.b c.s0.c c.s0.d c.s0.sp c.s0.mi c.s0.ti c.s0.w c.s0.s c.s0.h c.s0.va c.s0.ov c.s0.ra c.s0.ol c.s0.od c.s0.ne a0 a1 1 gx 0 (by decide) (by rw [hs_a0]; decide) rfl) (cwV 2 hts gL_screen_X4_screen rfl rfl rfl hvX4_screen ⟨Nat.le_of_ble_eq_true rfl, Nat.le_of_ble_eq_true rfl⟩) hK hT hP hD hS [0, 1, 11, 12, 13, 14, 15, 16, 17, 18] rfl 0 4 rfl rfl rfl rfl hl.1 rfl (Nat.le_of_ble_eq_true rfl) dL_screen_5 ⟨Nat.le_of_ble_eq_true rfl, Nat.le_of_ble_eq_true rfl⟩ [{ startPc := 0, endPc := 10, handlerPc := 13, catchType := 20 }] { startPc := 0, endPc := 10, handlerPc := 17, catchType := 13 } [{ startPc := 0, endPc := 10, handlerPc := 21, catchType := 15 }] (by rw [htab]; rfl) (tp_cons (nm := exn 3) (by decide) (hts (.classLink RL 20 "java/lang/IndexOutOfBoundsException") lkL_screen_c20) (hN 1 (by decide) 3 (by decide) (by decide)) tp_nil) rfl (by decide) (hts (.classLink RL 13 "java/lang/IllegalArgumentException") lkL_screen_c13) rfl (fun H locs q hP hD hS => ?_)
        refine lv_astore (lv' := [(4, .ref q), (0, .ref (ad 0)), (1, .int a0), (2, .int a1), (3, .ref qo)]) hx hb dL_screen_17 hl (by decide) rfl (fun ls hl => ?_)
        refine lv_iconst (v := 2) hx hb dL_screen_19 (by decide) ?_
        exact hret _ _ _ _ _ rfl hP hD hS dL_screen_20
      replace h := ite_f hk1 h
      by_cases hk2 : k0 = 2
      · subst hk2
        cases h
        refine lwC (k := 2) (rest := [.int 0, .ref qo]) (As := [.int a0, .int a1]) S (by decide) (cxX4_screen l hfl G (ad 0) (ad 1) (ad 11) (ad 12) (ad 13) (ad 14) (ad 15) (ad 16) (ad 17) (ad 18) (ad 2) (ad 5) (ad 10) c.gain (ad 11) (ad 19) (ad 27) c.s0.pr c.s0.a c.s0.b c.s0.c c.s0.d c.s0.sp c.s0.mi c.s0.ti c.s0.w c.s0.s c.s0.h c.s0.va c.s0.ov c.s0.ra c.s0.ol c.s0.od c.s0.ne a0 a1 2 gx 0 (by decide) (by rw [hs_a0]; decide) rfl) (cwV 2 hts gL_screen_X4_screen rfl rfl rfl hvX4_screen ⟨Nat.le_of_ble_eq_true rfl, Nat.le_of_ble_eq_true rfl⟩) hK hT hP hD hS [0, 1, 11, 12, 13, 14, 15, 16, 17, 18] rfl 0 4 rfl rfl rfl rfl hl.1 rfl (Nat.le_of_ble_eq_true rfl) dL_screen_5 ⟨Nat.le_of_ble_eq_true rfl, Nat.le_of_ble_eq_true rfl⟩ [{ startPc := 0, endPc := 10, handlerPc := 13, catchType := 20 }, { startPc := 0, endPc := 10, handlerPc := 17, catchType := 13 }] { startPc := 0, endPc := 10, handlerPc := 21, catchType := 15 } [] (by rw [htab]; rfl) (tp_cons (nm := exn 3) (by decide) (hts (.classLink RL 20 "java/lang/IndexOutOfBoundsException") lkL_screen_c20) (hN 2 (by decide) 3 (by decide) (by decide)) (tp_cons (nm := exn 1) (by decide) (hts (.classLink RL 13 "java/lang/IllegalArgumentException") lkL_screen_c13) (hN 2 (by decide) 1 (by decide) (by decide)) tp_nil)) rfl (by decide) (hts (.classLink RL 15 "java/lang/IllegalStateException") lkL_screen_c15) rfl (fun H locs q hP hD hS => ?_)
        refine lv_astore (lv' := [(4, .ref q), (0, .ref (ad 0)), (1, .int a0), (2, .int a1), (3, .ref qo)]) hx hb dL_screen_21 hl (by decide) rfl (fun ls hl => ?_)
        refine lv_iconst (v := 3) hx hb dL_screen_23 (by decide) ?_
        exact hret _ _ _ _ _ rfl hP hD hS dL_screen_24
      replace h := ite_f hk2 h
      by_cases hk3 : k0 = 3
      · subst hk3
        cases h
        refine lwC (k := 3) (rest := [.int 0, .ref qo]) (As := [.int a0, .int a1]) S (by decide) (cxX4_screen l hfl G (ad 0) (ad 1) (ad 11) (ad 12) (ad 13) (ad 14) (ad 15) (ad 16) (ad 17) (ad 18) (ad 2) (ad 5) (ad 10) c.gain (ad 11) (ad 19) (ad 27) c.s0.pr c.s0.a c.s0.b c.s0.c c.s0.d c.s0.sp c.s0.mi c.s0.ti c.s0.w c.s0.s c.s0.h c.s0.va c.s0.ov c.s0.ra c.s0.ol c.s0.od c.s0.ne a0 a1 3 gx 0 (by decide) (by rw [hs_a0]; decide) rfl) (cwV 2 hts gL_screen_X4_screen rfl rfl rfl hvX4_screen ⟨Nat.le_of_ble_eq_true rfl, Nat.le_of_ble_eq_true rfl⟩) hK hT hP hD hS [0, 1, 11, 12, 13, 14, 15, 16, 17, 18] rfl 0 4 rfl rfl rfl rfl hl.1 rfl (Nat.le_of_ble_eq_true rfl) dL_screen_5 ⟨Nat.le_of_ble_eq_true rfl, Nat.le_of_ble_eq_true rfl⟩ [] { startPc := 0, endPc := 10, handlerPc := 13, catchType := 20 } [{ startPc := 0, endPc := 10, handlerPc := 17, catchType := 13 }, { startPc := 0, endPc := 10, handlerPc := 21, catchType := 15 }] (by rw [htab]; rfl) tp_nil rfl (by decide) (hts (.classLink RL 20 "java/lang/IndexOutOfBoundsException") lkL_screen_c20) rfl (fun H locs q hP hD hS => ?_)
        refine lv_astore (lv' := [(4, .ref q), (0, .ref (ad 0)), (1, .int a0), (2, .int a1), (3, .ref qo)]) hx hb dL_screen_13 hl (by decide) rfl (fun ls hl => ?_)
        refine lv_iconst (v := 1) hx hb dL_screen_15 (by decide) ?_
        exact hret _ _ _ _ _ rfl hP hD hS dL_screen_16
      cases (ite_f hk3 h)
    · obtain ⟨o0, g, h⟩ := bnd1_e h
      cases h
      refine roVi1 (rest := [.int 0, .ref qo]) (As := [.int a0, .int a1]) S (ctX4_screen l G (ad 0) (ad 1) (ad 11) (ad 12) (ad 13) (ad 14) (ad 15) (ad 16) (ad 17) (ad 18) (ad 2) (ad 5) (ad 10) c.gain (ad 11) (ad 19) (ad 27) c.s0.pr c.s0.a c.s0.b c.s0.c c.s0.d c.s0.sp c.s0.mi c.s0.ti c.s0.w c.s0.s c.s0.h c.s0.va c.s0.ov c.s0.ra c.s0.ol c.s0.od c.s0.ne a0 a1 o0 g 0 (by decide) (by rw [hs_a0]; decide) rfl) (cwV 2 hts gL_screen_X4_screen rfl rfl rfl hvX4_screen ⟨Nat.le_of_ble_eq_true rfl, Nat.le_of_ble_eq_true rfl⟩) hK hP [0, 1, 11, 12, 13, 14, 15, 16, 17, 18] rfl 0 4 rfl rfl rfl rfl hl.1 rfl (Nat.le_of_ble_eq_true rfl) dL_screen_5 ⟨Nat.zero_le _, Nat.zero_le _⟩ (fun _ => ?_)
      refine lv_i2l hx hb dL_screen_8 rfl ?_
      refine va_last hx hb hK.1 hP hD hS 35 3 rfl rfl (i := 0) (vp_in_iff.mpr ⟨by decide, by decide⟩) dL_screen_9 (fun H locs hP hD hS => ?_)
      refine lv_goto (tgt := 25) hx hb dL_screen_10 (by decide) ?_
      refine lv_iconst (v := 0) hx hb dL_screen_25 (by decide) ?_
      refine W.widen (k := 1) (n := 6) (by omega) (by omega) ?_
      exact hret _ _ _ _ _ rfl hP hD hS dL_screen_26
  replace h := ite_f hs_a0 h
  have hn_a00 := hs_a0
  clear hs_a0
  by_cases hs_a0 : a0 = 1
  · replace h := ite_t hs_a0 h
    rcases lq_e h with ⟨k0, gx, h⟩ | ⟨gx, h⟩
    · by_cases hk1 : k0 = 1
      · subst hk1
        cases h
        refine lwC (k := 1) (rest := [.int 0, .ref qo]) (As := [.int a0, .int a1]) S (by decide) (cxX4_screen l hfl G (ad 0) (ad 1) (ad 19) (ad 20) (ad 21) (ad 22) (ad 23) (ad 24) (ad 25) (ad 26) (ad 2) (ad 5) (ad 10) c.gain (ad 11) (ad 19) (ad 27) c.s1.pr c.s1.a c.s1.b c.s1.c c.s1.d c.s1.sp c.s1.mi c.s1.ti c.s1.w c.s1.s c.s1.h c.s1.va c.s1.ov c.s1.ra c.s1.ol c.s1.od c.s1.ne a0 a1 1 gx 1 (by decide) (by rw [hs_a0]; decide) rfl) (cwV 2 hts gL_screen_X4_screen rfl rfl rfl hvX4_screen ⟨Nat.le_of_ble_eq_true rfl, Nat.le_of_ble_eq_true rfl⟩) hK hT hP hD hS [0, 1, 19, 20, 21, 22, 23, 24, 25, 26] rfl 0 4 rfl rfl rfl rfl hl.1 rfl (Nat.le_of_ble_eq_true rfl) dL_screen_5 ⟨Nat.le_of_ble_eq_true rfl, Nat.le_of_ble_eq_true rfl⟩ [{ startPc := 0, endPc := 10, handlerPc := 13, catchType := 20 }] { startPc := 0, endPc := 10, handlerPc := 17, catchType := 13 } [{ startPc := 0, endPc := 10, handlerPc := 21, catchType := 15 }] (by rw [htab]; rfl) (tp_cons (nm := exn 3) (by decide) (hts (.classLink RL 20 "java/lang/IndexOutOfBoundsException") lkL_screen_c20) (hN 1 (by decide) 3 (by decide) (by decide)) tp_nil) rfl (by decide) (hts (.classLink RL 13 "java/lang/IllegalArgumentException") lkL_screen_c13) rfl (fun H locs q hP hD hS => ?_)
        refine lv_astore (lv' := [(4, .ref q), (0, .ref (ad 0)), (1, .int a0), (2, .int a1), (3, .ref qo)]) hx hb dL_screen_17 hl (by decide) rfl (fun ls hl => ?_)
        refine lv_iconst (v := 2) hx hb dL_screen_19 (by decide) ?_
        exact hret _ _ _ _ _ rfl hP hD hS dL_screen_20
      replace h := ite_f hk1 h
      by_cases hk2 : k0 = 2
      · subst hk2
        cases h
        refine lwC (k := 2) (rest := [.int 0, .ref qo]) (As := [.int a0, .int a1]) S (by decide) (cxX4_screen l hfl G (ad 0) (ad 1) (ad 19) (ad 20) (ad 21) (ad 22) (ad 23) (ad 24) (ad 25) (ad 26) (ad 2) (ad 5) (ad 10) c.gain (ad 11) (ad 19) (ad 27) c.s1.pr c.s1.a c.s1.b c.s1.c c.s1.d c.s1.sp c.s1.mi c.s1.ti c.s1.w c.s1.s c.s1.h c.s1.va c.s1.ov c.s1.ra c.s1.ol c.s1.od c.s1.ne a0 a1 2 gx 1 (by decide) (by rw [hs_a0]; decide) rfl) (cwV 2 hts gL_screen_X4_screen rfl rfl rfl hvX4_screen ⟨Nat.le_of_ble_eq_true rfl, Nat.le_of_ble_eq_true rfl⟩) hK hT hP hD hS [0, 1, 19, 20, 21, 22, 23, 24, 25, 26] rfl 0 4 rfl rfl rfl rfl hl.1 rfl (Nat.le_of_ble_eq_true rfl) dL_screen_5 ⟨Nat.le_of_ble_eq_true rfl, Nat.le_of_ble_eq_true rfl⟩ [{ startPc := 0, endPc := 10, handlerPc := 13, catchType := 20 }, { startPc := 0, endPc := 10, handlerPc := 17, catchType := 13 }] { startPc := 0, endPc := 10, handlerPc := 21, catchType := 15 } [] (by rw [htab]; rfl) (tp_cons (nm := exn 3) (by decide) (hts (.classLink RL 20 "java/lang/IndexOutOfBoundsException") lkL_screen_c20) (hN 2 (by decide) 3 (by decide) (by decide)) (tp_cons (nm := exn 1) (by decide) (hts (.classLink RL 13 "java/lang/IllegalArgumentException") lkL_screen_c13) (hN 2 (by decide) 1 (by decide) (by decide)) tp_nil)) rfl (by decide) (hts (.classLink RL 15 "java/lang/IllegalStateException") lkL_screen_c15) rfl (fun H locs q hP hD hS => ?_)
        refine lv_astore (lv' := [(4, .ref q), (0, .ref (ad 0)), (1, .int a0), (2, .int a1), (3, .ref qo)]) hx hb dL_screen_21 hl (by decide) rfl (fun ls hl => ?_)
        refine lv_iconst (v := 3) hx hb dL_screen_23 (by decide) ?_
        exact hret _ _ _ _ _ rfl hP hD hS dL_screen_24
      replace h := ite_f hk2 h
      by_cases hk3 : k0 = 3
      · subst hk3
        cases h
        refine lwC (k := 3) (rest := [.int 0, .ref qo]) (As := [.int a0, .int a1]) S (by decide) (cxX4_screen l hfl G (ad 0) (ad 1) (ad 19) (ad 20) (ad 21) (ad 22) (ad 23) (ad 24) (ad 25) (ad 26) (ad 2) (ad 5) (ad 10) c.gain (ad 11) (ad 19) (ad 27) c.s1.pr c.s1.a c.s1.b c.s1.c c.s1.d c.s1.sp c.s1.mi c.s1.ti c.s1.w c.s1.s c.s1.h c.s1.va c.s1.ov c.s1.ra c.s1.ol c.s1.od c.s1.ne a0 a1 3 gx 1 (by decide) (by rw [hs_a0]; decide) rfl) (cwV 2 hts gL_screen_X4_screen rfl rfl rfl hvX4_screen ⟨Nat.le_of_ble_eq_true rfl, Nat.le_of_ble_eq_true rfl⟩) hK hT hP hD hS [0, 1, 19, 20, 21, 22, 23, 24, 25, 26] rfl 0 4 rfl rfl rfl rfl hl.1 rfl (Nat.le_of_ble_eq_true rfl) dL_screen_5 ⟨Nat.le_of_ble_eq_true rfl, Nat.le_of_ble_eq_true rfl⟩ [] { startPc := 0, endPc := 10, handlerPc := 13, catchType := 20 } [{ startPc := 0, endPc := 10, handlerPc := 17, catchType := 13 }, { startPc := 0, endPc := 10, handlerPc := 21, catchType := 15 }] (by rw [htab]; rfl) tp_nil rfl (by decide) (hts (.classLink RL 20 "java/lang/IndexOutOfBoundsException") lkL_screen_c20) rfl (fun H locs q hP hD hS => ?_)
        refine lv_astore (lv' := [(4, .ref q), (0, .ref (ad 0)), (1, .int a0), (2, .int a1), (3, .ref qo)]) hx hb dL_screen_13 hl (by decide) rfl (fun ls hl => ?_)
        refine lv_iconst (v := 1) hx hb dL_screen_15 (by decide) ?_
        exact hret _ _ _ _ _ rfl hP hD hS dL_screen_16
      cases (ite_f hk3 h)
    · obtain ⟨o0, g, h⟩ := bnd1_e h
      cases h
      refine roVi1 (rest := [.int 0, .ref qo]) (As := [.int a0, .int a1]) S (ctX4_screen l G (ad 0) (ad 1) (ad 19) (ad 20) (ad 21) (ad 22) (ad 23) (ad 24) (ad 25) (ad 26) (ad 2) (ad 5) (ad 10) c.gain (ad 11) (ad 19) (ad 27) c.s1.pr c.s1.a c.s1.b c.s1.c c.s1.d c.s1.sp c.s1.mi c.s1.ti c.s1.w c.s1.s c.s1.h c.s1.va c.s1.ov c.s1.ra c.s1.ol c.s1.od c.s1.ne a0 a1 o0 g 1 (by decide) (by rw [hs_a0]; decide) rfl) (cwV 2 hts gL_screen_X4_screen rfl rfl rfl hvX4_screen ⟨Nat.le_of_ble_eq_true rfl, Nat.le_of_ble_eq_true rfl⟩) hK hP [0, 1, 19, 20, 21, 22, 23, 24, 25, 26] rfl 0 4 rfl rfl rfl rfl hl.1 rfl (Nat.le_of_ble_eq_true rfl) dL_screen_5 ⟨Nat.zero_le _, Nat.zero_le _⟩ (fun _ => ?_)
      refine lv_i2l hx hb dL_screen_8 rfl ?_
      refine va_last hx hb hK.1 hP hD hS 35 3 rfl rfl (i := 0) (vp_in_iff.mpr ⟨by decide, by decide⟩) dL_screen_9 (fun H locs hP hD hS => ?_)
      refine lv_goto (tgt := 25) hx hb dL_screen_10 (by decide) ?_
      refine lv_iconst (v := 0) hx hb dL_screen_25 (by decide) ?_
      refine W.widen (k := 1) (n := 6) (by omega) (by omega) ?_
      exact hret _ _ _ _ _ rfl hP hD hS dL_screen_26
  replace h := ite_f hs_a0 h
  have hn_a01 := hs_a0
  clear hs_a0
  by_cases hs_a0 : a0 = 2
  · replace h := ite_t hs_a0 h
    rcases lq_e h with ⟨k0, gx, h⟩ | ⟨gx, h⟩
    · by_cases hk1 : k0 = 1
      · subst hk1
        cases h
        refine lwC (k := 1) (rest := [.int 0, .ref qo]) (As := [.int a0, .int a1]) S (by decide) (cxX4_screen l hfl G (ad 0) (ad 1) (ad 27) (ad 28) (ad 29) (ad 30) (ad 31) (ad 32) (ad 33) (ad 34) (ad 2) (ad 5) (ad 10) c.gain (ad 11) (ad 19) (ad 27) c.s2.pr c.s2.a c.s2.b c.s2.c c.s2.d c.s2.sp c.s2.mi c.s2.ti c.s2.w c.s2.s c.s2.h c.s2.va c.s2.ov c.s2.ra c.s2.ol c.s2.od c.s2.ne a0 a1 1 gx 2 (by decide) (by rw [hs_a0]; decide) rfl) (cwV 2 hts gL_screen_X4_screen rfl rfl rfl hvX4_screen ⟨Nat.le_of_ble_eq_true rfl, Nat.le_of_ble_eq_true rfl⟩) hK hT hP hD hS [0, 1, 27, 28, 29, 30, 31, 32, 33, 34] rfl 0 4 rfl rfl rfl rfl hl.1 rfl (Nat.le_of_ble_eq_true rfl) dL_screen_5 ⟨Nat.le_of_ble_eq_true rfl, Nat.le_of_ble_eq_true rfl⟩ [{ startPc := 0, endPc := 10, handlerPc := 13, catchType := 20 }] { startPc := 0, endPc := 10, handlerPc := 17, catchType := 13 } [{ startPc := 0, endPc := 10, handlerPc := 21, catchType := 15 }] (by rw [htab]; rfl) (tp_cons (nm := exn 3) (by decide) (hts (.classLink RL 20 "java/lang/IndexOutOfBoundsException") lkL_screen_c20) (hN 1 (by decide) 3 (by decide) (by decide)) tp_nil) rfl (by decide) (hts (.classLink RL 13 "java/lang/IllegalArgumentException") lkL_screen_c13) rfl (fun H locs q hP hD hS => ?_)
        refine lv_astore (lv' := [(4, .ref q), (0, .ref (ad 0)), (1, .int a0), (2, .int a1), (3, .ref qo)]) hx hb dL_screen_17 hl (by decide) rfl (fun ls hl => ?_)
        refine lv_iconst (v := 2) hx hb dL_screen_19 (by decide) ?_
        exact hret _ _ _ _ _ rfl hP hD hS dL_screen_20
      replace h := ite_f hk1 h
      by_cases hk2 : k0 = 2
      · subst hk2
        cases h
        refine lwC (k := 2) (rest := [.int 0, .ref qo]) (As := [.int a0, .int a1]) S (by decide) (cxX4_screen l hfl G (ad 0) (ad 1) (ad 27) (ad 28) (ad 29) (ad 30) (ad 31) (ad 32) (ad 33) (ad 34) (ad 2) (ad 5) (ad 10) c.gain (ad 11) (ad 19) (ad 27) c.s2.pr c.s2.a c.s2.b c.s2.c c.s2.d c.s2.sp c.s2.mi c.s2.ti c.s2.w c.s2.s c.s2.h c.s2.va c.s2.ov c.s2.ra c.s2.ol c.s2.od c.s2.ne a0 a1 2 gx 2 (by decide) (by rw [hs_a0]; decide) rfl) (cwV 2 hts gL_screen_X4_screen rfl rfl rfl hvX4_screen ⟨Nat.le_of_ble_eq_true rfl, Nat.le_of_ble_eq_true rfl⟩) hK hT hP hD hS [0, 1, 27, 28, 29, 30, 31, 32, 33, 34] rfl 0 4 rfl rfl rfl rfl hl.1 rfl (Nat.le_of_ble_eq_true rfl) dL_screen_5 ⟨Nat.le_of_ble_eq_true rfl, Nat.le_of_ble_eq_true rfl⟩ [{ startPc := 0, endPc := 10, handlerPc := 13, catchType := 20 }, { startPc := 0, endPc := 10, handlerPc := 17, catchType := 13 }] { startPc := 0, endPc := 10, handlerPc := 21, catchType := 15 } [] (by rw [htab]; rfl) (tp_cons (nm := exn 3) (by decide) (hts (.classLink RL 20 "java/lang/IndexOutOfBoundsException") lkL_screen_c20) (hN 2 (by decide) 3 (by decide) (by decide)) (tp_cons (nm := exn 1) (by decide) (hts (.classLink RL 13 "java/lang/IllegalArgumentException") lkL_screen_c13) (hN 2 (by decide) 1 (by decide) (by decide)) tp_nil)) rfl (by decide) (hts (.classLink RL 15 "java/lang/IllegalStateException") lkL_screen_c15) rfl (fun H locs q hP hD hS => ?_)
        refine lv_astore (lv' := [(4, .ref q), (0, .ref (ad 0)), (1, .int a0), (2, .int a1), (3, .ref qo)]) hx hb dL_screen_21 hl (by decide) rfl (fun ls hl => ?_)
        refine lv_iconst (v := 3) hx hb dL_screen_23 (by decide) ?_
        exact hret _ _ _ _ _ rfl hP hD hS dL_screen_24
      replace h := ite_f hk2 h
      by_cases hk3 : k0 = 3
      · subst hk3
        cases h
        refine lwC (k := 3) (rest := [.int 0, .ref qo]) (As := [.int a0, .int a1]) S (by decide) (cxX4_screen l hfl G (ad 0) (ad 1) (ad 27) (ad 28) (ad 29) (ad 30) (ad 31) (ad 32) (ad 33) (ad 34) (ad 2) (ad 5) (ad 10) c.gain (ad 11) (ad 19) (ad 27) c.s2.pr c.s2.a c.s2.b c.s2.c c.s2.d c.s2.sp c.s2.mi c.s2.ti c.s2.w c.s2.s c.s2.h c.s2.va c.s2.ov c.s2.ra c.s2.ol c.s2.od c.s2.ne a0 a1 3 gx 2 (by decide) (by rw [hs_a0]; decide) rfl) (cwV 2 hts gL_screen_X4_screen rfl rfl rfl hvX4_screen ⟨Nat.le_of_ble_eq_true rfl, Nat.le_of_ble_eq_true rfl⟩) hK hT hP hD hS [0, 1, 27, 28, 29, 30, 31, 32, 33, 34] rfl 0 4 rfl rfl rfl rfl hl.1 rfl (Nat.le_of_ble_eq_true rfl) dL_screen_5 ⟨Nat.le_of_ble_eq_true rfl, Nat.le_of_ble_eq_true rfl⟩ [] { startPc := 0, endPc := 10, handlerPc := 13, catchType := 20 } [{ startPc := 0, endPc := 10, handlerPc := 17, catchType := 13 }, { startPc := 0, endPc := 10, handlerPc := 21, catchType := 15 }] (by rw [htab]; rfl) tp_nil rfl (by decide) (hts (.classLink RL 20 "java/lang/IndexOutOfBoundsException") lkL_screen_c20) rfl (fun H locs q hP hD hS => ?_)
        refine lv_astore (lv' := [(4, .ref q), (0, .ref (ad 0)), (1, .int a0), (2, .int a1), (3, .ref qo)]) hx hb dL_screen_13 hl (by decide) rfl (fun ls hl => ?_)
        refine lv_iconst (v := 1) hx hb dL_screen_15 (by decide) ?_
        exact hret _ _ _ _ _ rfl hP hD hS dL_screen_16
      cases (ite_f hk3 h)
    · obtain ⟨o0, g, h⟩ := bnd1_e h
      cases h
      refine roVi1 (rest := [.int 0, .ref qo]) (As := [.int a0, .int a1]) S (ctX4_screen l G (ad 0) (ad 1) (ad 27) (ad 28) (ad 29) (ad 30) (ad 31) (ad 32) (ad 33) (ad 34) (ad 2) (ad 5) (ad 10) c.gain (ad 11) (ad 19) (ad 27) c.s2.pr c.s2.a c.s2.b c.s2.c c.s2.d c.s2.sp c.s2.mi c.s2.ti c.s2.w c.s2.s c.s2.h c.s2.va c.s2.ov c.s2.ra c.s2.ol c.s2.od c.s2.ne a0 a1 o0 g 2 (by decide) (by rw [hs_a0]; decide) rfl) (cwV 2 hts gL_screen_X4_screen rfl rfl rfl hvX4_screen ⟨Nat.le_of_ble_eq_true rfl, Nat.le_of_ble_eq_true rfl⟩) hK hP [0, 1, 27, 28, 29, 30, 31, 32, 33, 34] rfl 0 4 rfl rfl rfl rfl hl.1 rfl (Nat.le_of_ble_eq_true rfl) dL_screen_5 ⟨Nat.zero_le _, Nat.zero_le _⟩ (fun _ => ?_)
      refine lv_i2l hx hb dL_screen_8 rfl ?_
      refine va_last hx hb hK.1 hP hD hS 35 3 rfl rfl (i := 0) (vp_in_iff.mpr ⟨by decide, by decide⟩) dL_screen_9 (fun H locs hP hD hS => ?_)
      refine lv_goto (tgt := 25) hx hb dL_screen_10 (by decide) ?_
      refine lv_iconst (v := 0) hx hb dL_screen_25 (by decide) ?_
      refine W.widen (k := 1) (n := 6) (by omega) (by omega) ?_
      exact hret _ _ _ _ _ rfl hP hD hS dL_screen_26
  replace h := ite_f hs_a0 h
  have hn_a02 := hs_a0
  clear hs_a0
  have ho_a0 := slot_out hn_a00 hn_a01 hn_a02
  cases h
  refine lwC (k := 3) (rest := [.int 0, .ref qo]) (As := [.int a0, .int a1]) S (by decide) (cxX4_screeno l hfl G (ad 0) (ad 1) (ad 2) (ad 5) (ad 10) c.gain (ad 11) (ad 19) (ad 27) a0 a1 ho_a0) (cwV 2 hts gL_screen_X4_screen rfl rfl rfl hvX4_screen ⟨Nat.le_of_ble_eq_true rfl, Nat.le_of_ble_eq_true rfl⟩) hK hT hP hD hS [0, 1] rfl 0 4 rfl rfl rfl rfl hl.1 rfl (Nat.le_of_ble_eq_true rfl) dL_screen_5 ⟨Nat.le_of_ble_eq_true rfl, Nat.le_of_ble_eq_true rfl⟩ [] { startPc := 0, endPc := 10, handlerPc := 13, catchType := 20 } [{ startPc := 0, endPc := 10, handlerPc := 17, catchType := 13 }, { startPc := 0, endPc := 10, handlerPc := 21, catchType := 15 }] (by rw [htab]; rfl) tp_nil rfl (by decide) (hts (.classLink RL 20 "java/lang/IndexOutOfBoundsException") lkL_screen_c20) rfl (fun H locs q hP hD hS => ?_)
  refine lv_astore (lv' := [(4, .ref q), (0, .ref (ad 0)), (1, .int a0), (2, .int a1), (3, .ref qo)]) hx hb dL_screen_13 hl (by decide) rfl (fun ls hl => ?_)
  refine lv_iconst (v := 1) hx hb dL_screen_15 (by decide) ?_
  exact hret _ _ _ _ _ rfl hP hD hS dL_screen_16
abbrev rmL_placeOf : Room := { frames := 8, cells := 1, slots := 6, locals := 134 }
theorem hsX4_placeOf : yX4_placeOf.cls ≠ "java/lang/invoke/MethodHandle" ∧ yX4_placeOf.cls ≠ "java/lang/invoke/VarHandle" ∧ (parseMethodDescriptor yX4_placeOf.desc).map (fun d => d.parameters.length) = some 2 := by decide +kernel
theorem hvX4_placeOf : yX4_placeOf.cls = RX4 ∧ yX4_placeOf.cls ≠ "java/lang/invoke/MethodHandle" ∧ yX4_placeOf.cls ≠ "java/lang/invoke/VarHandle" ∧ (parseMethodDescriptor yX4_placeOf.desc).map (fun d => d.parameters.length) = some 2 := ⟨rfl, hsX4_placeOf⟩
theorem lkL_placeOf_c20 : Cond.classLink RL 20 "java/lang/IndexOutOfBoundsException" ∈ wsL_placeOf := List.mem_of_getElem? (i := 1) rfl
theorem lkL_placeOf_c15 : Cond.classLink RL 15 "java/lang/IllegalStateException" ∈ wsL_placeOf := List.mem_of_getElem? (i := 2) rfl
set_option maxHeartbeats 4000000 in
set_option maxRecDepth 100000 in
theorem lw_placeOf (l : Launch) (hfl : l.stackTraces = false) (G : GG) (ad : Nat → Nat) (qo : Nat) (c c' : Cls) (f f' : Nat → Int64) (a0 : Int32) (a1 : Int32) (r0 : Int32) (h : lm_placeOf c f a0 a1 = some (r0, c', f')) : Met l yL_placeOf wsL_placeOf rmL_placeOf (va_Pc [.ref (ad 0), .int a0, .int a1, .ref qo] (PreD G (wdF G ad c ++ [(qo, .inl (G.2 3, 1, .inr (.inl f)))]) (XL (wdF G ad c ++ [(qo, .inl (G.2 3, 1, .inr (.inl f)))])))) (QwA G (va_A0 (wdF G ad c ++ [(qo, .inl (G.2 3, 1, .inr (.inl f)))])) (wdF G ad c' ++ [(qo, .inl (G.2 3, 1, .inr (.inl f')))]) (some (.int r0)) True) 1 6 (va_A0 (wdF G ad c ++ [(qo, .inl (G.2 3, 1, .inr (.inl f)))])) := by
  refine of_lw (cc := cL_placeOf) (maxL := 5) (hh := [(0, 10, 13, 20), (0, 10, 17, 15)]) (by decide) rfl (Nat.le_of_ble_eq_true rfl) ?_
  intro p e s m args below meth c1 ls Q A S htab hl hP hD hS hK hT hN hX hA hret
  obtain ⟨H, hH⟩ : ∃ H, H = s.heap := ⟨_, rfl⟩
  obtain ⟨locs, hlocs⟩ : ∃ L : List Loc, L = [] := ⟨_, rfl⟩
  rw [← hlocs]
  rw [← hlocs] at hS
  have hP : va_P G.1 vwCl (wdF G ad c ++ [(qo, .inl (G.2 3, 1, .inr (.inl f)))]) H := by rw [hH]; exact hP
  have hS : va_S A s.heap H locs := by rw [hH]; exact hS
  have hT : TT A s H := by rw [hH]; exact hT
  suffices hgo : W p l e rmL_placeOf s m args below meth c1 H locs 0 0 Q (F0 m 0 ls []) by rw [hH] at hgo; exact hgo
  have S : CallFix p m c1 cL_placeOf 5 s args wsL_placeOf RL := S
  obtain ⟨hx, hb, hml, hown, hts⟩ := id S
  have hl : lv_has ls 5 [(0, .ref (ad 0)), (1, .int a0), (2, .int a1), (3, .ref qo)] := hl
  unfold lm_placeOf at h
  refine lv_aload_n hx hb dL_placeOf_0 rfl (lv_at hl 3 rfl) ?_
  refine lv_iconst (v := 0) hx hb dL_placeOf_1 (by decide) ?_
  refine lv_aload_n hx hb dL_placeOf_2 rfl (lv_at hl 0 rfl) ?_
  refine lv_iload_n hx hb dL_placeOf_3 rfl (lv_at hl 1 rfl) ?_
  refine lv_iload_n hx hb dL_placeOf_4 rfl (lv_at hl 2 rfl) ?_
  by_cases hs_a0 : a0 = 0
  · replace h := ite_t hs_a0 h
    rcases lq_e h with ⟨k0, gx, h⟩ | ⟨gx, h⟩
    · by_cases hk2 : k0 = 2
      · subst hk2
        cases h
        refine lwC (k := 2) (rest := [.int 0, .ref qo]) (As := [.int a0, .int a1]) S (by decide) (cxX4_placeOf l hfl G (ad 0) (ad 1) (ad 11) (ad 12) (ad 13) (ad 14) (ad 15) (ad 16) (ad 17) (ad 18) (ad 2) (ad 5) (ad 10) c.gain (ad 11) (ad 19) (ad 27) c.s0.pr c.s0.a c.s0.b c.s0.c c.s0.d c.s0.sp c.s0.mi c.s0.ti c.s0.w c.s0.s c.s0.h c.s0.va c.s0.ov c.s0.ra c.s0.ol c.s0.od c.s0.ne a0 a1 2 gx 0 (by decide) (by rw [hs_a0]; decide) rfl) (cwV 2 hts gL_placeOf_X4_placeOf rfl rfl rfl hvX4_placeOf ⟨Nat.le_of_ble_eq_true rfl, Nat.le_of_ble_eq_true rfl⟩) hK hT hP hD hS [0, 1, 11, 12, 13, 14, 15, 16, 17, 18] rfl 0 4 rfl rfl rfl rfl hl.1 rfl (Nat.le_of_ble_eq_true rfl) dL_placeOf_5 ⟨Nat.le_of_ble_eq_true rfl, Nat.le_of_ble_eq_true rfl⟩ [{ startPc := 0, endPc := 10, handlerPc := 13, catchType := 20 }] { startPc := 0, endPc := 10, handlerPc := 17, catchType := 15 } [] (by rw [htab]; rfl) (tp_cons (nm := exn 3) (by decide) (hts (.classLink RL 20 "java/lang/IndexOutOfBoundsException") lkL_placeOf_c20) (hN 2 (by decide) 3 (by decide) (by decide)) tp_nil) rfl (by decide) (hts (.classLink RL 15 "java/lang/IllegalStateException") lkL_placeOf_c15) rfl (fun H locs q hP hD hS => ?_)
        refine lv_astore (lv' := [(4, .ref q), (0, .ref (ad 0)), (1, .int a0), (2, .int a1), (3, .ref qo)]) hx hb dL_placeOf_17 hl (by decide) rfl (fun ls hl => ?_)
        refine lv_iconst (v := 2) hx hb dL_placeOf_19 (by decide) ?_
        exact hret _ _ _ _ _ rfl hP hD hS dL_placeOf_20
      replace h := ite_f hk2 h
      by_cases hk3 : k0 = 3
      · subst hk3
        cases h
        refine lwC (k := 3) (rest := [.int 0, .ref qo]) (As := [.int a0, .int a1]) S (by decide) (cxX4_placeOf l hfl G (ad 0) (ad 1) (ad 11) (ad 12) (ad 13) (ad 14) (ad 15) (ad 16) (ad 17) (ad 18) (ad 2) (ad 5) (ad 10) c.gain (ad 11) (ad 19) (ad 27) c.s0.pr c.s0.a c.s0.b c.s0.c c.s0.d c.s0.sp c.s0.mi c.s0.ti c.s0.w c.s0.s c.s0.h c.s0.va c.s0.ov c.s0.ra c.s0.ol c.s0.od c.s0.ne a0 a1 3 gx 0 (by decide) (by rw [hs_a0]; decide) rfl) (cwV 2 hts gL_placeOf_X4_placeOf rfl rfl rfl hvX4_placeOf ⟨Nat.le_of_ble_eq_true rfl, Nat.le_of_ble_eq_true rfl⟩) hK hT hP hD hS [0, 1, 11, 12, 13, 14, 15, 16, 17, 18] rfl 0 4 rfl rfl rfl rfl hl.1 rfl (Nat.le_of_ble_eq_true rfl) dL_placeOf_5 ⟨Nat.le_of_ble_eq_true rfl, Nat.le_of_ble_eq_true rfl⟩ [] { startPc := 0, endPc := 10, handlerPc := 13, catchType := 20 } [{ startPc := 0, endPc := 10, handlerPc := 17, catchType := 15 }] (by rw [htab]; rfl) tp_nil rfl (by decide) (hts (.classLink RL 20 "java/lang/IndexOutOfBoundsException") lkL_placeOf_c20) rfl (fun H locs q hP hD hS => ?_)
        refine lv_astore (lv' := [(4, .ref q), (0, .ref (ad 0)), (1, .int a0), (2, .int a1), (3, .ref qo)]) hx hb dL_placeOf_13 hl (by decide) rfl (fun ls hl => ?_)
        refine lv_iconst (v := 1) hx hb dL_placeOf_15 (by decide) ?_
        exact hret _ _ _ _ _ rfl hP hD hS dL_placeOf_16
      cases (ite_f hk3 h)
    · obtain ⟨o0, g, h⟩ := bnd1_e h
      cases h
      refine roVi1 (rest := [.int 0, .ref qo]) (As := [.int a0, .int a1]) S (ctX4_placeOf l G (ad 0) (ad 1) (ad 11) (ad 12) (ad 13) (ad 14) (ad 15) (ad 16) (ad 17) (ad 18) (ad 2) (ad 5) (ad 10) c.gain (ad 11) (ad 19) (ad 27) c.s0.pr c.s0.a c.s0.b c.s0.c c.s0.d c.s0.sp c.s0.mi c.s0.ti c.s0.w c.s0.s c.s0.h c.s0.va c.s0.ov c.s0.ra c.s0.ol c.s0.od c.s0.ne a0 a1 o0 g 0 (by decide) (by rw [hs_a0]; decide) rfl) (cwV 2 hts gL_placeOf_X4_placeOf rfl rfl rfl hvX4_placeOf ⟨Nat.le_of_ble_eq_true rfl, Nat.le_of_ble_eq_true rfl⟩) hK hP [0, 1, 11, 12, 13, 14, 15, 16, 17, 18] rfl 0 4 rfl rfl rfl rfl hl.1 rfl (Nat.le_of_ble_eq_true rfl) dL_placeOf_5 ⟨Nat.zero_le _, Nat.zero_le _⟩ (fun _ => ?_)
      refine lv_i2l hx hb dL_placeOf_8 rfl ?_
      refine va_last hx hb hK.1 hP hD hS 35 3 rfl rfl (i := 0) (vp_in_iff.mpr ⟨by decide, by decide⟩) dL_placeOf_9 (fun H locs hP hD hS => ?_)
      refine lv_goto (tgt := 21) hx hb dL_placeOf_10 (by decide) ?_
      refine lv_iconst (v := 0) hx hb dL_placeOf_21 (by decide) ?_
      refine W.widen (k := 1) (n := 6) (by omega) (by omega) ?_
      exact hret _ _ _ _ _ rfl hP hD hS dL_placeOf_22
  replace h := ite_f hs_a0 h
  have hn_a00 := hs_a0
  clear hs_a0
  by_cases hs_a0 : a0 = 1
  · replace h := ite_t hs_a0 h
    rcases lq_e h with ⟨k0, gx, h⟩ | ⟨gx, h⟩
    · by_cases hk2 : k0 = 2
      · subst hk2
        cases h
        refine lwC (k := 2) (rest := [.int 0, .ref qo]) (As := [.int a0, .int a1]) S (by decide) (cxX4_placeOf l hfl G (ad 0) (ad 1) (ad 19) (ad 20) (ad 21) (ad 22) (ad 23) (ad 24) (ad 25) (ad 26) (ad 2) (ad 5) (ad 10) c.gain (ad 11) (ad 19) (ad 27) c.s1.pr c.s1.a c.s1.b c.s1.c c.s1.d c.s1.sp c.s1.mi c.s1.ti c.s1.w c.s1.s c.s1.h c.s1.va c.s1.ov c.s1.ra c.s1.ol c.s1.od c.s1.ne a0 a1 2 gx 1 (by decide) (by rw [hs_a0]; decide) rfl) (cwV 2 hts gL_placeOf_X4_placeOf rfl rfl rfl hvX4_placeOf ⟨Nat.le_of_ble_eq_true rfl, Nat.le_of_ble_eq_true rfl⟩) hK hT hP hD hS [0, 1, 19, 20, 21, 22, 23, 24, 25, 26] rfl 0 4 rfl rfl rfl rfl hl.1 rfl (Nat.le_of_ble_eq_true rfl) dL_placeOf_5 ⟨Nat.le_of_ble_eq_true rfl, Nat.le_of_ble_eq_true rfl⟩ [{ startPc := 0, endPc := 10, handlerPc := 13, catchType := 20 }] { startPc := 0, endPc := 10, handlerPc := 17, catchType := 15 } [] (by rw [htab]; rfl) (tp_cons (nm := exn 3) (by decide) (hts (.classLink RL 20 "java/lang/IndexOutOfBoundsException") lkL_placeOf_c20) (hN 2 (by decide) 3 (by decide) (by decide)) tp_nil) rfl (by decide) (hts (.classLink RL 15 "java/lang/IllegalStateException") lkL_placeOf_c15) rfl (fun H locs q hP hD hS => ?_)
        refine lv_astore (lv' := [(4, .ref q), (0, .ref (ad 0)), (1, .int a0), (2, .int a1), (3, .ref qo)]) hx hb dL_placeOf_17 hl (by decide) rfl (fun ls hl => ?_)
        refine lv_iconst (v := 2) hx hb dL_placeOf_19 (by decide) ?_
        exact hret _ _ _ _ _ rfl hP hD hS dL_placeOf_20
      replace h := ite_f hk2 h
      by_cases hk3 : k0 = 3
      · subst hk3
        cases h
        refine lwC (k := 3) (rest := [.int 0, .ref qo]) (As := [.int a0, .int a1]) S (by decide) (cxX4_placeOf l hfl G (ad 0) (ad 1) (ad 19) (ad 20) (ad 21) (ad 22) (ad 23) (ad 24) (ad 25) (ad 26) (ad 2) (ad 5) (ad 10) c.gain (ad 11) (ad 19) (ad 27) c.s1.pr c.s1.a c.s1.b c.s1.c c.s1.d c.s1.sp c.s1.mi c.s1.ti c.s1.w c.s1.s c.s1.h c.s1.va c.s1.ov c.s1.ra c.s1.ol c.s1.od c.s1.ne a0 a1 3 gx 1 (by decide) (by rw [hs_a0]; decide) rfl) (cwV 2 hts gL_placeOf_X4_placeOf rfl rfl rfl hvX4_placeOf ⟨Nat.le_of_ble_eq_true rfl, Nat.le_of_ble_eq_true rfl⟩) hK hT hP hD hS [0, 1, 19, 20, 21, 22, 23, 24, 25, 26] rfl 0 4 rfl rfl rfl rfl hl.1 rfl (Nat.le_of_ble_eq_true rfl) dL_placeOf_5 ⟨Nat.le_of_ble_eq_true rfl, Nat.le_of_ble_eq_true rfl⟩ [] { startPc := 0, endPc := 10, handlerPc := 13, catchType := 20 } [{ startPc := 0, endPc := 10, handlerPc := 17, catchType := 15 }] (by rw [htab]; rfl) tp_nil rfl (by decide) (hts (.classLink RL 20 "java/lang/IndexOutOfBoundsException") lkL_placeOf_c20) rfl (fun H locs q hP hD hS => ?_)
        refine lv_astore (lv' := [(4, .ref q), (0, .ref (ad 0)), (1, .int a0), (2, .int a1), (3, .ref qo)]) hx hb dL_placeOf_13 hl (by decide) rfl (fun ls hl => ?_)
        refine lv_iconst (v := 1) hx hb dL_placeOf_15 (by decide) ?_
        exact hret _ _ _ _ _ rfl hP hD hS dL_placeOf_16
      cases (ite_f hk3 h)
    · obtain ⟨o0, g, h⟩ := bnd1_e h
      cases h
      refine roVi1 (rest := [.int 0, .ref qo]) (As := [.int a0, .int a1]) S (ctX4_placeOf l G (ad 0) (ad 1) (ad 19) (ad 20) (ad 21) (ad 22) (ad 23) (ad 24) (ad 25) (ad 26) (ad 2) (ad 5) (ad 10) c.gain (ad 11) (ad 19) (ad 27) c.s1.pr c.s1.a c.s1.b c.s1.c c.s1.d c.s1.sp c.s1.mi c.s1.ti c.s1.w c.s1.s c.s1.h c.s1.va c.s1.ov c.s1.ra c.s1.ol c.s1.od c.s1.ne a0 a1 o0 g 1 (by decide) (by rw [hs_a0]; decide) rfl) (cwV 2 hts gL_placeOf_X4_placeOf rfl rfl rfl hvX4_placeOf ⟨Nat.le_of_ble_eq_true rfl, Nat.le_of_ble_eq_true rfl⟩) hK hP [0, 1, 19, 20, 21, 22, 23, 24, 25, 26] rfl 0 4 rfl rfl rfl rfl hl.1 rfl (Nat.le_of_ble_eq_true rfl) dL_placeOf_5 ⟨Nat.zero_le _, Nat.zero_le _⟩ (fun _ => ?_)
      refine lv_i2l hx hb dL_placeOf_8 rfl ?_
      refine va_last hx hb hK.1 hP hD hS 35 3 rfl rfl (i := 0) (vp_in_iff.mpr ⟨by decide, by decide⟩) dL_placeOf_9 (fun H locs hP hD hS => ?_)
      refine lv_goto (tgt := 21) hx hb dL_placeOf_10 (by decide) ?_
      refine lv_iconst (v := 0) hx hb dL_placeOf_21 (by decide) ?_
      refine W.widen (k := 1) (n := 6) (by omega) (by omega) ?_
      exact hret _ _ _ _ _ rfl hP hD hS dL_placeOf_22
  replace h := ite_f hs_a0 h
  have hn_a01 := hs_a0
  clear hs_a0
  by_cases hs_a0 : a0 = 2
  · replace h := ite_t hs_a0 h
    rcases lq_e h with ⟨k0, gx, h⟩ | ⟨gx, h⟩
    · by_cases hk2 : k0 = 2
      · subst hk2
        cases h
        refine lwC (k := 2) (rest := [.int 0, .ref qo]) (As := [.int a0, .int a1]) S (by decide) (cxX4_placeOf l hfl G (ad 0) (ad 1) (ad 27) (ad 28) (ad 29) (ad 30) (ad 31) (ad 32) (ad 33) (ad 34) (ad 2) (ad 5) (ad 10) c.gain (ad 11) (ad 19) (ad 27) c.s2.pr c.s2.a c.s2.b c.s2.c c.s2.d c.s2.sp c.s2.mi c.s2.ti c.s2.w c.s2.s c.s2.h c.s2.va c.s2.ov c.s2.ra c.s2.ol c.s2.od c.s2.ne a0 a1 2 gx 2 (by decide) (by rw [hs_a0]; decide) rfl) (cwV 2 hts gL_placeOf_X4_placeOf rfl rfl rfl hvX4_placeOf ⟨Nat.le_of_ble_eq_true rfl, Nat.le_of_ble_eq_true rfl⟩) hK hT hP hD hS [0, 1, 27, 28, 29, 30, 31, 32, 33, 34] rfl 0 4 rfl rfl rfl rfl hl.1 rfl (Nat.le_of_ble_eq_true rfl) dL_placeOf_5 ⟨Nat.le_of_ble_eq_true rfl, Nat.le_of_ble_eq_true rfl⟩ [{ startPc := 0, endPc := 10, handlerPc := 13, catchType := 20 }] { startPc := 0, endPc := 10, handlerPc := 17, catchType := 15 } [] (by rw [htab]; rfl) (tp_cons (nm := exn 3) (by decide) (hts (.classLink RL 20 "java/lang/IndexOutOfBoundsException") lkL_placeOf_c20) (hN 2 (by decide) 3 (by decide) (by decide)) tp_nil) rfl (by decide) (hts (.classLink RL 15 "java/lang/IllegalStateException") lkL_placeOf_c15) rfl (fun H locs q hP hD hS => ?_)
        refine lv_astore (lv' := [(4, .ref q), (0, .ref (ad 0)), (1, .int a0), (2, .int a1), (3, .ref qo)]) hx hb dL_placeOf_17 hl (by decide) rfl (fun ls hl => ?_)
        refine lv_iconst (v := 2) hx hb dL_placeOf_19 (by decide) ?_
        exact hret _ _ _ _ _ rfl hP hD hS dL_placeOf_20
      replace h := ite_f hk2 h
      by_cases hk3 : k0 = 3
      · subst hk3
        cases h
        refine lwC (k := 3) (rest := [.int 0, .ref qo]) (As := [.int a0, .int a1]) S (by decide) (cxX4_placeOf l hfl G (ad 0) (ad 1) (ad 27) (ad 28) (ad 29) (ad 30) (ad 31) (ad 32) (ad 33) (ad 34) (ad 2) (ad 5) (ad 10) c.gain (ad 11) (ad 19) (ad 27) c.s2.pr c.s2.a c.s2.b c.s2.c c.s2.d c.s2.sp c.s2.mi c.s2.ti c.s2.w c.s2.s c.s2.h c.s2.va c.s2.ov c.s2.ra c.s2.ol c.s2.od c.s2.ne a0 a1 3 gx 2 (by decide) (by rw [hs_a0]; decide) rfl) (cwV 2 hts gL_placeOf_X4_placeOf rfl rfl rfl hvX4_placeOf ⟨Nat.le_of_ble_eq_true rfl, Nat.le_of_ble_eq_true rfl⟩) hK hT hP hD hS [0, 1, 27, 28, 29, 30, 31, 32, 33, 34] rfl 0 4 rfl rfl rfl rfl hl.1 rfl (Nat.le_of_ble_eq_true rfl) dL_placeOf_5 ⟨Nat.le_of_ble_eq_true rfl, Nat.le_of_ble_eq_true rfl⟩ [] { startPc := 0, endPc := 10, handlerPc := 13, catchType := 20 } [{ startPc := 0, endPc := 10, handlerPc := 17, catchType := 15 }] (by rw [htab]; rfl) tp_nil rfl (by decide) (hts (.classLink RL 20 "java/lang/IndexOutOfBoundsException") lkL_placeOf_c20) rfl (fun H locs q hP hD hS => ?_)
        refine lv_astore (lv' := [(4, .ref q), (0, .ref (ad 0)), (1, .int a0), (2, .int a1), (3, .ref qo)]) hx hb dL_placeOf_13 hl (by decide) rfl (fun ls hl => ?_)
        refine lv_iconst (v := 1) hx hb dL_placeOf_15 (by decide) ?_
        exact hret _ _ _ _ _ rfl hP hD hS dL_placeOf_16
      cases (ite_f hk3 h)
    · obtain ⟨o0, g, h⟩ := bnd1_e h
      cases h
      refine roVi1 (rest := [.int 0, .ref qo]) (As := [.int a0, .int a1]) S (ctX4_placeOf l G (ad 0) (ad 1) (ad 27) (ad 28) (ad 29) (ad 30) (ad 31) (ad 32) (ad 33) (ad 34) (ad 2) (ad 5) (ad 10) c.gain (ad 11) (ad 19) (ad 27) c.s2.pr c.s2.a c.s2.b c.s2.c c.s2.d c.s2.sp c.s2.mi c.s2.ti c.s2.w c.s2.s c.s2.h c.s2.va c.s2.ov c.s2.ra c.s2.ol c.s2.od c.s2.ne a0 a1 o0 g 2 (by decide) (by rw [hs_a0]; decide) rfl) (cwV 2 hts gL_placeOf_X4_placeOf rfl rfl rfl hvX4_placeOf ⟨Nat.le_of_ble_eq_true rfl, Nat.le_of_ble_eq_true rfl⟩) hK hP [0, 1, 27, 28, 29, 30, 31, 32, 33, 34] rfl 0 4 rfl rfl rfl rfl hl.1 rfl (Nat.le_of_ble_eq_true rfl) dL_placeOf_5 ⟨Nat.zero_le _, Nat.zero_le _⟩ (fun _ => ?_)
      refine lv_i2l hx hb dL_placeOf_8 rfl ?_
      refine va_last hx hb hK.1 hP hD hS 35 3 rfl rfl (i := 0) (vp_in_iff.mpr ⟨by decide, by decide⟩) dL_placeOf_9 (fun H locs hP hD hS => ?_)
      refine lv_goto (tgt := 21) hx hb dL_placeOf_10 (by decide) ?_
      refine lv_iconst (v := 0) hx hb dL_placeOf_21 (by decide) ?_
      refine W.widen (k := 1) (n := 6) (by omega) (by omega) ?_
      exact hret _ _ _ _ _ rfl hP hD hS dL_placeOf_22
  replace h := ite_f hs_a0 h
  have hn_a02 := hs_a0
  clear hs_a0
  have ho_a0 := slot_out hn_a00 hn_a01 hn_a02
  cases h
  refine lwC (k := 3) (rest := [.int 0, .ref qo]) (As := [.int a0, .int a1]) S (by decide) (cxX4_placeOfo l hfl G (ad 0) (ad 1) (ad 2) (ad 5) (ad 10) c.gain (ad 11) (ad 19) (ad 27) a0 a1 ho_a0) (cwV 2 hts gL_placeOf_X4_placeOf rfl rfl rfl hvX4_placeOf ⟨Nat.le_of_ble_eq_true rfl, Nat.le_of_ble_eq_true rfl⟩) hK hT hP hD hS [0, 1] rfl 0 4 rfl rfl rfl rfl hl.1 rfl (Nat.le_of_ble_eq_true rfl) dL_placeOf_5 ⟨Nat.le_of_ble_eq_true rfl, Nat.le_of_ble_eq_true rfl⟩ [] { startPc := 0, endPc := 10, handlerPc := 13, catchType := 20 } [{ startPc := 0, endPc := 10, handlerPc := 17, catchType := 15 }] (by rw [htab]; rfl) tp_nil rfl (by decide) (hts (.classLink RL 20 "java/lang/IndexOutOfBoundsException") lkL_placeOf_c20) rfl (fun H locs q hP hD hS => ?_)
  refine lv_astore (lv' := [(4, .ref q), (0, .ref (ad 0)), (1, .int a0), (2, .int a1), (3, .ref qo)]) hx hb dL_placeOf_13 hl (by decide) rfl (fun ls hl => ?_)
  refine lv_iconst (v := 1) hx hb dL_placeOf_15 (by decide) ?_
  exact hret _ _ _ _ _ rfl hP hD hS dL_placeOf_16
abbrev rmL_dots : Room := { frames := 9, cells := 1, slots := 6, locals := 156 }
theorem hsX4_dots : yX4_dots.cls ≠ "java/lang/invoke/MethodHandle" ∧ yX4_dots.cls ≠ "java/lang/invoke/VarHandle" ∧ (parseMethodDescriptor yX4_dots.desc).map (fun d => d.parameters.length) = some 2 := by decide +kernel
theorem hvX4_dots : yX4_dots.cls = RX4 ∧ yX4_dots.cls ≠ "java/lang/invoke/MethodHandle" ∧ yX4_dots.cls ≠ "java/lang/invoke/VarHandle" ∧ (parseMethodDescriptor yX4_dots.desc).map (fun d => d.parameters.length) = some 2 := ⟨rfl, hsX4_dots⟩
theorem lkL_dots_c15 : Cond.classLink RL 15 "java/lang/IllegalStateException" ∈ wsL_dots := List.mem_of_getElem? (i := 2) rfl
theorem lkL_dots_c20 : Cond.classLink RL 20 "java/lang/IndexOutOfBoundsException" ∈ wsL_dots := List.mem_of_getElem? (i := 1) rfl
theorem lkL_dots_c13 : Cond.classLink RL 13 "java/lang/IllegalArgumentException" ∈ wsL_dots := List.mem_of_getElem? (i := 3) rfl
set_option maxHeartbeats 4000000 in
set_option maxRecDepth 100000 in
theorem lw_dots (l : Launch) (hfl : l.stackTraces = false) (G : GG) (ad : Nat → Nat) (qo : Nat) (c c' : Cls) (f f' : Nat → Int64) (a0 : Int32) (a1 : Int32) (r0 : Int32) (h : lm_dots c f a0 a1 = some (r0, c', f')) : Met l yL_dots wsL_dots rmL_dots (va_Pc [.ref (ad 0), .int a0, .int a1, .ref qo] (PreD G (wdF G ad c ++ [(qo, .inl (G.2 3, 1, .inr (.inl f)))]) (XL (wdF G ad c ++ [(qo, .inl (G.2 3, 1, .inr (.inl f)))])))) (QwA G (va_A0 (wdF G ad c ++ [(qo, .inl (G.2 3, 1, .inr (.inl f)))])) (wdF G ad c' ++ [(qo, .inl (G.2 3, 1, .inr (.inl f')))]) (some (.int r0)) True) 1 6 (va_A0 (wdF G ad c ++ [(qo, .inl (G.2 3, 1, .inr (.inl f)))])) := by
  refine of_lw (cc := cL_dots) (maxL := 5) (hh := [(0, 10, 13, 20), (0, 10, 17, 15), (0, 10, 21, 13)]) (by decide) rfl (Nat.le_of_ble_eq_true rfl) ?_
  intro p e s m args below meth c1 ls Q A S htab hl hP hD hS hK hT hN hX hA hret
  obtain ⟨H, hH⟩ : ∃ H, H = s.heap := ⟨_, rfl⟩
  obtain ⟨locs, hlocs⟩ : ∃ L : List Loc, L = [] := ⟨_, rfl⟩
  rw [← hlocs]
  rw [← hlocs] at hS
  have hP : va_P G.1 vwCl (wdF G ad c ++ [(qo, .inl (G.2 3, 1, .inr (.inl f)))]) H := by rw [hH]; exact hP
  have hS : va_S A s.heap H locs := by rw [hH]; exact hS
  have hT : TT A s H := by rw [hH]; exact hT
  suffices hgo : W p l e rmL_dots s m args below meth c1 H locs 0 0 Q (F0 m 0 ls []) by rw [hH] at hgo; exact hgo
  have S : CallFix p m c1 cL_dots 5 s args wsL_dots RL := S
  obtain ⟨hx, hb, hml, hown, hts⟩ := id S
  have hl : lv_has ls 5 [(0, .ref (ad 0)), (1, .int a0), (2, .int a1), (3, .ref qo)] := hl
  unfold lm_dots at h
  refine lv_aload_n hx hb dL_dots_0 rfl (lv_at hl 3 rfl) ?_
  refine lv_iconst (v := 0) hx hb dL_dots_1 (by decide) ?_
  refine lv_aload_n hx hb dL_dots_2 rfl (lv_at hl 0 rfl) ?_
  refine lv_iload_n hx hb dL_dots_3 rfl (lv_at hl 1 rfl) ?_
  refine lv_iload_n hx hb dL_dots_4 rfl (lv_at hl 2 rfl) ?_
  by_cases hs_a0 : a0 = 0
  · replace h := ite_t hs_a0 h
    rcases lq_e h with ⟨k0, gx, h⟩ | ⟨gx, h⟩
    · by_cases hk1 : k0 = 1
      · subst hk1
        cases h
        refine lwC (k := 1) (rest := [.int 0, .ref qo]) (As := [.int a0, .int a1]) S (by decide) (cxX4_dots l hfl G (ad 0) (ad 1) (ad 11) (ad 12) (ad 13) (ad 14) (ad 15) (ad 16) (ad 17) (ad 18) (ad 2) (ad 5) (ad 10) c.gain (ad 11) (ad 19) (ad 27) c.s0.pr c.s0.a c.s0.b c.s0.c c.s0.d c.s0.sp c.s0.mi c.s0.ti c.s0.w c.s0.s c.s0.h c.s0.va c.s0.ov c.s0.ra c.s0.ol c.s0.od c.s0.ne a0 a1 1 gx 0 (by decide) (by rw [hs_a0]; decide) rfl) (cwV 2 hts gL_dots_X4_dots rfl rfl rfl hvX4_dots ⟨Nat.le_of_ble_eq_true rfl, Nat.le_of_ble_eq_true rfl⟩) hK hT hP hD hS [0, 1, 11, 12, 13, 14, 15, 16, 17, 18] rfl 0 4 rfl rfl rfl rfl hl.1 rfl (Nat.le_of_ble_eq_true rfl) dL_dots_5 ⟨Nat.le_of_ble_eq_true rfl, Nat.le_of_ble_eq_true rfl⟩ [{ startPc := 0, endPc := 10, handlerPc := 13, catchType := 20 }, { startPc := 0, endPc := 10, handlerPc := 17, catchType := 15 }] { startPc := 0, endPc := 10, handlerPc := 21, catchType := 13 } [] (by rw [htab]; rfl) (tp_cons (nm := exn 3) (by decide) (hts (.classLink RL 20 "java/lang/IndexOutOfBoundsException") lkL_dots_c20) (hN 1 (by decide) 3 (by decide) (by decide)) (tp_cons (nm := exn 2) (by decide) (hts (.classLink RL 15 "java/lang/IllegalStateException") lkL_dots_c15) (hN 1 (by decide) 2 (by decide) (by decide)) tp_nil)) rfl (by decide) (hts (.classLink RL 13 "java/lang/IllegalArgumentException") lkL_dots_c13) rfl (fun H locs q hP hD hS => ?_)
        refine lv_astore (lv' := [(4, .ref q), (0, .ref (ad 0)), (1, .int a0), (2, .int a1), (3, .ref qo)]) hx hb dL_dots_21 hl (by decide) rfl (fun ls hl => ?_)
        refine lv_iconst (v := 3) hx hb dL_dots_23 (by decide) ?_
        exact hret _ _ _ _ _ rfl hP hD hS dL_dots_24
      replace h := ite_f hk1 h
      by_cases hk2 : k0 = 2
      · subst hk2
        cases h
        refine lwC (k := 2) (rest := [.int 0, .ref qo]) (As := [.int a0, .int a1]) S (by decide) (cxX4_dots l hfl G (ad 0) (ad 1) (ad 11) (ad 12) (ad 13) (ad 14) (ad 15) (ad 16) (ad 17) (ad 18) (ad 2) (ad 5) (ad 10) c.gain (ad 11) (ad 19) (ad 27) c.s0.pr c.s0.a c.s0.b c.s0.c c.s0.d c.s0.sp c.s0.mi c.s0.ti c.s0.w c.s0.s c.s0.h c.s0.va c.s0.ov c.s0.ra c.s0.ol c.s0.od c.s0.ne a0 a1 2 gx 0 (by decide) (by rw [hs_a0]; decide) rfl) (cwV 2 hts gL_dots_X4_dots rfl rfl rfl hvX4_dots ⟨Nat.le_of_ble_eq_true rfl, Nat.le_of_ble_eq_true rfl⟩) hK hT hP hD hS [0, 1, 11, 12, 13, 14, 15, 16, 17, 18] rfl 0 4 rfl rfl rfl rfl hl.1 rfl (Nat.le_of_ble_eq_true rfl) dL_dots_5 ⟨Nat.le_of_ble_eq_true rfl, Nat.le_of_ble_eq_true rfl⟩ [{ startPc := 0, endPc := 10, handlerPc := 13, catchType := 20 }] { startPc := 0, endPc := 10, handlerPc := 17, catchType := 15 } [{ startPc := 0, endPc := 10, handlerPc := 21, catchType := 13 }] (by rw [htab]; rfl) (tp_cons (nm := exn 3) (by decide) (hts (.classLink RL 20 "java/lang/IndexOutOfBoundsException") lkL_dots_c20) (hN 2 (by decide) 3 (by decide) (by decide)) tp_nil) rfl (by decide) (hts (.classLink RL 15 "java/lang/IllegalStateException") lkL_dots_c15) rfl (fun H locs q hP hD hS => ?_)
        refine lv_astore (lv' := [(4, .ref q), (0, .ref (ad 0)), (1, .int a0), (2, .int a1), (3, .ref qo)]) hx hb dL_dots_17 hl (by decide) rfl (fun ls hl => ?_)
        refine lv_iconst (v := 2) hx hb dL_dots_19 (by decide) ?_
        exact hret _ _ _ _ _ rfl hP hD hS dL_dots_20
      replace h := ite_f hk2 h
      by_cases hk3 : k0 = 3
      · subst hk3
        cases h
        refine lwC (k := 3) (rest := [.int 0, .ref qo]) (As := [.int a0, .int a1]) S (by decide) (cxX4_dots l hfl G (ad 0) (ad 1) (ad 11) (ad 12) (ad 13) (ad 14) (ad 15) (ad 16) (ad 17) (ad 18) (ad 2) (ad 5) (ad 10) c.gain (ad 11) (ad 19) (ad 27) c.s0.pr c.s0.a c.s0.b c.s0.c c.s0.d c.s0.sp c.s0.mi c.s0.ti c.s0.w c.s0.s c.s0.h c.s0.va c.s0.ov c.s0.ra c.s0.ol c.s0.od c.s0.ne a0 a1 3 gx 0 (by decide) (by rw [hs_a0]; decide) rfl) (cwV 2 hts gL_dots_X4_dots rfl rfl rfl hvX4_dots ⟨Nat.le_of_ble_eq_true rfl, Nat.le_of_ble_eq_true rfl⟩) hK hT hP hD hS [0, 1, 11, 12, 13, 14, 15, 16, 17, 18] rfl 0 4 rfl rfl rfl rfl hl.1 rfl (Nat.le_of_ble_eq_true rfl) dL_dots_5 ⟨Nat.le_of_ble_eq_true rfl, Nat.le_of_ble_eq_true rfl⟩ [] { startPc := 0, endPc := 10, handlerPc := 13, catchType := 20 } [{ startPc := 0, endPc := 10, handlerPc := 17, catchType := 15 }, { startPc := 0, endPc := 10, handlerPc := 21, catchType := 13 }] (by rw [htab]; rfl) tp_nil rfl (by decide) (hts (.classLink RL 20 "java/lang/IndexOutOfBoundsException") lkL_dots_c20) rfl (fun H locs q hP hD hS => ?_)
        refine lv_astore (lv' := [(4, .ref q), (0, .ref (ad 0)), (1, .int a0), (2, .int a1), (3, .ref qo)]) hx hb dL_dots_13 hl (by decide) rfl (fun ls hl => ?_)
        refine lv_iconst (v := 1) hx hb dL_dots_15 (by decide) ?_
        exact hret _ _ _ _ _ rfl hP hD hS dL_dots_16
      cases (ite_f hk3 h)
    · obtain ⟨o0, o1, o2, o3, o4, o5, o6, o7, o8, o9, o10, g, h⟩ := bnd11_e h
      cases h
      refine rwV_back (rest := [.int 0, .ref qo]) (As := [.int a0, .int a1]) (wr := List.filterMap (fun i => (wdF G ad c ++ [(qo, .inl (G.2 3, 1, .inr (.inl f)))])[i]?) [2, 3, 4, 10, 19, 20, 21, 22, 23, 24, 25, 26, 27, 28, 29, 30, 31, 32, 33, 34, 35]) (wf := wdF G ad (mkC c.gain c.il c.ip c.ia c.ig c.is c.im c.ic c.iq o1 o2 o3 o4 o5 o6 o7 o8 o9 o10 c.fw c.fs c.fh c.s0 c.s1 c.s2) ++ [(qo, .inl (G.2 3, 1, .inr (.inl f)))]) S (ctX4_dots l G (ad 0) (ad 1) (ad 5) (ad 6) (ad 7) (ad 8) (ad 9) (ad 11) (ad 12) (ad 13) (ad 14) (ad 15) (ad 16) (ad 17) (ad 18) (ad 2) (ad 10) c.gain (ad 11) (ad 19) (ad 27) c.dn c.dm c.dj c.dt c.dx c.dy c.dr c.dv c.dw c.dq c.s0.pr c.s0.a c.s0.b c.s0.c c.s0.d c.s0.sp c.s0.mi c.s0.ti c.s0.w c.s0.s c.s0.h c.s0.va c.s0.ov c.s0.ra c.s0.ol c.s0.od c.s0.ne a0 a1 o0 o1 o2 o3 o4 o5 o6 o7 o8 o9 o10 g 0 (by decide) (by rw [hs_a0]; decide) rfl) (cwV 2 hts gL_dots_X4_dots rfl rfl rfl hvX4_dots ⟨Nat.le_of_ble_eq_true rfl, Nat.le_of_ble_eq_true rfl⟩) hK hP hD hS (SK.blind _) (fun U hU hW => SK.call hX hA hD hS [0, 1, 5, 6, 7, 8, 9, 11, 12, 13, 14, 15, 16, 17, 18] rfl hU hW) [0, 1, 5, 6, 7, 8, 9, 11, 12, 13, 14, 15, 16, 17, 18] [2, 3, 4, 10, 19, 20, 21, 22, 23, 24, 25, 26, 27, 28, 29, 30, 31, 32, 33, 34, 35] [21, 22, 0, 1, 2, 23, 24, 25, 26, 27, 3, 28, 29, 30, 31, 32, 33, 34, 35, 4, 5, 6, 7, 8, 9, 10, 11, 12, 13, 14, 15, 16, 17, 18, 19, 20] rfl rfl rfl rfl rfl rfl rfl 0 4 rfl rfl rfl rfl hl.1 rfl (Nat.le_of_ble_eq_true rfl) dL_dots_5 ⟨Nat.zero_le _, Nat.zero_le _⟩ (fun _ H locs hP hD hS => ?_)
      refine lv_i2l hx hb dL_dots_8 rfl ?_
      refine va_last hx hb hK.1 hP hD hS 35 3 rfl rfl (i := 0) (vp_in_iff.mpr ⟨by decide, by decide⟩) dL_dots_9 (fun H locs hP hD hS => ?_)
      refine lv_goto (tgt := 25) hx hb dL_dots_10 (by decide) ?_
      refine lv_iconst (v := 0) hx hb dL_dots_25 (by decide) ?_
      refine W.widen (k := 1) (n := 6) (by omega) (by omega) ?_
      exact hret _ _ _ _ _ rfl hP hD hS dL_dots_26
  replace h := ite_f hs_a0 h
  have hn_a00 := hs_a0
  clear hs_a0
  by_cases hs_a0 : a0 = 1
  · replace h := ite_t hs_a0 h
    rcases lq_e h with ⟨k0, gx, h⟩ | ⟨gx, h⟩
    · by_cases hk1 : k0 = 1
      · subst hk1
        cases h
        refine lwC (k := 1) (rest := [.int 0, .ref qo]) (As := [.int a0, .int a1]) S (by decide) (cxX4_dots l hfl G (ad 0) (ad 1) (ad 19) (ad 20) (ad 21) (ad 22) (ad 23) (ad 24) (ad 25) (ad 26) (ad 2) (ad 5) (ad 10) c.gain (ad 11) (ad 19) (ad 27) c.s1.pr c.s1.a c.s1.b c.s1.c c.s1.d c.s1.sp c.s1.mi c.s1.ti c.s1.w c.s1.s c.s1.h c.s1.va c.s1.ov c.s1.ra c.s1.ol c.s1.od c.s1.ne a0 a1 1 gx 1 (by decide) (by rw [hs_a0]; decide) rfl) (cwV 2 hts gL_dots_X4_dots rfl rfl rfl hvX4_dots ⟨Nat.le_of_ble_eq_true rfl, Nat.le_of_ble_eq_true rfl⟩) hK hT hP hD hS [0, 1, 19, 20, 21, 22, 23, 24, 25, 26] rfl 0 4 rfl rfl rfl rfl hl.1 rfl (Nat.le_of_ble_eq_true rfl) dL_dots_5 ⟨Nat.le_of_ble_eq_true rfl, Nat.le_of_ble_eq_true rfl⟩ [{ startPc := 0, endPc := 10, handlerPc := 13, catchType := 20 }, { startPc := 0, endPc := 10, handlerPc := 17, catchType := 15 }] { startPc := 0, endPc := 10, handlerPc := 21, catchType := 13 } [] (by rw [htab]; rfl) (tp_cons (nm := exn 3) (by decide) (hts (.classLink RL 20 "java/lang/IndexOutOfBoundsException") lkL_dots_c20) (hN 1 (by decide) 3 (by decide) (by decide)) (tp_cons (nm := exn 2) (by decide) (hts (.classLink RL 15 "java/lang/IllegalStateException") lkL_dots_c15) (hN 1 (by decide) 2 (by decide) (by decide)) tp_nil)) rfl (by decide) (hts (.classLink RL 13 "java/lang/IllegalArgumentException") lkL_dots_c13) rfl (fun H locs q hP hD hS => ?_)
        refine lv_astore (lv' := [(4, .ref q), (0, .ref (ad 0)), (1, .int a0), (2, .int a1), (3, .ref qo)]) hx hb dL_dots_21 hl (by decide) rfl (fun ls hl => ?_)
        refine lv_iconst (v := 3) hx hb dL_dots_23 (by decide) ?_
        exact hret _ _ _ _ _ rfl hP hD hS dL_dots_24
      replace h := ite_f hk1 h
      by_cases hk2 : k0 = 2
      · subst hk2
        cases h
        refine lwC (k := 2) (rest := [.int 0, .ref qo]) (As := [.int a0, .int a1]) S (by decide) (cxX4_dots l hfl G (ad 0) (ad 1) (ad 19) (ad 20) (ad 21) (ad 22) (ad 23) (ad 24) (ad 25) (ad 26) (ad 2) (ad 5) (ad 10) c.gain (ad 11) (ad 19) (ad 27) c.s1.pr c.s1.a c.s1.b c.s1.c c.s1.d c.s1.sp c.s1.mi c.s1.ti c.s1.w c.s1.s c.s1.h c.s1.va c.s1.ov c.s1.ra c.s1.ol c.s1.od c.s1.ne a0 a1 2 gx 1 (by decide) (by rw [hs_a0]; decide) rfl) (cwV 2 hts gL_dots_X4_dots rfl rfl rfl hvX4_dots ⟨Nat.le_of_ble_eq_true rfl, Nat.le_of_ble_eq_true rfl⟩) hK hT hP hD hS [0, 1, 19, 20, 21, 22, 23, 24, 25, 26] rfl 0 4 rfl rfl rfl rfl hl.1 rfl (Nat.le_of_ble_eq_true rfl) dL_dots_5 ⟨Nat.le_of_ble_eq_true rfl, Nat.le_of_ble_eq_true rfl⟩ [{ startPc := 0, endPc := 10, handlerPc := 13, catchType := 20 }] { startPc := 0, endPc := 10, handlerPc := 17, catchType := 15 } [{ startPc := 0, endPc := 10, handlerPc := 21, catchType := 13 }] (by rw [htab]; rfl) (tp_cons (nm := exn 3) (by decide) (hts (.classLink RL 20 "java/lang/IndexOutOfBoundsException") lkL_dots_c20) (hN 2 (by decide) 3 (by decide) (by decide)) tp_nil) rfl (by decide) (hts (.classLink RL 15 "java/lang/IllegalStateException") lkL_dots_c15) rfl (fun H locs q hP hD hS => ?_)
        refine lv_astore (lv' := [(4, .ref q), (0, .ref (ad 0)), (1, .int a0), (2, .int a1), (3, .ref qo)]) hx hb dL_dots_17 hl (by decide) rfl (fun ls hl => ?_)
        refine lv_iconst (v := 2) hx hb dL_dots_19 (by decide) ?_
        exact hret _ _ _ _ _ rfl hP hD hS dL_dots_20
      replace h := ite_f hk2 h
      by_cases hk3 : k0 = 3
      · subst hk3
        cases h
        refine lwC (k := 3) (rest := [.int 0, .ref qo]) (As := [.int a0, .int a1]) S (by decide) (cxX4_dots l hfl G (ad 0) (ad 1) (ad 19) (ad 20) (ad 21) (ad 22) (ad 23) (ad 24) (ad 25) (ad 26) (ad 2) (ad 5) (ad 10) c.gain (ad 11) (ad 19) (ad 27) c.s1.pr c.s1.a c.s1.b c.s1.c c.s1.d c.s1.sp c.s1.mi c.s1.ti c.s1.w c.s1.s c.s1.h c.s1.va c.s1.ov c.s1.ra c.s1.ol c.s1.od c.s1.ne a0 a1 3 gx 1 (by decide) (by rw [hs_a0]; decide) rfl) (cwV 2 hts gL_dots_X4_dots rfl rfl rfl hvX4_dots ⟨Nat.le_of_ble_eq_true rfl, Nat.le_of_ble_eq_true rfl⟩) hK hT hP hD hS [0, 1, 19, 20, 21, 22, 23, 24, 25, 26] rfl 0 4 rfl rfl rfl rfl hl.1 rfl (Nat.le_of_ble_eq_true rfl) dL_dots_5 ⟨Nat.le_of_ble_eq_true rfl, Nat.le_of_ble_eq_true rfl⟩ [] { startPc := 0, endPc := 10, handlerPc := 13, catchType := 20 } [{ startPc := 0, endPc := 10, handlerPc := 17, catchType := 15 }, { startPc := 0, endPc := 10, handlerPc := 21, catchType := 13 }] (by rw [htab]; rfl) tp_nil rfl (by decide) (hts (.classLink RL 20 "java/lang/IndexOutOfBoundsException") lkL_dots_c20) rfl (fun H locs q hP hD hS => ?_)
        refine lv_astore (lv' := [(4, .ref q), (0, .ref (ad 0)), (1, .int a0), (2, .int a1), (3, .ref qo)]) hx hb dL_dots_13 hl (by decide) rfl (fun ls hl => ?_)
        refine lv_iconst (v := 1) hx hb dL_dots_15 (by decide) ?_
        exact hret _ _ _ _ _ rfl hP hD hS dL_dots_16
      cases (ite_f hk3 h)
    · obtain ⟨o0, o1, o2, o3, o4, o5, o6, o7, o8, o9, o10, g, h⟩ := bnd11_e h
      cases h
      refine rwV_back (rest := [.int 0, .ref qo]) (As := [.int a0, .int a1]) (wr := List.filterMap (fun i => (wdF G ad c ++ [(qo, .inl (G.2 3, 1, .inr (.inl f)))])[i]?) [2, 3, 4, 10, 11, 12, 13, 14, 15, 16, 17, 18, 27, 28, 29, 30, 31, 32, 33, 34, 35]) (wf := wdF G ad (mkC c.gain c.il c.ip c.ia c.ig c.is c.im c.ic c.iq o1 o2 o3 o4 o5 o6 o7 o8 o9 o10 c.fw c.fs c.fh c.s0 c.s1 c.s2) ++ [(qo, .inl (G.2 3, 1, .inr (.inl f)))]) S (ctX4_dots l G (ad 0) (ad 1) (ad 5) (ad 6) (ad 7) (ad 8) (ad 9) (ad 19) (ad 20) (ad 21) (ad 22) (ad 23) (ad 24) (ad 25) (ad 26) (ad 2) (ad 10) c.gain (ad 11) (ad 19) (ad 27) c.dn c.dm c.dj c.dt c.dx c.dy c.dr c.dv c.dw c.dq c.s1.pr c.s1.a c.s1.b c.s1.c c.s1.d c.s1.sp c.s1.mi c.s1.ti c.s1.w c.s1.s c.s1.h c.s1.va c.s1.ov c.s1.ra c.s1.ol c.s1.od c.s1.ne a0 a1 o0 o1 o2 o3 o4 o5 o6 o7 o8 o9 o10 g 1 (by decide) (by rw [hs_a0]; decide) rfl) (cwV 2 hts gL_dots_X4_dots rfl rfl rfl hvX4_dots ⟨Nat.le_of_ble_eq_true rfl, Nat.le_of_ble_eq_true rfl⟩) hK hP hD hS (SK.blind _) (fun U hU hW => SK.call hX hA hD hS [0, 1, 5, 6, 7, 8, 9, 19, 20, 21, 22, 23, 24, 25, 26] rfl hU hW) [0, 1, 5, 6, 7, 8, 9, 19, 20, 21, 22, 23, 24, 25, 26] [2, 3, 4, 10, 11, 12, 13, 14, 15, 16, 17, 18, 27, 28, 29, 30, 31, 32, 33, 34, 35] [21, 22, 0, 1, 2, 23, 24, 25, 26, 27, 3, 4, 5, 6, 7, 8, 9, 10, 11, 28, 29, 30, 31, 32, 33, 34, 35, 12, 13, 14, 15, 16, 17, 18, 19, 20] rfl rfl rfl rfl rfl rfl rfl 0 4 rfl rfl rfl rfl hl.1 rfl (Nat.le_of_ble_eq_true rfl) dL_dots_5 ⟨Nat.zero_le _, Nat.zero_le _⟩ (fun _ H locs hP hD hS => ?_)
      refine lv_i2l hx hb dL_dots_8 rfl ?_
      refine va_last hx hb hK.1 hP hD hS 35 3 rfl rfl (i := 0) (vp_in_iff.mpr ⟨by decide, by decide⟩) dL_dots_9 (fun H locs hP hD hS => ?_)
      refine lv_goto (tgt := 25) hx hb dL_dots_10 (by decide) ?_
      refine lv_iconst (v := 0) hx hb dL_dots_25 (by decide) ?_
      refine W.widen (k := 1) (n := 6) (by omega) (by omega) ?_
      exact hret _ _ _ _ _ rfl hP hD hS dL_dots_26
  replace h := ite_f hs_a0 h
  have hn_a01 := hs_a0
  clear hs_a0
  by_cases hs_a0 : a0 = 2
  · replace h := ite_t hs_a0 h
    rcases lq_e h with ⟨k0, gx, h⟩ | ⟨gx, h⟩
    · by_cases hk1 : k0 = 1
      · subst hk1
        cases h
        refine lwC (k := 1) (rest := [.int 0, .ref qo]) (As := [.int a0, .int a1]) S (by decide) (cxX4_dots l hfl G (ad 0) (ad 1) (ad 27) (ad 28) (ad 29) (ad 30) (ad 31) (ad 32) (ad 33) (ad 34) (ad 2) (ad 5) (ad 10) c.gain (ad 11) (ad 19) (ad 27) c.s2.pr c.s2.a c.s2.b c.s2.c c.s2.d c.s2.sp c.s2.mi c.s2.ti c.s2.w c.s2.s c.s2.h c.s2.va c.s2.ov c.s2.ra c.s2.ol c.s2.od c.s2.ne a0 a1 1 gx 2 (by decide) (by rw [hs_a0]; decide) rfl) (cwV 2 hts gL_dots_X4_dots rfl rfl rfl hvX4_dots ⟨Nat.le_of_ble_eq_true rfl, Nat.le_of_ble_eq_true rfl⟩) hK hT hP hD hS [0, 1, 27, 28, 29, 30, 31, 32, 33, 34] rfl 0 4 rfl rfl rfl rfl hl.1 rfl (Nat.le_of_ble_eq_true rfl) dL_dots_5 ⟨Nat.le_of_ble_eq_true rfl, Nat.le_of_ble_eq_true rfl⟩ [{ startPc := 0, endPc := 10, handlerPc := 13, catchType := 20 }, { startPc := 0, endPc := 10, handlerPc := 17, catchType := 15 }] { startPc := 0, endPc := 10, handlerPc := 21, catchType := 13 } [] (by rw [htab]; rfl) (tp_cons (nm := exn 3) (by decide) (hts (.classLink RL 20 "java/lang/IndexOutOfBoundsException") lkL_dots_c20) (hN 1 (by decide) 3 (by decide) (by decide)) (tp_cons (nm := exn 2) (by decide) (hts (.classLink RL 15 "java/lang/IllegalStateException") lkL_dots_c15) (hN 1 (by decide) 2 (by decide) (by decide)) tp_nil)) rfl (by decide) (hts (.classLink RL 13 "java/lang/IllegalArgumentException") lkL_dots_c13) rfl (fun H locs q hP hD hS => ?_)
        refine lv_astore (lv' := [(4, .ref q), (0, .ref (ad 0)), (1, .int a0), (2, .int a1), (3, .ref qo)]) hx hb dL_dots_21 hl (by decide) rfl (fun ls hl => ?_)
        refine lv_iconst (v := 3) hx hb dL_dots_23 (by decide) ?_
        exact hret _ _ _ _ _ rfl hP hD hS dL_dots_24
      replace h := ite_f hk1 h
      by_cases hk2 : k0 = 2
      · subst hk2
        cases h
        refine lwC (k := 2) (rest := [.int 0, .ref qo]) (As := [.int a0, .int a1]) S (by decide) (cxX4_dots l hfl G (ad 0) (ad 1) (ad 27) (ad 28) (ad 29) (ad 30) (ad 31) (ad 32) (ad 33) (ad 34) (ad 2) (ad 5) (ad 10) c.gain (ad 11) (ad 19) (ad 27) c.s2.pr c.s2.a c.s2.b c.s2.c c.s2.d c.s2.sp c.s2.mi c.s2.ti c.s2.w c.s2.s c.s2.h c.s2.va c.s2.ov c.s2.ra c.s2.ol c.s2.od c.s2.ne a0 a1 2 gx 2 (by decide) (by rw [hs_a0]; decide) rfl) (cwV 2 hts gL_dots_X4_dots rfl rfl rfl hvX4_dots ⟨Nat.le_of_ble_eq_true rfl, Nat.le_of_ble_eq_true rfl⟩) hK hT hP hD hS [0, 1, 27, 28, 29, 30, 31, 32, 33, 34] rfl 0 4 rfl rfl rfl rfl hl.1 rfl (Nat.le_of_ble_eq_true rfl) dL_dots_5 ⟨Nat.le_of_ble_eq_true rfl, Nat.le_of_ble_eq_true rfl⟩ [{ startPc := 0, endPc := 10, handlerPc := 13, catchType := 20 }] { startPc := 0, endPc := 10, handlerPc := 17, catchType := 15 } [{ startPc := 0, endPc := 10, handlerPc := 21, catchType := 13 }] (by rw [htab]; rfl) (tp_cons (nm := exn 3) (by decide) (hts (.classLink RL 20 "java/lang/IndexOutOfBoundsException") lkL_dots_c20) (hN 2 (by decide) 3 (by decide) (by decide)) tp_nil) rfl (by decide) (hts (.classLink RL 15 "java/lang/IllegalStateException") lkL_dots_c15) rfl (fun H locs q hP hD hS => ?_)
        refine lv_astore (lv' := [(4, .ref q), (0, .ref (ad 0)), (1, .int a0), (2, .int a1), (3, .ref qo)]) hx hb dL_dots_17 hl (by decide) rfl (fun ls hl => ?_)
        refine lv_iconst (v := 2) hx hb dL_dots_19 (by decide) ?_
        exact hret _ _ _ _ _ rfl hP hD hS dL_dots_20
      replace h := ite_f hk2 h
      by_cases hk3 : k0 = 3
      · subst hk3
        cases h
        refine lwC (k := 3) (rest := [.int 0, .ref qo]) (As := [.int a0, .int a1]) S (by decide) (cxX4_dots l hfl G (ad 0) (ad 1) (ad 27) (ad 28) (ad 29) (ad 30) (ad 31) (ad 32) (ad 33) (ad 34) (ad 2) (ad 5) (ad 10) c.gain (ad 11) (ad 19) (ad 27) c.s2.pr c.s2.a c.s2.b c.s2.c c.s2.d c.s2.sp c.s2.mi c.s2.ti c.s2.w c.s2.s c.s2.h c.s2.va c.s2.ov c.s2.ra c.s2.ol c.s2.od c.s2.ne a0 a1 3 gx 2 (by decide) (by rw [hs_a0]; decide) rfl) (cwV 2 hts gL_dots_X4_dots rfl rfl rfl hvX4_dots ⟨Nat.le_of_ble_eq_true rfl, Nat.le_of_ble_eq_true rfl⟩) hK hT hP hD hS [0, 1, 27, 28, 29, 30, 31, 32, 33, 34] rfl 0 4 rfl rfl rfl rfl hl.1 rfl (Nat.le_of_ble_eq_true rfl) dL_dots_5 ⟨Nat.le_of_ble_eq_true rfl, Nat.le_of_ble_eq_true rfl⟩ [] { startPc := 0, endPc := 10, handlerPc := 13, catchType := 20 } [{ startPc := 0, endPc := 10, handlerPc := 17, catchType := 15 }, { startPc := 0, endPc := 10, handlerPc := 21, catchType := 13 }] (by rw [htab]; rfl) tp_nil rfl (by decide) (hts (.classLink RL 20 "java/lang/IndexOutOfBoundsException") lkL_dots_c20) rfl (fun H locs q hP hD hS => ?_)
        refine lv_astore (lv' := [(4, .ref q), (0, .ref (ad 0)), (1, .int a0), (2, .int a1), (3, .ref qo)]) hx hb dL_dots_13 hl (by decide) rfl (fun ls hl => ?_)
        refine lv_iconst (v := 1) hx hb dL_dots_15 (by decide) ?_
        exact hret _ _ _ _ _ rfl hP hD hS dL_dots_16
      cases (ite_f hk3 h)
    · obtain ⟨o0, o1, o2, o3, o4, o5, o6, o7, o8, o9, o10, g, h⟩ := bnd11_e h
      cases h
      refine rwV_back (rest := [.int 0, .ref qo]) (As := [.int a0, .int a1]) (wr := List.filterMap (fun i => (wdF G ad c ++ [(qo, .inl (G.2 3, 1, .inr (.inl f)))])[i]?) [2, 3, 4, 10, 11, 12, 13, 14, 15, 16, 17, 18, 19, 20, 21, 22, 23, 24, 25, 26, 35]) (wf := wdF G ad (mkC c.gain c.il c.ip c.ia c.ig c.is c.im c.ic c.iq o1 o2 o3 o4 o5 o6 o7 o8 o9 o10 c.fw c.fs c.fh c.s0 c.s1 c.s2) ++ [(qo, .inl (G.2 3, 1, .inr (.inl f)))]) S (ctX4_dots l G (ad 0) (ad 1) (ad 5) (ad 6) (ad 7) (ad 8) (ad 9) (ad 27) (ad 28) (ad 29) (ad 30) (ad 31) (ad 32) (ad 33) (ad 34) (ad 2) (ad 10) c.gain (ad 11) (ad 19) (ad 27) c.dn c.dm c.dj c.dt c.dx c.dy c.dr c.dv c.dw c.dq c.s2.pr c.s2.a c.s2.b c.s2.c c.s2.d c.s2.sp c.s2.mi c.s2.ti c.s2.w c.s2.s c.s2.h c.s2.va c.s2.ov c.s2.ra c.s2.ol c.s2.od c.s2.ne a0 a1 o0 o1 o2 o3 o4 o5 o6 o7 o8 o9 o10 g 2 (by decide) (by rw [hs_a0]; decide) rfl) (cwV 2 hts gL_dots_X4_dots rfl rfl rfl hvX4_dots ⟨Nat.le_of_ble_eq_true rfl, Nat.le_of_ble_eq_true rfl⟩) hK hP hD hS (SK.blind _) (fun U hU hW => SK.call hX hA hD hS [0, 1, 5, 6, 7, 8, 9, 27, 28, 29, 30, 31, 32, 33, 34] rfl hU hW) [0, 1, 5, 6, 7, 8, 9, 27, 28, 29, 30, 31, 32, 33, 34] [2, 3, 4, 10, 11, 12, 13, 14, 15, 16, 17, 18, 19, 20, 21, 22, 23, 24, 25, 26, 35] [21, 22, 0, 1, 2, 23, 24, 25, 26, 27, 3, 4, 5, 6, 7, 8, 9, 10, 11, 12, 13, 14, 15, 16, 17, 18, 19, 28, 29, 30, 31, 32, 33, 34, 35, 20] rfl rfl rfl rfl rfl rfl rfl 0 4 rfl rfl rfl rfl hl.1 rfl (Nat.le_of_ble_eq_true rfl) dL_dots_5 ⟨Nat.zero_le _, Nat.zero_le _⟩ (fun _ H locs hP hD hS => ?_)
      refine lv_i2l hx hb dL_dots_8 rfl ?_
      refine va_last hx hb hK.1 hP hD hS 35 3 rfl rfl (i := 0) (vp_in_iff.mpr ⟨by decide, by decide⟩) dL_dots_9 (fun H locs hP hD hS => ?_)
      refine lv_goto (tgt := 25) hx hb dL_dots_10 (by decide) ?_
      refine lv_iconst (v := 0) hx hb dL_dots_25 (by decide) ?_
      refine W.widen (k := 1) (n := 6) (by omega) (by omega) ?_
      exact hret _ _ _ _ _ rfl hP hD hS dL_dots_26
  replace h := ite_f hs_a0 h
  have hn_a02 := hs_a0
  clear hs_a0
  have ho_a0 := slot_out hn_a00 hn_a01 hn_a02
  cases h
  refine lwC (k := 3) (rest := [.int 0, .ref qo]) (As := [.int a0, .int a1]) S (by decide) (cxX4_dotso l hfl G (ad 0) (ad 1) (ad 2) (ad 5) (ad 10) c.gain (ad 11) (ad 19) (ad 27) a0 a1 ho_a0) (cwV 2 hts gL_dots_X4_dots rfl rfl rfl hvX4_dots ⟨Nat.le_of_ble_eq_true rfl, Nat.le_of_ble_eq_true rfl⟩) hK hT hP hD hS [0, 1] rfl 0 4 rfl rfl rfl rfl hl.1 rfl (Nat.le_of_ble_eq_true rfl) dL_dots_5 ⟨Nat.le_of_ble_eq_true rfl, Nat.le_of_ble_eq_true rfl⟩ [] { startPc := 0, endPc := 10, handlerPc := 13, catchType := 20 } [{ startPc := 0, endPc := 10, handlerPc := 17, catchType := 15 }, { startPc := 0, endPc := 10, handlerPc := 21, catchType := 13 }] (by rw [htab]; rfl) tp_nil rfl (by decide) (hts (.classLink RL 20 "java/lang/IndexOutOfBoundsException") lkL_dots_c20) rfl (fun H locs q hP hD hS => ?_)
  refine lv_astore (lv' := [(4, .ref q), (0, .ref (ad 0)), (1, .int a0), (2, .int a1), (3, .ref qo)]) hx hb dL_dots_13 hl (by decide) rfl (fun ls hl => ?_)
  refine lv_iconst (v := 1) hx hb dL_dots_15 (by decide) ?_
  exact hret _ _ _ _ _ rfl hP hD hS dL_dots_16
abbrev rmL_strength : Room := { frames := 9, cells := 1, slots := 6, locals := 156 }
theorem hsX4_strength : yX4_strength.cls ≠ "java/lang/invoke/MethodHandle" ∧ yX4_strength.cls ≠ "java/lang/invoke/VarHandle" ∧ (parseMethodDescriptor yX4_strength.desc).map (fun d => d.parameters.length) = some 2 := by decide +kernel
theorem hvX4_strength : yX4_strength.cls = RX4 ∧ yX4_strength.cls ≠ "java/lang/invoke/MethodHandle" ∧ yX4_strength.cls ≠ "java/lang/invoke/VarHandle" ∧ (parseMethodDescriptor yX4_strength.desc).map (fun d => d.parameters.length) = some 2 := ⟨rfl, hsX4_strength⟩
theorem lkL_strength_c15 : Cond.classLink RL 15 "java/lang/IllegalStateException" ∈ wsL_strength := List.mem_of_getElem? (i := 2) rfl
theorem lkL_strength_c20 : Cond.classLink RL 20 "java/lang/IndexOutOfBoundsException" ∈ wsL_strength := List.mem_of_getElem? (i := 1) rfl
theorem lkL_strength_c13 : Cond.classLink RL 13 "java/lang/IllegalArgumentException" ∈ wsL_strength := List.mem_of_getElem? (i := 3) rfl
set_option maxHeartbeats 4000000 in
set_option maxRecDepth 100000 in
theorem lw_strength (l : Launch) (hfl : l.stackTraces = false) (G : GG) (ad : Nat → Nat) (qo : Nat) (c c' : Cls) (f f' : Nat → Int64) (a0 : Int32) (a1 : Int32) (r0 : Int32) (h : lm_strength c f a0 a1 = some (r0, c', f')) : Met l yL_strength wsL_strength rmL_strength (va_Pc [.ref (ad 0), .int a0, .int a1, .ref qo] (PreD G (wdF G ad c ++ [(qo, .inl (G.2 3, 1, .inr (.inl f)))]) (XL (wdF G ad c ++ [(qo, .inl (G.2 3, 1, .inr (.inl f)))])))) (QwA G (va_A0 (wdF G ad c ++ [(qo, .inl (G.2 3, 1, .inr (.inl f)))])) (wdF G ad c' ++ [(qo, .inl (G.2 3, 1, .inr (.inl f')))]) (some (.int r0)) True) 1 6 (va_A0 (wdF G ad c ++ [(qo, .inl (G.2 3, 1, .inr (.inl f)))])) := by
  refine of_lw (cc := cL_strength) (maxL := 5) (hh := [(0, 10, 13, 20), (0, 10, 17, 15), (0, 10, 21, 13)]) (by decide) rfl (Nat.le_of_ble_eq_true rfl) ?_
  intro p e s m args below meth c1 ls Q A S htab hl hP hD hS hK hT hN hX hA hret
  obtain ⟨H, hH⟩ : ∃ H, H = s.heap := ⟨_, rfl⟩
  obtain ⟨locs, hlocs⟩ : ∃ L : List Loc, L = [] := ⟨_, rfl⟩
  rw [← hlocs]
  rw [← hlocs] at hS
  have hP : va_P G.1 vwCl (wdF G ad c ++ [(qo, .inl (G.2 3, 1, .inr (.inl f)))]) H := by rw [hH]; exact hP
  have hS : va_S A s.heap H locs := by rw [hH]; exact hS
  have hT : TT A s H := by rw [hH]; exact hT
  suffices hgo : W p l e rmL_strength s m args below meth c1 H locs 0 0 Q (F0 m 0 ls []) by rw [hH] at hgo; exact hgo
  have S : CallFix p m c1 cL_strength 5 s args wsL_strength RL := S
  obtain ⟨hx, hb, hml, hown, hts⟩ := id S
  have hl : lv_has ls 5 [(0, .ref (ad 0)), (1, .int a0), (2, .int a1), (3, .ref qo)] := hl
  unfold lm_strength at h
  refine lv_aload_n hx hb dL_strength_0 rfl (lv_at hl 3 rfl) ?_
  refine lv_iconst (v := 0) hx hb dL_strength_1 (by decide) ?_
  refine lv_aload_n hx hb dL_strength_2 rfl (lv_at hl 0 rfl) ?_
  refine lv_iload_n hx hb dL_strength_3 rfl (lv_at hl 1 rfl) ?_
  refine lv_iload_n hx hb dL_strength_4 rfl (lv_at hl 2 rfl) ?_
  by_cases hs_a0 : a0 = 0
  · replace h := ite_t hs_a0 h
    rcases lq_e h with ⟨k0, gx, h⟩ | ⟨gx, h⟩
    · by_cases hk1 : k0 = 1
      · subst hk1
        cases h
        refine lwC (k := 1) (rest := [.int 0, .ref qo]) (As := [.int a0, .int a1]) S (by decide) (cxX4_strength l hfl G (ad 0) (ad 1) (ad 11) (ad 12) (ad 13) (ad 14) (ad 15) (ad 16) (ad 17) (ad 18) (ad 2) (ad 5) (ad 10) c.gain (ad 11) (ad 19) (ad 27) c.s0.pr c.s0.a c.s0.b c.s0.c c.s0.d c.s0.sp c.s0.mi c.s0.ti c.s0.w c.s0.s c.s0.h c.s0.va c.s0.ov c.s0.ra c.s0.ol c.s0.od c.s0.ne a0 a1 1 gx 0 (by decide) (by rw [hs_a0]; decide) rfl) (cwV 2 hts gL_strength_X4_strength rfl rfl rfl hvX4_strength ⟨Nat.le_of_ble_eq_true rfl, Nat.le_of_ble_eq_true rfl⟩) hK hT hP hD hS [0, 1, 11, 12, 13, 14, 15, 16, 17, 18] rfl 0 4 rfl rfl rfl rfl hl.1 rfl (Nat.le_of_ble_eq_true rfl) dL_strength_5 ⟨Nat.le_of_ble_eq_true rfl, Nat.le_of_ble_eq_true rfl⟩ [{ startPc := 0, endPc := 10, handlerPc := 13, catchType := 20 }, { startPc := 0, endPc := 10, handlerPc := 17, catchType := 15 }] { startPc := 0, endPc := 10, handlerPc := 21, catchType := 13 } [] (by rw [htab]; rfl) (tp_cons (nm := exn 3) (by decide) (hts (.classLink RL 20 "java/lang/IndexOutOfBoundsException") lkL_strength_c20) (hN 1 (by decide) 3 (by decide) (by decide)) (tp_cons (nm := exn 2) (by decide) (hts (.classLink RL 15 "java/lang/IllegalStateException") lkL_strength_c15) (hN 1 (by decide) 2 (by decide) (by decide)) tp_nil)) rfl (by decide) (hts (.classLink RL 13 "java/lang/IllegalArgumentException") lkL_strength_c13) rfl (fun H locs q hP hD hS => ?_)
        refine lv_astore (lv' := [(4, .ref q), (0, .ref (ad 0)), (1, .int a0), (2, .int a1), (3, .ref qo)]) hx hb dL_strength_21 hl (by decide) rfl (fun ls hl => ?_)
        refine lv_iconst (v := 3) hx hb dL_strength_23 (by decide) ?_
        exact hret _ _ _ _ _ rfl hP hD hS dL_strength_24
      replace h := ite_f hk1 h
      by_cases hk2 : k0 = 2
      · subst hk2
        cases h
        refine lwC (k := 2) (rest := [.int 0, .ref qo]) (As := [.int a0, .int a1]) S (by decide) (cxX4_strength l hfl G (ad 0) (ad 1) (ad 11) (ad 12) (ad 13) (ad 14) (ad 15) (ad 16) (ad 17) (ad 18) (ad 2) (ad 5) (ad 10) c.gain (ad 11) (ad 19) (ad 27) c.s0.pr c.s0.a c.s0.b c.s0.c c.s0.d c.s0.sp c.s0.mi c.s0.ti c.s0.w c.s0.s c.s0.h c.s0.va c.s0.ov c.s0.ra c.s0.ol c.s0.od c.s0.ne a0 a1 2 gx 0 (by decide) (by rw [hs_a0]; decide) rfl) (cwV 2 hts gL_strength_X4_strength rfl rfl rfl hvX4_strength ⟨Nat.le_of_ble_eq_true rfl, Nat.le_of_ble_eq_true rfl⟩) hK hT hP hD hS [0, 1, 11, 12, 13, 14, 15, 16, 17, 18] rfl 0 4 rfl rfl rfl rfl hl.1 rfl (Nat.le_of_ble_eq_true rfl) dL_strength_5 ⟨Nat.le_of_ble_eq_true rfl, Nat.le_of_ble_eq_true rfl⟩ [{ startPc := 0, endPc := 10, handlerPc := 13, catchType := 20 }] { startPc := 0, endPc := 10, handlerPc := 17, catchType := 15 } [{ startPc := 0, endPc := 10, handlerPc := 21, catchType := 13 }] (by rw [htab]; rfl) (tp_cons (nm := exn 3) (by decide) (hts (.classLink RL 20 "java/lang/IndexOutOfBoundsException") lkL_strength_c20) (hN 2 (by decide) 3 (by decide) (by decide)) tp_nil) rfl (by decide) (hts (.classLink RL 15 "java/lang/IllegalStateException") lkL_strength_c15) rfl (fun H locs q hP hD hS => ?_)
        refine lv_astore (lv' := [(4, .ref q), (0, .ref (ad 0)), (1, .int a0), (2, .int a1), (3, .ref qo)]) hx hb dL_strength_17 hl (by decide) rfl (fun ls hl => ?_)
        refine lv_iconst (v := 2) hx hb dL_strength_19 (by decide) ?_
        exact hret _ _ _ _ _ rfl hP hD hS dL_strength_20
      replace h := ite_f hk2 h
      by_cases hk3 : k0 = 3
      · subst hk3
        cases h
        refine lwC (k := 3) (rest := [.int 0, .ref qo]) (As := [.int a0, .int a1]) S (by decide) (cxX4_strength l hfl G (ad 0) (ad 1) (ad 11) (ad 12) (ad 13) (ad 14) (ad 15) (ad 16) (ad 17) (ad 18) (ad 2) (ad 5) (ad 10) c.gain (ad 11) (ad 19) (ad 27) c.s0.pr c.s0.a c.s0.b c.s0.c c.s0.d c.s0.sp c.s0.mi c.s0.ti c.s0.w c.s0.s c.s0.h c.s0.va c.s0.ov c.s0.ra c.s0.ol c.s0.od c.s0.ne a0 a1 3 gx 0 (by decide) (by rw [hs_a0]; decide) rfl) (cwV 2 hts gL_strength_X4_strength rfl rfl rfl hvX4_strength ⟨Nat.le_of_ble_eq_true rfl, Nat.le_of_ble_eq_true rfl⟩) hK hT hP hD hS [0, 1, 11, 12, 13, 14, 15, 16, 17, 18] rfl 0 4 rfl rfl rfl rfl hl.1 rfl (Nat.le_of_ble_eq_true rfl) dL_strength_5 ⟨Nat.le_of_ble_eq_true rfl, Nat.le_of_ble_eq_true rfl⟩ [] { startPc := 0, endPc := 10, handlerPc := 13, catchType := 20 } [{ startPc := 0, endPc := 10, handlerPc := 17, catchType := 15 }, { startPc := 0, endPc := 10, handlerPc := 21, catchType := 13 }] (by rw [htab]; rfl) tp_nil rfl (by decide) (hts (.classLink RL 20 "java/lang/IndexOutOfBoundsException") lkL_strength_c20) rfl (fun H locs q hP hD hS => ?_)
        refine lv_astore (lv' := [(4, .ref q), (0, .ref (ad 0)), (1, .int a0), (2, .int a1), (3, .ref qo)]) hx hb dL_strength_13 hl (by decide) rfl (fun ls hl => ?_)
        refine lv_iconst (v := 1) hx hb dL_strength_15 (by decide) ?_
        exact hret _ _ _ _ _ rfl hP hD hS dL_strength_16
      cases (ite_f hk3 h)
    · obtain ⟨o0, g, h⟩ := bnd1_e h
      cases h
      refine roVi1 (rest := [.int 0, .ref qo]) (As := [.int a0, .int a1]) S (ctX4_strength l G (ad 0) (ad 1) (ad 11) (ad 12) (ad 13) (ad 14) (ad 15) (ad 16) (ad 17) (ad 18) (ad 2) (ad 5) (ad 10) c.gain (ad 11) (ad 19) (ad 27) c.s0.pr c.s0.a c.s0.b c.s0.c c.s0.d c.s0.sp c.s0.mi c.s0.ti c.s0.w c.s0.s c.s0.h c.s0.va c.s0.ov c.s0.ra c.s0.ol c.s0.od c.s0.ne a0 a1 o0 g 0 (by decide) (by rw [hs_a0]; decide) rfl) (cwV 2 hts gL_strength_X4_strength rfl rfl rfl hvX4_strength ⟨Nat.le_of_ble_eq_true rfl, Nat.le_of_ble_eq_true rfl⟩) hK hP [0, 1, 11, 12, 13, 14, 15, 16, 17, 18] rfl 0 4 rfl rfl rfl rfl hl.1 rfl (Nat.le_of_ble_eq_true rfl) dL_strength_5 ⟨Nat.zero_le _, Nat.zero_le _⟩ (fun _ => ?_)
      refine lv_i2l hx hb dL_strength_8 rfl ?_
      refine va_last hx hb hK.1 hP hD hS 35 3 rfl rfl (i := 0) (vp_in_iff.mpr ⟨by decide, by decide⟩) dL_strength_9 (fun H locs hP hD hS => ?_)
      refine lv_goto (tgt := 25) hx hb dL_strength_10 (by decide) ?_
      refine lv_iconst (v := 0) hx hb dL_strength_25 (by decide) ?_
      refine W.widen (k := 1) (n := 6) (by omega) (by omega) ?_
      exact hret _ _ _ _ _ rfl hP hD hS dL_strength_26
  replace h := ite_f hs_a0 h
  have hn_a00 := hs_a0
  clear hs_a0
  by_cases hs_a0 : a0 = 1
  · replace h := ite_t hs_a0 h
    rcases lq_e h with ⟨k0, gx, h⟩ | ⟨gx, h⟩
    · by_cases hk1 : k0 = 1
      · subst hk1
        cases h
        refine lwC (k := 1) (rest := [.int 0, .ref qo]) (As := [.int a0, .int a1]) S (by decide) (cxX4_strength l hfl G (ad 0) (ad 1) (ad 19) (ad 20) (ad 21) (ad 22) (ad 23) (ad 24) (ad 25) (ad 26) (ad 2) (ad 5) (ad 10) c.gain (ad 11) (ad 19) (ad 27) c.s1.pr c.s1.a c.s1.b c.s1.c c.s1.d c.s1.sp c.s1.mi c.s1.ti c.s1.w c.s1.s c.s1.h c.s1.va c.s1.ov c.s1.ra c.s1.ol c.s1.od c.s1.ne a0 a1 1 gx 1 (by decide) (by rw [hs_a0]; decide) rfl) (cwV 2 hts gL_strength_X4_strength rfl rfl rfl hvX4_strength ⟨Nat.le_of_ble_eq_true rfl, Nat.le_of_ble_eq_true rfl⟩) hK hT hP hD hS [0, 1, 19, 20, 21, 22, 23, 24, 25, 26] rfl 0 4 rfl rfl rfl rfl hl.1 rfl (Nat.le_of_ble_eq_true rfl) dL_strength_5 ⟨Nat.le_of_ble_eq_true rfl, Nat.le_of_ble_eq_true rfl⟩ [{ startPc := 0, endPc := 10, handlerPc := 13, catchType := 20 }, { startPc := 0, endPc := 10, handlerPc := 17, catchType := 15 }] { startPc := 0, endPc := 10, handlerPc := 21, catchType := 13 } [] (by rw [htab]; rfl) (tp_cons (nm := exn 3) (by decide) (hts (.classLink RL 20 "java/lang/IndexOutOfBoundsException") lkL_strength_c20) (hN 1 (by decide) 3 (by decide) (by decide)) (tp_cons (nm := exn 2) (by decide) (hts (.classLink RL 15 "java/lang/IllegalStateException") lkL_strength_c15) (hN 1 (by decide) 2 (by decide) (by decide)) tp_nil)) rfl (by decide) (hts (.classLink RL 13 "java/lang/IllegalArgumentException") lkL_strength_c13) rfl (fun H locs q hP hD hS => ?_)
        refine lv_astore (lv' := [(4, .ref q), (0, .ref (ad 0)), (1, .int a0), (2, .int a1), (3, .ref qo)]) hx hb dL_strength_21 hl (by decide) rfl (fun ls hl => ?_)
        refine lv_iconst (v := 3) hx hb dL_strength_23 (by decide) ?_
        exact hret _ _ _ _ _ rfl hP hD hS dL_strength_24
      replace h := ite_f hk1 h
      by_cases hk2 : k0 = 2
      · subst hk2
        cases h
        refine lwC (k := 2) (rest := [.int 0, .ref qo]) (As := [.int a0, .int a1]) S (by decide) (cxX4_strength l hfl G (ad 0) (ad 1) (ad 19) (ad 20) (ad 21) (ad 22) (ad 23) (ad 24) (ad 25) (ad 26) (ad 2) (ad 5) (ad 10) c.gain (ad 11) (ad 19) (ad 27) c.s1.pr c.s1.a c.s1.b c.s1.c c.s1.d c.s1.sp c.s1.mi c.s1.ti c.s1.w c.s1.s c.s1.h c.s1.va c.s1.ov c.s1.ra c.s1.ol c.s1.od c.s1.ne a0 a1 2 gx 1 (by decide) (by rw [hs_a0]; decide) rfl) (cwV 2 hts gL_strength_X4_strength rfl rfl rfl hvX4_strength ⟨Nat.le_of_ble_eq_true rfl, Nat.le_of_ble_eq_true rfl⟩) hK hT hP hD hS [0, 1, 19, 20, 21, 22, 23, 24, 25, 26] rfl 0 4 rfl rfl rfl rfl hl.1 rfl (Nat.le_of_ble_eq_true rfl) dL_strength_5 ⟨Nat.le_of_ble_eq_true rfl, Nat.le_of_ble_eq_true rfl⟩ [{ startPc := 0, endPc := 10, handlerPc := 13, catchType := 20 }] { startPc := 0, endPc := 10, handlerPc := 17, catchType := 15 } [{ startPc := 0, endPc := 10, handlerPc := 21, catchType := 13 }] (by rw [htab]; rfl) (tp_cons (nm := exn 3) (by decide) (hts (.classLink RL 20 "java/lang/IndexOutOfBoundsException") lkL_strength_c20) (hN 2 (by decide) 3 (by decide) (by decide)) tp_nil) rfl (by decide) (hts (.classLink RL 15 "java/lang/IllegalStateException") lkL_strength_c15) rfl (fun H locs q hP hD hS => ?_)
        refine lv_astore (lv' := [(4, .ref q), (0, .ref (ad 0)), (1, .int a0), (2, .int a1), (3, .ref qo)]) hx hb dL_strength_17 hl (by decide) rfl (fun ls hl => ?_)
        refine lv_iconst (v := 2) hx hb dL_strength_19 (by decide) ?_
        exact hret _ _ _ _ _ rfl hP hD hS dL_strength_20
      replace h := ite_f hk2 h
      by_cases hk3 : k0 = 3
      · subst hk3
        cases h
        refine lwC (k := 3) (rest := [.int 0, .ref qo]) (As := [.int a0, .int a1]) S (by decide) (cxX4_strength l hfl G (ad 0) (ad 1) (ad 19) (ad 20) (ad 21) (ad 22) (ad 23) (ad 24) (ad 25) (ad 26) (ad 2) (ad 5) (ad 10) c.gain (ad 11) (ad 19) (ad 27) c.s1.pr c.s1.a c.s1.b c.s1.c c.s1.d c.s1.sp c.s1.mi c.s1.ti c.s1.w c.s1.s c.s1.h c.s1.va c.s1.ov c.s1.ra c.s1.ol c.s1.od c.s1.ne a0 a1 3 gx 1 (by decide) (by rw [hs_a0]; decide) rfl) (cwV 2 hts gL_strength_X4_strength rfl rfl rfl hvX4_strength ⟨Nat.le_of_ble_eq_true rfl, Nat.le_of_ble_eq_true rfl⟩) hK hT hP hD hS [0, 1, 19, 20, 21, 22, 23, 24, 25, 26] rfl 0 4 rfl rfl rfl rfl hl.1 rfl (Nat.le_of_ble_eq_true rfl) dL_strength_5 ⟨Nat.le_of_ble_eq_true rfl, Nat.le_of_ble_eq_true rfl⟩ [] { startPc := 0, endPc := 10, handlerPc := 13, catchType := 20 } [{ startPc := 0, endPc := 10, handlerPc := 17, catchType := 15 }, { startPc := 0, endPc := 10, handlerPc := 21, catchType := 13 }] (by rw [htab]; rfl) tp_nil rfl (by decide) (hts (.classLink RL 20 "java/lang/IndexOutOfBoundsException") lkL_strength_c20) rfl (fun H locs q hP hD hS => ?_)
        refine lv_astore (lv' := [(4, .ref q), (0, .ref (ad 0)), (1, .int a0), (2, .int a1), (3, .ref qo)]) hx hb dL_strength_13 hl (by decide) rfl (fun ls hl => ?_)
        refine lv_iconst (v := 1) hx hb dL_strength_15 (by decide) ?_
        exact hret _ _ _ _ _ rfl hP hD hS dL_strength_16
      cases (ite_f hk3 h)
    · obtain ⟨o0, g, h⟩ := bnd1_e h
      cases h
      refine roVi1 (rest := [.int 0, .ref qo]) (As := [.int a0, .int a1]) S (ctX4_strength l G (ad 0) (ad 1) (ad 19) (ad 20) (ad 21) (ad 22) (ad 23) (ad 24) (ad 25) (ad 26) (ad 2) (ad 5) (ad 10) c.gain (ad 11) (ad 19) (ad 27) c.s1.pr c.s1.a c.s1.b c.s1.c c.s1.d c.s1.sp c.s1.mi c.s1.ti c.s1.w c.s1.s c.s1.h c.s1.va c.s1.ov c.s1.ra c.s1.ol c.s1.od c.s1.ne a0 a1 o0 g 1 (by decide) (by rw [hs_a0]; decide) rfl) (cwV 2 hts gL_strength_X4_strength rfl rfl rfl hvX4_strength ⟨Nat.le_of_ble_eq_true rfl, Nat.le_of_ble_eq_true rfl⟩) hK hP [0, 1, 19, 20, 21, 22, 23, 24, 25, 26] rfl 0 4 rfl rfl rfl rfl hl.1 rfl (Nat.le_of_ble_eq_true rfl) dL_strength_5 ⟨Nat.zero_le _, Nat.zero_le _⟩ (fun _ => ?_)
      refine lv_i2l hx hb dL_strength_8 rfl ?_
      refine va_last hx hb hK.1 hP hD hS 35 3 rfl rfl (i := 0) (vp_in_iff.mpr ⟨by decide, by decide⟩) dL_strength_9 (fun H locs hP hD hS => ?_)
      refine lv_goto (tgt := 25) hx hb dL_strength_10 (by decide) ?_
      refine lv_iconst (v := 0) hx hb dL_strength_25 (by decide) ?_
      refine W.widen (k := 1) (n := 6) (by omega) (by omega) ?_
      exact hret _ _ _ _ _ rfl hP hD hS dL_strength_26
  replace h := ite_f hs_a0 h
  have hn_a01 := hs_a0
  clear hs_a0
  by_cases hs_a0 : a0 = 2
  · replace h := ite_t hs_a0 h
    rcases lq_e h with ⟨k0, gx, h⟩ | ⟨gx, h⟩
    · by_cases hk1 : k0 = 1
      · subst hk1
        cases h
        refine lwC (k := 1) (rest := [.int 0, .ref qo]) (As := [.int a0, .int a1]) S (by decide) (cxX4_strength l hfl G (ad 0) (ad 1) (ad 27) (ad 28) (ad 29) (ad 30) (ad 31) (ad 32) (ad 33) (ad 34) (ad 2) (ad 5) (ad 10) c.gain (ad 11) (ad 19) (ad 27) c.s2.pr c.s2.a c.s2.b c.s2.c c.s2.d c.s2.sp c.s2.mi c.s2.ti c.s2.w c.s2.s c.s2.h c.s2.va c.s2.ov c.s2.ra c.s2.ol c.s2.od c.s2.ne a0 a1 1 gx 2 (by decide) (by rw [hs_a0]; decide) rfl) (cwV 2 hts gL_strength_X4_strength rfl rfl rfl hvX4_strength ⟨Nat.le_of_ble_eq_true rfl, Nat.le_of_ble_eq_true rfl⟩) hK hT hP hD hS [0, 1, 27, 28, 29, 30, 31, 32, 33, 34] rfl 0 4 rfl rfl rfl rfl hl.1 rfl (Nat.le_of_ble_eq_true rfl) dL_strength_5 ⟨Nat.le_of_ble_eq_true rfl, Nat.le_of_ble_eq_true rfl⟩ [{ startPc := 0, endPc := 10, handlerPc := 13, catchType := 20 }, { startPc := 0, endPc := 10, handlerPc := 17, catchType := 15 }] { startPc := 0, endPc := 10, handlerPc := 21, catchType := 13 } [] (by rw [htab]; rfl) (tp_cons (nm := exn 3) (by decide) (hts (.classLink RL 20 "java/lang/IndexOutOfBoundsException") lkL_strength_c20) (hN 1 (by decide) 3 (by decide) (by decide)) (tp_cons (nm := exn 2) (by decide) (hts (.classLink RL 15 "java/lang/IllegalStateException") lkL_strength_c15) (hN 1 (by decide) 2 (by decide) (by decide)) tp_nil)) rfl (by decide) (hts (.classLink RL 13 "java/lang/IllegalArgumentException") lkL_strength_c13) rfl (fun H locs q hP hD hS => ?_)
        refine lv_astore (lv' := [(4, .ref q), (0, .ref (ad 0)), (1, .int a0), (2, .int a1), (3, .ref qo)]) hx hb dL_strength_21 hl (by decide) rfl (fun ls hl => ?_)
        refine lv_iconst (v := 3) hx hb dL_strength_23 (by decide) ?_
        exact hret _ _ _ _ _ rfl hP hD hS dL_strength_24
      replace h := ite_f hk1 h
      by_cases hk2 : k0 = 2
      · subst hk2
        cases h
        refine lwC (k := 2) (rest := [.int 0, .ref qo]) (As := [.int a0, .int a1]) S (by decide) (cxX4_strength l hfl G (ad 0) (ad 1) (ad 27) (ad 28) (ad 29) (ad 30) (ad 31) (ad 32) (ad 33) (ad 34) (ad 2) (ad 5) (ad 10) c.gain (ad 11) (ad 19) (ad 27) c.s2.pr c.s2.a c.s2.b c.s2.c c.s2.d c.s2.sp c.s2.mi c.s2.ti c.s2.w c.s2.s c.s2.h c.s2.va c.s2.ov c.s2.ra c.s2.ol c.s2.od c.s2.ne a0 a1 2 gx 2 (by decide) (by rw [hs_a0]; decide) rfl) (cwV 2 hts gL_strength_X4_strength rfl rfl rfl hvX4_strength ⟨Nat.le_of_ble_eq_true rfl, Nat.le_of_ble_eq_true rfl⟩) hK hT hP hD hS [0, 1, 27, 28, 29, 30, 31, 32, 33, 34] rfl 0 4 rfl rfl rfl rfl hl.1 rfl (Nat.le_of_ble_eq_true rfl) dL_strength_5 ⟨Nat.le_of_ble_eq_true rfl, Nat.le_of_ble_eq_true rfl⟩ [{ startPc := 0, endPc := 10, handlerPc := 13, catchType := 20 }] { startPc := 0, endPc := 10, handlerPc := 17, catchType := 15 } [{ startPc := 0, endPc := 10, handlerPc := 21, catchType := 13 }] (by rw [htab]; rfl) (tp_cons (nm := exn 3) (by decide) (hts (.classLink RL 20 "java/lang/IndexOutOfBoundsException") lkL_strength_c20) (hN 2 (by decide) 3 (by decide) (by decide)) tp_nil) rfl (by decide) (hts (.classLink RL 15 "java/lang/IllegalStateException") lkL_strength_c15) rfl (fun H locs q hP hD hS => ?_)
        refine lv_astore (lv' := [(4, .ref q), (0, .ref (ad 0)), (1, .int a0), (2, .int a1), (3, .ref qo)]) hx hb dL_strength_17 hl (by decide) rfl (fun ls hl => ?_)
        refine lv_iconst (v := 2) hx hb dL_strength_19 (by decide) ?_
        exact hret _ _ _ _ _ rfl hP hD hS dL_strength_20
      replace h := ite_f hk2 h
      by_cases hk3 : k0 = 3
      · subst hk3
        cases h
        refine lwC (k := 3) (rest := [.int 0, .ref qo]) (As := [.int a0, .int a1]) S (by decide) (cxX4_strength l hfl G (ad 0) (ad 1) (ad 27) (ad 28) (ad 29) (ad 30) (ad 31) (ad 32) (ad 33) (ad 34) (ad 2) (ad 5) (ad 10) c.gain (ad 11) (ad 19) (ad 27) c.s2.pr c.s2.a c.s2.b c.s2.c c.s2.d c.s2.sp c.s2.mi c.s2.ti c.s2.w c.s2.s c.s2.h c.s2.va c.s2.ov c.s2.ra c.s2.ol c.s2.od c.s2.ne a0 a1 3 gx 2 (by decide) (by rw [hs_a0]; decide) rfl) (cwV 2 hts gL_strength_X4_strength rfl rfl rfl hvX4_strength ⟨Nat.le_of_ble_eq_true rfl, Nat.le_of_ble_eq_true rfl⟩) hK hT hP hD hS [0, 1, 27, 28, 29, 30, 31, 32, 33, 34] rfl 0 4 rfl rfl rfl rfl hl.1 rfl (Nat.le_of_ble_eq_true rfl) dL_strength_5 ⟨Nat.le_of_ble_eq_true rfl, Nat.le_of_ble_eq_true rfl⟩ [] { startPc := 0, endPc := 10, handlerPc := 13, catchType := 20 } [{ startPc := 0, endPc := 10, handlerPc := 17, catchType := 15 }, { startPc := 0, endPc := 10, handlerPc := 21, catchType := 13 }] (by rw [htab]; rfl) tp_nil rfl (by decide) (hts (.classLink RL 20 "java/lang/IndexOutOfBoundsException") lkL_strength_c20) rfl (fun H locs q hP hD hS => ?_)
        refine lv_astore (lv' := [(4, .ref q), (0, .ref (ad 0)), (1, .int a0), (2, .int a1), (3, .ref qo)]) hx hb dL_strength_13 hl (by decide) rfl (fun ls hl => ?_)
        refine lv_iconst (v := 1) hx hb dL_strength_15 (by decide) ?_
        exact hret _ _ _ _ _ rfl hP hD hS dL_strength_16
      cases (ite_f hk3 h)
    · obtain ⟨o0, g, h⟩ := bnd1_e h
      cases h
      refine roVi1 (rest := [.int 0, .ref qo]) (As := [.int a0, .int a1]) S (ctX4_strength l G (ad 0) (ad 1) (ad 27) (ad 28) (ad 29) (ad 30) (ad 31) (ad 32) (ad 33) (ad 34) (ad 2) (ad 5) (ad 10) c.gain (ad 11) (ad 19) (ad 27) c.s2.pr c.s2.a c.s2.b c.s2.c c.s2.d c.s2.sp c.s2.mi c.s2.ti c.s2.w c.s2.s c.s2.h c.s2.va c.s2.ov c.s2.ra c.s2.ol c.s2.od c.s2.ne a0 a1 o0 g 2 (by decide) (by rw [hs_a0]; decide) rfl) (cwV 2 hts gL_strength_X4_strength rfl rfl rfl hvX4_strength ⟨Nat.le_of_ble_eq_true rfl, Nat.le_of_ble_eq_true rfl⟩) hK hP [0, 1, 27, 28, 29, 30, 31, 32, 33, 34] rfl 0 4 rfl rfl rfl rfl hl.1 rfl (Nat.le_of_ble_eq_true rfl) dL_strength_5 ⟨Nat.zero_le _, Nat.zero_le _⟩ (fun _ => ?_)
      refine lv_i2l hx hb dL_strength_8 rfl ?_
      refine va_last hx hb hK.1 hP hD hS 35 3 rfl rfl (i := 0) (vp_in_iff.mpr ⟨by decide, by decide⟩) dL_strength_9 (fun H locs hP hD hS => ?_)
      refine lv_goto (tgt := 25) hx hb dL_strength_10 (by decide) ?_
      refine lv_iconst (v := 0) hx hb dL_strength_25 (by decide) ?_
      refine W.widen (k := 1) (n := 6) (by omega) (by omega) ?_
      exact hret _ _ _ _ _ rfl hP hD hS dL_strength_26
  replace h := ite_f hs_a0 h
  have hn_a02 := hs_a0
  clear hs_a0
  have ho_a0 := slot_out hn_a00 hn_a01 hn_a02
  cases h
  refine lwC (k := 3) (rest := [.int 0, .ref qo]) (As := [.int a0, .int a1]) S (by decide) (cxX4_strengtho l hfl G (ad 0) (ad 1) (ad 2) (ad 5) (ad 10) c.gain (ad 11) (ad 19) (ad 27) a0 a1 ho_a0) (cwV 2 hts gL_strength_X4_strength rfl rfl rfl hvX4_strength ⟨Nat.le_of_ble_eq_true rfl, Nat.le_of_ble_eq_true rfl⟩) hK hT hP hD hS [0, 1] rfl 0 4 rfl rfl rfl rfl hl.1 rfl (Nat.le_of_ble_eq_true rfl) dL_strength_5 ⟨Nat.le_of_ble_eq_true rfl, Nat.le_of_ble_eq_true rfl⟩ [] { startPc := 0, endPc := 10, handlerPc := 13, catchType := 20 } [{ startPc := 0, endPc := 10, handlerPc := 17, catchType := 15 }, { startPc := 0, endPc := 10, handlerPc := 21, catchType := 13 }] (by rw [htab]; rfl) tp_nil rfl (by decide) (hts (.classLink RL 20 "java/lang/IndexOutOfBoundsException") lkL_strength_c20) rfl (fun H locs q hP hD hS => ?_)
  refine lv_astore (lv' := [(4, .ref q), (0, .ref (ad 0)), (1, .int a0), (2, .int a1), (3, .ref qo)]) hx hb dL_strength_13 hl (by decide) rfl (fun ls hl => ?_)
  refine lv_iconst (v := 1) hx hb dL_strength_15 (by decide) ?_
  exact hret _ _ _ _ _ rfl hP hD hS dL_strength_16
abbrev rmL_period : Room := { frames := 8, cells := 1, slots := 6, locals := 132 }
theorem lkL_period_c13 : Cond.classLink RL 13 "java/lang/IllegalArgumentException" ∈ wsL_period := List.mem_of_getElem? (i := 1) rfl
theorem lkL_period_c15 : Cond.classLink RL 15 "java/lang/IllegalStateException" ∈ wsL_period := List.mem_of_getElem? (i := 2) rfl
set_option maxHeartbeats 4000000 in
set_option maxRecDepth 100000 in
theorem lw_period (l : Launch) (hfl : l.stackTraces = false) (G : GG) (ad : Nat → Nat) (qo : Nat) (c c' : Cls) (f f' : Nat → Int64) (a0 : Int32) (a1 : Int32) (r0 : Int32) (h : lm_period c f a0 a1 = some (r0, c', f')) : Met l yL_period wsL_period rmL_period (va_Pc [.ref (ad 0), .int a0, .int a1, .ref qo] (PreD G (wdF G ad c ++ [(qo, .inl (G.2 3, 1, .inr (.inl f)))]) (XL (wdF G ad c ++ [(qo, .inl (G.2 3, 1, .inr (.inl f)))])))) (QwA G (va_A0 (wdF G ad c ++ [(qo, .inl (G.2 3, 1, .inr (.inl f)))])) (wdF G ad c' ++ [(qo, .inl (G.2 3, 1, .inr (.inl f')))]) (some (.int r0)) True) 1 6 (va_A0 (wdF G ad c ++ [(qo, .inl (G.2 3, 1, .inr (.inl f)))])) := by
  refine of_lw (cc := cL_period) (maxL := 5) (hh := [(0, 10, 13, 13), (0, 10, 17, 15)]) (by decide) rfl (Nat.le_of_ble_eq_true rfl) ?_
  intro p e s m args below meth c1 ls Q A S htab hl hP hD hS hK hT hN hX hA hret
  obtain ⟨H, hH⟩ : ∃ H, H = s.heap := ⟨_, rfl⟩
  obtain ⟨locs, hlocs⟩ : ∃ L : List Loc, L = [] := ⟨_, rfl⟩
  rw [← hlocs]
  rw [← hlocs] at hS
  have hP : va_P G.1 vwCl (wdF G ad c ++ [(qo, .inl (G.2 3, 1, .inr (.inl f)))]) H := by rw [hH]; exact hP
  have hS : va_S A s.heap H locs := by rw [hH]; exact hS
  have hT : TT A s H := by rw [hH]; exact hT
  suffices hgo : W p l e rmL_period s m args below meth c1 H locs 0 0 Q (F0 m 0 ls []) by rw [hH] at hgo; exact hgo
  have S : CallFix p m c1 cL_period 5 s args wsL_period RL := S
  obtain ⟨hx, hb, hml, hown, hts⟩ := id S
  have hl : lv_has ls 5 [(0, .ref (ad 0)), (1, .int a0), (2, .int a1), (3, .ref qo)] := hl
  unfold lm_period at h
  refine lv_aload_n hx hb dL_period_0 rfl (lv_at hl 3 rfl) ?_
  refine lv_iconst (v := 0) hx hb dL_period_1 (by decide) ?_
  refine lv_aload_n hx hb dL_period_2 rfl (lv_at hl 0 rfl) ?_
  refine lv_iload_n hx hb dL_period_3 rfl (lv_at hl 1 rfl) ?_
  refine lv_iload_n hx hb dL_period_4 rfl (lv_at hl 2 rfl) ?_
  rcases lq_e h with ⟨k0, gx, h⟩ | ⟨gx, h⟩
  · by_cases hk1 : k0 = 1
    · subst hk1
      cases h
      refine lwC (k := 1) (rest := [.int 0, .ref qo]) (As := [.int a0, .int a1]) S (by decide) (cxX4_period l hfl G (ad 0) (ad 1) (ad 11) (ad 12) (ad 13) (ad 14) (ad 15) (ad 16) (ad 17) (ad 18) (ad 19) (ad 20) (ad 21) (ad 22) (ad 23) (ad 24) (ad 25) (ad 26) (ad 27) (ad 28) (ad 29) (ad 30) (ad 31) (ad 32) (ad 33) (ad 34) (ad 2) (ad 5) (ad 10) c.gain c.s0.pr c.s0.a c.s0.b c.s0.c c.s0.d c.s0.sp c.s0.mi c.s0.ti c.s0.w c.s0.s c.s0.h c.s0.va c.s0.ov c.s0.ra c.s0.ol c.s0.od c.s0.ne c.s1.pr c.s1.a c.s1.b c.s1.c c.s1.d c.s1.sp c.s1.mi c.s1.ti c.s1.w c.s1.s c.s1.h c.s1.va c.s1.ov c.s1.ra c.s1.ol c.s1.od c.s1.ne c.s2.pr c.s2.a c.s2.b c.s2.c c.s2.d c.s2.sp c.s2.mi c.s2.ti c.s2.w c.s2.s c.s2.h c.s2.va c.s2.ov c.s2.ra c.s2.ol c.s2.od c.s2.ne a0 a1 1 gx) (cwV 2 hts gL_period_X4_period rfl rfl rfl hvX4_period ⟨Nat.le_of_ble_eq_true rfl, Nat.le_of_ble_eq_true rfl⟩) hK hT hP hD hS [0, 1, 11, 12, 13, 14, 15, 16, 17, 18, 19, 20, 21, 22, 23, 24, 25, 26, 27, 28, 29, 30, 31, 32, 33, 34] rfl 0 4 rfl rfl rfl rfl hl.1 rfl (Nat.le_of_ble_eq_true rfl) dL_period_5 ⟨Nat.le_of_ble_eq_true rfl, Nat.le_of_ble_eq_true rfl⟩ [] { startPc := 0, endPc := 10, handlerPc := 13, catchType := 13 } [{ startPc := 0, endPc := 10, handlerPc := 17, catchType := 15 }] (by rw [htab]; rfl) tp_nil rfl (by decide) (hts (.classLink RL 13 "java/lang/IllegalArgumentException") lkL_period_c13) rfl (fun H locs q hP hD hS => ?_)
      refine lv_astore (lv' := [(4, .ref q), (0, .ref (ad 0)), (1, .int a0), (2, .int a1), (3, .ref qo)]) hx hb dL_period_13 hl (by decide) rfl (fun ls hl => ?_)
      refine lv_iconst (v := 1) hx hb dL_period_15 (by decide) ?_
      exact hret _ _ _ _ _ rfl hP hD hS dL_period_16
    replace h := ite_f hk1 h
    by_cases hk2 : k0 = 2
    · subst hk2
      cases h
      refine lwC (k := 2) (rest := [.int 0, .ref qo]) (As := [.int a0, .int a1]) S (by decide) (cxX4_period l hfl G (ad 0) (ad 1) (ad 11) (ad 12) (ad 13) (ad 14) (ad 15) (ad 16) (ad 17) (ad 18) (ad 19) (ad 20) (ad 21) (ad 22) (ad 23) (ad 24) (ad 25) (ad 26) (ad 27) (ad 28) (ad 29) (ad 30) (ad 31) (ad 32) (ad 33) (ad 34) (ad 2) (ad 5) (ad 10) c.gain c.s0.pr c.s0.a c.s0.b c.s0.c c.s0.d c.s0.sp c.s0.mi c.s0.ti c.s0.w c.s0.s c.s0.h c.s0.va c.s0.ov c.s0.ra c.s0.ol c.s0.od c.s0.ne c.s1.pr c.s1.a c.s1.b c.s1.c c.s1.d c.s1.sp c.s1.mi c.s1.ti c.s1.w c.s1.s c.s1.h c.s1.va c.s1.ov c.s1.ra c.s1.ol c.s1.od c.s1.ne c.s2.pr c.s2.a c.s2.b c.s2.c c.s2.d c.s2.sp c.s2.mi c.s2.ti c.s2.w c.s2.s c.s2.h c.s2.va c.s2.ov c.s2.ra c.s2.ol c.s2.od c.s2.ne a0 a1 2 gx) (cwV 2 hts gL_period_X4_period rfl rfl rfl hvX4_period ⟨Nat.le_of_ble_eq_true rfl, Nat.le_of_ble_eq_true rfl⟩) hK hT hP hD hS [0, 1, 11, 12, 13, 14, 15, 16, 17, 18, 19, 20, 21, 22, 23, 24, 25, 26, 27, 28, 29, 30, 31, 32, 33, 34] rfl 0 4 rfl rfl rfl rfl hl.1 rfl (Nat.le_of_ble_eq_true rfl) dL_period_5 ⟨Nat.le_of_ble_eq_true rfl, Nat.le_of_ble_eq_true rfl⟩ [{ startPc := 0, endPc := 10, handlerPc := 13, catchType := 13 }] { startPc := 0, endPc := 10, handlerPc := 17, catchType := 15 } [] (by rw [htab]; rfl) (tp_cons (nm := exn 1) (by decide) (hts (.classLink RL 13 "java/lang/IllegalArgumentException") lkL_period_c13) (hN 2 (by decide) 1 (by decide) (by decide)) tp_nil) rfl (by decide) (hts (.classLink RL 15 "java/lang/IllegalStateException") lkL_period_c15) rfl (fun H locs q hP hD hS => ?_)
      refine lv_astore (lv' := [(4, .ref q), (0, .ref (ad 0)), (1, .int a0), (2, .int a1), (3, .ref qo)]) hx hb dL_period_17 hl (by decide) rfl (fun ls hl => ?_)
      refine lv_iconst (v := 2) hx hb dL_period_19 (by decide) ?_
      exact hret _ _ _ _ _ rfl hP hD hS dL_period_20
    cases (ite_f hk2 h)
  · obtain ⟨o0, o1, o2, o3, g, h⟩ := bnd4_e h
    cases h
    refine rwV_back (rest := [.int 0, .ref qo]) (As := [.int a0, .int a1]) (wr := List.filterMap (fun i => (wdF G ad c ++ [(qo, .inl (G.2 3, 1, .inr (.inl f)))])[i]?) [2, 3, 4, 5, 6, 7, 8, 9, 35]) (wf := wdF G ad (mkC c.gain c.il c.ip c.ia c.ig c.is c.im c.ic c.iq c.dn c.dm c.dj c.dt c.dx c.dy c.dr c.dv c.dw c.dq o1 o2 o3 c.s0 c.s1 c.s2) ++ [(qo, .inl (G.2 3, 1, .inr (.inl f)))]) S (ctX4_period l G (ad 0) (ad 1) (ad 10) (ad 11) (ad 12) (ad 13) (ad 14) (ad 15) (ad 16) (ad 17) (ad 18) (ad 19) (ad 20) (ad 21) (ad 22) (ad 23) (ad 24) (ad 25) (ad 26) (ad 27) (ad 28) (ad 29) (ad 30) (ad 31) (ad 32) (ad 33) (ad 34) (ad 2) (ad 5) c.gain c.fw c.fs c.fh c.s0.pr c.s0.a c.s0.b c.s0.c c.s0.d c.s0.sp c.s0.mi c.s0.ti c.s0.w c.s0.s c.s0.h c.s0.va c.s0.ov c.s0.ra c.s0.ol c.s0.od c.s0.ne c.s1.pr c.s1.a c.s1.b c.s1.c c.s1.d c.s1.sp c.s1.mi c.s1.ti c.s1.w c.s1.s c.s1.h c.s1.va c.s1.ov c.s1.ra c.s1.ol c.s1.od c.s1.ne c.s2.pr c.s2.a c.s2.b c.s2.c c.s2.d c.s2.sp c.s2.mi c.s2.ti c.s2.w c.s2.s c.s2.h c.s2.va c.s2.ov c.s2.ra c.s2.ol c.s2.od c.s2.ne a0 a1 o0 o1 o2 o3 g) (cwV 2 hts gL_period_X4_period rfl rfl rfl hvX4_period ⟨Nat.le_of_ble_eq_true rfl, Nat.le_of_ble_eq_true rfl⟩) hK hP hD hS xb_triv (fun _ _ _ => trivial) [0, 1, 10, 11, 12, 13, 14, 15, 16, 17, 18, 19, 20, 21, 22, 23, 24, 25, 26, 27, 28, 29, 30, 31, 32, 33, 34] [2, 3, 4, 5, 6, 7, 8, 9, 35] [9, 10, 0, 1, 2, 3, 4, 5, 6, 7, 11, 12, 13, 14, 15, 16, 17, 18, 19, 20, 21, 22, 23, 24, 25, 26, 27, 28, 29, 30, 31, 32, 33, 34, 35, 8] rfl rfl rfl rfl rfl rfl rfl 0 4 rfl rfl rfl rfl hl.1 rfl (Nat.le_of_ble_eq_true rfl) dL_period_5 ⟨Nat.zero_le _, Nat.zero_le _⟩ (fun _ H locs hP hD hS => ?_)
    refine lv_i2l hx hb dL_period_8 rfl ?_
    refine va_last hx hb hK.1 hP hD hS 35 3 rfl rfl (i := 0) (vp_in_iff.mpr ⟨by decide, by decide⟩) dL_period_9 (fun H locs hP hD hS => ?_)
    refine lv_goto (tgt := 21) hx hb dL_period_10 (by decide) ?_
    refine lv_iconst (v := 0) hx hb dL_period_21 (by decide) ?_
    refine W.widen (k := 1) (n := 6) (by omega) (by omega) ?_
    exact hret _ _ _ _ _ rfl hP hD hS dL_period_22
abbrev rmL_nearest : Room := { frames := 8, cells := 1, slots := 6, locals := 138 }
theorem hsX4_nearest : yX4_nearest.cls ≠ "java/lang/invoke/MethodHandle" ∧ yX4_nearest.cls ≠ "java/lang/invoke/VarHandle" ∧ (parseMethodDescriptor yX4_nearest.desc).map (fun d => d.parameters.length) = some 4 := by decide +kernel
theorem hvX4_nearest : yX4_nearest.cls = RX4 ∧ yX4_nearest.cls ≠ "java/lang/invoke/MethodHandle" ∧ yX4_nearest.cls ≠ "java/lang/invoke/VarHandle" ∧ (parseMethodDescriptor yX4_nearest.desc).map (fun d => d.parameters.length) = some 4 := ⟨rfl, hsX4_nearest⟩
theorem lkL_nearest_c13 : Cond.classLink RL 13 "java/lang/IllegalArgumentException" ∈ wsL_nearest := List.mem_of_getElem? (i := 1) rfl
set_option maxHeartbeats 4000000 in
set_option maxRecDepth 100000 in
theorem lw_nearest (l : Launch) (hfl : l.stackTraces = false) (G : GG) (ad : Nat → Nat) (qo : Nat) (c c' : Cls) (f f' : Nat → Int64) (a0 : Int32) (a1 : Int32) (a2 : Int32) (a3 : Int32) (r0 : Int32) (h : lm_nearest c f a0 a1 a2 a3 = some (r0, c', f')) : Met l yL_nearest wsL_nearest rmL_nearest (va_Pc [.ref (ad 0), .int a0, .int a1, .int a2, .int a3, .ref qo] (PreD G (wdF G ad c ++ [(qo, .inl (G.2 3, 1, .inr (.inl f)))]) (XL (wdF G ad c ++ [(qo, .inl (G.2 3, 1, .inr (.inl f)))])))) (QwA G (va_A0 (wdF G ad c ++ [(qo, .inl (G.2 3, 1, .inr (.inl f)))])) (wdF G ad c' ++ [(qo, .inl (G.2 3, 1, .inr (.inl f')))]) (some (.int r0)) True) 1 6 (va_A0 (wdF G ad c ++ [(qo, .inl (G.2 3, 1, .inr (.inl f)))])) := by
  refine of_lw (cc := cL_nearest) (maxL := 7) (hh := [(0, 14, 17, 13)]) (by decide) rfl (Nat.le_of_ble_eq_true rfl) ?_
  intro p e s m args below meth c1 ls Q A S htab hl hP hD hS hK hT hN hX hA hret
  obtain ⟨H, hH⟩ : ∃ H, H = s.heap := ⟨_, rfl⟩
  obtain ⟨locs, hlocs⟩ : ∃ L : List Loc, L = [] := ⟨_, rfl⟩
  rw [← hlocs]
  rw [← hlocs] at hS
  have hP : va_P G.1 vwCl (wdF G ad c ++ [(qo, .inl (G.2 3, 1, .inr (.inl f)))]) H := by rw [hH]; exact hP
  have hS : va_S A s.heap H locs := by rw [hH]; exact hS
  have hT : TT A s H := by rw [hH]; exact hT
  suffices hgo : W p l e rmL_nearest s m args below meth c1 H locs 0 0 Q (F0 m 0 ls []) by rw [hH] at hgo; exact hgo
  have S : CallFix p m c1 cL_nearest 7 s args wsL_nearest RL := S
  obtain ⟨hx, hb, hml, hown, hts⟩ := id S
  have hl : lv_has ls 7 [(0, .ref (ad 0)), (1, .int a0), (2, .int a1), (3, .int a2), (4, .int a3), (5, .ref qo)] := hl
  unfold lm_nearest at h
  refine lv_aload hx hb dL_nearest_0 (lv_at hl 5 rfl) ?_
  refine lv_iconst (v := 0) hx hb dL_nearest_2 (by decide) ?_
  refine lv_aload_n hx hb dL_nearest_3 rfl (lv_at hl 0 rfl) ?_
  refine lv_iload_n hx hb dL_nearest_4 rfl (lv_at hl 1 rfl) ?_
  refine lv_iload_n hx hb dL_nearest_5 rfl (lv_at hl 2 rfl) ?_
  refine lv_iload_n hx hb dL_nearest_6 rfl (lv_at hl 3 rfl) ?_
  refine lv_iload hx hb dL_nearest_7 (lv_at hl 4 rfl) ?_
  rcases lq_e h with ⟨k0, gx, h⟩ | ⟨gx, h⟩
  · by_cases hk1 : k0 = 1
    · subst hk1
      cases h
      refine lwC (k := 1) (rest := [.int 0, .ref qo]) (As := [.int a0, .int a1, .int a2, .int a3]) S (by decide) (cxX4_nearest l hfl G (ad 0) (ad 1) (ad 2) (ad 5) (ad 10) c.gain (ad 11) (ad 19) (ad 27) a0 a1 a2 a3 1 gx) (cwV 4 hts gL_nearest_X4_nearest rfl rfl rfl hvX4_nearest ⟨Nat.le_of_ble_eq_true rfl, Nat.le_of_ble_eq_true rfl⟩) hK hT hP hD hS [0, 1] rfl 0 4 rfl rfl rfl rfl hl.1 rfl (Nat.le_of_ble_eq_true rfl) dL_nearest_9 ⟨Nat.le_of_ble_eq_true rfl, Nat.le_of_ble_eq_true rfl⟩ [] { startPc := 0, endPc := 14, handlerPc := 17, catchType := 13 } [] (by rw [htab]; rfl) tp_nil rfl (by decide) (hts (.classLink RL 13 "java/lang/IllegalArgumentException") lkL_nearest_c13) rfl (fun H locs q hP hD hS => ?_)
      refine lv_astore (lv' := [(6, .ref q), (0, .ref (ad 0)), (1, .int a0), (2, .int a1), (3, .int a2), (4, .int a3), (5, .ref qo)]) hx hb dL_nearest_17 hl (by decide) rfl (fun ls hl => ?_)
      refine lv_iconst (v := 1) hx hb dL_nearest_19 (by decide) ?_
      exact hret _ _ _ _ _ rfl hP hD hS dL_nearest_20
    cases (ite_f hk1 h)
  · obtain ⟨o0, g, h⟩ := bnd1_e h
    cases h
    refine roVi1 (rest := [.int 0, .ref qo]) (As := [.int a0, .int a1, .int a2, .int a3]) S (ctX4_nearest l G (ad 0) (ad 1) (ad 2) (ad 5) (ad 10) c.gain (ad 11) (ad 19) (ad 27) a0 a1 a2 a3 o0 g) (cwV 4 hts gL_nearest_X4_nearest rfl rfl rfl hvX4_nearest ⟨Nat.le_of_ble_eq_true rfl, Nat.le_of_ble_eq_true rfl⟩) hK hP [0, 1] rfl 0 4 rfl rfl rfl rfl hl.1 rfl (Nat.le_of_ble_eq_true rfl) dL_nearest_9 ⟨Nat.zero_le _, Nat.zero_le _⟩ (fun _ => ?_)
    refine lv_i2l hx hb dL_nearest_12 rfl ?_
    refine va_last hx hb hK.1 hP hD hS 35 3 rfl rfl (i := 0) (vp_in_iff.mpr ⟨by decide, by decide⟩) dL_nearest_13 (fun H locs hP hD hS => ?_)
    refine lv_goto (tgt := 21) hx hb dL_nearest_14 (by decide) ?_
    refine lv_iconst (v := 0) hx hb dL_nearest_21 (by decide) ?_
    refine W.widen (k := 1) (n := 6) (by omega) (by omega) ?_
    exact hret _ _ _ _ _ rfl hP hD hS dL_nearest_22
