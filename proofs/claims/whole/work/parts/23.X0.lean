-- contracts of the methods (laid by program from the listing)
theorem fw_X0_join_X0 : ∀ w ∈ wsX00, w ∈ wsX0_join := fun w h => List.mem_cons_of_mem _ (List.mem_append_right _ h)
theorem lk_X0_join_f53 : Cond.fieldLink RX0 53 "HalftoneScreens$Dots" "joinedTimes" "I" ∈ wsX0_join := List.mem_of_getElem? (i := 1) rfl
theorem lk_X0_join_f85 : Cond.fieldLink RX0 85 "HalftoneScreens$Dots" "joinedY" "I" ∈ wsX0_join := List.mem_of_getElem? (i := 3) rfl
theorem lk_X0_join_f82 : Cond.fieldLink RX0 82 "HalftoneScreens$Dots" "joinedX" "I" ∈ wsX0_join := List.mem_of_getElem? (i := 2) rfl
abbrev rmX0_join : Room := { frames := 0, cells := 0, slots := 0, locals := 0 }
set_option maxHeartbeats 4000000 in
set_option maxRecDepth 100000 in
theorem ctX0_join (l : Launch) (G : GG) (v_q0 : Nat) (v_q1 : Nat) (v_q2 : Nat) (v_q3 : Nat) (v_q4 : Nat) (v_waitingNumber : Int32) (v_number : Int32) (v_mostJoined : Int32) (v_joinedTimes : Int32) (v_joinedX : Int32) (v_joinedY : Int32) (v_reachedA : (Nat → Int32)) (v_walkedXA : (Nat → Int32)) (v_walkedYA : (Nat → Int32)) (v_waitingA : (Nat → Int32)) (a0 : Int32) (a1 : Int32) (o0 : Int32) (o1 : Int32) (o2 : Int32) (h : mX0_join v_joinedTimes v_joinedX v_joinedY a0 a1 = some (o0, o1, o2))  : Met l yX0_join wsX0_join rmX0_join (va_Pc [.ref v_q0, .int a0, .int a1] (PreD G (wdX0 G v_q0 v_q1 v_q2 v_q3 v_q4 v_waitingNumber v_number v_mostJoined v_joinedTimes v_joinedX v_joinedY v_reachedA v_walkedXA v_walkedYA v_waitingA) (fun _ => True))) (QwA G (va_A0 (wdX0 G v_q0 v_q1 v_q2 v_q3 v_q4 v_waitingNumber v_number v_mostJoined v_joinedTimes v_joinedX v_joinedY v_reachedA v_walkedXA v_walkedYA v_waitingA)) (wdX0 G v_q0 v_q1 v_q2 v_q3 v_q4 v_waitingNumber v_number v_mostJoined o0 o1 o2 v_reachedA v_walkedXA v_walkedYA v_waitingA) none True) 0 0 (va_A0 (wdX0 G v_q0 v_q1 v_q2 v_q3 v_q4 v_waitingNumber v_number v_mostJoined v_joinedTimes v_joinedX v_joinedY v_reachedA v_walkedXA v_walkedYA v_waitingA)) := by
  refine of_wv (cc := cX0_join) (maxL := 3) (plainFor_of_name (by decide)) rfl (Nat.le_of_ble_eq_true rfl) ?_
  intro p e s m args below meth c ls Q A S hl hP hD hS hK hX hA hret
  obtain ⟨H, hH⟩ : ∃ H, H = s.heap := ⟨_, rfl⟩
  obtain ⟨locs, hlocs⟩ : ∃ L : List Loc, L = [] := ⟨_, rfl⟩
  rw [← hlocs]
  rw [← hlocs] at hS
  have hP : va_P G.1 vwCl (wdX0 G v_q0 v_q1 v_q2 v_q3 v_q4 v_waitingNumber v_number v_mostJoined v_joinedTimes v_joinedX v_joinedY v_reachedA v_walkedXA v_walkedYA v_waitingA) H := by rw [hH]; exact hP
  have hS : va_S A s.heap H locs := by rw [hH]; exact hS
  suffices hgo : W p l e rmX0_join s m args below meth c H locs 0 0 Q (F0 m 0 ls []) by rw [hH] at hgo; exact hgo
  have S : CallFix p m c cX0_join 3 s args wsX0_join RX0 := S
  obtain ⟨hx, hb, hml, hown, hts⟩ := id S
  have hl : lv_has ls 3 [(0, .ref v_q0), (1, .int a0), (2, .int a1)] := hl
  unfold mX0_join at h
  refine lv_iload_n hx hb dX0_join_0 rfl (lv_at hl 1 rfl) ?_
  obtain ⟨K1, hK1, h⟩ := jB1_e h
  have J1 : ∀ (j1_u : Unit) (H : Heap) (locs : List Loc) (ls : Array Slot), K1 j1_u = some (o0, o1, o2) → lv_has ls 3 [(0, .ref v_q0), (1, .int a0), (2, .int a1)] → va_P G.1 vwCl (wdX0 G v_q0 v_q1 v_q2 v_q3 v_q4 v_waitingNumber v_number v_mostJoined v_joinedTimes v_joinedX v_joinedY v_reachedA v_walkedXA v_walkedYA v_waitingA) H → va_D A (wdX0 G v_q0 v_q1 v_q2 v_q3 v_q4 v_waitingNumber v_number v_mostJoined v_joinedTimes v_joinedX v_joinedY v_reachedA v_walkedXA v_walkedYA v_waitingA) → va_S A s.heap H locs → W p l e rmX0_join s m args below meth c H locs 0 0 Q (F0 m 9 ls []) := by
    intro j1_u H locs ls h hl hP hD hS
    replace h := (hK1 j1_u).symm.trans h
    refine lv_aload_n hx hb dX0_join_9 rfl (lv_at hl 0 rfl) ?_
    refine va_get (D := G.1) (ci := 0) (v := .int v_joinedTimes) (C := RX0) (T := TX0) (N := 10) hx hb hts fw_X0_join_X0 hown hK.1 hP 0 rfl rfl 7 (by decide) (hts (.fieldLink RX0 53 "HalftoneScreens$Dots" "joinedTimes" "I") lk_X0_join_f53) (fun _ h9 => h9) rfl dX0_join_10 ?_
    refine lv_if_ne (tgt := 34) hx hb dX0_join_13 (by decide) (fun c4 => ?_) (fun c4 => ?_)
    · replace h := ite_f c4 h
      refine lv_iload_n hx hb dX0_join_34 rfl (lv_at hl 1 rfl) ?_
      refine lv_aload_n hx hb dX0_join_35 rfl (lv_at hl 0 rfl) ?_
      refine va_get (D := G.1) (ci := 0) (v := .int v_joinedY) (C := RX0) (T := TX0) (N := 10) hx hb hts fw_X0_join_X0 hown hK.1 hP 0 rfl rfl 9 (by decide) (hts (.fieldLink RX0 85 "HalftoneScreens$Dots" "joinedY" "I") lk_X0_join_f85) (fun _ h9 => h9) rfl dX0_join_36 ?_
      refine lv_imul hx hb dX0_join_39 ?_
      refine lv_iload_n hx hb dX0_join_40 rfl (lv_at hl 2 rfl) ?_
      refine lv_aload_n hx hb dX0_join_41 rfl (lv_at hl 0 rfl) ?_
      refine va_get (D := G.1) (ci := 0) (v := .int v_joinedX) (C := RX0) (T := TX0) (N := 10) hx hb hts fw_X0_join_X0 hown hK.1 hP 0 rfl rfl 8 (by decide) (hts (.fieldLink RX0 82 "HalftoneScreens$Dots" "joinedX" "I") lk_X0_join_f82) (fun _ h9 => h9) rfl dX0_join_42 ?_
      refine lv_imul hx hb dX0_join_45 ?_
      refine lv_icmp_eq (tgt := 54) hx hb dX0_join_46 (by decide) (fun c5 => ?_) (fun c5 => ?_)
      · replace h := ite_t c5 h
        obtain ⟨rfl, rfl, rfl⟩ := sm3 h
        exact hret _ _ _ _ trivial hP hD hS dX0_join_54
      · replace h := ite_f c5 h
        refine lv_aload_n hx hb dX0_join_49 rfl (lv_at hl 0 rfl) ?_
        refine lv_iconst (v := 2) hx hb dX0_join_50 (by decide) ?_
        refine va_put (D := G.1) (ci := 0) (v := .int 2) (ty := .int) (C := RX0) (T := TX0) (N := 10) hx hb hts fw_X0_join_X0 tyX0 tyX0_ok nmX0 hown hK.1 hP hD hS 0 rfl rfl 7 (by decide) (hts (.fieldLink RX0 53 "HalftoneScreens$Dots" "joinedTimes" "I") lk_X0_join_f53) (fun _ h9 => h9) rfl (tyX0_ok 7 (by decide)) rfl rfl (Nat.le_of_ble_eq_true rfl) dX0_join_51 (fun H locs hP hD hS => ?_)
        have hP : va_P G.1 vwCl (wdX0 G v_q0 v_q1 v_q2 v_q3 v_q4 v_waitingNumber v_number v_mostJoined 2 v_joinedX v_joinedY v_reachedA v_walkedXA v_walkedYA v_waitingA) H := hP
        have hD : va_D A (wdX0 G v_q0 v_q1 v_q2 v_q3 v_q4 v_waitingNumber v_number v_mostJoined 2 v_joinedX v_joinedY v_reachedA v_walkedXA v_walkedYA v_waitingA) := hD
        obtain ⟨rfl, rfl, rfl⟩ := sm3 h
        exact hret _ _ _ _ trivial hP hD hS dX0_join_54
    · replace h := ite_t c4 h
      refine lv_aload_n hx hb dX0_join_16 rfl (lv_at hl 0 rfl) ?_
      refine lv_iconst (v := 1) hx hb dX0_join_17 (by decide) ?_
      refine va_put (D := G.1) (ci := 0) (v := .int 1) (ty := .int) (C := RX0) (T := TX0) (N := 10) hx hb hts fw_X0_join_X0 tyX0 tyX0_ok nmX0 hown hK.1 hP hD hS 0 rfl rfl 7 (by decide) (hts (.fieldLink RX0 53 "HalftoneScreens$Dots" "joinedTimes" "I") lk_X0_join_f53) (fun _ h9 => h9) rfl (tyX0_ok 7 (by decide)) rfl rfl (Nat.le_of_ble_eq_true rfl) dX0_join_18 (fun H locs hP hD hS => ?_)
      have hP : va_P G.1 vwCl (wdX0 G v_q0 v_q1 v_q2 v_q3 v_q4 v_waitingNumber v_number v_mostJoined 1 v_joinedX v_joinedY v_reachedA v_walkedXA v_walkedYA v_waitingA) H := hP
      have hD : va_D A (wdX0 G v_q0 v_q1 v_q2 v_q3 v_q4 v_waitingNumber v_number v_mostJoined 1 v_joinedX v_joinedY v_reachedA v_walkedXA v_walkedYA v_waitingA) := hD
      refine lv_aload_n hx hb dX0_join_21 rfl (lv_at hl 0 rfl) ?_
      refine lv_iload_n hx hb dX0_join_22 rfl (lv_at hl 1 rfl) ?_
      refine va_put (D := G.1) (ci := 0) (v := .int a0) (ty := .int) (C := RX0) (T := TX0) (N := 10) hx hb hts fw_X0_join_X0 tyX0 tyX0_ok nmX0 hown hK.1 hP hD hS 0 rfl rfl 8 (by decide) (hts (.fieldLink RX0 82 "HalftoneScreens$Dots" "joinedX" "I") lk_X0_join_f82) (fun _ h9 => h9) rfl (tyX0_ok 8 (by decide)) rfl rfl (Nat.le_of_ble_eq_true rfl) dX0_join_23 (fun H locs hP hD hS => ?_)
      have hP : va_P G.1 vwCl (wdX0 G v_q0 v_q1 v_q2 v_q3 v_q4 v_waitingNumber v_number v_mostJoined 1 a0 v_joinedY v_reachedA v_walkedXA v_walkedYA v_waitingA) H := hP
      have hD : va_D A (wdX0 G v_q0 v_q1 v_q2 v_q3 v_q4 v_waitingNumber v_number v_mostJoined 1 a0 v_joinedY v_reachedA v_walkedXA v_walkedYA v_waitingA) := hD
      refine lv_aload_n hx hb dX0_join_26 rfl (lv_at hl 0 rfl) ?_
      refine lv_iload_n hx hb dX0_join_27 rfl (lv_at hl 2 rfl) ?_
      refine va_put (D := G.1) (ci := 0) (v := .int a1) (ty := .int) (C := RX0) (T := TX0) (N := 10) hx hb hts fw_X0_join_X0 tyX0 tyX0_ok nmX0 hown hK.1 hP hD hS 0 rfl rfl 9 (by decide) (hts (.fieldLink RX0 85 "HalftoneScreens$Dots" "joinedY" "I") lk_X0_join_f85) (fun _ h9 => h9) rfl (tyX0_ok 9 (by decide)) rfl rfl (Nat.le_of_ble_eq_true rfl) dX0_join_28 (fun H locs hP hD hS => ?_)
      have hP : va_P G.1 vwCl (wdX0 G v_q0 v_q1 v_q2 v_q3 v_q4 v_waitingNumber v_number v_mostJoined 1 a0 a1 v_reachedA v_walkedXA v_walkedYA v_waitingA) H := hP
      have hD : va_D A (wdX0 G v_q0 v_q1 v_q2 v_q3 v_q4 v_waitingNumber v_number v_mostJoined 1 a0 a1 v_reachedA v_walkedXA v_walkedYA v_waitingA) := hD
      refine lv_goto (tgt := 54) hx hb dX0_join_31 (by decide) ?_
      obtain ⟨rfl, rfl, rfl⟩ := sm3 h
      exact hret _ _ _ _ trivial hP hD hS dX0_join_54
  refine lv_if_ne (tgt := 9) hx hb dX0_join_1 (by decide) (fun c2 => ?_) (fun c2 => ?_)
  · replace h := ite_f c2 h
    exact J1 () H locs ls h hl hP hD hS
  · replace h := ite_t c2 h
    refine lv_iload_n hx hb dX0_join_4 rfl (lv_at hl 2 rfl) ?_
    refine lv_if_ne (tgt := 9) hx hb dX0_join_5 (by decide) (fun c3 => ?_) (fun c3 => ?_)
    · replace h := ite_f c3 h
      exact J1 () H locs ls h hl hP hD hS
    · replace h := ite_t c3 h
      obtain ⟨rfl, rfl, rfl⟩ := sm3 h
      exact hret _ _ _ _ trivial hP hD hS dX0_join_8
theorem fw_X0_reach_X0 : ∀ w ∈ wsX00, w ∈ wsX0_reach := fun w h => List.mem_cons_of_mem _ (List.mem_append_right _ h)
theorem lk_X0_reach_f9 : Cond.fieldLink RX0 9 "HalftoneScreens$Dots" "reached" "[I" ∈ wsX0_reach := List.mem_of_getElem? (i := 1) rfl
theorem lk_X0_reach_iX4 : Cond.initialized RX4 ∈ wsX0_reach := List.mem_of_getElem? (i := 7) rfl
theorem lk_X0_reach_s_at : Cond.static yX4_at ∈ wsX0_reach := List.mem_of_getElem? (i := 6) rfl
theorem lk_X0_reach_s_put : Cond.static yX4_put ∈ wsX0_reach := List.mem_of_getElem? (i := 17) rfl
theorem lk_X0_reach_f15 : Cond.fieldLink RX0 15 "HalftoneScreens$Dots" "walkedX" "[I" ∈ wsX0_reach := List.mem_of_getElem? (i := 2) rfl
theorem lk_X0_reach_f18 : Cond.fieldLink RX0 18 "HalftoneScreens$Dots" "walkedY" "[I" ∈ wsX0_reach := List.mem_of_getElem? (i := 3) rfl
theorem lk_X0_reach_f21 : Cond.fieldLink RX0 21 "HalftoneScreens$Dots" "waiting" "[I" ∈ wsX0_reach := List.mem_of_getElem? (i := 4) rfl
theorem lk_X0_reach_f62 : Cond.fieldLink RX0 62 "HalftoneScreens$Dots" "waitingNumber" "I" ∈ wsX0_reach := List.mem_of_getElem? (i := 5) rfl
theorem hsX0_join : yX0_join.cls ≠ "java/lang/invoke/MethodHandle" ∧ yX0_join.cls ≠ "java/lang/invoke/VarHandle" ∧ (parseMethodDescriptor yX0_join.desc).map (fun d => d.parameters.length) = some 2 := by decide +kernel
theorem hvX0_join : yX0_join.cls = RX0 ∧ yX0_join.cls ≠ "java/lang/invoke/MethodHandle" ∧ yX0_join.cls ≠ "java/lang/invoke/VarHandle" ∧ (parseMethodDescriptor yX0_join.desc).map (fun d => d.parameters.length) = some 2 := ⟨rfl, hsX0_join⟩
abbrev rmX0_reach : Room := { frames := 1, cells := 0, slots := 0, locals := 22 }
set_option maxHeartbeats 4000000 in
set_option maxRecDepth 100000 in
theorem ctX0_reach (l : Launch) (G : GG) (v_q0 : Nat) (v_q1 : Nat) (v_q2 : Nat) (v_q3 : Nat) (v_q4 : Nat) (v_waitingNumber : Int32) (v_number : Int32) (v_mostJoined : Int32) (v_joinedTimes : Int32) (v_joinedX : Int32) (v_joinedY : Int32) (v_reachedA : (Nat → Int32)) (v_walkedXA : (Nat → Int32)) (v_walkedYA : (Nat → Int32)) (v_waitingA : (Nat → Int32)) (a0 : Int32) (a1 : Int32) (a2 : Int32) (o0 : Int32) (o1 : Int32) (o2 : Int32) (o3 : Int32) (o4 : (Nat → Int32)) (o5 : (Nat → Int32)) (o6 : (Nat → Int32)) (o7 : (Nat → Int32)) (h : mX0_reach v_waitingNumber v_joinedTimes v_joinedX v_joinedY v_reachedA v_walkedXA v_walkedYA v_waitingA a0 a1 a2 = some (o0, o1, o2, o3, o4, o5, o6, o7))  : Met l yX0_reach wsX0_reach rmX0_reach (va_Pc [.ref v_q0, .int a0, .int a1, .int a2] (PreD G (wdX0 G v_q0 v_q1 v_q2 v_q3 v_q4 v_waitingNumber v_number v_mostJoined v_joinedTimes v_joinedX v_joinedY v_reachedA v_walkedXA v_walkedYA v_waitingA) (fun _ => True))) (QwA G (va_A0 (wdX0 G v_q0 v_q1 v_q2 v_q3 v_q4 v_waitingNumber v_number v_mostJoined v_joinedTimes v_joinedX v_joinedY v_reachedA v_walkedXA v_walkedYA v_waitingA)) (wdX0 G v_q0 v_q1 v_q2 v_q3 v_q4 o0 v_number v_mostJoined o1 o2 o3 o4 o5 o6 o7) none True) 0 0 (va_A0 (wdX0 G v_q0 v_q1 v_q2 v_q3 v_q4 v_waitingNumber v_number v_mostJoined v_joinedTimes v_joinedX v_joinedY v_reachedA v_walkedXA v_walkedYA v_waitingA)) := by
  refine of_wv (cc := cX0_reach) (maxL := 4) (plainFor_of_name (by decide)) rfl (Nat.le_of_ble_eq_true rfl) ?_
  intro p e s m args below meth c ls Q A S hl hP hD hS hK hX hA hret
  obtain ⟨H, hH⟩ : ∃ H, H = s.heap := ⟨_, rfl⟩
  obtain ⟨locs, hlocs⟩ : ∃ L : List Loc, L = [] := ⟨_, rfl⟩
  rw [← hlocs]
  rw [← hlocs] at hS
  have hP : va_P G.1 vwCl (wdX0 G v_q0 v_q1 v_q2 v_q3 v_q4 v_waitingNumber v_number v_mostJoined v_joinedTimes v_joinedX v_joinedY v_reachedA v_walkedXA v_walkedYA v_waitingA) H := by rw [hH]; exact hP
  have hS : va_S A s.heap H locs := by rw [hH]; exact hS
  suffices hgo : W p l e rmX0_reach s m args below meth c H locs 0 0 Q (F0 m 0 ls []) by rw [hH] at hgo; exact hgo
  have S : CallFix p m c cX0_reach 4 s args wsX0_reach RX0 := S
  obtain ⟨hx, hb, hml, hown, hts⟩ := id S
  have hl : lv_has ls 4 [(0, .ref v_q0), (1, .int a0), (2, .int a1), (3, .int a2)] := hl
  unfold mX0_reach at h
  refine lv_aload_n hx hb dX0_reach_0 rfl (lv_at hl 0 rfl) ?_
  refine va_get (D := G.1) (ci := 0) (v := .ref v_q1) (C := RX0) (T := TX0) (N := 10) hx hb hts fw_X0_reach_X0 hown hK.1 hP 0 rfl rfl 0 (by decide) (hts (.fieldLink RX0 9 "HalftoneScreens$Dots" "reached" "[I") lk_X0_reach_f9) (fun _ h9 => h9) rfl dX0_reach_1 ?_
  refine lv_iload_n hx hb dX0_reach_4 rfl (lv_at hl 1 rfl) ?_
  obtain ⟨r1_0, g1, h⟩ := bnd1_e h
  refine roNi1 (rest := []) (As := [.ref v_q1, .int a0]) S (ctX4_at l G v_q1 64 v_reachedA a0 r1_0 g1) ⟨va_cnB 2 hts gX0_reach_X4_at_n45 rfl rfl rfl (hK.2.1 _ (List.mem_of_getElem? (i := 1) rfl)) (hts (.initialized RX4) lk_X0_reach_iX4) hsX4_at ⟨Nat.le_of_ble_eq_true rfl, Nat.le_of_ble_eq_true rfl⟩, (hts (.static yX4_at) lk_X0_reach_s_at), trivial⟩ hK hP [1] rfl rfl hl.1 rfl (Nat.le_of_ble_eq_true rfl) dX0_reach_5 ⟨Nat.le_refl _, Nat.le_refl _⟩ (fun _ => ?_)
  refine lv_iconst (v := 1) hx hb dX0_reach_8 (by decide) ?_
  refine lv_icmp_ne (tgt := 37) hx hb dX0_reach_9 (by decide) (fun c2 => ?_) (fun c2 => ?_)
  · replace h := ite_f c2 h
    refine lv_aload_n hx hb dX0_reach_37 rfl (lv_at hl 0 rfl) ?_
    refine va_get (D := G.1) (ci := 0) (v := .ref v_q1) (C := RX0) (T := TX0) (N := 10) hx hb hts fw_X0_reach_X0 hown hK.1 hP 0 rfl rfl 0 (by decide) (hts (.fieldLink RX0 9 "HalftoneScreens$Dots" "reached" "[I") lk_X0_reach_f9) (fun _ h9 => h9) rfl dX0_reach_38 ?_
    refine lv_iload_n hx hb dX0_reach_41 rfl (lv_at hl 1 rfl) ?_
    refine lv_iconst (v := 1) hx hb dX0_reach_42 (by decide) ?_
    obtain ⟨r3_0, g3, h⟩ := bnd1_e h
    refine rwN_back (rest := []) (As := [.ref v_q1, .int a0, .int 1]) (wr := [(v_q0, .inr (0, [.ref v_q1, .ref v_q2, .ref v_q3, .ref v_q4, .int v_waitingNumber, .int v_number, .int v_mostJoined, .int v_joinedTimes, .int v_joinedX, .int v_joinedY])), (v_q2, .inl (G.2 0, 64, .inl v_walkedXA)), (v_q3, .inl (G.2 0, 64, .inl v_walkedYA)), (v_q4, .inl (G.2 0, 64, .inl v_waitingA))]) (wf := wdX0 G v_q0 v_q1 v_q2 v_q3 v_q4 v_waitingNumber v_number v_mostJoined v_joinedTimes v_joinedX v_joinedY r3_0 v_walkedXA v_walkedYA v_waitingA) S (ctX4_put l G v_q1 64 v_reachedA a0 1 r3_0 g3) ⟨va_cnB 3 hts gX0_reach_X4_put_n31 rfl rfl rfl (hK.2.1 _ (List.mem_of_getElem? (i := 0) rfl)) (hts (.initialized RX4) lk_X0_reach_iX4) hsX4_put ⟨Nat.le_of_ble_eq_true rfl, Nat.le_of_ble_eq_true rfl⟩, (hts (.static yX4_put) lk_X0_reach_s_put), trivial⟩ hK hP hD hS xb_triv (fun _ _ _ => trivial) [1] [0, 2, 3, 4] [0, 4, 1, 2, 3] rfl rfl rfl rfl rfl rfl rfl rfl hl.1 rfl (Nat.le_of_ble_eq_true rfl) dX0_reach_43 ⟨Nat.le_refl _, Nat.le_refl _⟩ (fun _ H locs hP hD hS => ?_)
    have hP : va_P G.1 vwCl (wdX0 G v_q0 v_q1 v_q2 v_q3 v_q4 v_waitingNumber v_number v_mostJoined v_joinedTimes v_joinedX v_joinedY r3_0 v_walkedXA v_walkedYA v_waitingA) H := hP
    have hD : va_D A (wdX0 G v_q0 v_q1 v_q2 v_q3 v_q4 v_waitingNumber v_number v_mostJoined v_joinedTimes v_joinedX v_joinedY r3_0 v_walkedXA v_walkedYA v_waitingA) := hD
    refine lv_aload_n hx hb dX0_reach_46 rfl (lv_at hl 0 rfl) ?_
    refine va_get (D := G.1) (ci := 0) (v := .ref v_q2) (C := RX0) (T := TX0) (N := 10) hx hb hts fw_X0_reach_X0 hown hK.1 hP 0 rfl rfl 1 (by decide) (hts (.fieldLink RX0 15 "HalftoneScreens$Dots" "walkedX" "[I") lk_X0_reach_f15) (fun _ h9 => h9) rfl dX0_reach_47 ?_
    refine lv_iload_n hx hb dX0_reach_50 rfl (lv_at hl 1 rfl) ?_
    refine lv_iload_n hx hb dX0_reach_51 rfl (lv_at hl 2 rfl) ?_
    obtain ⟨r4_0, g4, h⟩ := bnd1_e h
    refine rwN_back (rest := []) (As := [.ref v_q2, .int a0, .int a1]) (wr := [(v_q0, .inr (0, [.ref v_q1, .ref v_q2, .ref v_q3, .ref v_q4, .int v_waitingNumber, .int v_number, .int v_mostJoined, .int v_joinedTimes, .int v_joinedX, .int v_joinedY])), (v_q1, .inl (G.2 0, 64, .inl r3_0)), (v_q3, .inl (G.2 0, 64, .inl v_walkedYA)), (v_q4, .inl (G.2 0, 64, .inl v_waitingA))]) (wf := wdX0 G v_q0 v_q1 v_q2 v_q3 v_q4 v_waitingNumber v_number v_mostJoined v_joinedTimes v_joinedX v_joinedY r3_0 r4_0 v_walkedYA v_waitingA) S (ctX4_put l G v_q2 64 v_walkedXA a0 a1 r4_0 g4) ⟨va_cnB 3 hts gX0_reach_X4_put_n31 rfl rfl rfl (hK.2.1 _ (List.mem_of_getElem? (i := 0) rfl)) (hts (.initialized RX4) lk_X0_reach_iX4) hsX4_put ⟨Nat.le_of_ble_eq_true rfl, Nat.le_of_ble_eq_true rfl⟩, (hts (.static yX4_put) lk_X0_reach_s_put), trivial⟩ hK hP hD hS xb_triv (fun _ _ _ => trivial) [2] [0, 1, 3, 4] [0, 1, 4, 2, 3] rfl rfl rfl rfl rfl rfl rfl rfl hl.1 rfl (Nat.le_of_ble_eq_true rfl) dX0_reach_52 ⟨Nat.le_refl _, Nat.le_refl _⟩ (fun _ H locs hP hD hS => ?_)
    have hP : va_P G.1 vwCl (wdX0 G v_q0 v_q1 v_q2 v_q3 v_q4 v_waitingNumber v_number v_mostJoined v_joinedTimes v_joinedX v_joinedY r3_0 r4_0 v_walkedYA v_waitingA) H := hP
    have hD : va_D A (wdX0 G v_q0 v_q1 v_q2 v_q3 v_q4 v_waitingNumber v_number v_mostJoined v_joinedTimes v_joinedX v_joinedY r3_0 r4_0 v_walkedYA v_waitingA) := hD
    refine lv_aload_n hx hb dX0_reach_55 rfl (lv_at hl 0 rfl) ?_
    refine va_get (D := G.1) (ci := 0) (v := .ref v_q3) (C := RX0) (T := TX0) (N := 10) hx hb hts fw_X0_reach_X0 hown hK.1 hP 0 rfl rfl 2 (by decide) (hts (.fieldLink RX0 18 "HalftoneScreens$Dots" "walkedY" "[I") lk_X0_reach_f18) (fun _ h9 => h9) rfl dX0_reach_56 ?_
    refine lv_iload_n hx hb dX0_reach_59 rfl (lv_at hl 1 rfl) ?_
    refine lv_iload_n hx hb dX0_reach_60 rfl (lv_at hl 3 rfl) ?_
    obtain ⟨r5_0, g5, h⟩ := bnd1_e h
    refine rwN_back (rest := []) (As := [.ref v_q3, .int a0, .int a2]) (wr := [(v_q0, .inr (0, [.ref v_q1, .ref v_q2, .ref v_q3, .ref v_q4, .int v_waitingNumber, .int v_number, .int v_mostJoined, .int v_joinedTimes, .int v_joinedX, .int v_joinedY])), (v_q1, .inl (G.2 0, 64, .inl r3_0)), (v_q2, .inl (G.2 0, 64, .inl r4_0)), (v_q4, .inl (G.2 0, 64, .inl v_waitingA))]) (wf := wdX0 G v_q0 v_q1 v_q2 v_q3 v_q4 v_waitingNumber v_number v_mostJoined v_joinedTimes v_joinedX v_joinedY r3_0 r4_0 r5_0 v_waitingA) S (ctX4_put l G v_q3 64 v_walkedYA a0 a2 r5_0 g5) ⟨va_cnB 3 hts gX0_reach_X4_put_n31 rfl rfl rfl (hK.2.1 _ (List.mem_of_getElem? (i := 0) rfl)) (hts (.initialized RX4) lk_X0_reach_iX4) hsX4_put ⟨Nat.le_of_ble_eq_true rfl, Nat.le_of_ble_eq_true rfl⟩, (hts (.static yX4_put) lk_X0_reach_s_put), trivial⟩ hK hP hD hS xb_triv (fun _ _ _ => trivial) [3] [0, 1, 2, 4] [0, 1, 2, 4, 3] rfl rfl rfl rfl rfl rfl rfl rfl hl.1 rfl (Nat.le_of_ble_eq_true rfl) dX0_reach_61 ⟨Nat.le_refl _, Nat.le_refl _⟩ (fun _ H locs hP hD hS => ?_)
    have hP : va_P G.1 vwCl (wdX0 G v_q0 v_q1 v_q2 v_q3 v_q4 v_waitingNumber v_number v_mostJoined v_joinedTimes v_joinedX v_joinedY r3_0 r4_0 r5_0 v_waitingA) H := hP
    have hD : va_D A (wdX0 G v_q0 v_q1 v_q2 v_q3 v_q4 v_waitingNumber v_number v_mostJoined v_joinedTimes v_joinedX v_joinedY r3_0 r4_0 r5_0 v_waitingA) := hD
    refine lv_aload_n hx hb dX0_reach_64 rfl (lv_at hl 0 rfl) ?_
    refine va_get (D := G.1) (ci := 0) (v := .ref v_q4) (C := RX0) (T := TX0) (N := 10) hx hb hts fw_X0_reach_X0 hown hK.1 hP 0 rfl rfl 3 (by decide) (hts (.fieldLink RX0 21 "HalftoneScreens$Dots" "waiting" "[I") lk_X0_reach_f21) (fun _ h9 => h9) rfl dX0_reach_65 ?_
    refine lv_aload_n hx hb dX0_reach_68 rfl (lv_at hl 0 rfl) ?_
    refine va_get (D := G.1) (ci := 0) (v := .int v_waitingNumber) (C := RX0) (T := TX0) (N := 10) hx hb hts fw_X0_reach_X0 hown hK.1 hP 0 rfl rfl 4 (by decide) (hts (.fieldLink RX0 62 "HalftoneScreens$Dots" "waitingNumber" "I") lk_X0_reach_f62) (fun _ h9 => h9) rfl dX0_reach_69 ?_
    refine lv_iload_n hx hb dX0_reach_72 rfl (lv_at hl 1 rfl) ?_
    obtain ⟨r6_0, g6, h⟩ := bnd1_e h
    refine rwN_back (rest := []) (As := [.ref v_q4, .int v_waitingNumber, .int a0]) (wr := [(v_q0, .inr (0, [.ref v_q1, .ref v_q2, .ref v_q3, .ref v_q4, .int v_waitingNumber, .int v_number, .int v_mostJoined, .int v_joinedTimes, .int v_joinedX, .int v_joinedY])), (v_q1, .inl (G.2 0, 64, .inl r3_0)), (v_q2, .inl (G.2 0, 64, .inl r4_0)), (v_q3, .inl (G.2 0, 64, .inl r5_0))]) (wf := wdX0 G v_q0 v_q1 v_q2 v_q3 v_q4 v_waitingNumber v_number v_mostJoined v_joinedTimes v_joinedX v_joinedY r3_0 r4_0 r5_0 r6_0) S (ctX4_put l G v_q4 64 v_waitingA v_waitingNumber a0 r6_0 g6) ⟨va_cnB 3 hts gX0_reach_X4_put_n31 rfl rfl rfl (hK.2.1 _ (List.mem_of_getElem? (i := 0) rfl)) (hts (.initialized RX4) lk_X0_reach_iX4) hsX4_put ⟨Nat.le_of_ble_eq_true rfl, Nat.le_of_ble_eq_true rfl⟩, (hts (.static yX4_put) lk_X0_reach_s_put), trivial⟩ hK hP hD hS xb_triv (fun _ _ _ => trivial) [4] [0, 1, 2, 3] [0, 1, 2, 3, 4] rfl rfl rfl rfl rfl rfl rfl rfl hl.1 rfl (Nat.le_of_ble_eq_true rfl) dX0_reach_73 ⟨Nat.le_refl _, Nat.le_refl _⟩ (fun _ H locs hP hD hS => ?_)
    have hP : va_P G.1 vwCl (wdX0 G v_q0 v_q1 v_q2 v_q3 v_q4 v_waitingNumber v_number v_mostJoined v_joinedTimes v_joinedX v_joinedY r3_0 r4_0 r5_0 r6_0) H := hP
    have hD : va_D A (wdX0 G v_q0 v_q1 v_q2 v_q3 v_q4 v_waitingNumber v_number v_mostJoined v_joinedTimes v_joinedX v_joinedY r3_0 r4_0 r5_0 r6_0) := hD
    refine lv_aload_n hx hb dX0_reach_76 rfl (lv_at hl 0 rfl) ?_
    refine lv_dup hx hb dX0_reach_77 rfl ?_
    refine va_get (D := G.1) (ci := 0) (v := .int v_waitingNumber) (C := RX0) (T := TX0) (N := 10) hx hb hts fw_X0_reach_X0 hown hK.1 hP 0 rfl rfl 4 (by decide) (hts (.fieldLink RX0 62 "HalftoneScreens$Dots" "waitingNumber" "I") lk_X0_reach_f62) (fun _ h9 => h9) rfl dX0_reach_78 ?_
    refine lv_iconst (v := 1) hx hb dX0_reach_81 (by decide) ?_
    refine lv_iadd hx hb dX0_reach_82 ?_
    refine lv_topi (fun x7 e7 => ?_)
    replace h := nmB_e e7 h
    refine va_put (D := G.1) (ci := 0) (v := .int x7) (ty := .int) (C := RX0) (T := TX0) (N := 10) hx hb hts fw_X0_reach_X0 tyX0 tyX0_ok nmX0 hown hK.1 hP hD hS 0 rfl rfl 4 (by decide) (hts (.fieldLink RX0 62 "HalftoneScreens$Dots" "waitingNumber" "I") lk_X0_reach_f62) (fun _ h9 => h9) rfl (tyX0_ok 4 (by decide)) rfl rfl (Nat.le_of_ble_eq_true rfl) dX0_reach_83 (fun H locs hP hD hS => ?_)
    have hP : va_P G.1 vwCl (wdX0 G v_q0 v_q1 v_q2 v_q3 v_q4 x7 v_number v_mostJoined v_joinedTimes v_joinedX v_joinedY r3_0 r4_0 r5_0 r6_0) H := hP
    have hD : va_D A (wdX0 G v_q0 v_q1 v_q2 v_q3 v_q4 x7 v_number v_mostJoined v_joinedTimes v_joinedX v_joinedY r3_0 r4_0 r5_0 r6_0) := hD
    obtain ⟨rfl, rfl, rfl, rfl, rfl, rfl, rfl, rfl⟩ := sm8 h
    exact hret _ _ _ _ trivial hP hD hS dX0_reach_86
  · replace h := ite_t c2 h
    refine lv_aload_n hx hb dX0_reach_12 rfl (lv_at hl 0 rfl) ?_
    refine lv_iload_n hx hb dX0_reach_13 rfl (lv_at hl 2 rfl) ?_
    refine lv_aload_n hx hb dX0_reach_14 rfl (lv_at hl 0 rfl) ?_
    refine va_get (D := G.1) (ci := 0) (v := .ref v_q2) (C := RX0) (T := TX0) (N := 10) hx hb hts fw_X0_reach_X0 hown hK.1 hP 0 rfl rfl 1 (by decide) (hts (.fieldLink RX0 15 "HalftoneScreens$Dots" "walkedX" "[I") lk_X0_reach_f15) (fun _ h9 => h9) rfl dX0_reach_15 ?_
    refine lv_iload_n hx hb dX0_reach_18 rfl (lv_at hl 1 rfl) ?_
    obtain ⟨r8_0, g8, h⟩ := bnd1_e h
    refine roNi1 (rest := [.int a1, .ref v_q0]) (As := [.ref v_q2, .int a0]) S (ctX4_at l G v_q2 64 v_walkedXA a0 r8_0 g8) ⟨va_cnB 2 hts gX0_reach_X4_at_n45 rfl rfl rfl (hK.2.1 _ (List.mem_of_getElem? (i := 1) rfl)) (hts (.initialized RX4) lk_X0_reach_iX4) hsX4_at ⟨Nat.le_of_ble_eq_true rfl, Nat.le_of_ble_eq_true rfl⟩, (hts (.static yX4_at) lk_X0_reach_s_at), trivial⟩ hK hP [2] rfl rfl hl.1 rfl (Nat.le_of_ble_eq_true rfl) dX0_reach_19 ⟨Nat.le_refl _, Nat.le_refl _⟩ (fun _ => ?_)
    refine lv_isub hx hb dX0_reach_22 ?_
    refine lv_iload_n hx hb dX0_reach_23 rfl (lv_at hl 3 rfl) ?_
    refine lv_aload_n hx hb dX0_reach_24 rfl (lv_at hl 0 rfl) ?_
    refine va_get (D := G.1) (ci := 0) (v := .ref v_q3) (C := RX0) (T := TX0) (N := 10) hx hb hts fw_X0_reach_X0 hown hK.1 hP 0 rfl rfl 2 (by decide) (hts (.fieldLink RX0 18 "HalftoneScreens$Dots" "walkedY" "[I") lk_X0_reach_f18) (fun _ h9 => h9) rfl dX0_reach_25 ?_
    refine lv_iload_n hx hb dX0_reach_28 rfl (lv_at hl 1 rfl) ?_
    obtain ⟨r9_0, g9, h⟩ := bnd1_e h
    refine roNi1 (rest := [.int a2, .int (a1 - r8_0), .ref v_q0]) (As := [.ref v_q3, .int a0]) S (ctX4_at l G v_q3 64 v_walkedYA a0 r9_0 g9) ⟨va_cnB 2 hts gX0_reach_X4_at_n45 rfl rfl rfl (hK.2.1 _ (List.mem_of_getElem? (i := 1) rfl)) (hts (.initialized RX4) lk_X0_reach_iX4) hsX4_at ⟨Nat.le_of_ble_eq_true rfl, Nat.le_of_ble_eq_true rfl⟩, (hts (.static yX4_at) lk_X0_reach_s_at), trivial⟩ hK hP [3] rfl rfl hl.1 rfl (Nat.le_of_ble_eq_true rfl) dX0_reach_29 ⟨Nat.le_refl _, Nat.le_refl _⟩ (fun _ => ?_)
    refine lv_isub hx hb dX0_reach_32 ?_
    obtain ⟨r10_0, r10_1, r10_2, g10, h⟩ := bnd3_e h
    refine rwV_same (rest := []) (As := [.int (a1 - r8_0), .int (a2 - r9_0)]) S (ctX0_join l G v_q0 v_q1 v_q2 v_q3 v_q4 v_waitingNumber v_number v_mostJoined v_joinedTimes v_joinedX v_joinedY v_reachedA v_walkedXA v_walkedYA v_waitingA (a1 - r8_0) (a2 - r9_0) r10_0 r10_1 r10_2 g10) (cwV 2 hts gX0_reach_X0_join rfl rfl rfl hvX0_join ⟨Nat.le_of_ble_eq_true rfl, Nat.le_of_ble_eq_true rfl⟩) hK hP hD hS xb_triv (fun _ _ _ => trivial) 0 0 rfl rfl rfl rfl hl.1 rfl (Nat.le_of_ble_eq_true rfl) dX0_reach_33 ⟨Nat.le_refl _, Nat.le_refl _⟩ (fun _ H locs hP hD hS => ?_)
    have hP : va_P G.1 vwCl (wdX0 G v_q0 v_q1 v_q2 v_q3 v_q4 v_waitingNumber v_number v_mostJoined r10_0 r10_1 r10_2 v_reachedA v_walkedXA v_walkedYA v_waitingA) H := hP
    have hD : va_D A (wdX0 G v_q0 v_q1 v_q2 v_q3 v_q4 v_waitingNumber v_number v_mostJoined r10_0 r10_1 r10_2 v_reachedA v_walkedXA v_walkedYA v_waitingA) := hD
    obtain ⟨rfl, rfl, rfl, rfl, rfl, rfl, rfl, rfl⟩ := sm8 h
    exact hret _ _ _ _ trivial hP hD hS dX0_reach_36
theorem fw_X0_walkThrough_X0 : ∀ w ∈ wsX00, w ∈ wsX0_walkThrough := fun w h => List.mem_cons_of_mem _ (List.mem_append_left _ (List.mem_append_right _ h))
theorem lk_X0_walkThrough_f53 : Cond.fieldLink RX0 53 "HalftoneScreens$Dots" "joinedTimes" "I" ∈ wsX0_walkThrough := List.mem_of_getElem? (i := 1) rfl
theorem lk_X0_walkThrough_f62 : Cond.fieldLink RX0 62 "HalftoneScreens$Dots" "waitingNumber" "I" ∈ wsX0_walkThrough := List.mem_of_getElem? (i := 2) rfl
theorem lk_X0_walkThrough_f21 : Cond.fieldLink RX0 21 "HalftoneScreens$Dots" "waiting" "[I" ∈ wsX0_walkThrough := List.mem_of_getElem? (i := 3) rfl
theorem lk_X0_walkThrough_iX4 : Cond.initialized RX4 ∈ wsX0_walkThrough := List.mem_of_getElem? (i := 13) rfl
theorem lk_X0_walkThrough_s_at : Cond.static yX4_at ∈ wsX0_walkThrough := List.mem_of_getElem? (i := 12) rfl
theorem lk_X0_walkThrough_f15 : Cond.fieldLink RX0 15 "HalftoneScreens$Dots" "walkedX" "[I" ∈ wsX0_walkThrough := List.mem_of_getElem? (i := 4) rfl
theorem lk_X0_walkThrough_f18 : Cond.fieldLink RX0 18 "HalftoneScreens$Dots" "walkedY" "[I" ∈ wsX0_walkThrough := List.mem_of_getElem? (i := 5) rfl
theorem hsX0_reach : yX0_reach.cls ≠ "java/lang/invoke/MethodHandle" ∧ yX0_reach.cls ≠ "java/lang/invoke/VarHandle" ∧ (parseMethodDescriptor yX0_reach.desc).map (fun d => d.parameters.length) = some 3 := by decide +kernel
theorem hvX0_reach : yX0_reach.cls = RX0 ∧ yX0_reach.cls ≠ "java/lang/invoke/MethodHandle" ∧ yX0_reach.cls ≠ "java/lang/invoke/VarHandle" ∧ (parseMethodDescriptor yX0_reach.desc).map (fun d => d.parameters.length) = some 3 := ⟨rfl, hsX0_reach⟩
abbrev rmX0_walkThrough : Room := { frames := 2, cells := 0, slots := 0, locals := 45 }
set_option maxHeartbeats 4000000 in
set_option maxRecDepth 100000 in
theorem ctX0_walkThrough (l : Launch) (G : GG) (v_q0 : Nat) (v_q1 : Nat) (v_q2 : Nat) (v_q3 : Nat) (v_q4 : Nat) (o_q0 : Nat) (o_q1 : Nat) (o_q2 : Nat) (o_q3 : Nat) (o_q4 : Nat) (o_q5 : Nat) (o_q6 : Nat) (o_q7 : Nat) (v_waitingNumber : Int32) (v_number : Int32) (v_mostJoined : Int32) (v_joinedTimes : Int32) (v_joinedX : Int32) (v_joinedY : Int32) (v_reachedA : (Nat → Int32)) (v_walkedXA : (Nat → Int32)) (v_walkedYA : (Nat → Int32)) (v_waitingA : (Nat → Int32)) (o_present : Int32) (o_a : Int32) (o_b : Int32) (o_c : Int32) (o_d : Int32) (o_spot : Int32) (o_middle : Int32) (o_tint : Int32) (o_w : Int32) (o_s : Int32) (o_h : Int32) (o_valuesA : (Nat → Int32)) (o_otherValuesA : (Nat → Int32)) (o_ranksA : (Nat → Int32)) (o_oldRanksA : (Nat → Int32)) (o_orderA : (Nat → Int32)) (o_neighborsA : (Nat → Int32)) (a1 : Int32) (a2 : Int32) (o0 : Int32) (o1 : Int32) (o2 : Int32) (o3 : Int32) (o4 : (Nat → Int32)) (o5 : (Nat → Int32)) (o6 : (Nat → Int32)) (o7 : (Nat → Int32)) (h : mX0_walkThrough v_joinedX v_joinedY v_reachedA v_walkedXA v_walkedYA v_waitingA o_ranksA o_neighborsA a1 a2 = some (o0, o1, o2, o3, o4, o5, o6, o7))  : Met l yX0_walkThrough wsX0_walkThrough rmX0_walkThrough (va_Pc [.ref v_q0, .ref o_q0, .int a1, .int a2] (PreD G (wdX0 G v_q0 v_q1 v_q2 v_q3 v_q4 v_waitingNumber v_number v_mostJoined v_joinedTimes v_joinedX v_joinedY v_reachedA v_walkedXA v_walkedYA v_waitingA ++ wdX3 G o_q0 o_q1 o_q2 o_q3 o_q4 o_q5 o_q6 o_q7 o_present o_a o_b o_c o_d o_spot o_middle o_tint o_w o_s o_h o_valuesA o_otherValuesA o_ranksA o_oldRanksA o_orderA o_neighborsA) (fun U => SK (va_A0 (wdX0 G v_q0 v_q1 v_q2 v_q3 v_q4 v_waitingNumber v_number v_mostJoined v_joinedTimes v_joinedX v_joinedY v_reachedA v_walkedXA v_walkedYA v_waitingA ++ wdX3 G o_q0 o_q1 o_q2 o_q3 o_q4 o_q5 o_q6 o_q7 o_present o_a o_b o_c o_d o_spot o_middle o_tint o_w o_s o_h o_valuesA o_otherValuesA o_ranksA o_oldRanksA o_orderA o_neighborsA)) U U.heap))) (QwA G (va_A0 (wdX0 G v_q0 v_q1 v_q2 v_q3 v_q4 v_waitingNumber v_number v_mostJoined v_joinedTimes v_joinedX v_joinedY v_reachedA v_walkedXA v_walkedYA v_waitingA ++ wdX3 G o_q0 o_q1 o_q2 o_q3 o_q4 o_q5 o_q6 o_q7 o_present o_a o_b o_c o_d o_spot o_middle o_tint o_w o_s o_h o_valuesA o_otherValuesA o_ranksA o_oldRanksA o_orderA o_neighborsA)) (wdX0 G v_q0 v_q1 v_q2 v_q3 v_q4 o0 v_number v_mostJoined o1 o2 o3 o4 o5 o6 o7 ++ wdX3 G o_q0 o_q1 o_q2 o_q3 o_q4 o_q5 o_q6 o_q7 o_present o_a o_b o_c o_d o_spot o_middle o_tint o_w o_s o_h o_valuesA o_otherValuesA o_ranksA o_oldRanksA o_orderA o_neighborsA) none True) 0 0 (va_A0 (wdX0 G v_q0 v_q1 v_q2 v_q3 v_q4 v_waitingNumber v_number v_mostJoined v_joinedTimes v_joinedX v_joinedY v_reachedA v_walkedXA v_walkedYA v_waitingA ++ wdX3 G o_q0 o_q1 o_q2 o_q3 o_q4 o_q5 o_q6 o_q7 o_present o_a o_b o_c o_d o_spot o_middle o_tint o_w o_s o_h o_valuesA o_otherValuesA o_ranksA o_oldRanksA o_orderA o_neighborsA)) := by
  refine of_wv (cc := cX0_walkThrough) (maxL := 10) (plainFor_of_name (by decide)) rfl (Nat.le_of_ble_eq_true rfl) ?_
  intro p e s m args below meth c ls Q A S hl hP hD hS hK hX hA hret
  obtain ⟨H, hH⟩ : ∃ H, H = s.heap := ⟨_, rfl⟩
  obtain ⟨locs, hlocs⟩ : ∃ L : List Loc, L = [] := ⟨_, rfl⟩
  rw [← hlocs]
  rw [← hlocs] at hS
  have hP : va_P G.1 vwCl (wdX0 G v_q0 v_q1 v_q2 v_q3 v_q4 v_waitingNumber v_number v_mostJoined v_joinedTimes v_joinedX v_joinedY v_reachedA v_walkedXA v_walkedYA v_waitingA ++ wdX3 G o_q0 o_q1 o_q2 o_q3 o_q4 o_q5 o_q6 o_q7 o_present o_a o_b o_c o_d o_spot o_middle o_tint o_w o_s o_h o_valuesA o_otherValuesA o_ranksA o_oldRanksA o_orderA o_neighborsA) H := by rw [hH]; exact hP
  have hS : va_S A s.heap H locs := by rw [hH]; exact hS
  suffices hgo : W p l e rmX0_walkThrough s m args below meth c H locs 0 0 Q (F0 m 0 ls []) by rw [hH] at hgo; exact hgo
  have S : CallFix p m c cX0_walkThrough 10 s args wsX0_walkThrough RX0 := S
  obtain ⟨hx, hb, hml, hown, hts⟩ := id S
  have hl : lv_has ls 10 [(0, .ref v_q0), (1, .ref o_q0), (2, .int a1), (3, .int a2)] := hl
  unfold mX0_walkThrough at h
  obtain ⟨tX, tY, hX1⟩ : SK A s s.heap := by rw [hA]; exact hX
  refine lv_aload_n hx hb dX0_walkThrough_0 rfl (lv_at hl 0 rfl) ?_
  refine lv_iconst (v := 0) hx hb dX0_walkThrough_1 (by decide) ?_
  refine va_put (D := G.1) (ci := 0) (v := .int 0) (ty := .int) (C := RX0) (T := TX0) (N := 10) hx hb hts fw_X0_walkThrough_X0 tyX0 tyX0_ok nmX0 hown hK.1 hP hD hS 0 rfl rfl 7 (by decide) (hts (.fieldLink RX0 53 "HalftoneScreens$Dots" "joinedTimes" "I") lk_X0_walkThrough_f53) (fun _ h9 => h9) rfl (tyX0_ok 7 (by decide)) rfl rfl (Nat.le_of_ble_eq_true rfl) dX0_walkThrough_2 (fun H locs hP hD hS => ?_)
  have hP : va_P G.1 vwCl (wdX0 G v_q0 v_q1 v_q2 v_q3 v_q4 v_waitingNumber v_number v_mostJoined 0 v_joinedX v_joinedY v_reachedA v_walkedXA v_walkedYA v_waitingA ++ wdX3 G o_q0 o_q1 o_q2 o_q3 o_q4 o_q5 o_q6 o_q7 o_present o_a o_b o_c o_d o_spot o_middle o_tint o_w o_s o_h o_valuesA o_otherValuesA o_ranksA o_oldRanksA o_orderA o_neighborsA) H := hP
  have hD : va_D A (wdX0 G v_q0 v_q1 v_q2 v_q3 v_q4 v_waitingNumber v_number v_mostJoined 0 v_joinedX v_joinedY v_reachedA v_walkedXA v_walkedYA v_waitingA ++ wdX3 G o_q0 o_q1 o_q2 o_q3 o_q4 o_q5 o_q6 o_q7 o_present o_a o_b o_c o_d o_spot o_middle o_tint o_w o_s o_h o_valuesA o_otherValuesA o_ranksA o_oldRanksA o_orderA o_neighborsA) := hD
  refine lv_aload_n hx hb dX0_walkThrough_5 rfl (lv_at hl 0 rfl) ?_
  refine lv_iconst (v := 0) hx hb dX0_walkThrough_6 (by decide) ?_
  refine va_put (D := G.1) (ci := 0) (v := .int 0) (ty := .int) (C := RX0) (T := TX0) (N := 10) hx hb hts fw_X0_walkThrough_X0 tyX0 tyX0_ok nmX0 hown hK.1 hP hD hS 0 rfl rfl 4 (by decide) (hts (.fieldLink RX0 62 "HalftoneScreens$Dots" "waitingNumber" "I") lk_X0_walkThrough_f62) (fun _ h9 => h9) rfl (tyX0_ok 4 (by decide)) rfl rfl (Nat.le_of_ble_eq_true rfl) dX0_walkThrough_7 (fun H locs hP hD hS => ?_)
  have hP : va_P G.1 vwCl (wdX0 G v_q0 v_q1 v_q2 v_q3 v_q4 0 v_number v_mostJoined 0 v_joinedX v_joinedY v_reachedA v_walkedXA v_walkedYA v_waitingA ++ wdX3 G o_q0 o_q1 o_q2 o_q3 o_q4 o_q5 o_q6 o_q7 o_present o_a o_b o_c o_d o_spot o_middle o_tint o_w o_s o_h o_valuesA o_otherValuesA o_ranksA o_oldRanksA o_orderA o_neighborsA) H := hP
  have hD : va_D A (wdX0 G v_q0 v_q1 v_q2 v_q3 v_q4 0 v_number v_mostJoined 0 v_joinedX v_joinedY v_reachedA v_walkedXA v_walkedYA v_waitingA ++ wdX3 G o_q0 o_q1 o_q2 o_q3 o_q4 o_q5 o_q6 o_q7 o_present o_a o_b o_c o_d o_spot o_middle o_tint o_w o_s o_h o_valuesA o_otherValuesA o_ranksA o_oldRanksA o_orderA o_neighborsA) := hD
  refine lv_aload_n hx hb dX0_walkThrough_10 rfl (lv_at hl 0 rfl) ?_
  refine lv_iload_n hx hb dX0_walkThrough_11 rfl (lv_at hl 3 rfl) ?_
  refine lv_iconst (v := 0) hx hb dX0_walkThrough_12 (by decide) ?_
  refine lv_iconst (v := 0) hx hb dX0_walkThrough_13 (by decide) ?_
  obtain ⟨r1_0, r1_1, r1_2, r1_3, r1_4, r1_5, r1_6, r1_7, g1, h⟩ := bnd8_e h
  refine rwV_back (rest := []) (As := [.int a2, .int 0, .int 0]) (wr := [(o_q0, .inr (3, [.ref o_q1, .ref o_q2, .ref o_q3, .ref o_q4, .ref o_q5, .ref o_q6, .ref o_q7, .int o_present, .int o_a, .int o_b, .int o_c, .int o_d, .int o_spot, .int o_middle, .int o_tint])), (o_q1, .inr (2, [.int o_w, .int o_s, .int o_h])), (o_q2, .inl (G.2 0, 64, .inl o_valuesA)), (o_q3, .inl (G.2 0, 64, .inl o_otherValuesA)), (o_q4, .inl (G.2 0, 64, .inl o_ranksA)), (o_q5, .inl (G.2 0, 64, .inl o_oldRanksA)), (o_q6, .inl (G.2 0, 64, .inl o_orderA)), (o_q7, .inl (G.2 0, 256, .inl o_neighborsA))]) (wf := wdX0 G v_q0 v_q1 v_q2 v_q3 v_q4 r1_0 v_number v_mostJoined r1_1 r1_2 r1_3 r1_4 r1_5 r1_6 r1_7 ++ wdX3 G o_q0 o_q1 o_q2 o_q3 o_q4 o_q5 o_q6 o_q7 o_present o_a o_b o_c o_d o_spot o_middle o_tint o_w o_s o_h o_valuesA o_otherValuesA o_ranksA o_oldRanksA o_orderA o_neighborsA) S (ctX0_reach l G v_q0 v_q1 v_q2 v_q3 v_q4 0 v_number v_mostJoined 0 v_joinedX v_joinedY v_reachedA v_walkedXA v_walkedYA v_waitingA a2 0 0 r1_0 r1_1 r1_2 r1_3 r1_4 r1_5 r1_6 r1_7 g1) (cwV 3 hts gX0_walkThrough_X0_reach rfl rfl rfl hvX0_reach ⟨Nat.le_of_ble_eq_true rfl, Nat.le_of_ble_eq_true rfl⟩) hK hP hD hS xb_triv (fun _ _ _ => trivial) [0, 1, 2, 3, 4] [5, 6, 7, 8, 9, 10, 11, 12] [8, 9, 10, 11, 12, 0, 1, 2, 3, 4, 5, 6, 7] rfl rfl rfl rfl rfl rfl rfl 0 0 rfl rfl rfl rfl hl.1 rfl (Nat.le_of_ble_eq_true rfl) dX0_walkThrough_14 ⟨Nat.le_refl _, Nat.le_refl _⟩ (fun _ H locs hP hD hS => ?_)
  have hP : va_P G.1 vwCl (wdX0 G v_q0 v_q1 v_q2 v_q3 v_q4 r1_0 v_number v_mostJoined r1_1 r1_2 r1_3 r1_4 r1_5 r1_6 r1_7 ++ wdX3 G o_q0 o_q1 o_q2 o_q3 o_q4 o_q5 o_q6 o_q7 o_present o_a o_b o_c o_d o_spot o_middle o_tint o_w o_s o_h o_valuesA o_otherValuesA o_ranksA o_oldRanksA o_orderA o_neighborsA) H := hP
  have hD : va_D A (wdX0 G v_q0 v_q1 v_q2 v_q3 v_q4 r1_0 v_number v_mostJoined r1_1 r1_2 r1_3 r1_4 r1_5 r1_6 r1_7 ++ wdX3 G o_q0 o_q1 o_q2 o_q3 o_q4 o_q5 o_q6 o_q7 o_present o_a o_b o_c o_d o_spot o_middle o_tint o_w o_s o_h o_valuesA o_otherValuesA o_ranksA o_oldRanksA o_orderA o_neighborsA) := hD
  refine lv_iconst (v := 0) hx hb dX0_walkThrough_17 (by decide) ?_
  refine lv_istore (lv' := [(4, .int 0), (0, .ref v_q0), (1, .ref o_q0), (2, .int a1), (3, .int a2)]) hx hb dX0_walkThrough_18 hl (by decide) rfl (fun ls hl => ?_)
  obtain ⟨u2_0, u2_1, u2_2, u2_3, u2_4, u2_5, u2_6, u2_7, u2_8, g2, h⟩ := bnd9_e h
  have L2 : ∀ (fu : Nat) (v2_0 : Int32) (v2_1 : Int32) (v2_2 : Int32) (v2_3 : Int32) (v2_4 : Int32) (v2_5 : (Nat → Int32)) (v2_6 : (Nat → Int32)) (v2_7 : (Nat → Int32)) (v2_8 : (Nat → Int32)) (u2_0 : Int32) (u2_1 : Int32) (u2_2 : Int32) (u2_3 : Int32) (u2_4 : Int32) (u2_5 : (Nat → Int32)) (u2_6 : (Nat → Int32)) (u2_7 : (Nat → Int32)) (u2_8 : (Nat → Int32)) (H : Heap) (locs : List Loc) (ls : Array Slot), mX0_walkThrough_L20 o_ranksA o_neighborsA a1 fu v2_0 v2_1 v2_2 v2_3 v2_4 v2_5 v2_6 v2_7 v2_8 = some (u2_0, u2_1, u2_2, u2_3, u2_4, u2_5, u2_6, u2_7, u2_8) → lv_has ls 10 [(4, .int v2_0), (0, .ref v_q0), (1, .ref o_q0), (2, .int a1), (3, .int a2)] → va_P G.1 vwCl (wdX0 G v_q0 v_q1 v_q2 v_q3 v_q4 v2_1 v_number v_mostJoined v2_2 v2_3 v2_4 v2_5 v2_6 v2_7 v2_8 ++ wdX3 G o_q0 o_q1 o_q2 o_q3 o_q4 o_q5 o_q6 o_q7 o_present o_a o_b o_c o_d o_spot o_middle o_tint o_w o_s o_h o_valuesA o_otherValuesA o_ranksA o_oldRanksA o_orderA o_neighborsA) H → va_D A (wdX0 G v_q0 v_q1 v_q2 v_q3 v_q4 v2_1 v_number v_mostJoined v2_2 v2_3 v2_4 v2_5 v2_6 v2_7 v2_8 ++ wdX3 G o_q0 o_q1 o_q2 o_q3 o_q4 o_q5 o_q6 o_q7 o_present o_a o_b o_c o_d o_spot o_middle o_tint o_w o_s o_h o_valuesA o_otherValuesA o_ranksA o_oldRanksA o_orderA o_neighborsA) → va_S A s.heap H locs → (∀ (H : Heap) (locs : List Loc) (ls : Array Slot), lv_has ls 10 [(4, .int u2_0), (0, .ref v_q0), (1, .ref o_q0), (2, .int a1), (3, .int a2)] → va_P G.1 vwCl (wdX0 G v_q0 v_q1 v_q2 v_q3 v_q4 u2_1 v_number v_mostJoined u2_2 u2_3 u2_4 u2_5 u2_6 u2_7 u2_8 ++ wdX3 G o_q0 o_q1 o_q2 o_q3 o_q4 o_q5 o_q6 o_q7 o_present o_a o_b o_c o_d o_spot o_middle o_tint o_w o_s o_h o_valuesA o_otherValuesA o_ranksA o_oldRanksA o_orderA o_neighborsA) H → va_D A (wdX0 G v_q0 v_q1 v_q2 v_q3 v_q4 u2_1 v_number v_mostJoined u2_2 u2_3 u2_4 u2_5 u2_6 u2_7 u2_8 ++ wdX3 G o_q0 o_q1 o_q2 o_q3 o_q4 o_q5 o_q6 o_q7 o_present o_a o_b o_c o_d o_spot o_middle o_tint o_w o_s o_h o_valuesA o_otherValuesA o_ranksA o_oldRanksA o_orderA o_neighborsA) → va_S A s.heap H locs → W p l e rmX0_walkThrough s m args below meth c H locs 0 0 Q (F0 m 138 ls [])) → W p l e rmX0_walkThrough s m args below meth c H locs 0 0 Q (F0 m 20 ls []) := by
    intro fu
    induction fu with
    | zero => intro v2_0 v2_1 v2_2 v2_3 v2_4 v2_5 v2_6 v2_7 v2_8 u2_0 u2_1 u2_2 u2_3 u2_4 u2_5 u2_6 u2_7 u2_8 H locs ls h; exact nomatch h
    | succ fu ih =>
      intro v2_0 v2_1 v2_2 v2_3 v2_4 v2_5 v2_6 v2_7 v2_8 u2_0 u2_1 u2_2 u2_3 u2_4 u2_5 u2_6 u2_7 u2_8 H locs ls h hl hP hD hS kE
      rw [mX0_walkThrough_L20] at h
      refine lv_iload hx hb dX0_walkThrough_20 (lv_at hl 0 rfl) ?_
      refine lv_bipush (v := 64) hx hb dX0_walkThrough_22 (by decide) ?_
      refine lv_icmp_ge (tgt := 138) hx hb dX0_walkThrough_24 (by decide) (fun c3 => ?_) (fun c3 => ?_)
      · replace h := ite_t c3 h
        obtain ⟨rfl, rfl, rfl, rfl, rfl, rfl, rfl, rfl, rfl⟩ := sm9 h
        exact kE H locs ls hl hP hD hS
      · replace h := ite_f c3 h
        refine lv_iload hx hb dX0_walkThrough_27 (lv_at hl 0 rfl) ?_
        refine lv_aload_n hx hb dX0_walkThrough_29 rfl (lv_at hl 1 rfl) ?_
        refine va_get (D := G.1) (ci := 0) (v := .int v2_1) (C := RX0) (T := TX0) (N := 10) hx hb hts fw_X0_walkThrough_X0 hown hK.1 hP 0 rfl rfl 4 (by decide) (hts (.fieldLink RX0 62 "HalftoneScreens$Dots" "waitingNumber" "I") lk_X0_walkThrough_f62) (fun _ h9 => h9) rfl dX0_walkThrough_30 ?_
        refine lv_icmp_ge (tgt := 138) hx hb dX0_walkThrough_33 (by decide) (fun c4 => ?_) (fun c4 => ?_)
        · replace h := ite_t c4 h
          obtain ⟨rfl, rfl, rfl, rfl, rfl, rfl, rfl, rfl, rfl⟩ := sm9 h
          exact kE H locs ls hl hP hD hS
        · replace h := ite_f c4 h
          refine lv_aload_n hx hb dX0_walkThrough_36 rfl (lv_at hl 1 rfl) ?_
          refine va_get (D := G.1) (ci := 0) (v := .ref v_q4) (C := RX0) (T := TX0) (N := 10) hx hb hts fw_X0_walkThrough_X0 hown hK.1 hP 0 rfl rfl 3 (by decide) (hts (.fieldLink RX0 21 "HalftoneScreens$Dots" "waiting" "[I") lk_X0_walkThrough_f21) (fun _ h9 => h9) rfl dX0_walkThrough_37 ?_
          refine lv_iload hx hb dX0_walkThrough_40 (lv_at hl 0 rfl) ?_
          obtain ⟨r5_0, g5, h⟩ := bnd1_e h
          refine roNi1 (rest := []) (As := [.ref v_q4, .int v2_0]) S (ctX4_at l G v_q4 64 v2_8 v2_0 r5_0 g5) ⟨va_cnB 2 hts gX0_walkThrough_X4_at_n45 rfl rfl rfl (hK.2.1 _ (List.mem_of_getElem? (i := 1) rfl)) (hts (.initialized RX4) lk_X0_walkThrough_iX4) hsX4_at ⟨Nat.le_of_ble_eq_true rfl, Nat.le_of_ble_eq_true rfl⟩, (hts (.static yX4_at) lk_X0_walkThrough_s_at), trivial⟩ hK hP [4] rfl rfl hl.1 rfl (Nat.le_of_ble_eq_true rfl) dX0_walkThrough_42 ⟨Nat.le_refl _, Nat.le_refl _⟩ (fun _ => ?_)
          refine lv_istore (lv' := [(5, .int r5_0), (4, .int v2_0), (0, .ref v_q0), (1, .ref o_q0), (2, .int a1), (3, .int a2)]) hx hb dX0_walkThrough_45 hl (by decide) rfl (fun ls hl => ?_)
          refine lv_iconst (v := 0) hx hb dX0_walkThrough_47 (by decide) ?_
          refine lv_istore (lv' := [(6, .int 0), (5, .int r5_0), (4, .int v2_0), (0, .ref v_q0), (1, .ref o_q0), (2, .int a1), (3, .int a2)]) hx hb dX0_walkThrough_48 hl (by decide) rfl (fun ls hl => ?_)
          obtain ⟨u6_0, u6_1, u6_2, u6_3, u6_4, u6_5, u6_6, u6_7, u6_8, g6, h⟩ := bnd9_e h
          have L6 : ∀ (fu : Nat) (v6_0 : Int32) (v6_1 : Int32) (v6_2 : Int32) (v6_3 : Int32) (v6_4 : Int32) (v6_5 : (Nat → Int32)) (v6_6 : (Nat → Int32)) (v6_7 : (Nat → Int32)) (v6_8 : (Nat → Int32)) (u6_0 : Int32) (u6_1 : Int32) (u6_2 : Int32) (u6_3 : Int32) (u6_4 : Int32) (u6_5 : (Nat → Int32)) (u6_6 : (Nat → Int32)) (u6_7 : (Nat → Int32)) (u6_8 : (Nat → Int32)) (H : Heap) (locs : List Loc) (ls : Array Slot), mX0_walkThrough_L50 o_ranksA o_neighborsA a1 r5_0 fu v6_0 v6_1 v6_2 v6_3 v6_4 v6_5 v6_6 v6_7 v6_8 = some (u6_0, u6_1, u6_2, u6_3, u6_4, u6_5, u6_6, u6_7, u6_8) → lv_has ls 10 [(6, .int v6_0), (5, .int r5_0), (4, .int v2_0), (0, .ref v_q0), (1, .ref o_q0), (2, .int a1), (3, .int a2)] → va_P G.1 vwCl (wdX0 G v_q0 v_q1 v_q2 v_q3 v_q4 v6_1 v_number v_mostJoined v6_2 v6_3 v6_4 v6_5 v6_6 v6_7 v6_8 ++ wdX3 G o_q0 o_q1 o_q2 o_q3 o_q4 o_q5 o_q6 o_q7 o_present o_a o_b o_c o_d o_spot o_middle o_tint o_w o_s o_h o_valuesA o_otherValuesA o_ranksA o_oldRanksA o_orderA o_neighborsA) H → va_D A (wdX0 G v_q0 v_q1 v_q2 v_q3 v_q4 v6_1 v_number v_mostJoined v6_2 v6_3 v6_4 v6_5 v6_6 v6_7 v6_8 ++ wdX3 G o_q0 o_q1 o_q2 o_q3 o_q4 o_q5 o_q6 o_q7 o_present o_a o_b o_c o_d o_spot o_middle o_tint o_w o_s o_h o_valuesA o_otherValuesA o_ranksA o_oldRanksA o_orderA o_neighborsA) → va_S A s.heap H locs → (∀ (H : Heap) (locs : List Loc) (ls : Array Slot), lv_has ls 10 [(6, .int u6_0), (5, .int r5_0), (4, .int v2_0), (0, .ref v_q0), (1, .ref o_q0), (2, .int a1), (3, .int a2)] → va_P G.1 vwCl (wdX0 G v_q0 v_q1 v_q2 v_q3 v_q4 u6_1 v_number v_mostJoined u6_2 u6_3 u6_4 u6_5 u6_6 u6_7 u6_8 ++ wdX3 G o_q0 o_q1 o_q2 o_q3 o_q4 o_q5 o_q6 o_q7 o_present o_a o_b o_c o_d o_spot o_middle o_tint o_w o_s o_h o_valuesA o_otherValuesA o_ranksA o_oldRanksA o_orderA o_neighborsA) H → va_D A (wdX0 G v_q0 v_q1 v_q2 v_q3 v_q4 u6_1 v_number v_mostJoined u6_2 u6_3 u6_4 u6_5 u6_6 u6_7 u6_8 ++ wdX3 G o_q0 o_q1 o_q2 o_q3 o_q4 o_q5 o_q6 o_q7 o_present o_a o_b o_c o_d o_spot o_middle o_tint o_w o_s o_h o_valuesA o_otherValuesA o_ranksA o_oldRanksA o_orderA o_neighborsA) → va_S A s.heap H locs → W p l e rmX0_walkThrough s m args below meth c H locs 0 0 Q (F0 m 132 ls [])) → W p l e rmX0_walkThrough s m args below meth c H locs 0 0 Q (F0 m 50 ls []) := by
            intro fu
            induction fu with
            | zero => intro v6_0 v6_1 v6_2 v6_3 v6_4 v6_5 v6_6 v6_7 v6_8 u6_0 u6_1 u6_2 u6_3 u6_4 u6_5 u6_6 u6_7 u6_8 H locs ls h; exact nomatch h
            | succ fu ih =>
              intro v6_0 v6_1 v6_2 v6_3 v6_4 v6_5 v6_6 v6_7 v6_8 u6_0 u6_1 u6_2 u6_3 u6_4 u6_5 u6_6 u6_7 u6_8 H locs ls h hl hP hD hS kE
              rw [mX0_walkThrough_L50] at h
              refine lv_iload hx hb dX0_walkThrough_50 (lv_at hl 0 rfl) ?_
              refine lv_iconst (v := 4) hx hb dX0_walkThrough_52 (by decide) ?_
              refine lv_icmp_ge (tgt := 132) hx hb dX0_walkThrough_53 (by decide) (fun c7 => ?_) (fun c7 => ?_)
              · replace h := ite_t c7 h
                obtain ⟨rfl, rfl, rfl, rfl, rfl, rfl, rfl, rfl, rfl⟩ := sm9 h
                exact kE H locs ls hl hP hD hS
              · replace h := ite_f c7 h
                refine lv_aload_n hx hb dX0_walkThrough_56 rfl (lv_at hl 4 rfl) ?_
                refine lv_iload hx hb dX0_walkThrough_57 (lv_at hl 1 rfl) ?_
                refine lv_iload hx hb dX0_walkThrough_59 (lv_at hl 0 rfl) ?_
                obtain ⟨r8_0, g8, h⟩ := bnd1_e h
                refine roVi1 (rest := []) (As := [.int r5_0, .int v6_0]) S (ctX3_neighbor l G o_q0 o_q1 o_q2 o_q3 o_q4 o_q5 o_q6 o_q7 o_present o_a o_b o_c o_d o_spot o_middle o_tint o_w o_s o_h o_valuesA o_otherValuesA o_ranksA o_oldRanksA o_orderA o_neighborsA r5_0 v6_0 r8_0 g8) (cwV 2 hts gX0_walkThrough_X3_neighbor rfl rfl rfl hvX3_neighbor ⟨Nat.le_of_ble_eq_true rfl, Nat.le_of_ble_eq_true rfl⟩) hK hP [5, 6, 7, 8, 9, 10, 11, 12] rfl 5 3 rfl rfl rfl rfl hl.1 rfl (Nat.le_of_ble_eq_true rfl) dX0_walkThrough_61 ⟨Nat.le_refl _, Nat.le_refl _⟩ (fun _ => ?_)
                refine lv_istore (lv' := [(7, .int r8_0), (6, .int v6_0), (5, .int r5_0), (4, .int v2_0), (0, .ref v_q0), (1, .ref o_q0), (2, .int a1), (3, .int a2)]) hx hb dX0_walkThrough_64 hl (by decide) rfl (fun ls hl => ?_)
                refine lv_aload_n hx hb dX0_walkThrough_66 rfl (lv_at hl 5 rfl) ?_
                refine lv_iload hx hb dX0_walkThrough_67 (lv_at hl 0 rfl) ?_
                refine lv_iload_n hx hb dX0_walkThrough_69 rfl (lv_at hl 6 rfl) ?_
                obtain ⟨r9_0, g9, h⟩ := bnd1_e h
                refine roVi1 (rest := []) (As := [.int r8_0, .int a1]) S (ctX3_inksPlace l G o_q0 o_q1 o_q2 o_q3 o_q4 o_q5 o_q6 o_q7 o_present o_a o_b o_c o_d o_spot o_middle o_tint o_w o_s o_h o_valuesA o_otherValuesA o_ranksA o_oldRanksA o_orderA o_neighborsA r8_0 a1 r9_0 g9) (cwV 2 hts gX0_walkThrough_X3_inksPlace rfl rfl rfl hvX3_inksPlace ⟨Nat.le_of_ble_eq_true rfl, Nat.le_of_ble_eq_true rfl⟩) hK hP [5, 6, 7, 8, 9, 10, 11, 12] rfl 5 3 rfl rfl rfl rfl hl.1 rfl (Nat.le_of_ble_eq_true rfl) dX0_walkThrough_70 ⟨Nat.le_refl _, Nat.le_refl _⟩ (fun hz9 => ?_)
                refine lv_if_eq (tgt := 126) hx hb dX0_walkThrough_73 (by decide) (fun c10 => ?_) (fun c10 => ?_)
                · replace h := ite_t c10 h
                  obtain ⟨x11, e11⟩ : ∃ y : Int32, y = v6_0 + 1 := ⟨_, rfl⟩
                  replace h := nmB_e e11 h
                  refine lv_iinc (v := x11) (lv' := [(6, .int x11), (7, .int r8_0), (5, .int r5_0), (4, .int v2_0), (0, .ref v_q0), (1, .ref o_q0), (2, .int a1), (3, .int a2)]) hx hb dX0_walkThrough_126 hl (k := 1) rfl (by rw [e11]; rfl) (by decide) rfl (fun ls hl => ?_)
                  refine lv_goto (tgt := 50) hx hb dX0_walkThrough_129 (by decide) ?_
                  exact ih x11 v6_1 v6_2 v6_3 v6_4 v6_5 v6_6 v6_7 v6_8 u6_0 u6_1 u6_2 u6_3 u6_4 u6_5 u6_6 u6_7 u6_8 H locs ls h (lv_sub hl [0, 2, 3, 4, 5, 6, 7] rfl) hP hD hS kE
                · replace h := ite_f c10 h
                  refine lv_aload_n hx hb dX0_walkThrough_76 rfl (lv_at hl 4 rfl) ?_
                  refine va_get (D := G.1) (ci := 0) (v := .ref v_q2) (C := RX0) (T := TX0) (N := 10) hx hb hts fw_X0_walkThrough_X0 hown hK.1 hP 0 rfl rfl 1 (by decide) (hts (.fieldLink RX0 15 "HalftoneScreens$Dots" "walkedX" "[I") lk_X0_walkThrough_f15) (fun _ h9 => h9) rfl dX0_walkThrough_77 ?_
                  refine lv_iload hx hb dX0_walkThrough_80 (lv_at hl 2 rfl) ?_
                  obtain ⟨r12_0, g12, h⟩ := bnd1_e h
                  refine roNi1 (rest := []) (As := [.ref v_q2, .int r5_0]) S (ctX4_at l G v_q2 64 v6_6 r5_0 r12_0 g12) ⟨va_cnB 2 hts gX0_walkThrough_X4_at_n45 rfl rfl rfl (hK.2.1 _ (List.mem_of_getElem? (i := 1) rfl)) (hts (.initialized RX4) lk_X0_walkThrough_iX4) hsX4_at ⟨Nat.le_of_ble_eq_true rfl, Nat.le_of_ble_eq_true rfl⟩, (hts (.static yX4_at) lk_X0_walkThrough_s_at), trivial⟩ hK hP [2] rfl rfl hl.1 rfl (Nat.le_of_ble_eq_true rfl) dX0_walkThrough_82 ⟨Nat.le_refl _, Nat.le_refl _⟩ (fun _ => ?_)
                  refine va_getsN (v := .ref tX) (C := RX4) (n := "STEP_X") (d := "[I") (host := RH) hx hb hX1.1 hS hown (va_Nw.use rfl (hK.2.2 _ (List.mem_of_getElem? (i := 0) rfl))) (fun _ h9 => h9) dX0_walkThrough_85 ?_
                  refine lv_iload hx hb dX0_walkThrough_88 (lv_at hl 1 rfl) ?_
                  obtain ⟨r13_0, g13, h⟩ := bnd1_e h
                  refine roT1 (rest := [.int r12_0]) (As := [.ref tX, .int v6_0]) S (ctX4_at_T l tX stX v6_0 r13_0 g13) ⟨va_cnB 2 hts gX0_walkThrough_X4_at_n45 rfl rfl rfl (hK.2.1 _ (List.mem_of_getElem? (i := 1) rfl)) (hts (.initialized RX4) lk_X0_walkThrough_iX4) hsX4_at ⟨Nat.le_of_ble_eq_true rfl, Nat.le_of_ble_eq_true rfl⟩, (hts (.static yX4_at) lk_X0_walkThrough_s_at), trivial⟩ (va_T.out0 hX1.2.2.1 hS) rfl hl.1 rfl (Nat.le_of_ble_eq_true rfl) dX0_walkThrough_90 ⟨Nat.le_refl _, Nat.le_refl _⟩ ?_
                  refine lv_iadd hx hb dX0_walkThrough_93 ?_
                  refine lv_topi (fun x14 e14 => ?_)
                  replace h := nmB_e e14 h
                  refine lv_istore (lv' := [(8, .int x14), (7, .int r8_0), (6, .int v6_0), (5, .int r5_0), (4, .int v2_0), (0, .ref v_q0), (1, .ref o_q0), (2, .int a1), (3, .int a2)]) hx hb dX0_walkThrough_94 hl (by decide) rfl (fun ls hl => ?_)
                  refine lv_aload_n hx hb dX0_walkThrough_96 rfl (lv_at hl 5 rfl) ?_
                  refine va_get (D := G.1) (ci := 0) (v := .ref v_q3) (C := RX0) (T := TX0) (N := 10) hx hb hts fw_X0_walkThrough_X0 hown hK.1 hP 0 rfl rfl 2 (by decide) (hts (.fieldLink RX0 18 "HalftoneScreens$Dots" "walkedY" "[I") lk_X0_walkThrough_f18) (fun _ h9 => h9) rfl dX0_walkThrough_97 ?_
                  refine lv_iload hx hb dX0_walkThrough_100 (lv_at hl 3 rfl) ?_
                  obtain ⟨r15_0, g15, h⟩ := bnd1_e h
                  refine roNi1 (rest := []) (As := [.ref v_q3, .int r5_0]) S (ctX4_at l G v_q3 64 v6_7 r5_0 r15_0 g15) ⟨va_cnB 2 hts gX0_walkThrough_X4_at_n45 rfl rfl rfl (hK.2.1 _ (List.mem_of_getElem? (i := 1) rfl)) (hts (.initialized RX4) lk_X0_walkThrough_iX4) hsX4_at ⟨Nat.le_of_ble_eq_true rfl, Nat.le_of_ble_eq_true rfl⟩, (hts (.static yX4_at) lk_X0_walkThrough_s_at), trivial⟩ hK hP [3] rfl rfl hl.1 rfl (Nat.le_of_ble_eq_true rfl) dX0_walkThrough_102 ⟨Nat.le_refl _, Nat.le_refl _⟩ (fun _ => ?_)
                  refine va_getsN (v := .ref tY) (C := RX4) (n := "STEP_Y") (d := "[I") (host := RH) hx hb hX1.2.1 hS hown (va_Nw.use rfl (hK.2.2 _ (List.mem_of_getElem? (i := 1) rfl))) (fun _ h9 => h9) dX0_walkThrough_105 ?_
                  refine lv_iload hx hb dX0_walkThrough_108 (lv_at hl 2 rfl) ?_
                  obtain ⟨r16_0, g16, h⟩ := bnd1_e h
                  refine roT1 (rest := [.int r15_0]) (As := [.ref tY, .int v6_0]) S (ctX4_at_T l tY stY v6_0 r16_0 g16) ⟨va_cnB 2 hts gX0_walkThrough_X4_at_n45 rfl rfl rfl (hK.2.1 _ (List.mem_of_getElem? (i := 1) rfl)) (hts (.initialized RX4) lk_X0_walkThrough_iX4) hsX4_at ⟨Nat.le_of_ble_eq_true rfl, Nat.le_of_ble_eq_true rfl⟩, (hts (.static yX4_at) lk_X0_walkThrough_s_at), trivial⟩ (va_T.out0 hX1.2.2.2 hS) rfl hl.1 rfl (Nat.le_of_ble_eq_true rfl) dX0_walkThrough_110 ⟨Nat.le_refl _, Nat.le_refl _⟩ ?_
                  refine lv_iadd hx hb dX0_walkThrough_113 ?_
                  refine lv_topi (fun x17 e17 => ?_)
                  replace h := nmB_e e17 h
                  refine lv_istore (lv' := [(9, .int x17), (8, .int x14), (7, .int r8_0), (6, .int v6_0), (5, .int r5_0), (4, .int v2_0), (0, .ref v_q0), (1, .ref o_q0), (2, .int a1), (3, .int a2)]) hx hb dX0_walkThrough_114 hl (by decide) rfl (fun ls hl => ?_)
                  refine lv_aload_n hx hb dX0_walkThrough_116 rfl (lv_at hl 6 rfl) ?_
                  refine lv_iload hx hb dX0_walkThrough_117 (lv_at hl 2 rfl) ?_
                  refine lv_iload hx hb dX0_walkThrough_119 (lv_at hl 1 rfl) ?_
                  refine lv_iload hx hb dX0_walkThrough_121 (lv_at hl 0 rfl) ?_
                  obtain ⟨r18_0, r18_1, r18_2, r18_3, r18_4, r18_5, r18_6, r18_7, g18, h⟩ := bnd8_e h
                  refine rwV_back (rest := []) (As := [.int r8_0, .int x14, .int x17]) (wr := [(o_q0, .inr (3, [.ref o_q1, .ref o_q2, .ref o_q3, .ref o_q4, .ref o_q5, .ref o_q6, .ref o_q7, .int o_present, .int o_a, .int o_b, .int o_c, .int o_d, .int o_spot, .int o_middle, .int o_tint])), (o_q1, .inr (2, [.int o_w, .int o_s, .int o_h])), (o_q2, .inl (G.2 0, 64, .inl o_valuesA)), (o_q3, .inl (G.2 0, 64, .inl o_otherValuesA)), (o_q4, .inl (G.2 0, 64, .inl o_ranksA)), (o_q5, .inl (G.2 0, 64, .inl o_oldRanksA)), (o_q6, .inl (G.2 0, 64, .inl o_orderA)), (o_q7, .inl (G.2 0, 256, .inl o_neighborsA))]) (wf := wdX0 G v_q0 v_q1 v_q2 v_q3 v_q4 r18_0 v_number v_mostJoined r18_1 r18_2 r18_3 r18_4 r18_5 r18_6 r18_7 ++ wdX3 G o_q0 o_q1 o_q2 o_q3 o_q4 o_q5 o_q6 o_q7 o_present o_a o_b o_c o_d o_spot o_middle o_tint o_w o_s o_h o_valuesA o_otherValuesA o_ranksA o_oldRanksA o_orderA o_neighborsA) S (ctX0_reach l G v_q0 v_q1 v_q2 v_q3 v_q4 v6_1 v_number v_mostJoined v6_2 v6_3 v6_4 v6_5 v6_6 v6_7 v6_8 r8_0 x14 x17 r18_0 r18_1 r18_2 r18_3 r18_4 r18_5 r18_6 r18_7 g18) (cwV 3 hts gX0_walkThrough_X0_reach rfl rfl rfl hvX0_reach ⟨Nat.le_of_ble_eq_true rfl, Nat.le_of_ble_eq_true rfl⟩) hK hP hD hS xb_triv (fun _ _ _ => trivial) [0, 1, 2, 3, 4] [5, 6, 7, 8, 9, 10, 11, 12] [8, 9, 10, 11, 12, 0, 1, 2, 3, 4, 5, 6, 7] rfl rfl rfl rfl rfl rfl rfl 0 0 rfl rfl rfl rfl hl.1 rfl (Nat.le_of_ble_eq_true rfl) dX0_walkThrough_123 ⟨Nat.le_refl _, Nat.le_refl _⟩ (fun _ H locs hP hD hS => ?_)
                  have hP : va_P G.1 vwCl (wdX0 G v_q0 v_q1 v_q2 v_q3 v_q4 r18_0 v_number v_mostJoined r18_1 r18_2 r18_3 r18_4 r18_5 r18_6 r18_7 ++ wdX3 G o_q0 o_q1 o_q2 o_q3 o_q4 o_q5 o_q6 o_q7 o_present o_a o_b o_c o_d o_spot o_middle o_tint o_w o_s o_h o_valuesA o_otherValuesA o_ranksA o_oldRanksA o_orderA o_neighborsA) H := hP
                  have hD : va_D A (wdX0 G v_q0 v_q1 v_q2 v_q3 v_q4 r18_0 v_number v_mostJoined r18_1 r18_2 r18_3 r18_4 r18_5 r18_6 r18_7 ++ wdX3 G o_q0 o_q1 o_q2 o_q3 o_q4 o_q5 o_q6 o_q7 o_present o_a o_b o_c o_d o_spot o_middle o_tint o_w o_s o_h o_valuesA o_otherValuesA o_ranksA o_oldRanksA o_orderA o_neighborsA) := hD
                  obtain ⟨x19, e19⟩ : ∃ y : Int32, y = v6_0 + 1 := ⟨_, rfl⟩
                  replace h := nmB_e e19 h
                  refine lv_iinc (v := x19) (lv' := [(6, .int x19), (9, .int x17), (8, .int x14), (7, .int r8_0), (5, .int r5_0), (4, .int v2_0), (0, .ref v_q0), (1, .ref o_q0), (2, .int a1), (3, .int a2)]) hx hb dX0_walkThrough_126 hl (k := 3) rfl (by rw [e19]; rfl) (by decide) rfl (fun ls hl => ?_)
                  refine lv_goto (tgt := 50) hx hb dX0_walkThrough_129 (by decide) ?_
                  exact ih x19 r18_0 r18_1 r18_2 r18_3 r18_4 r18_5 r18_6 r18_7 u6_0 u6_1 u6_2 u6_3 u6_4 u6_5 u6_6 u6_7 u6_8 H locs ls h (lv_sub hl [0, 4, 5, 6, 7, 8, 9] rfl) hP hD hS kE
          refine L6 FU 0 v2_1 v2_2 v2_3 v2_4 v2_5 v2_6 v2_7 v2_8 u6_0 u6_1 u6_2 u6_3 u6_4 u6_5 u6_6 u6_7 u6_8 H locs ls g6 hl hP hD hS (fun H locs ls hl hP hD hS => ?_)
          obtain ⟨x20, e20⟩ : ∃ y : Int32, y = v2_0 + 1 := ⟨_, rfl⟩
          replace h := nmB_e e20 h
          refine lv_iinc (v := x20) (lv' := [(4, .int x20), (6, .int u6_0), (5, .int r5_0), (0, .ref v_q0), (1, .ref o_q0), (2, .int a1), (3, .int a2)]) hx hb dX0_walkThrough_132 hl (k := 2) rfl (by rw [e20]; rfl) (by decide) rfl (fun ls hl => ?_)
          refine lv_goto (tgt := 20) hx hb dX0_walkThrough_135 (by decide) ?_
          exact ih x20 u6_1 u6_2 u6_3 u6_4 u6_5 u6_6 u6_7 u6_8 u2_0 u2_1 u2_2 u2_3 u2_4 u2_5 u2_6 u2_7 u2_8 H locs ls h (lv_sub hl [0, 3, 4, 5, 6] rfl) hP hD hS kE
  refine L2 FU 0 r1_0 r1_1 r1_2 r1_3 r1_4 r1_5 r1_6 r1_7 u2_0 u2_1 u2_2 u2_3 u2_4 u2_5 u2_6 u2_7 u2_8 H locs ls g2 hl hP hD hS (fun H locs ls hl hP hD hS => ?_)
  obtain ⟨rfl, rfl, rfl, rfl, rfl, rfl, rfl, rfl⟩ := sm8 h
  exact hret _ _ _ _ trivial hP hD hS dX0_walkThrough_138
theorem fw_X0_examine_X0 : ∀ w ∈ wsX00, w ∈ wsX0_examine := fun w h => List.mem_cons_of_mem _ (List.mem_append_left _ (List.mem_append_left _ (List.mem_append_right _ h)))
theorem lk_X0_examine_f24 : Cond.fieldLink RX0 24 "HalftoneScreens$Dots" "number" "I" ∈ wsX0_examine := List.mem_of_getElem? (i := 1) rfl
theorem lk_X0_examine_f28 : Cond.fieldLink RX0 28 "HalftoneScreens$Dots" "mostJoined" "I" ∈ wsX0_examine := List.mem_of_getElem? (i := 2) rfl
theorem lk_X0_examine_f9 : Cond.fieldLink RX0 9 "HalftoneScreens$Dots" "reached" "[I" ∈ wsX0_examine := List.mem_of_getElem? (i := 3) rfl
theorem lk_X0_examine_iX4 : Cond.initialized RX4 ∈ wsX0_examine := List.mem_of_getElem? (i := 10) rfl
theorem lk_X0_examine_s_put : Cond.static yX4_put ∈ wsX0_examine := List.mem_of_getElem? (i := 9) rfl
theorem lk_X0_examine_s_at : Cond.static yX4_at ∈ wsX0_examine := List.mem_of_getElem? (i := 30) rfl
theorem lk_X0_examine_f53 : Cond.fieldLink RX0 53 "HalftoneScreens$Dots" "joinedTimes" "I" ∈ wsX0_examine := List.mem_of_getElem? (i := 4) rfl
theorem lk_X0_examine_m56 : Cond.methodLink RX0 56 Lib.Math.max.name ∈ wsX0_examine := List.mem_of_getElem? (i := 5) rfl
theorem lk_X0_examine_smax : Cond.static Lib.Math.max.name ∈ wsX0_examine := List.mem_of_getElem? (i := 6) rfl
theorem lk_X0_examine_iM : Cond.initialized "java/lang/Math" ∈ wsX0_examine := List.mem_of_getElem? (i := 7) rfl
theorem lk_X0_examine_cmax : Cond.code Lib.Math.max.name Lib.Math.max.code 2 (some .int) ∈ wsX0_examine := List.mem_of_getElem? (i := 8) rfl
theorem hsX0_walkThrough : yX0_walkThrough.cls ≠ "java/lang/invoke/MethodHandle" ∧ yX0_walkThrough.cls ≠ "java/lang/invoke/VarHandle" ∧ (parseMethodDescriptor yX0_walkThrough.desc).map (fun d => d.parameters.length) = some 3 := by decide +kernel
theorem hvX0_walkThrough : yX0_walkThrough.cls = RX0 ∧ yX0_walkThrough.cls ≠ "java/lang/invoke/MethodHandle" ∧ yX0_walkThrough.cls ≠ "java/lang/invoke/VarHandle" ∧ (parseMethodDescriptor yX0_walkThrough.desc).map (fun d => d.parameters.length) = some 3 := ⟨rfl, hsX0_walkThrough⟩
abbrev rmX0_examine : Room := { frames := 3, cells := 0, slots := 0, locals := 74 }
set_option maxHeartbeats 4000000 in
set_option maxRecDepth 100000 in
theorem ctX0_examine (l : Launch) (G : GG) (v_q0 : Nat) (v_q1 : Nat) (v_q2 : Nat) (v_q3 : Nat) (v_q4 : Nat) (o_q0 : Nat) (o_q1 : Nat) (o_q2 : Nat) (o_q3 : Nat) (o_q4 : Nat) (o_q5 : Nat) (o_q6 : Nat) (o_q7 : Nat) (v_waitingNumber : Int32) (v_number : Int32) (v_mostJoined : Int32) (v_joinedTimes : Int32) (v_joinedX : Int32) (v_joinedY : Int32) (v_reachedA : (Nat → Int32)) (v_walkedXA : (Nat → Int32)) (v_walkedYA : (Nat → Int32)) (v_waitingA : (Nat → Int32)) (o_present : Int32) (o_a : Int32) (o_b : Int32) (o_c : Int32) (o_d : Int32) (o_spot : Int32) (o_middle : Int32) (o_tint : Int32) (o_w : Int32) (o_s : Int32) (o_h : Int32) (o_valuesA : (Nat → Int32)) (o_otherValuesA : (Nat → Int32)) (o_ranksA : (Nat → Int32)) (o_oldRanksA : (Nat → Int32)) (o_orderA : (Nat → Int32)) (o_neighborsA : (Nat → Int32)) (a1 : Int32) (o0 : Int32) (o1 : Int32) (o2 : Int32) (o3 : Int32) (o4 : Int32) (o5 : Int32) (o6 : (Nat → Int32)) (o7 : (Nat → Int32)) (o8 : (Nat → Int32)) (o9 : (Nat → Int32)) (h : mX0_examine v_waitingNumber v_joinedTimes v_joinedX v_joinedY v_reachedA v_walkedXA v_walkedYA v_waitingA o_w o_h o_ranksA o_neighborsA a1 = some (o0, o1, o2, o3, o4, o5, o6, o7, o8, o9))  : Met l yX0_examine wsX0_examine rmX0_examine (va_Pc [.ref v_q0, .ref o_q0, .int a1] (PreD G (wdX0 G v_q0 v_q1 v_q2 v_q3 v_q4 v_waitingNumber v_number v_mostJoined v_joinedTimes v_joinedX v_joinedY v_reachedA v_walkedXA v_walkedYA v_waitingA ++ wdX3 G o_q0 o_q1 o_q2 o_q3 o_q4 o_q5 o_q6 o_q7 o_present o_a o_b o_c o_d o_spot o_middle o_tint o_w o_s o_h o_valuesA o_otherValuesA o_ranksA o_oldRanksA o_orderA o_neighborsA) (fun U => SK (va_A0 (wdX0 G v_q0 v_q1 v_q2 v_q3 v_q4 v_waitingNumber v_number v_mostJoined v_joinedTimes v_joinedX v_joinedY v_reachedA v_walkedXA v_walkedYA v_waitingA ++ wdX3 G o_q0 o_q1 o_q2 o_q3 o_q4 o_q5 o_q6 o_q7 o_present o_a o_b o_c o_d o_spot o_middle o_tint o_w o_s o_h o_valuesA o_otherValuesA o_ranksA o_oldRanksA o_orderA o_neighborsA)) U U.heap))) (QwA G (va_A0 (wdX0 G v_q0 v_q1 v_q2 v_q3 v_q4 v_waitingNumber v_number v_mostJoined v_joinedTimes v_joinedX v_joinedY v_reachedA v_walkedXA v_walkedYA v_waitingA ++ wdX3 G o_q0 o_q1 o_q2 o_q3 o_q4 o_q5 o_q6 o_q7 o_present o_a o_b o_c o_d o_spot o_middle o_tint o_w o_s o_h o_valuesA o_otherValuesA o_ranksA o_oldRanksA o_orderA o_neighborsA)) (wdX0 G v_q0 v_q1 v_q2 v_q3 v_q4 o0 o1 o2 o3 o4 o5 o6 o7 o8 o9 ++ wdX3 G o_q0 o_q1 o_q2 o_q3 o_q4 o_q5 o_q6 o_q7 o_present o_a o_b o_c o_d o_spot o_middle o_tint o_w o_s o_h o_valuesA o_otherValuesA o_ranksA o_oldRanksA o_orderA o_neighborsA) none True) 0 0 (va_A0 (wdX0 G v_q0 v_q1 v_q2 v_q3 v_q4 v_waitingNumber v_number v_mostJoined v_joinedTimes v_joinedX v_joinedY v_reachedA v_walkedXA v_walkedYA v_waitingA ++ wdX3 G o_q0 o_q1 o_q2 o_q3 o_q4 o_q5 o_q6 o_q7 o_present o_a o_b o_c o_d o_spot o_middle o_tint o_w o_s o_h o_valuesA o_otherValuesA o_ranksA o_oldRanksA o_orderA o_neighborsA)) := by
  refine of_wv (cc := cX0_examine) (maxL := 4) (plainFor_of_name (by decide)) rfl (Nat.le_of_ble_eq_true rfl) ?_
  intro p e s m args below meth c ls Q A S hl hP hD hS hK hX hA hret
  obtain ⟨H, hH⟩ : ∃ H, H = s.heap := ⟨_, rfl⟩
  obtain ⟨locs, hlocs⟩ : ∃ L : List Loc, L = [] := ⟨_, rfl⟩
  rw [← hlocs]
  rw [← hlocs] at hS
  have hP : va_P G.1 vwCl (wdX0 G v_q0 v_q1 v_q2 v_q3 v_q4 v_waitingNumber v_number v_mostJoined v_joinedTimes v_joinedX v_joinedY v_reachedA v_walkedXA v_walkedYA v_waitingA ++ wdX3 G o_q0 o_q1 o_q2 o_q3 o_q4 o_q5 o_q6 o_q7 o_present o_a o_b o_c o_d o_spot o_middle o_tint o_w o_s o_h o_valuesA o_otherValuesA o_ranksA o_oldRanksA o_orderA o_neighborsA) H := by rw [hH]; exact hP
  have hS : va_S A s.heap H locs := by rw [hH]; exact hS
  suffices hgo : W p l e rmX0_examine s m args below meth c H locs 0 0 Q (F0 m 0 ls []) by rw [hH] at hgo; exact hgo
  have S : CallFix p m c cX0_examine 4 s args wsX0_examine RX0 := S
  obtain ⟨hx, hb, hml, hown, hts⟩ := id S
  have hl : lv_has ls 4 [(0, .ref v_q0), (1, .ref o_q0), (2, .int a1)] := hl
  unfold mX0_examine at h
  refine lv_aload_n hx hb dX0_examine_0 rfl (lv_at hl 0 rfl) ?_
  refine lv_iconst (v := 0) hx hb dX0_examine_1 (by decide) ?_
  refine va_put (D := G.1) (ci := 0) (v := .int 0) (ty := .int) (C := RX0) (T := TX0) (N := 10) hx hb hts fw_X0_examine_X0 tyX0 tyX0_ok nmX0 hown hK.1 hP hD hS 0 rfl rfl 5 (by decide) (hts (.fieldLink RX0 24 "HalftoneScreens$Dots" "number" "I") lk_X0_examine_f24) (fun _ h9 => h9) rfl (tyX0_ok 5 (by decide)) rfl rfl (Nat.le_of_ble_eq_true rfl) dX0_examine_2 (fun H locs hP hD hS => ?_)
  have hP : va_P G.1 vwCl (wdX0 G v_q0 v_q1 v_q2 v_q3 v_q4 v_waitingNumber 0 v_mostJoined v_joinedTimes v_joinedX v_joinedY v_reachedA v_walkedXA v_walkedYA v_waitingA ++ wdX3 G o_q0 o_q1 o_q2 o_q3 o_q4 o_q5 o_q6 o_q7 o_present o_a o_b o_c o_d o_spot o_middle o_tint o_w o_s o_h o_valuesA o_otherValuesA o_ranksA o_oldRanksA o_orderA o_neighborsA) H := hP
  have hD : va_D A (wdX0 G v_q0 v_q1 v_q2 v_q3 v_q4 v_waitingNumber 0 v_mostJoined v_joinedTimes v_joinedX v_joinedY v_reachedA v_walkedXA v_walkedYA v_waitingA ++ wdX3 G o_q0 o_q1 o_q2 o_q3 o_q4 o_q5 o_q6 o_q7 o_present o_a o_b o_c o_d o_spot o_middle o_tint o_w o_s o_h o_valuesA o_otherValuesA o_ranksA o_oldRanksA o_orderA o_neighborsA) := hD
  refine lv_aload_n hx hb dX0_examine_5 rfl (lv_at hl 0 rfl) ?_
  refine lv_iconst (v := 0) hx hb dX0_examine_6 (by decide) ?_
  refine va_put (D := G.1) (ci := 0) (v := .int 0) (ty := .int) (C := RX0) (T := TX0) (N := 10) hx hb hts fw_X0_examine_X0 tyX0 tyX0_ok nmX0 hown hK.1 hP hD hS 0 rfl rfl 6 (by decide) (hts (.fieldLink RX0 28 "HalftoneScreens$Dots" "mostJoined" "I") lk_X0_examine_f28) (fun _ h9 => h9) rfl (tyX0_ok 6 (by decide)) rfl rfl (Nat.le_of_ble_eq_true rfl) dX0_examine_7 (fun H locs hP hD hS => ?_)
  have hP : va_P G.1 vwCl (wdX0 G v_q0 v_q1 v_q2 v_q3 v_q4 v_waitingNumber 0 0 v_joinedTimes v_joinedX v_joinedY v_reachedA v_walkedXA v_walkedYA v_waitingA ++ wdX3 G o_q0 o_q1 o_q2 o_q3 o_q4 o_q5 o_q6 o_q7 o_present o_a o_b o_c o_d o_spot o_middle o_tint o_w o_s o_h o_valuesA o_otherValuesA o_ranksA o_oldRanksA o_orderA o_neighborsA) H := hP
  have hD : va_D A (wdX0 G v_q0 v_q1 v_q2 v_q3 v_q4 v_waitingNumber 0 0 v_joinedTimes v_joinedX v_joinedY v_reachedA v_walkedXA v_walkedYA v_waitingA ++ wdX3 G o_q0 o_q1 o_q2 o_q3 o_q4 o_q5 o_q6 o_q7 o_present o_a o_b o_c o_d o_spot o_middle o_tint o_w o_s o_h o_valuesA o_otherValuesA o_ranksA o_oldRanksA o_orderA o_neighborsA) := hD
  refine lv_iconst (v := 0) hx hb dX0_examine_10 (by decide) ?_
  refine lv_istore_n (lv' := [(3, .int 0), (0, .ref v_q0), (1, .ref o_q0), (2, .int a1)]) hx hb dX0_examine_11 rfl hl (by decide) rfl (fun ls hl => ?_)
  obtain ⟨u1_0, u1_1, g1, h⟩ := bnd2_e h
  have L1 : ∀ (fu : Nat) (v1_0 : Int32) (v1_1 : (Nat → Int32)) (u1_0 : Int32) (u1_1 : (Nat → Int32)) (H : Heap) (locs : List Loc) (ls : Array Slot), mX0_examine_L12  fu v1_0 v1_1 = some (u1_0, u1_1) → lv_has ls 4 [(3, .int v1_0), (0, .ref v_q0), (1, .ref o_q0), (2, .int a1)] → va_P G.1 vwCl (wdX0 G v_q0 v_q1 v_q2 v_q3 v_q4 v_waitingNumber 0 0 v_joinedTimes v_joinedX v_joinedY v1_1 v_walkedXA v_walkedYA v_waitingA ++ wdX3 G o_q0 o_q1 o_q2 o_q3 o_q4 o_q5 o_q6 o_q7 o_present o_a o_b o_c o_d o_spot o_middle o_tint o_w o_s o_h o_valuesA o_otherValuesA o_ranksA o_oldRanksA o_orderA o_neighborsA) H → va_D A (wdX0 G v_q0 v_q1 v_q2 v_q3 v_q4 v_waitingNumber 0 0 v_joinedTimes v_joinedX v_joinedY v1_1 v_walkedXA v_walkedYA v_waitingA ++ wdX3 G o_q0 o_q1 o_q2 o_q3 o_q4 o_q5 o_q6 o_q7 o_present o_a o_b o_c o_d o_spot o_middle o_tint o_w o_s o_h o_valuesA o_otherValuesA o_ranksA o_oldRanksA o_orderA o_neighborsA) → va_S A s.heap H locs → (∀ (H : Heap) (locs : List Loc) (ls : Array Slot), lv_has ls 4 [(3, .int u1_0), (0, .ref v_q0), (1, .ref o_q0), (2, .int a1)] → va_P G.1 vwCl (wdX0 G v_q0 v_q1 v_q2 v_q3 v_q4 v_waitingNumber 0 0 v_joinedTimes v_joinedX v_joinedY u1_1 v_walkedXA v_walkedYA v_waitingA ++ wdX3 G o_q0 o_q1 o_q2 o_q3 o_q4 o_q5 o_q6 o_q7 o_present o_a o_b o_c o_d o_spot o_middle o_tint o_w o_s o_h o_valuesA o_otherValuesA o_ranksA o_oldRanksA o_orderA o_neighborsA) H → va_D A (wdX0 G v_q0 v_q1 v_q2 v_q3 v_q4 v_waitingNumber 0 0 v_joinedTimes v_joinedX v_joinedY u1_1 v_walkedXA v_walkedYA v_waitingA ++ wdX3 G o_q0 o_q1 o_q2 o_q3 o_q4 o_q5 o_q6 o_q7 o_present o_a o_b o_c o_d o_spot o_middle o_tint o_w o_s o_h o_valuesA o_otherValuesA o_ranksA o_oldRanksA o_orderA o_neighborsA) → va_S A s.heap H locs → W p l e rmX0_examine s m args below meth c H locs 0 0 Q (F0 m 33 ls [])) → W p l e rmX0_examine s m args below meth c H locs 0 0 Q (F0 m 12 ls []) := by
    intro fu
    induction fu with
    | zero => intro v1_0 v1_1 u1_0 u1_1 H locs ls h; exact nomatch h
    | succ fu ih =>
      intro v1_0 v1_1 u1_0 u1_1 H locs ls h hl hP hD hS kE
      rw [mX0_examine_L12] at h
      refine lv_iload_n hx hb dX0_examine_12 rfl (lv_at hl 0 rfl) ?_
      refine lv_bipush (v := 64) hx hb dX0_examine_13 (by decide) ?_
      refine lv_icmp_ge (tgt := 33) hx hb dX0_examine_15 (by decide) (fun c2 => ?_) (fun c2 => ?_)
      · replace h := ite_t c2 h
        obtain ⟨rfl, rfl⟩ := sm2 h
        exact kE H locs ls hl hP hD hS
      · replace h := ite_f c2 h
        refine lv_aload_n hx hb dX0_examine_18 rfl (lv_at hl 1 rfl) ?_
        refine va_get (D := G.1) (ci := 0) (v := .ref v_q1) (C := RX0) (T := TX0) (N := 10) hx hb hts fw_X0_examine_X0 hown hK.1 hP 0 rfl rfl 0 (by decide) (hts (.fieldLink RX0 9 "HalftoneScreens$Dots" "reached" "[I") lk_X0_examine_f9) (fun _ h9 => h9) rfl dX0_examine_19 ?_
        refine lv_iload_n hx hb dX0_examine_22 rfl (lv_at hl 0 rfl) ?_
        refine lv_iconst (v := 0) hx hb dX0_examine_23 (by decide) ?_
        obtain ⟨r3_0, g3, h⟩ := bnd1_e h
        refine rwN_back (rest := []) (As := [.ref v_q1, .int v1_0, .int 0]) (wr := [(v_q0, .inr (0, [.ref v_q1, .ref v_q2, .ref v_q3, .ref v_q4, .int v_waitingNumber, .int 0, .int 0, .int v_joinedTimes, .int v_joinedX, .int v_joinedY])), (v_q2, .inl (G.2 0, 64, .inl v_walkedXA)), (v_q3, .inl (G.2 0, 64, .inl v_walkedYA)), (v_q4, .inl (G.2 0, 64, .inl v_waitingA)), (o_q0, .inr (3, [.ref o_q1, .ref o_q2, .ref o_q3, .ref o_q4, .ref o_q5, .ref o_q6, .ref o_q7, .int o_present, .int o_a, .int o_b, .int o_c, .int o_d, .int o_spot, .int o_middle, .int o_tint])), (o_q1, .inr (2, [.int o_w, .int o_s, .int o_h])), (o_q2, .inl (G.2 0, 64, .inl o_valuesA)), (o_q3, .inl (G.2 0, 64, .inl o_otherValuesA)), (o_q4, .inl (G.2 0, 64, .inl o_ranksA)), (o_q5, .inl (G.2 0, 64, .inl o_oldRanksA)), (o_q6, .inl (G.2 0, 64, .inl o_orderA)), (o_q7, .inl (G.2 0, 256, .inl o_neighborsA))]) (wf := wdX0 G v_q0 v_q1 v_q2 v_q3 v_q4 v_waitingNumber 0 0 v_joinedTimes v_joinedX v_joinedY r3_0 v_walkedXA v_walkedYA v_waitingA ++ wdX3 G o_q0 o_q1 o_q2 o_q3 o_q4 o_q5 o_q6 o_q7 o_present o_a o_b o_c o_d o_spot o_middle o_tint o_w o_s o_h o_valuesA o_otherValuesA o_ranksA o_oldRanksA o_orderA o_neighborsA) S (ctX4_put l G v_q1 64 v1_1 v1_0 0 r3_0 g3) ⟨va_cnB 3 hts gX0_examine_X4_put_n31 rfl rfl rfl (hK.2.1 _ (List.mem_of_getElem? (i := 0) rfl)) (hts (.initialized RX4) lk_X0_examine_iX4) hsX4_put ⟨Nat.le_of_ble_eq_true rfl, Nat.le_of_ble_eq_true rfl⟩, (hts (.static yX4_put) lk_X0_examine_s_put), trivial⟩ hK hP hD hS xb_triv (fun _ _ _ => trivial) [1] [0, 2, 3, 4, 5, 6, 7, 8, 9, 10, 11, 12] [0, 12, 1, 2, 3, 4, 5, 6, 7, 8, 9, 10, 11] rfl rfl rfl rfl rfl rfl rfl rfl hl.1 rfl (Nat.le_of_ble_eq_true rfl) dX0_examine_24 ⟨Nat.le_refl _, Nat.le_refl _⟩ (fun _ H locs hP hD hS => ?_)
        have hP : va_P G.1 vwCl (wdX0 G v_q0 v_q1 v_q2 v_q3 v_q4 v_waitingNumber 0 0 v_joinedTimes v_joinedX v_joinedY r3_0 v_walkedXA v_walkedYA v_waitingA ++ wdX3 G o_q0 o_q1 o_q2 o_q3 o_q4 o_q5 o_q6 o_q7 o_present o_a o_b o_c o_d o_spot o_middle o_tint o_w o_s o_h o_valuesA o_otherValuesA o_ranksA o_oldRanksA o_orderA o_neighborsA) H := hP
        have hD : va_D A (wdX0 G v_q0 v_q1 v_q2 v_q3 v_q4 v_waitingNumber 0 0 v_joinedTimes v_joinedX v_joinedY r3_0 v_walkedXA v_walkedYA v_waitingA ++ wdX3 G o_q0 o_q1 o_q2 o_q3 o_q4 o_q5 o_q6 o_q7 o_present o_a o_b o_c o_d o_spot o_middle o_tint o_w o_s o_h o_valuesA o_otherValuesA o_ranksA o_oldRanksA o_orderA o_neighborsA) := hD
        obtain ⟨x4, e4⟩ : ∃ y : Int32, y = v1_0 + 1 := ⟨_, rfl⟩
        replace h := nmB_e e4 h
        refine lv_iinc (v := x4) (lv' := [(3, .int x4), (0, .ref v_q0), (1, .ref o_q0), (2, .int a1)]) hx hb dX0_examine_27 hl (k := 0) rfl (by rw [e4]; rfl) (by decide) rfl (fun ls hl => ?_)
        refine lv_goto (tgt := 12) hx hb dX0_examine_30 (by decide) ?_
        exact ih x4 r3_0 u1_0 u1_1 H locs ls h hl hP hD hS kE
  refine L1 FU 0 v_reachedA u1_0 u1_1 H locs ls g1 hl hP hD hS (fun H locs ls hl hP hD hS => ?_)
  refine lv_iconst (v := 0) hx hb dX0_examine_33 (by decide) ?_
  refine lv_istore_n (lv' := [(3, .int 0), (0, .ref v_q0), (1, .ref o_q0), (2, .int a1)]) hx hb dX0_examine_34 rfl hl (by decide) rfl (fun ls hl => ?_)
  obtain ⟨u5_0, u5_1, u5_2, u5_3, u5_4, u5_5, u5_6, u5_7, u5_8, u5_9, u5_10, g5, h⟩ := bnd11_e h
  have L5 : ∀ (fu : Nat) (v5_0 : Int32) (v5_1 : Int32) (v5_2 : Int32) (v5_3 : Int32) (v5_4 : Int32) (v5_5 : Int32) (v5_6 : Int32) (v5_7 : (Nat → Int32)) (v5_8 : (Nat → Int32)) (v5_9 : (Nat → Int32)) (v5_10 : (Nat → Int32)) (u5_0 : Int32) (u5_1 : Int32) (u5_2 : Int32) (u5_3 : Int32) (u5_4 : Int32) (u5_5 : Int32) (u5_6 : Int32) (u5_7 : (Nat → Int32)) (u5_8 : (Nat → Int32)) (u5_9 : (Nat → Int32)) (u5_10 : (Nat → Int32)) (H : Heap) (locs : List Loc) (ls : Array Slot), mX0_examine_L35 o_w o_h o_ranksA o_neighborsA a1 fu v5_0 v5_1 v5_2 v5_3 v5_4 v5_5 v5_6 v5_7 v5_8 v5_9 v5_10 = some (u5_0, u5_1, u5_2, u5_3, u5_4, u5_5, u5_6, u5_7, u5_8, u5_9, u5_10) → lv_has ls 4 [(3, .int v5_0), (0, .ref v_q0), (1, .ref o_q0), (2, .int a1)] → va_P G.1 vwCl (wdX0 G v_q0 v_q1 v_q2 v_q3 v_q4 v5_1 v5_2 v5_3 v5_4 v5_5 v5_6 v5_7 v5_8 v5_9 v5_10 ++ wdX3 G o_q0 o_q1 o_q2 o_q3 o_q4 o_q5 o_q6 o_q7 o_present o_a o_b o_c o_d o_spot o_middle o_tint o_w o_s o_h o_valuesA o_otherValuesA o_ranksA o_oldRanksA o_orderA o_neighborsA) H → va_D A (wdX0 G v_q0 v_q1 v_q2 v_q3 v_q4 v5_1 v5_2 v5_3 v5_4 v5_5 v5_6 v5_7 v5_8 v5_9 v5_10 ++ wdX3 G o_q0 o_q1 o_q2 o_q3 o_q4 o_q5 o_q6 o_q7 o_present o_a o_b o_c o_d o_spot o_middle o_tint o_w o_s o_h o_valuesA o_otherValuesA o_ranksA o_oldRanksA o_orderA o_neighborsA) → va_S A s.heap H locs → (∀ (H : Heap) (locs : List Loc) (ls : Array Slot), lv_has ls 4 [(3, .int u5_0), (0, .ref v_q0), (1, .ref o_q0), (2, .int a1)] → va_P G.1 vwCl (wdX0 G v_q0 v_q1 v_q2 v_q3 v_q4 u5_1 u5_2 u5_3 u5_4 u5_5 u5_6 u5_7 u5_8 u5_9 u5_10 ++ wdX3 G o_q0 o_q1 o_q2 o_q3 o_q4 o_q5 o_q6 o_q7 o_present o_a o_b o_c o_d o_spot o_middle o_tint o_w o_s o_h o_valuesA o_otherValuesA o_ranksA o_oldRanksA o_orderA o_neighborsA) H → va_D A (wdX0 G v_q0 v_q1 v_q2 v_q3 v_q4 u5_1 u5_2 u5_3 u5_4 u5_5 u5_6 u5_7 u5_8 u5_9 u5_10 ++ wdX3 G o_q0 o_q1 o_q2 o_q3 o_q4 o_q5 o_q6 o_q7 o_present o_a o_b o_c o_d o_spot o_middle o_tint o_w o_s o_h o_valuesA o_otherValuesA o_ranksA o_oldRanksA o_orderA o_neighborsA) → va_S A s.heap H locs → W p l e rmX0_examine s m args below meth c H locs 0 0 Q (F0 m 101 ls [])) → W p l e rmX0_examine s m args below meth c H locs 0 0 Q (F0 m 35 ls []) := by
    intro fu
    induction fu with
    | zero => intro v5_0 v5_1 v5_2 v5_3 v5_4 v5_5 v5_6 v5_7 v5_8 v5_9 v5_10 u5_0 u5_1 u5_2 u5_3 u5_4 u5_5 u5_6 u5_7 u5_8 u5_9 u5_10 H locs ls h; exact nomatch h
    | succ fu ih =>
      intro v5_0 v5_1 v5_2 v5_3 v5_4 v5_5 v5_6 v5_7 v5_8 v5_9 v5_10 u5_0 u5_1 u5_2 u5_3 u5_4 u5_5 u5_6 u5_7 u5_8 u5_9 u5_10 H locs ls h hl hP hD hS kE
      rw [mX0_examine_L35] at h
      refine lv_iload_n hx hb dX0_examine_35 rfl (lv_at hl 0 rfl) ?_
      refine lv_aload_n hx hb dX0_examine_36 rfl (lv_at hl 2 rfl) ?_
      obtain ⟨r6_0, g6, h⟩ := bnd1_e h
      refine roVi1 (rest := [.int v5_0]) (As := []) S (ctX3_area l G o_q0 o_q1 o_q2 o_q3 o_q4 o_q5 o_q6 o_q7 o_present o_a o_b o_c o_d o_spot o_middle o_tint o_w o_s o_h o_valuesA o_otherValuesA o_ranksA o_oldRanksA o_orderA o_neighborsA r6_0 g6) (cwV 0 hts gX0_examine_X3_area rfl rfl rfl hvX3_area ⟨Nat.le_of_ble_eq_true rfl, Nat.le_of_ble_eq_true rfl⟩) hK hP [5, 6, 7, 8, 9, 10, 11, 12] rfl 5 3 rfl rfl rfl rfl hl.1 rfl (Nat.le_of_ble_eq_true rfl) dX0_examine_37 ⟨Nat.le_refl _, Nat.le_refl _⟩ (fun _ => ?_)
      refine lv_icmp_ge (tgt := 101) hx hb dX0_examine_40 (by decide) (fun c7 => ?_) (fun c7 => ?_)
      · replace h := ite_t c7 h
        obtain ⟨rfl, rfl, rfl, rfl, rfl, rfl, rfl, rfl, rfl, rfl, rfl⟩ := sm11 h
        exact kE H locs ls hl hP hD hS
      · replace h := ite_f c7 h
        refine lv_aload_n hx hb dX0_examine_43 rfl (lv_at hl 2 rfl) ?_
        refine lv_iload_n hx hb dX0_examine_44 rfl (lv_at hl 0 rfl) ?_
        refine lv_iload_n hx hb dX0_examine_45 rfl (lv_at hl 3 rfl) ?_
        obtain ⟨r8_0, g8, h⟩ := bnd1_e h
        refine roVi1 (rest := []) (As := [.int v5_0, .int a1]) S (ctX3_inksPlace l G o_q0 o_q1 o_q2 o_q3 o_q4 o_q5 o_q6 o_q7 o_present o_a o_b o_c o_d o_spot o_middle o_tint o_w o_s o_h o_valuesA o_otherValuesA o_ranksA o_oldRanksA o_orderA o_neighborsA v5_0 a1 r8_0 g8) (cwV 2 hts gX0_examine_X3_inksPlace rfl rfl rfl hvX3_inksPlace ⟨Nat.le_of_ble_eq_true rfl, Nat.le_of_ble_eq_true rfl⟩) hK hP [5, 6, 7, 8, 9, 10, 11, 12] rfl 5 3 rfl rfl rfl rfl hl.1 rfl (Nat.le_of_ble_eq_true rfl) dX0_examine_46 ⟨Nat.le_refl _, Nat.le_refl _⟩ (fun hz8 => ?_)
        refine lv_if_eq (tgt := 95) hx hb dX0_examine_49 (by decide) (fun c9 => ?_) (fun c9 => ?_)
        · replace h := ite_t c9 h
          obtain ⟨x10, e10⟩ : ∃ y : Int32, y = v5_0 + 1 := ⟨_, rfl⟩
          replace h := nmB_e e10 h
          refine lv_iinc (v := x10) (lv' := [(3, .int x10), (0, .ref v_q0), (1, .ref o_q0), (2, .int a1)]) hx hb dX0_examine_95 hl (k := 0) rfl (by rw [e10]; rfl) (by decide) rfl (fun ls hl => ?_)
          refine lv_goto (tgt := 35) hx hb dX0_examine_98 (by decide) ?_
          exact ih x10 v5_1 v5_2 v5_3 v5_4 v5_5 v5_6 v5_7 v5_8 v5_9 v5_10 u5_0 u5_1 u5_2 u5_3 u5_4 u5_5 u5_6 u5_7 u5_8 u5_9 u5_10 H locs ls h hl hP hD hS kE
        · replace h := ite_f c9 h
          refine lv_aload_n hx hb dX0_examine_52 rfl (lv_at hl 1 rfl) ?_
          refine va_get (D := G.1) (ci := 0) (v := .ref v_q1) (C := RX0) (T := TX0) (N := 10) hx hb hts fw_X0_examine_X0 hown hK.1 hP 0 rfl rfl 0 (by decide) (hts (.fieldLink RX0 9 "HalftoneScreens$Dots" "reached" "[I") lk_X0_examine_f9) (fun _ h9 => h9) rfl dX0_examine_53 ?_
          refine lv_iload_n hx hb dX0_examine_56 rfl (lv_at hl 0 rfl) ?_
          obtain ⟨r11_0, g11, h⟩ := bnd1_e h
          refine roNi1 (rest := []) (As := [.ref v_q1, .int v5_0]) S (ctX4_at l G v_q1 64 v5_7 v5_0 r11_0 g11) ⟨va_cnB 2 hts gX0_examine_X4_at_n45 rfl rfl rfl (hK.2.1 _ (List.mem_of_getElem? (i := 1) rfl)) (hts (.initialized RX4) lk_X0_examine_iX4) hsX4_at ⟨Nat.le_of_ble_eq_true rfl, Nat.le_of_ble_eq_true rfl⟩, (hts (.static yX4_at) lk_X0_examine_s_at), trivial⟩ hK hP [1] rfl rfl hl.1 rfl (Nat.le_of_ble_eq_true rfl) dX0_examine_57 ⟨Nat.le_refl _, Nat.le_refl _⟩ (fun _ => ?_)
          refine lv_if_ne (tgt := 95) hx hb dX0_examine_60 (by decide) (fun c12 => ?_) (fun c12 => ?_)
          · replace h := ite_f c12 h
            obtain ⟨x13, e13⟩ : ∃ y : Int32, y = v5_0 + 1 := ⟨_, rfl⟩
            replace h := nmB_e e13 h
            refine lv_iinc (v := x13) (lv' := [(3, .int x13), (0, .ref v_q0), (1, .ref o_q0), (2, .int a1)]) hx hb dX0_examine_95 hl (k := 0) rfl (by rw [e13]; rfl) (by decide) rfl (fun ls hl => ?_)
            refine lv_goto (tgt := 35) hx hb dX0_examine_98 (by decide) ?_
            exact ih x13 v5_1 v5_2 v5_3 v5_4 v5_5 v5_6 v5_7 v5_8 v5_9 v5_10 u5_0 u5_1 u5_2 u5_3 u5_4 u5_5 u5_6 u5_7 u5_8 u5_9 u5_10 H locs ls h hl hP hD hS kE
          · replace h := ite_t c12 h
            refine lv_aload_n hx hb dX0_examine_63 rfl (lv_at hl 1 rfl) ?_
            refine lv_dup hx hb dX0_examine_64 rfl ?_
            refine va_get (D := G.1) (ci := 0) (v := .int v5_2) (C := RX0) (T := TX0) (N := 10) hx hb hts fw_X0_examine_X0 hown hK.1 hP 0 rfl rfl 5 (by decide) (hts (.fieldLink RX0 24 "HalftoneScreens$Dots" "number" "I") lk_X0_examine_f24) (fun _ h9 => h9) rfl dX0_examine_65 ?_
            refine lv_iconst (v := 1) hx hb dX0_examine_68 (by decide) ?_
            refine lv_iadd hx hb dX0_examine_69 ?_
            refine lv_topi (fun x14 e14 => ?_)
            replace h := nmB_e e14 h
            refine va_put (D := G.1) (ci := 0) (v := .int x14) (ty := .int) (C := RX0) (T := TX0) (N := 10) hx hb hts fw_X0_examine_X0 tyX0 tyX0_ok nmX0 hown hK.1 hP hD hS 0 rfl rfl 5 (by decide) (hts (.fieldLink RX0 24 "HalftoneScreens$Dots" "number" "I") lk_X0_examine_f24) (fun _ h9 => h9) rfl (tyX0_ok 5 (by decide)) rfl rfl (Nat.le_of_ble_eq_true rfl) dX0_examine_70 (fun H locs hP hD hS => ?_)
            have hP : va_P G.1 vwCl (wdX0 G v_q0 v_q1 v_q2 v_q3 v_q4 v5_1 x14 v5_3 v5_4 v5_5 v5_6 v5_7 v5_8 v5_9 v5_10 ++ wdX3 G o_q0 o_q1 o_q2 o_q3 o_q4 o_q5 o_q6 o_q7 o_present o_a o_b o_c o_d o_spot o_middle o_tint o_w o_s o_h o_valuesA o_otherValuesA o_ranksA o_oldRanksA o_orderA o_neighborsA) H := hP
            have hD : va_D A (wdX0 G v_q0 v_q1 v_q2 v_q3 v_q4 v5_1 x14 v5_3 v5_4 v5_5 v5_6 v5_7 v5_8 v5_9 v5_10 ++ wdX3 G o_q0 o_q1 o_q2 o_q3 o_q4 o_q5 o_q6 o_q7 o_present o_a o_b o_c o_d o_spot o_middle o_tint o_w o_s o_h o_valuesA o_otherValuesA o_ranksA o_oldRanksA o_orderA o_neighborsA) := hD
            refine lv_aload_n hx hb dX0_examine_73 rfl (lv_at hl 1 rfl) ?_
            refine lv_aload_n hx hb dX0_examine_74 rfl (lv_at hl 2 rfl) ?_
            refine lv_iload_n hx hb dX0_examine_75 rfl (lv_at hl 3 rfl) ?_
            refine lv_iload_n hx hb dX0_examine_76 rfl (lv_at hl 0 rfl) ?_
            obtain ⟨r15_0, r15_1, r15_2, r15_3, r15_4, r15_5, r15_6, r15_7, g15, h⟩ := bnd8_e h
            refine rwV_same (rest := []) (As := [.ref o_q0, .int a1, .int v5_0]) S (ctX0_walkThrough l G v_q0 v_q1 v_q2 v_q3 v_q4 o_q0 o_q1 o_q2 o_q3 o_q4 o_q5 o_q6 o_q7 v5_1 x14 v5_3 v5_4 v5_5 v5_6 v5_7 v5_8 v5_9 v5_10 o_present o_a o_b o_c o_d o_spot o_middle o_tint o_w o_s o_h o_valuesA o_otherValuesA o_ranksA o_oldRanksA o_orderA o_neighborsA a1 v5_0 r15_0 r15_1 r15_2 r15_3 r15_4 r15_5 r15_6 r15_7 g15) (cwV 3 hts gX0_examine_X0_walkThrough rfl rfl rfl hvX0_walkThrough ⟨Nat.le_of_ble_eq_true rfl, Nat.le_of_ble_eq_true rfl⟩) hK hP hD hS (SK.blind _) (fun U hU hW => SK.call0 hX hA hD hS hU hW) 0 0 rfl rfl rfl rfl hl.1 rfl (Nat.le_of_ble_eq_true rfl) dX0_examine_77 ⟨Nat.le_refl _, Nat.le_refl _⟩ (fun _ H locs hP hD hS => ?_)
            have hP : va_P G.1 vwCl (wdX0 G v_q0 v_q1 v_q2 v_q3 v_q4 r15_0 x14 v5_3 r15_1 r15_2 r15_3 r15_4 r15_5 r15_6 r15_7 ++ wdX3 G o_q0 o_q1 o_q2 o_q3 o_q4 o_q5 o_q6 o_q7 o_present o_a o_b o_c o_d o_spot o_middle o_tint o_w o_s o_h o_valuesA o_otherValuesA o_ranksA o_oldRanksA o_orderA o_neighborsA) H := hP
            have hD : va_D A (wdX0 G v_q0 v_q1 v_q2 v_q3 v_q4 r15_0 x14 v5_3 r15_1 r15_2 r15_3 r15_4 r15_5 r15_6 r15_7 ++ wdX3 G o_q0 o_q1 o_q2 o_q3 o_q4 o_q5 o_q6 o_q7 o_present o_a o_b o_c o_d o_spot o_middle o_tint o_w o_s o_h o_valuesA o_otherValuesA o_ranksA o_oldRanksA o_orderA o_neighborsA) := hD
            refine lv_aload_n hx hb dX0_examine_80 rfl (lv_at hl 1 rfl) ?_
            refine lv_aload_n hx hb dX0_examine_81 rfl (lv_at hl 1 rfl) ?_
            refine va_get (D := G.1) (ci := 0) (v := .int v5_3) (C := RX0) (T := TX0) (N := 10) hx hb hts fw_X0_examine_X0 hown hK.1 hP 0 rfl rfl 6 (by decide) (hts (.fieldLink RX0 28 "HalftoneScreens$Dots" "mostJoined" "I") lk_X0_examine_f28) (fun _ h9 => h9) rfl dX0_examine_82 ?_
            refine lv_aload_n hx hb dX0_examine_85 rfl (lv_at hl 1 rfl) ?_
            refine va_get (D := G.1) (ci := 0) (v := .int r15_1) (C := RX0) (T := TX0) (N := 10) hx hb hts fw_X0_examine_X0 hown hK.1 hP 0 rfl rfl 7 (by decide) (hts (.fieldLink RX0 53 "HalftoneScreens$Dots" "joinedTimes" "I") lk_X0_examine_f53) (fun _ h9 => h9) rfl dX0_examine_86 ?_
            refine va_mmax hx hb (hml.trans hl.1.symm) hown (hts (.methodLink RX0 56 Lib.Math.max.name) lk_X0_examine_m56) (hts (.static Lib.Math.max.name) lk_X0_examine_smax) (hts (.initialized "java/lang/Math") lk_X0_examine_iM) (hts (.code Lib.Math.max.name Lib.Math.max.code 2 (some .int)) lk_X0_examine_cmax) (Nat.le_of_ble_eq_true rfl) (Nat.le_of_ble_eq_true rfl) (Nat.le_refl _) (Nat.le_refl _) dX0_examine_89 ?_
            refine lv_topi (fun x16 e16 => ?_)
            replace h := nmB_e e16 h
            refine va_put (D := G.1) (ci := 0) (v := .int x16) (ty := .int) (C := RX0) (T := TX0) (N := 10) hx hb hts fw_X0_examine_X0 tyX0 tyX0_ok nmX0 hown hK.1 hP hD hS 0 rfl rfl 6 (by decide) (hts (.fieldLink RX0 28 "HalftoneScreens$Dots" "mostJoined" "I") lk_X0_examine_f28) (fun _ h9 => h9) rfl (tyX0_ok 6 (by decide)) rfl rfl (Nat.le_of_ble_eq_true rfl) dX0_examine_92 (fun H locs hP hD hS => ?_)
            have hP : va_P G.1 vwCl (wdX0 G v_q0 v_q1 v_q2 v_q3 v_q4 r15_0 x14 x16 r15_1 r15_2 r15_3 r15_4 r15_5 r15_6 r15_7 ++ wdX3 G o_q0 o_q1 o_q2 o_q3 o_q4 o_q5 o_q6 o_q7 o_present o_a o_b o_c o_d o_spot o_middle o_tint o_w o_s o_h o_valuesA o_otherValuesA o_ranksA o_oldRanksA o_orderA o_neighborsA) H := hP
            have hD : va_D A (wdX0 G v_q0 v_q1 v_q2 v_q3 v_q4 r15_0 x14 x16 r15_1 r15_2 r15_3 r15_4 r15_5 r15_6 r15_7 ++ wdX3 G o_q0 o_q1 o_q2 o_q3 o_q4 o_q5 o_q6 o_q7 o_present o_a o_b o_c o_d o_spot o_middle o_tint o_w o_s o_h o_valuesA o_otherValuesA o_ranksA o_oldRanksA o_orderA o_neighborsA) := hD
            obtain ⟨x17, e17⟩ : ∃ y : Int32, y = v5_0 + 1 := ⟨_, rfl⟩
            replace h := nmB_e e17 h
            refine lv_iinc (v := x17) (lv' := [(3, .int x17), (0, .ref v_q0), (1, .ref o_q0), (2, .int a1)]) hx hb dX0_examine_95 hl (k := 0) rfl (by rw [e17]; rfl) (by decide) rfl (fun ls hl => ?_)
            refine lv_goto (tgt := 35) hx hb dX0_examine_98 (by decide) ?_
            exact ih x17 r15_0 x14 x16 r15_1 r15_2 r15_3 r15_4 r15_5 r15_6 r15_7 u5_0 u5_1 u5_2 u5_3 u5_4 u5_5 u5_6 u5_7 u5_8 u5_9 u5_10 H locs ls h hl hP hD hS kE
  refine L5 FU 0 v_waitingNumber 0 0 v_joinedTimes v_joinedX v_joinedY u1_1 v_walkedXA v_walkedYA v_waitingA u5_0 u5_1 u5_2 u5_3 u5_4 u5_5 u5_6 u5_7 u5_8 u5_9 u5_10 H locs ls g5 hl hP hD hS (fun H locs ls hl hP hD hS => ?_)
  obtain ⟨rfl, rfl, rfl, rfl, rfl, rfl, rfl, rfl, rfl, rfl⟩ := sm10 h
  exact hret _ _ _ _ trivial hP hD hS dX0_examine_101
