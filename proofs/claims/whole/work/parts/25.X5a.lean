-- contracts of the methods (laid by program from the listing)
abbrev rmX5_within : Room := { frames := 0, cells := 0, slots := 0, locals := 0 }
set_option maxHeartbeats 4000000 in
set_option maxRecDepth 100000 in
theorem ctX5_within (l : Launch) (G : GG) (a0 : Int32) (a1 : Int32) (a2 : Int32) (o0 : Int32) (h : mX5_within a0 a1 a2 = some (o0))  : Met l yX5_within wsX5_within rmX5_within (va_Pc [.int a0, .int a1, .int a2] (PreW G (([] : va_W)))) (vp_Si (fun r => r = o0 ∧ isZ o0)) 0 0 (fun _ => False) := by
  refine of_ri (cc := cX5_within) (maxL := 3) (ty := .boolean) (plainFor_of_name (by decide)) rfl (Nat.le_of_ble_eq_true rfl) ?_
  intro p e s m args below meth c ls Q S hl hP hK hret
  have S : CallFix p m c cX5_within 3 s args wsX5_within RX5 := S
  obtain ⟨hx, hb, hml, hown, hts⟩ := id S
  have hl : lv_has ls 3 [(0, .int a0), (1, .int a1), (2, .int a2)] := hl
  unfold mX5_within at h
  refine lv_iload_n hx hb dX5_within_0 rfl (lv_at hl 0 rfl) ?_
  refine lv_iload_n hx hb dX5_within_1 rfl (lv_at hl 1 rfl) ?_
  refine lv_icmp_lt (tgt := 14) hx hb dX5_within_2 (by decide) (fun c1 => ?_) (fun c1 => ?_)
  · replace h := ite_t c1 h
    refine lv_iconst (v := 0) hx hb dX5_within_14 (by decide) ?_
    exact hret _ _ _ ⟨smi h, isZ.to isZ0 (smi h)⟩ (isZ.nar isZ0) dX5_within_15
  · replace h := ite_f c1 h
    refine lv_iload_n hx hb dX5_within_5 rfl (lv_at hl 0 rfl) ?_
    refine lv_iload_n hx hb dX5_within_6 rfl (lv_at hl 2 rfl) ?_
    refine lv_icmp_gt (tgt := 14) hx hb dX5_within_7 (by decide) (fun c2 => ?_) (fun c2 => ?_)
    · replace h := ite_t c2 h
      refine lv_iconst (v := 0) hx hb dX5_within_14 (by decide) ?_
      exact hret _ _ _ ⟨smi h, isZ.to isZ0 (smi h)⟩ (isZ.nar isZ0) dX5_within_15
    · replace h := ite_f c2 h
      refine lv_iconst (v := 1) hx hb dX5_within_10 (by decide) ?_
      refine lv_goto (tgt := 15) hx hb dX5_within_11 (by decide) ?_
      exact hret _ _ _ ⟨smi h, isZ.to isZ1 (smi h)⟩ (isZ.nar isZ1) dX5_within_15
abbrev rmX5_abs : Room := { frames := 0, cells := 0, slots := 0, locals := 0 }
set_option maxHeartbeats 4000000 in
set_option maxRecDepth 100000 in
theorem ctX5_abs (l : Launch) (G : GG) (a0 : Int32) (o0 : Int32) (h : mX5_abs a0 = some (o0))  : Met l yX5_abs wsX5_abs rmX5_abs (va_Pc [.int a0] (PreW G (([] : va_W)))) (vp_Si (fun r => r = o0 ∧ True)) 0 0 (fun _ => False) := by
  refine of_ri (cc := cX5_abs) (maxL := 1) (ty := .int) (plainFor_of_name (by decide)) rfl (Nat.le_of_ble_eq_true rfl) ?_
  intro p e s m args below meth c ls Q S hl hP hK hret
  have S : CallFix p m c cX5_abs 1 s args wsX5_abs RX5 := S
  obtain ⟨hx, hb, hml, hown, hts⟩ := id S
  have hl : lv_has ls 1 [(0, .int a0)] := hl
  unfold mX5_abs at h
  refine lv_iload_n hx hb dX5_abs_0 rfl (lv_at hl 0 rfl) ?_
  refine lv_if_ge (tgt := 9) hx hb dX5_abs_1 (by decide) (fun c1 => ?_) (fun c1 => ?_)
  · replace h := ite_t c1 h
    refine lv_iload_n hx hb dX5_abs_9 rfl (lv_at hl 0 rfl) ?_
    exact hret _ _ _ ⟨smi h, trivial⟩ rfl dX5_abs_10
  · replace h := ite_f c1 h
    refine lv_iload_n hx hb dX5_abs_4 rfl (lv_at hl 0 rfl) ?_
    refine lv_ineg hx hb dX5_abs_5 ?_
    refine lv_goto (tgt := 10) hx hb dX5_abs_6 (by decide) ?_
    exact hret _ _ _ ⟨smi h, trivial⟩ rfl dX5_abs_10
theorem hsX5_abs : yX5_abs.cls ≠ "java/lang/invoke/MethodHandle" ∧ yX5_abs.cls ≠ "java/lang/invoke/VarHandle" ∧ (parseMethodDescriptor yX5_abs.desc).map (fun d => d.parameters.length) = some 1 := by decide +kernel
theorem hvX5_abs : yX5_abs.cls = RX5 ∧ yX5_abs.cls ≠ "java/lang/invoke/MethodHandle" ∧ yX5_abs.cls ≠ "java/lang/invoke/VarHandle" ∧ (parseMethodDescriptor yX5_abs.desc).map (fun d => d.parameters.length) = some 1 := ⟨rfl, hsX5_abs⟩
abbrev rmX5_gcd : Room := { frames := 1, cells := 0, slots := 0, locals := 20 }
set_option maxHeartbeats 4000000 in
set_option maxRecDepth 100000 in
theorem ctX5_gcd (l : Launch) (G : GG) (a0 : Int32) (a1 : Int32) (o0 : Int32) (h : mX5_gcd a0 a1 = some (o0))  : Met l yX5_gcd wsX5_gcd rmX5_gcd (va_Pc [.int a0, .int a1] (PreW G (([] : va_W)))) (vp_Si (fun r => r = o0 ∧ True)) 0 0 (fun _ => False) := by
  refine of_ri (cc := cX5_gcd) (maxL := 5) (ty := .int) (plainFor_of_name (by decide)) rfl (Nat.le_of_ble_eq_true rfl) ?_
  intro p e s m args below meth c ls Q S hl hP hK hret
  have S : CallFix p m c cX5_gcd 5 s args wsX5_gcd RX5 := S
  obtain ⟨hx, hb, hml, hown, hts⟩ := id S
  have hl : lv_has ls 5 [(0, .int a0), (1, .int a1)] := hl
  unfold mX5_gcd at h
  refine lv_iload_n hx hb dX5_gcd_0 rfl (lv_at hl 0 rfl) ?_
  obtain ⟨r1_0, g1, h⟩ := bnd1_e h
  refine roSi1 (rest := []) (As := [.int a0]) S (ctX5_abs l G a0 r1_0 g1) (va_cwS 1 hts gX5_gcd_X5_abs rfl rfl rfl hsX5_abs ⟨Nat.le_of_ble_eq_true rfl, Nat.le_of_ble_eq_true rfl⟩) hK hP [] rfl rfl hl.1 rfl (Nat.le_of_ble_eq_true rfl) dX5_gcd_1 ⟨Nat.le_refl _, Nat.le_refl _⟩ (fun _ => ?_)
  refine lv_istore_n (lv' := [(2, .int r1_0), (0, .int a0), (1, .int a1)]) hx hb dX5_gcd_4 rfl hl (by decide) rfl (fun ls hl => ?_)
  refine lv_iload_n hx hb dX5_gcd_5 rfl (lv_at hl 2 rfl) ?_
  obtain ⟨r2_0, g2, h⟩ := bnd1_e h
  refine roSi1 (rest := []) (As := [.int a1]) S (ctX5_abs l G a1 r2_0 g2) (va_cwS 1 hts gX5_gcd_X5_abs rfl rfl rfl hsX5_abs ⟨Nat.le_of_ble_eq_true rfl, Nat.le_of_ble_eq_true rfl⟩) hK hP [] rfl rfl hl.1 rfl (Nat.le_of_ble_eq_true rfl) dX5_gcd_6 ⟨Nat.le_refl _, Nat.le_refl _⟩ (fun _ => ?_)
  refine lv_istore_n (lv' := [(3, .int r2_0), (2, .int r1_0), (0, .int a0), (1, .int a1)]) hx hb dX5_gcd_9 rfl hl (by decide) rfl (fun ls hl => ?_)
  obtain ⟨u3_0, u3_1, g3, h⟩ := bnd2_e h
  have L3 : ∀ (fu : Nat) (v3_0 : Int32) (v3_1 : Int32) (u3_0 : Int32) (u3_1 : Int32) (ls : Array Slot), mX5_gcd_L10  fu v3_0 v3_1 = some (u3_0, u3_1) → lv_has ls 5 [(3, .int v3_0), (2, .int v3_1), (0, .int a0), (1, .int a1)] → (∀ (ls : Array Slot), lv_has ls 5 [(3, .int u3_0), (2, .int u3_1), (0, .int a0), (1, .int a1)] → W p l e rmX5_gcd s m args below meth c s.heap [] 0 0 Q (F0 m 27 ls [])) → W p l e rmX5_gcd s m args below meth c s.heap [] 0 0 Q (F0 m 10 ls []) := by
    intro fu
    induction fu with
    | zero => intro v3_0 v3_1 u3_0 u3_1 ls h; exact nomatch h
    | succ fu ih =>
      intro v3_0 v3_1 u3_0 u3_1 ls h hl kE
      rw [mX5_gcd_L10] at h
      refine lv_iload_n hx hb dX5_gcd_10 rfl (lv_at hl 0 rfl) ?_
      refine lv_if_le (tgt := 27) hx hb dX5_gcd_11 (by decide) (fun c4 => ?_) (fun c4 => ?_)
      · replace h := ite_t c4 h
        obtain ⟨rfl, rfl⟩ := sm2 h
        exact kE ls hl
      · replace h := ite_f c4 h
        refine lv_iload_n hx hb dX5_gcd_14 rfl (lv_at hl 1 rfl) ?_
        refine lv_iload_n hx hb dX5_gcd_15 rfl (lv_at hl 0 rfl) ?_
        obtain ⟨z5, h⟩ := gz_e h
        refine lv_irem hx hb dX5_gcd_16 z5 ?_
        refine lv_topi (fun x6 e6 => ?_)
        replace h := nmB_e e6 h
        refine lv_istore (lv' := [(4, .int x6), (3, .int v3_0), (2, .int v3_1), (0, .int a0), (1, .int a1)]) hx hb dX5_gcd_17 hl (by decide) rfl (fun ls hl => ?_)
        refine lv_iload_n hx hb dX5_gcd_19 rfl (lv_at hl 1 rfl) ?_
        refine lv_istore_n (lv' := [(2, .int v3_0), (4, .int x6), (3, .int v3_0), (0, .int a0), (1, .int a1)]) hx hb dX5_gcd_20 rfl hl (by decide) rfl (fun ls hl => ?_)
        refine lv_iload hx hb dX5_gcd_21 (lv_at hl 1 rfl) ?_
        refine lv_istore_n (lv' := [(3, .int x6), (2, .int v3_0), (4, .int x6), (0, .int a0), (1, .int a1)]) hx hb dX5_gcd_23 rfl hl (by decide) rfl (fun ls hl => ?_)
        refine lv_goto (tgt := 10) hx hb dX5_gcd_24 (by decide) ?_
        exact ih x6 v3_0 u3_0 u3_1 ls h (lv_sub hl [0, 1, 3, 4] rfl) kE
  refine L3 FU r2_0 r1_0 u3_0 u3_1 ls g3 hl (fun ls hl => ?_)
  refine lv_iload_n hx hb dX5_gcd_27 rfl (lv_at hl 1 rfl) ?_
  exact hret _ _ _ ⟨smi h, trivial⟩ rfl dX5_gcd_28
abbrev rmX5_mod : Room := { frames := 0, cells := 0, slots := 0, locals := 0 }
set_option maxHeartbeats 4000000 in
set_option maxRecDepth 100000 in
theorem ctX5_mod (l : Launch) (G : GG) (a0 : Int32) (a1 : Int32) (o0 : Int32) (h : mX5_mod a0 a1 = some (o0))  : Met l yX5_mod wsX5_mod rmX5_mod (va_Pc [.int a0, .int a1] (PreW G (([] : va_W)))) (vp_Si (fun r => r = o0 ∧ True)) 0 0 (fun _ => False) := by
  refine of_ri (cc := cX5_mod) (maxL := 3) (ty := .int) (plainFor_of_name (by decide)) rfl (Nat.le_of_ble_eq_true rfl) ?_
  intro p e s m args below meth c ls Q S hl hP hK hret
  have S : CallFix p m c cX5_mod 3 s args wsX5_mod RX5 := S
  obtain ⟨hx, hb, hml, hown, hts⟩ := id S
  have hl : lv_has ls 3 [(0, .int a0), (1, .int a1)] := hl
  unfold mX5_mod at h
  refine lv_iload_n hx hb dX5_mod_0 rfl (lv_at hl 0 rfl) ?_
  refine lv_iload_n hx hb dX5_mod_1 rfl (lv_at hl 1 rfl) ?_
  obtain ⟨z1, h⟩ := gz_e h
  refine lv_irem hx hb dX5_mod_2 z1 ?_
  refine lv_topi (fun x2 e2 => ?_)
  replace h := nmB_e e2 h
  refine lv_istore_n (lv' := [(2, .int x2), (0, .int a0), (1, .int a1)]) hx hb dX5_mod_3 rfl hl (by decide) rfl (fun ls hl => ?_)
  refine lv_iload_n hx hb dX5_mod_4 rfl (lv_at hl 0 rfl) ?_
  refine lv_if_ge (tgt := 14) hx hb dX5_mod_5 (by decide) (fun c3 => ?_) (fun c3 => ?_)
  · replace h := ite_t c3 h
    refine lv_iload_n hx hb dX5_mod_14 rfl (lv_at hl 0 rfl) ?_
    exact hret _ _ _ ⟨smi h, trivial⟩ rfl dX5_mod_15
  · replace h := ite_f c3 h
    refine lv_iload_n hx hb dX5_mod_8 rfl (lv_at hl 0 rfl) ?_
    refine lv_iload_n hx hb dX5_mod_9 rfl (lv_at hl 2 rfl) ?_
    refine lv_iadd hx hb dX5_mod_10 ?_
    refine lv_goto (tgt := 15) hx hb dX5_mod_11 (by decide) ?_
    exact hret _ _ _ ⟨smi h, trivial⟩ rfl dX5_mod_15
theorem hsX5_mod : yX5_mod.cls ≠ "java/lang/invoke/MethodHandle" ∧ yX5_mod.cls ≠ "java/lang/invoke/VarHandle" ∧ (parseMethodDescriptor yX5_mod.desc).map (fun d => d.parameters.length) = some 2 := by decide +kernel
theorem hvX5_mod : yX5_mod.cls = RX5 ∧ yX5_mod.cls ≠ "java/lang/invoke/MethodHandle" ∧ yX5_mod.cls ≠ "java/lang/invoke/VarHandle" ∧ (parseMethodDescriptor yX5_mod.desc).map (fun d => d.parameters.length) = some 2 := ⟨rfl, hsX5_mod⟩
abbrev rmX5_floor : Room := { frames := 1, cells := 0, slots := 0, locals := 22 }
set_option maxHeartbeats 4000000 in
set_option maxRecDepth 100000 in
theorem ctX5_floor (l : Launch) (G : GG) (a0 : Int32) (a1 : Int32) (o0 : Int32) (h : mX5_floor a0 a1 = some (o0))  : Met l yX5_floor wsX5_floor rmX5_floor (va_Pc [.int a0, .int a1] (PreW G (([] : va_W)))) (vp_Si (fun r => r = o0 ∧ True)) 0 0 (fun _ => False) := by
  refine of_ri (cc := cX5_floor) (maxL := 2) (ty := .int) (plainFor_of_name (by decide)) rfl (Nat.le_of_ble_eq_true rfl) ?_
  intro p e s m args below meth c ls Q S hl hP hK hret
  have S : CallFix p m c cX5_floor 2 s args wsX5_floor RX5 := S
  obtain ⟨hx, hb, hml, hown, hts⟩ := id S
  have hl : lv_has ls 2 [(0, .int a0), (1, .int a1)] := hl
  unfold mX5_floor at h
  refine lv_iload_n hx hb dX5_floor_0 rfl (lv_at hl 0 rfl) ?_
  refine lv_iload_n hx hb dX5_floor_1 rfl (lv_at hl 0 rfl) ?_
  refine lv_iload_n hx hb dX5_floor_2 rfl (lv_at hl 1 rfl) ?_
  obtain ⟨r1_0, g1, h⟩ := bnd1_e h
  refine roSi1 (rest := [.int a0]) (As := [.int a0, .int a1]) S (ctX5_mod l G a0 a1 r1_0 g1) (va_cwS 2 hts gX5_floor_X5_mod rfl rfl rfl hsX5_mod ⟨Nat.le_of_ble_eq_true rfl, Nat.le_of_ble_eq_true rfl⟩) hK hP [] rfl rfl hl.1 rfl (Nat.le_of_ble_eq_true rfl) dX5_floor_3 ⟨Nat.le_refl _, Nat.le_refl _⟩ (fun _ => ?_)
  refine lv_isub hx hb dX5_floor_6 ?_
  refine lv_iload_n hx hb dX5_floor_7 rfl (lv_at hl 1 rfl) ?_
  obtain ⟨z2, h⟩ := gz_e h
  refine lv_idiv hx hb dX5_floor_8 z2 ?_
  exact hret _ _ _ ⟨smi h, trivial⟩ rfl dX5_floor_9
theorem hsX5_within : yX5_within.cls ≠ "java/lang/invoke/MethodHandle" ∧ yX5_within.cls ≠ "java/lang/invoke/VarHandle" ∧ (parseMethodDescriptor yX5_within.desc).map (fun d => d.parameters.length) = some 3 := by decide +kernel
theorem hvX5_within : yX5_within.cls = RX5 ∧ yX5_within.cls ≠ "java/lang/invoke/MethodHandle" ∧ yX5_within.cls ≠ "java/lang/invoke/VarHandle" ∧ (parseMethodDescriptor yX5_within.desc).map (fun d => d.parameters.length) = some 3 := ⟨rfl, hsX5_within⟩
abbrev rmX5_isSlot : Room := { frames := 1, cells := 0, slots := 0, locals := 22 }
set_option maxHeartbeats 4000000 in
set_option maxRecDepth 100000 in
theorem ctX5_isSlot (l : Launch) (G : GG) (a0 : Int32) (o0 : Int32) (h : mX5_isSlot a0 = some (o0))  : Met l yX5_isSlot wsX5_isSlot rmX5_isSlot (va_Pc [.int a0] (PreW G (([] : va_W)))) (vp_Si (fun r => r = o0 ∧ isZ o0)) 0 0 (fun _ => False) := by
  refine of_ri (cc := cX5_isSlot) (maxL := 1) (ty := .boolean) (plainFor_of_name (by decide)) rfl (Nat.le_of_ble_eq_true rfl) ?_
  intro p e s m args below meth c ls Q S hl hP hK hret
  have S : CallFix p m c cX5_isSlot 1 s args wsX5_isSlot RX5 := S
  obtain ⟨hx, hb, hml, hown, hts⟩ := id S
  have hl : lv_has ls 1 [(0, .int a0)] := hl
  unfold mX5_isSlot at h
  refine lv_iload_n hx hb dX5_isSlot_0 rfl (lv_at hl 0 rfl) ?_
  refine lv_iconst (v := 0) hx hb dX5_isSlot_1 (by decide) ?_
  refine lv_iconst (v := 2) hx hb dX5_isSlot_2 (by decide) ?_
  obtain ⟨r1_0, g1, h⟩ := bnd1_e h
  refine roSi1 (rest := []) (As := [.int a0, .int 0, .int 2]) S (ctX5_within l G a0 0 2 r1_0 g1) (va_cwS 3 hts gX5_isSlot_X5_within rfl rfl rfl hsX5_within ⟨Nat.le_of_ble_eq_true rfl, Nat.le_of_ble_eq_true rfl⟩) hK hP [] rfl rfl hl.1 rfl (Nat.le_of_ble_eq_true rfl) dX5_isSlot_3 ⟨Nat.le_refl _, Nat.le_refl _⟩ (fun hz1 => ?_)
  exact hret _ _ _ ⟨smi h, isZ.to hz1 (smi h)⟩ (isZ.nar hz1) dX5_isSlot_6
abbrev rmX5_areaOf : Room := { frames := 1, cells := 0, slots := 0, locals := 20 }
set_option maxHeartbeats 4000000 in
set_option maxRecDepth 100000 in
theorem ctX5_areaOf (l : Launch) (G : GG) (a0 : Int32) (a1 : Int32) (a2 : Int32) (a3 : Int32) (o0 : Int32) (h : mX5_areaOf a0 a1 a2 a3 = some (o0))  : Met l yX5_areaOf wsX5_areaOf rmX5_areaOf (va_Pc [.int a0, .int a1, .int a2, .int a3] (PreW G (([] : va_W)))) (vp_Si (fun r => r = o0 ∧ True)) 0 0 (fun _ => False) := by
  refine of_ri (cc := cX5_areaOf) (maxL := 4) (ty := .int) (plainFor_of_name (by decide)) rfl (Nat.le_of_ble_eq_true rfl) ?_
  intro p e s m args below meth c ls Q S hl hP hK hret
  have S : CallFix p m c cX5_areaOf 4 s args wsX5_areaOf RX5 := S
  obtain ⟨hx, hb, hml, hown, hts⟩ := id S
  have hl : lv_has ls 4 [(0, .int a0), (1, .int a1), (2, .int a2), (3, .int a3)] := hl
  unfold mX5_areaOf at h
  refine lv_iload_n hx hb dX5_areaOf_0 rfl (lv_at hl 0 rfl) ?_
  refine lv_iload_n hx hb dX5_areaOf_1 rfl (lv_at hl 3 rfl) ?_
  refine lv_imul hx hb dX5_areaOf_2 ?_
  refine lv_iload_n hx hb dX5_areaOf_3 rfl (lv_at hl 1 rfl) ?_
  refine lv_iload_n hx hb dX5_areaOf_4 rfl (lv_at hl 2 rfl) ?_
  refine lv_imul hx hb dX5_areaOf_5 ?_
  refine lv_isub hx hb dX5_areaOf_6 ?_
  obtain ⟨r1_0, g1, h⟩ := bnd1_e h
  refine roSi1 (rest := []) (As := [.int ((a0 * a3) - (a1 * a2))]) S (ctX5_abs l G ((a0 * a3) - (a1 * a2)) r1_0 g1) (va_cwS 1 hts gX5_areaOf_X5_abs rfl rfl rfl hsX5_abs ⟨Nat.le_of_ble_eq_true rfl, Nat.le_of_ble_eq_true rfl⟩) hK hP [] rfl rfl hl.1 rfl (Nat.le_of_ble_eq_true rfl) dX5_areaOf_7 ⟨Nat.le_refl _, Nat.le_refl _⟩ (fun _ => ?_)
  exact hret _ _ _ ⟨smi h, trivial⟩ rfl dX5_areaOf_10
abbrev rmX5_spotBy : Room := { frames := 0, cells := 0, slots := 0, locals := 0 }
set_option maxHeartbeats 4000000 in
set_option maxRecDepth 100000 in
theorem ctX5_spotBy (l : Launch) (G : GG) (a0 : Int32) (o0 : Int32) (h : mX5_spotBy a0 = some (o0))  : Met l yX5_spotBy wsX5_spotBy rmX5_spotBy (va_Pc [.int a0] (PreW G (([] : va_W)))) (vp_Si (fun r => r = o0 ∧ True)) 0 0 (fun _ => False) := by
  refine of_ri (cc := cX5_spotBy) (maxL := 1) (ty := .int) (plainFor_of_name (by decide)) rfl (Nat.le_of_ble_eq_true rfl) ?_
  intro p e s m args below meth c ls Q S hl hP hK hret
  have S : CallFix p m c cX5_spotBy 1 s args wsX5_spotBy RX5 := S
  obtain ⟨hx, hb, hml, hown, hts⟩ := id S
  have hl : lv_has ls 1 [(0, .int a0)] := hl
  unfold mX5_spotBy at h
  refine lv_iload_n hx hb dX5_spotBy_0 rfl (lv_at hl 0 rfl) ?_
  refine lv_bipush (v := 114) hx hb dX5_spotBy_1 (by decide) ?_
  refine lv_icmp_ne (tgt := 10) hx hb dX5_spotBy_3 (by decide) (fun c1 => ?_) (fun c1 => ?_)
  · replace h := ite_f c1 h
    refine lv_iload_n hx hb dX5_spotBy_10 rfl (lv_at hl 0 rfl) ?_
    refine lv_bipush (v := 100) hx hb dX5_spotBy_11 (by decide) ?_
    refine lv_icmp_ne (tgt := 20) hx hb dX5_spotBy_13 (by decide) (fun c2 => ?_) (fun c2 => ?_)
    · replace h := ite_f c2 h
      refine lv_iload_n hx hb dX5_spotBy_20 rfl (lv_at hl 0 rfl) ?_
      refine lv_bipush (v := 115) hx hb dX5_spotBy_21 (by decide) ?_
      refine lv_icmp_ne (tgt := 30) hx hb dX5_spotBy_23 (by decide) (fun c3 => ?_) (fun c3 => ?_)
      · replace h := ite_f c3 h
        refine lv_iload_n hx hb dX5_spotBy_30 rfl (lv_at hl 0 rfl) ?_
        refine lv_bipush (v := 108) hx hb dX5_spotBy_31 (by decide) ?_
        refine lv_icmp_ne (tgt := 40) hx hb dX5_spotBy_33 (by decide) (fun c4 => ?_) (fun c4 => ?_)
        · replace h := ite_f c4 h
          refine lv_iload_n hx hb dX5_spotBy_40 rfl (lv_at hl 0 rfl) ?_
          refine lv_bipush (v := 98) hx hb dX5_spotBy_41 (by decide) ?_
          refine lv_icmp_ne (tgt := 50) hx hb dX5_spotBy_43 (by decide) (fun c5 => ?_) (fun c5 => ?_)
          · replace h := ite_f c5 h
            refine lv_iconst (v := (-1)) hx hb dX5_spotBy_50 (by decide) ?_
            exact hret _ _ _ ⟨smi h, trivial⟩ rfl dX5_spotBy_51
          · replace h := ite_t c5 h
            refine lv_iconst (v := 4) hx hb dX5_spotBy_46 (by decide) ?_
            refine lv_goto (tgt := 51) hx hb dX5_spotBy_47 (by decide) ?_
            exact hret _ _ _ ⟨smi h, trivial⟩ rfl dX5_spotBy_51
        · replace h := ite_t c4 h
          refine lv_iconst (v := 3) hx hb dX5_spotBy_36 (by decide) ?_
          refine lv_goto (tgt := 51) hx hb dX5_spotBy_37 (by decide) ?_
          exact hret _ _ _ ⟨smi h, trivial⟩ rfl dX5_spotBy_51
      · replace h := ite_t c3 h
        refine lv_iconst (v := 2) hx hb dX5_spotBy_26 (by decide) ?_
        refine lv_goto (tgt := 51) hx hb dX5_spotBy_27 (by decide) ?_
        exact hret _ _ _ ⟨smi h, trivial⟩ rfl dX5_spotBy_51
    · replace h := ite_t c2 h
      refine lv_iconst (v := 1) hx hb dX5_spotBy_16 (by decide) ?_
      refine lv_goto (tgt := 51) hx hb dX5_spotBy_17 (by decide) ?_
      exact hret _ _ _ ⟨smi h, trivial⟩ rfl dX5_spotBy_51
  · replace h := ite_t c1 h
    refine lv_iconst (v := 0) hx hb dX5_spotBy_6 (by decide) ?_
    refine lv_goto (tgt := 51) hx hb dX5_spotBy_7 (by decide) ?_
    exact hret _ _ _ ⟨smi h, trivial⟩ rfl dX5_spotBy_51
abbrev rmX5_isPart : Room := { frames := 1, cells := 0, slots := 0, locals := 22 }
set_option maxHeartbeats 4000000 in
set_option maxRecDepth 100000 in
theorem ctX5_isPart (l : Launch) (G : GG) (a0 : Int32) (o0 : Int32) (h : mX5_isPart a0 = some (o0))  : Met l yX5_isPart wsX5_isPart rmX5_isPart (va_Pc [.int a0] (PreW G (([] : va_W)))) (vp_Si (fun r => r = o0 ∧ isZ o0)) 0 0 (fun _ => False) := by
  refine of_ri (cc := cX5_isPart) (maxL := 1) (ty := .boolean) (plainFor_of_name (by decide)) rfl (Nat.le_of_ble_eq_true rfl) ?_
  intro p e s m args below meth c ls Q S hl hP hK hret
  have S : CallFix p m c cX5_isPart 1 s args wsX5_isPart RX5 := S
  obtain ⟨hx, hb, hml, hown, hts⟩ := id S
  have hl : lv_has ls 1 [(0, .int a0)] := hl
  unfold mX5_isPart at h
  refine lv_iload_n hx hb dX5_isPart_0 rfl (lv_at hl 0 rfl) ?_
  refine lv_bipush (v := (-8)) hx hb dX5_isPart_1 (by decide) ?_
  refine lv_bipush (v := 8) hx hb dX5_isPart_3 (by decide) ?_
  obtain ⟨r1_0, g1, h⟩ := bnd1_e h
  refine roSi1 (rest := []) (As := [.int a0, .int (-8), .int 8]) S (ctX5_within l G a0 (-8) 8 r1_0 g1) (va_cwS 3 hts gX5_isPart_X5_within rfl rfl rfl hsX5_within ⟨Nat.le_of_ble_eq_true rfl, Nat.le_of_ble_eq_true rfl⟩) hK hP [] rfl rfl hl.1 rfl (Nat.le_of_ble_eq_true rfl) dX5_isPart_5 ⟨Nat.le_refl _, Nat.le_refl _⟩ (fun hz1 => ?_)
  exact hret _ _ _ ⟨smi h, isZ.to hz1 (smi h)⟩ (isZ.nar hz1) dX5_isPart_8
abbrev rmX5_rounded : Room := { frames := 1, cells := 0, slots := 0, locals := 20 }
set_option maxHeartbeats 4000000 in
set_option maxRecDepth 100000 in
theorem ctX5_rounded (l : Launch) (G : GG) (a0 : Int32) (a1 : Int32) (o0 : Int32) (h : mX5_rounded a0 a1 = some (o0))  : Met l yX5_rounded wsX5_rounded rmX5_rounded (va_Pc [.int a0, .int a1] (PreW G (([] : va_W)))) (vp_Si (fun r => r = o0 ∧ True)) 0 0 (fun _ => False) := by
  refine of_ri (cc := cX5_rounded) (maxL := 4) (ty := .int) (plainFor_of_name (by decide)) rfl (Nat.le_of_ble_eq_true rfl) ?_
  intro p e s m args below meth c ls Q S hl hP hK hret
  have S : CallFix p m c cX5_rounded 4 s args wsX5_rounded RX5 := S
  obtain ⟨hx, hb, hml, hown, hts⟩ := id S
  have hl : lv_has ls 4 [(0, .int a0), (1, .int a1)] := hl
  unfold mX5_rounded at h
  refine lv_iload_n hx hb dX5_rounded_0 rfl (lv_at hl 0 rfl) ?_
  obtain ⟨r1_0, g1, h⟩ := bnd1_e h
  refine roSi1 (rest := []) (As := [.int a0]) S (ctX5_abs l G a0 r1_0 g1) (va_cwS 1 hts gX5_rounded_X5_abs rfl rfl rfl hsX5_abs ⟨Nat.le_of_ble_eq_true rfl, Nat.le_of_ble_eq_true rfl⟩) hK hP [] rfl rfl hl.1 rfl (Nat.le_of_ble_eq_true rfl) dX5_rounded_1 ⟨Nat.le_refl _, Nat.le_refl _⟩ (fun _ => ?_)
  refine lv_iload_n hx hb dX5_rounded_4 rfl (lv_at hl 1 rfl) ?_
  obtain ⟨z2, h⟩ := gz_e h
  refine lv_idiv hx hb dX5_rounded_5 z2 ?_
  refine lv_topi (fun x3 e3 => ?_)
  replace h := nmB_e e3 h
  refine lv_istore_n (lv' := [(2, .int x3), (0, .int a0), (1, .int a1)]) hx hb dX5_rounded_6 rfl hl (by decide) rfl (fun ls hl => ?_)
  refine lv_iconst (v := 2) hx hb dX5_rounded_7 (by decide) ?_
  refine lv_iload_n hx hb dX5_rounded_8 rfl (lv_at hl 1 rfl) ?_
  obtain ⟨r4_0, g4, h⟩ := bnd1_e h
  refine roSi1 (rest := [.int 2]) (As := [.int a0]) S (ctX5_abs l G a0 r4_0 g4) (va_cwS 1 hts gX5_rounded_X5_abs rfl rfl rfl hsX5_abs ⟨Nat.le_of_ble_eq_true rfl, Nat.le_of_ble_eq_true rfl⟩) hK hP [] rfl rfl hl.1 rfl (Nat.le_of_ble_eq_true rfl) dX5_rounded_9 ⟨Nat.le_refl _, Nat.le_refl _⟩ (fun _ => ?_)
  refine lv_iload_n hx hb dX5_rounded_12 rfl (lv_at hl 0 rfl) ?_
  refine lv_iload_n hx hb dX5_rounded_13 rfl (lv_at hl 2 rfl) ?_
  refine lv_imul hx hb dX5_rounded_14 ?_
  refine lv_isub hx hb dX5_rounded_15 ?_
  refine lv_imul hx hb dX5_rounded_16 ?_
  refine lv_iload_n hx hb dX5_rounded_17 rfl (lv_at hl 2 rfl) ?_
  obtain ⟨K5, hK5, h⟩ := jB1_e h
  have J5 : ∀ (j5_0 : Int32) (ls : Array Slot), K5 j5_0 = some (o0) → lv_has ls 4 [(2, .int x3), (0, .int a0), (1, .int a1)] → W p l e rmX5_rounded s m args below meth c s.heap [] 0 0 Q (F0 m 28 ls [.int j5_0]) := by
    intro j5_0 ls h hl
    replace h := (hK5 j5_0).symm.trans h
    refine lv_istore_n (lv' := [(3, .int j5_0), (2, .int x3), (0, .int a0), (1, .int a1)]) hx hb dX5_rounded_28 rfl hl (by decide) rfl (fun ls hl => ?_)
    refine lv_iload_n hx hb dX5_rounded_29 rfl (lv_at hl 2 rfl) ?_
    refine lv_if_ge (tgt := 38) hx hb dX5_rounded_30 (by decide) (fun c7 => ?_) (fun c7 => ?_)
    · replace h := ite_t c7 h
      refine lv_iload_n hx hb dX5_rounded_38 rfl (lv_at hl 0 rfl) ?_
      exact hret _ _ _ ⟨smi h, trivial⟩ rfl dX5_rounded_39
    · replace h := ite_f c7 h
      refine lv_iload_n hx hb dX5_rounded_33 rfl (lv_at hl 0 rfl) ?_
      refine lv_ineg hx hb dX5_rounded_34 ?_
      refine lv_goto (tgt := 39) hx hb dX5_rounded_35 (by decide) ?_
      exact hret _ _ _ ⟨smi h, trivial⟩ rfl dX5_rounded_39
  refine lv_icmp_le (tgt := 27) hx hb dX5_rounded_18 (by decide) (fun c6 => ?_) (fun c6 => ?_)
  · replace h := ite_t c6 h
    refine lv_iload_n hx hb dX5_rounded_27 rfl (lv_at hl 0 rfl) ?_
    exact J5 x3 ls h hl
  · replace h := ite_f c6 h
    refine lv_iload_n hx hb dX5_rounded_21 rfl (lv_at hl 0 rfl) ?_
    refine lv_iconst (v := 1) hx hb dX5_rounded_22 (by decide) ?_
    refine lv_iadd hx hb dX5_rounded_23 ?_
    refine lv_goto (tgt := 28) hx hb dX5_rounded_24 (by decide) ?_
    exact J5 (x3 + 1) ls h hl
abbrev rmX5_isPixel : Room := { frames := 1, cells := 0, slots := 0, locals := 22 }
set_option maxHeartbeats 4000000 in
set_option maxRecDepth 100000 in
theorem ctX5_isPixel (l : Launch) (G : GG) (a0 : Int32) (a1 : Int32) (o0 : Int32) (h : mX5_isPixel a0 a1 = some (o0))  : Met l yX5_isPixel wsX5_isPixel rmX5_isPixel (va_Pc [.int a0, .int a1] (PreW G (([] : va_W)))) (vp_Si (fun r => r = o0 ∧ isZ o0)) 0 0 (fun _ => False) := by
  refine of_ri (cc := cX5_isPixel) (maxL := 2) (ty := .boolean) (plainFor_of_name (by decide)) rfl (Nat.le_of_ble_eq_true rfl) ?_
  intro p e s m args below meth c ls Q S hl hP hK hret
  have S : CallFix p m c cX5_isPixel 2 s args wsX5_isPixel RX5 := S
  obtain ⟨hx, hb, hml, hown, hts⟩ := id S
  have hl : lv_has ls 2 [(0, .int a0), (1, .int a1)] := hl
  unfold mX5_isPixel at h
  refine lv_iload_n hx hb dX5_isPixel_0 rfl (lv_at hl 0 rfl) ?_
  refine lv_sipush (v := (-10000)) hx hb dX5_isPixel_1 (by decide) ?_
  refine lv_sipush (v := 10000) hx hb dX5_isPixel_4 (by decide) ?_
  obtain ⟨r1_0, g1, h⟩ := bnd1_e h
  refine roSi1 (rest := []) (As := [.int a0, .int (-10000), .int 10000]) S (ctX5_within l G a0 (-10000) 10000 r1_0 g1) (va_cwS 3 hts gX5_isPixel_X5_within rfl rfl rfl hsX5_within ⟨Nat.le_of_ble_eq_true rfl, Nat.le_of_ble_eq_true rfl⟩) hK hP [] rfl rfl hl.1 rfl (Nat.le_of_ble_eq_true rfl) dX5_isPixel_7 ⟨Nat.le_refl _, Nat.le_refl _⟩ (fun hz1 => ?_)
  refine lv_if_eq (tgt := 30) hx hb dX5_isPixel_10 (by decide) (fun c2 => ?_) (fun c2 => ?_)
  · replace h := ite_t c2 h
    refine lv_iconst (v := 0) hx hb dX5_isPixel_30 (by decide) ?_
    exact hret _ _ _ ⟨smi h, isZ.to isZ0 (smi h)⟩ (isZ.nar isZ0) dX5_isPixel_31
  · replace h := ite_f c2 h
    refine lv_iload_n hx hb dX5_isPixel_13 rfl (lv_at hl 1 rfl) ?_
    refine lv_sipush (v := (-10000)) hx hb dX5_isPixel_14 (by decide) ?_
    refine lv_sipush (v := 10000) hx hb dX5_isPixel_17 (by decide) ?_
    obtain ⟨r3_0, g3, h⟩ := bnd1_e h
    refine roSi1 (rest := []) (As := [.int a1, .int (-10000), .int 10000]) S (ctX5_within l G a1 (-10000) 10000 r3_0 g3) (va_cwS 3 hts gX5_isPixel_X5_within rfl rfl rfl hsX5_within ⟨Nat.le_of_ble_eq_true rfl, Nat.le_of_ble_eq_true rfl⟩) hK hP [] rfl rfl hl.1 rfl (Nat.le_of_ble_eq_true rfl) dX5_isPixel_20 ⟨Nat.le_refl _, Nat.le_refl _⟩ (fun hz3 => ?_)
    refine lv_if_eq (tgt := 30) hx hb dX5_isPixel_23 (by decide) (fun c4 => ?_) (fun c4 => ?_)
    · replace h := ite_t c4 h
      refine lv_iconst (v := 0) hx hb dX5_isPixel_30 (by decide) ?_
      exact hret _ _ _ ⟨smi h, isZ.to isZ0 (smi h)⟩ (isZ.nar isZ0) dX5_isPixel_31
    · replace h := ite_f c4 h
      refine lv_iconst (v := 1) hx hb dX5_isPixel_26 (by decide) ?_
      refine lv_goto (tgt := 31) hx hb dX5_isPixel_27 (by decide) ?_
      exact hret _ _ _ ⟨smi h, isZ.to isZ1 (smi h)⟩ (isZ.nar isZ1) dX5_isPixel_31
abbrev rmX5_isNearer : Room := { frames := 1, cells := 0, slots := 0, locals := 20 }
set_option maxHeartbeats 4000000 in
set_option maxRecDepth 100000 in
theorem ctX5_isNearer (l : Launch) (G : GG) (a0 : Int32) (a1 : Int32) (a2 : Int32) (a3 : Int32) (a4 : Int32) (a5 : Int32) (o0 : Int32) (h : mX5_isNearer a0 a1 a2 a3 a4 a5 = some (o0))  : Met l yX5_isNearer wsX5_isNearer rmX5_isNearer (va_Pc [.int a0, .int a1, .int a2, .int a3, .int a4, .int a5] (PreW G (([] : va_W)))) (vp_Si (fun r => r = o0 ∧ isZ o0)) 0 0 (fun _ => False) := by
  refine of_ri (cc := cX5_isNearer) (maxL := 14) (ty := .boolean) (plainFor_of_name (by decide)) rfl (Nat.le_of_ble_eq_true rfl) ?_
  intro p e s m args below meth c ls Q S hl hP hK hret
  have S : CallFix p m c cX5_isNearer 14 s args wsX5_isNearer RX5 := S
  obtain ⟨hx, hb, hml, hown, hts⟩ := id S
  have hl : lv_has ls 14 [(0, .int a0), (1, .int a1), (2, .int a2), (3, .int a3), (4, .int a4), (5, .int a5)] := hl
  unfold mX5_isNearer at h
  refine lv_iload_n hx hb dX5_isNearer_0 rfl (lv_at hl 0 rfl) ?_
  refine lv_iload hx hb dX5_isNearer_1 (lv_at hl 4 rfl) ?_
  refine lv_imul hx hb dX5_isNearer_3 ?_
  refine lv_iload_n hx hb dX5_isNearer_4 rfl (lv_at hl 1 rfl) ?_
  refine lv_iload hx hb dX5_isNearer_5 (lv_at hl 5 rfl) ?_
  refine lv_imul hx hb dX5_isNearer_7 ?_
  refine lv_isub hx hb dX5_isNearer_8 ?_
  obtain ⟨r1_0, g1, h⟩ := bnd1_e h
  refine roSi1 (rest := []) (As := [.int ((a0 * a4) - (a1 * a5))]) S (ctX5_abs l G ((a0 * a4) - (a1 * a5)) r1_0 g1) (va_cwS 1 hts gX5_isNearer_X5_abs rfl rfl rfl hsX5_abs ⟨Nat.le_of_ble_eq_true rfl, Nat.le_of_ble_eq_true rfl⟩) hK hP [] rfl rfl hl.1 rfl (Nat.le_of_ble_eq_true rfl) dX5_isNearer_9 ⟨Nat.le_refl _, Nat.le_refl _⟩ (fun _ => ?_)
  refine lv_istore (lv' := [(6, .int r1_0), (0, .int a0), (1, .int a1), (2, .int a2), (3, .int a3), (4, .int a4), (5, .int a5)]) hx hb dX5_isNearer_12 hl (by decide) rfl (fun ls hl => ?_)
  refine lv_iload_n hx hb dX5_isNearer_14 rfl (lv_at hl 3 rfl) ?_
  refine lv_iload hx hb dX5_isNearer_15 (lv_at hl 5 rfl) ?_
  refine lv_imul hx hb dX5_isNearer_17 ?_
  refine lv_iload_n hx hb dX5_isNearer_18 rfl (lv_at hl 4 rfl) ?_
  refine lv_iload hx hb dX5_isNearer_19 (lv_at hl 6 rfl) ?_
  refine lv_imul hx hb dX5_isNearer_21 ?_
  refine lv_isub hx hb dX5_isNearer_22 ?_
  obtain ⟨r2_0, g2, h⟩ := bnd1_e h
  refine roSi1 (rest := []) (As := [.int ((a2 * a4) - (a3 * a5))]) S (ctX5_abs l G ((a2 * a4) - (a3 * a5)) r2_0 g2) (va_cwS 1 hts gX5_isNearer_X5_abs rfl rfl rfl hsX5_abs ⟨Nat.le_of_ble_eq_true rfl, Nat.le_of_ble_eq_true rfl⟩) hK hP [] rfl rfl hl.1 rfl (Nat.le_of_ble_eq_true rfl) dX5_isNearer_23 ⟨Nat.le_refl _, Nat.le_refl _⟩ (fun _ => ?_)
  refine lv_istore (lv' := [(7, .int r2_0), (6, .int r1_0), (0, .int a0), (1, .int a1), (2, .int a2), (3, .int a3), (4, .int a4), (5, .int a5)]) hx hb dX5_isNearer_26 hl (by decide) rfl (fun ls hl => ?_)
  refine lv_iload_n hx hb dX5_isNearer_28 rfl (lv_at hl 2 rfl) ?_
  refine lv_iload_n hx hb dX5_isNearer_29 rfl (lv_at hl 2 rfl) ?_
  refine lv_imul hx hb dX5_isNearer_30 ?_
  refine lv_iload_n hx hb dX5_isNearer_31 rfl (lv_at hl 3 rfl) ?_
  refine lv_iload_n hx hb dX5_isNearer_32 rfl (lv_at hl 3 rfl) ?_
  refine lv_imul hx hb dX5_isNearer_33 ?_
  refine lv_iadd hx hb dX5_isNearer_34 ?_
  refine lv_topi (fun x3 e3 => ?_)
  replace h := nmB_e e3 h
  refine lv_istore (lv' := [(8, .int x3), (7, .int r2_0), (6, .int r1_0), (0, .int a0), (1, .int a1), (2, .int a2), (3, .int a3), (4, .int a4), (5, .int a5)]) hx hb dX5_isNearer_35 hl (by decide) rfl (fun ls hl => ?_)
  refine lv_iload_n hx hb dX5_isNearer_37 rfl (lv_at hl 5 rfl) ?_
  refine lv_iload_n hx hb dX5_isNearer_38 rfl (lv_at hl 5 rfl) ?_
  refine lv_imul hx hb dX5_isNearer_39 ?_
  refine lv_iload_n hx hb dX5_isNearer_40 rfl (lv_at hl 6 rfl) ?_
  refine lv_iload_n hx hb dX5_isNearer_41 rfl (lv_at hl 6 rfl) ?_
  refine lv_imul hx hb dX5_isNearer_42 ?_
  refine lv_iadd hx hb dX5_isNearer_43 ?_
  refine lv_topi (fun x4 e4 => ?_)
  replace h := nmB_e e4 h
  refine lv_istore (lv' := [(9, .int x4), (8, .int x3), (7, .int r2_0), (6, .int r1_0), (0, .int a0), (1, .int a1), (2, .int a2), (3, .int a3), (4, .int a4), (5, .int a5)]) hx hb dX5_isNearer_44 hl (by decide) rfl (fun ls hl => ?_)
  refine lv_iload hx hb dX5_isNearer_46 (lv_at hl 3 rfl) ?_
  refine lv_i2l hx hb dX5_isNearer_48 rfl ?_
  refine lv_iload hx hb dX5_isNearer_49 (lv_at hl 3 rfl) ?_
  refine lv_i2l hx hb dX5_isNearer_51 rfl ?_
  refine lv_lmul hx hb dX5_isNearer_52 ?_
  refine lv_iload hx hb dX5_isNearer_53 (lv_at hl 0 rfl) ?_
  refine lv_i2l hx hb dX5_isNearer_55 rfl ?_
  refine lv_lmul hx hb dX5_isNearer_56 ?_
  refine lv_topl (fun x5 e5 => ?_)
  replace h := nmB_e e5 h
  refine lv_lstore (lv' := [(10, .long x5), (9, .int x4), (8, .int x3), (7, .int r2_0), (6, .int r1_0), (0, .int a0), (1, .int a1), (2, .int a2), (3, .int a3), (4, .int a4), (5, .int a5)]) hx hb dX5_isNearer_57 hl (by decide) rfl (fun ls hl => ?_)
  refine lv_iload hx hb dX5_isNearer_59 (lv_at hl 3 rfl) ?_
  refine lv_i2l hx hb dX5_isNearer_61 rfl ?_
  refine lv_iload hx hb dX5_isNearer_62 (lv_at hl 3 rfl) ?_
  refine lv_i2l hx hb dX5_isNearer_64 rfl ?_
  refine lv_lmul hx hb dX5_isNearer_65 ?_
  refine lv_iload hx hb dX5_isNearer_66 (lv_at hl 2 rfl) ?_
  refine lv_i2l hx hb dX5_isNearer_68 rfl ?_
  refine lv_lmul hx hb dX5_isNearer_69 ?_
  refine lv_topl (fun x6 e6 => ?_)
  replace h := nmB_e e6 h
  refine lv_lstore (lv' := [(12, .long x6), (10, .long x5), (9, .int x4), (8, .int x3), (7, .int r2_0), (6, .int r1_0), (0, .int a0), (1, .int a1), (2, .int a2), (3, .int a3), (4, .int a4), (5, .int a5)]) hx hb dX5_isNearer_70 hl (by decide) rfl (fun ls hl => ?_)
  refine lv_lload hx hb dX5_isNearer_72 (lv_at hl 1 rfl) ?_
  refine lv_lload hx hb dX5_isNearer_74 (lv_at hl 0 rfl) ?_
  refine W.lcmp hx hb dX5_isNearer_76 ?_
  refine lv_if_lt (tgt := 107) hx hb dX5_isNearer_77 (by decide) (fun c7 => ?_) (fun c7 => ?_)
  · replace h := ite_t c7 h
    refine lv_iconst (v := 1) hx hb dX5_isNearer_107 (by decide) ?_
    refine lv_goto (tgt := 112) hx hb dX5_isNearer_108 (by decide) ?_
    exact hret _ _ _ ⟨smi h, isZ.to isZ1 (smi h)⟩ (isZ.nar isZ1) dX5_isNearer_112
  · replace h := ite_f c7 h
    refine lv_lload hx hb dX5_isNearer_80 (lv_at hl 1 rfl) ?_
    refine lv_lload hx hb dX5_isNearer_82 (lv_at hl 0 rfl) ?_
    refine W.lcmp hx hb dX5_isNearer_84 ?_
    refine lv_if_ne (tgt := 111) hx hb dX5_isNearer_85 (by decide) (fun c8 => ?_) (fun c8 => ?_)
    · replace h := ite_f c8 h
      refine lv_iconst (v := 0) hx hb dX5_isNearer_111 (by decide) ?_
      exact hret _ _ _ ⟨smi h, isZ.to isZ0 (smi h)⟩ (isZ.nar isZ0) dX5_isNearer_112
    · replace h := ite_t c8 h
      refine lv_iload hx hb dX5_isNearer_88 (lv_at hl 3 rfl) ?_
      refine lv_iload hx hb dX5_isNearer_90 (lv_at hl 2 rfl) ?_
      refine lv_icmp_lt (tgt := 107) hx hb dX5_isNearer_92 (by decide) (fun c9 => ?_) (fun c9 => ?_)
      · replace h := ite_t c9 h
        refine lv_iconst (v := 1) hx hb dX5_isNearer_107 (by decide) ?_
        refine lv_goto (tgt := 112) hx hb dX5_isNearer_108 (by decide) ?_
        exact hret _ _ _ ⟨smi h, isZ.to isZ1 (smi h)⟩ (isZ.nar isZ1) dX5_isNearer_112
      · replace h := ite_f c9 h
        refine lv_iload hx hb dX5_isNearer_95 (lv_at hl 3 rfl) ?_
        refine lv_iload hx hb dX5_isNearer_97 (lv_at hl 2 rfl) ?_
        refine lv_icmp_ne (tgt := 111) hx hb dX5_isNearer_99 (by decide) (fun c10 => ?_) (fun c10 => ?_)
        · replace h := ite_f c10 h
          refine lv_iconst (v := 0) hx hb dX5_isNearer_111 (by decide) ?_
          exact hret _ _ _ ⟨smi h, isZ.to isZ0 (smi h)⟩ (isZ.nar isZ0) dX5_isNearer_112
        · replace h := ite_t c10 h
          refine lv_iload_n hx hb dX5_isNearer_102 rfl (lv_at hl 6 rfl) ?_
          refine lv_iload_n hx hb dX5_isNearer_103 rfl (lv_at hl 8 rfl) ?_
          refine lv_icmp_ge (tgt := 111) hx hb dX5_isNearer_104 (by decide) (fun c11 => ?_) (fun c11 => ?_)
          · replace h := ite_t c11 h
            refine lv_iconst (v := 0) hx hb dX5_isNearer_111 (by decide) ?_
            exact hret _ _ _ ⟨smi h, isZ.to isZ0 (smi h)⟩ (isZ.nar isZ0) dX5_isNearer_112
          · replace h := ite_f c11 h
            refine lv_iconst (v := 1) hx hb dX5_isNearer_107 (by decide) ?_
            refine lv_goto (tgt := 112) hx hb dX5_isNearer_108 (by decide) ?_
            exact hret _ _ _ ⟨smi h, isZ.to isZ1 (smi h)⟩ (isZ.nar isZ1) dX5_isNearer_112
theorem fw_X5_thrown_X5 : ∀ w ∈ wsX50, w ∈ wsX5_thrown := fun w h => List.mem_cons_of_mem _ (List.mem_append_right _ h)
theorem lk_X5_thrown_f59 : Cond.fieldLink RX5 59 "HalftoneScreensModel" "thrown" "I" ∈ wsX5_thrown := List.mem_of_getElem? (i := 1) rfl
abbrev rmX5_thrown : Room := { frames := 0, cells := 0, slots := 0, locals := 0 }
set_option maxHeartbeats 4000000 in
set_option maxRecDepth 100000 in
theorem ctX5_thrown (l : Launch) (G : GG) (v_q0 : Nat) (v_q1 : Nat) (v_q2 : Nat) (v_q3 : Nat) (v_q4 : Nat) (v_q5 : Nat) (v_q6 : Nat) (v_q7 : Nat) (v_q8 : Nat) (v_q9 : Nat) (v_q10 : Nat) (v_q11 : Nat) (v_q12 : Nat) (v_q13 : Nat) (v_q14 : Nat) (v_q15 : Nat) (v_q16 : Nat) (v_thrown : Int32) (v_gain : Int32) (v_size : Int32) (v_w : Int32) (v_s : Int32) (v_h : Int32) (v_laidArea : Int32) (v_parts : Int32) (v_isMinus : Int32) (v_readSpot : Int32) (v_isStar : Int32) (v_wantsNumber : Int32) (v_waiting : Int32) (v_shiftX : Int32) (v_shiftY : Int32) (v_times : Int32) (v_dotsLaid : Int32) (v_joinedLaid : Int32) (v_hash : Int64) (v_isThereA : (Nat → Int32)) (v_vA : (Nat → Int32)) (v_spotOfA : (Nat → Int32)) (v_inMiddleA : (Nat → Int32)) (v_tintsA : (Nat → Int32)) (v_bufferA : (Nat → Int32)) (v_valuesA : (Nat → Int32)) (v_ranksA : (Nat → Int32)) (v_oldRanksA : (Nat → Int32)) (v_partA : (Nat → Int32)) (v_allRanksA : (Nat → Int32)) (v_basesA : (Nat → Int32)) (v_isMetA : (Nat → Int32)) (v_metXA : (Nat → Int32)) (v_metYA : (Nat → Int32)) (v_lineA : (Nat → Int32)) (o0 : Int32) (h : mX5_thrown v_thrown = some (o0))  : Met l yX5_thrown wsX5_thrown rmX5_thrown (va_Pc [.ref v_q0] (PreW G (wdX5 G v_q0 v_q1 v_q2 v_q3 v_q4 v_q5 v_q6 v_q7 v_q8 v_q9 v_q10 v_q11 v_q12 v_q13 v_q14 v_q15 v_q16 v_thrown v_gain v_size v_w v_s v_h v_laidArea v_parts v_isMinus v_readSpot v_isStar v_wantsNumber v_waiting v_shiftX v_shiftY v_times v_dotsLaid v_joinedLaid v_hash v_isThereA v_vA v_spotOfA v_inMiddleA v_tintsA v_bufferA v_valuesA v_ranksA v_oldRanksA v_partA v_allRanksA v_basesA v_isMetA v_metXA v_metYA v_lineA))) (vp_Si (fun r => r = o0 ∧ True)) 0 0 (fun _ => False) := by
  refine of_ri (cc := cX5_thrown) (maxL := 1) (ty := .int) (plainFor_of_name (by decide)) rfl (Nat.le_of_ble_eq_true rfl) ?_
  intro p e s m args below meth c ls Q S hl hP hK hret
  have S : CallFix p m c cX5_thrown 1 s args wsX5_thrown RX5 := S
  obtain ⟨hx, hb, hml, hown, hts⟩ := id S
  have hl : lv_has ls 1 [(0, .ref v_q0)] := hl
  unfold mX5_thrown at h
  refine lv_aload_n hx hb dX5_thrown_0 rfl (lv_at hl 0 rfl) ?_
  refine va_get (D := G.1) (ci := 5) (v := .int v_thrown) (C := RX5) (T := TX5) (N := 35) hx hb hts fw_X5_thrown_X5 hown hK.1 hP 0 rfl rfl 0 (by decide) (hts (.fieldLink RX5 59 "HalftoneScreensModel" "thrown" "I") lk_X5_thrown_f59) (fun _ h9 => h9) rfl dX5_thrown_1 ?_
  exact hret _ _ _ ⟨smi h, trivial⟩ rfl dX5_thrown_4
theorem fw_X5_missing_X5 : ∀ w ∈ wsX50, w ∈ wsX5_missing := fun w h => List.mem_cons_of_mem _ (List.mem_append_right _ h)
theorem lk_X5_missing_f7 : Cond.fieldLink RX5 7 "HalftoneScreensModel" "isThere" "[Z" ∈ wsX5_missing := List.mem_of_getElem? (i := 1) rfl
theorem hsX5_isSlot : yX5_isSlot.cls ≠ "java/lang/invoke/MethodHandle" ∧ yX5_isSlot.cls ≠ "java/lang/invoke/VarHandle" ∧ (parseMethodDescriptor yX5_isSlot.desc).map (fun d => d.parameters.length) = some 1 := by decide +kernel
theorem hvX5_isSlot : yX5_isSlot.cls = RX5 ∧ yX5_isSlot.cls ≠ "java/lang/invoke/MethodHandle" ∧ yX5_isSlot.cls ≠ "java/lang/invoke/VarHandle" ∧ (parseMethodDescriptor yX5_isSlot.desc).map (fun d => d.parameters.length) = some 1 := ⟨rfl, hsX5_isSlot⟩
abbrev rmX5_missing : Room := { frames := 2, cells := 0, slots := 0, locals := 42 }
set_option maxHeartbeats 4000000 in
set_option maxRecDepth 100000 in
theorem ctX5_missing (l : Launch) (G : GG) (v_q0 : Nat) (v_q1 : Nat) (v_q2 : Nat) (v_q3 : Nat) (v_q4 : Nat) (v_q5 : Nat) (v_q6 : Nat) (v_q7 : Nat) (v_q8 : Nat) (v_q9 : Nat) (v_q10 : Nat) (v_q11 : Nat) (v_q12 : Nat) (v_q13 : Nat) (v_q14 : Nat) (v_q15 : Nat) (v_q16 : Nat) (v_thrown : Int32) (v_gain : Int32) (v_size : Int32) (v_w : Int32) (v_s : Int32) (v_h : Int32) (v_laidArea : Int32) (v_parts : Int32) (v_isMinus : Int32) (v_readSpot : Int32) (v_isStar : Int32) (v_wantsNumber : Int32) (v_waiting : Int32) (v_shiftX : Int32) (v_shiftY : Int32) (v_times : Int32) (v_dotsLaid : Int32) (v_joinedLaid : Int32) (v_hash : Int64) (v_isThereA : (Nat → Int32)) (v_vA : (Nat → Int32)) (v_spotOfA : (Nat → Int32)) (v_inMiddleA : (Nat → Int32)) (v_tintsA : (Nat → Int32)) (v_bufferA : (Nat → Int32)) (v_valuesA : (Nat → Int32)) (v_ranksA : (Nat → Int32)) (v_oldRanksA : (Nat → Int32)) (v_partA : (Nat → Int32)) (v_allRanksA : (Nat → Int32)) (v_basesA : (Nat → Int32)) (v_isMetA : (Nat → Int32)) (v_metXA : (Nat → Int32)) (v_metYA : (Nat → Int32)) (v_lineA : (Nat → Int32)) (a0 : Int32) (o0 : Int32) (h : mX5_missing v_isThereA a0 = some (o0))  : Met l yX5_missing wsX5_missing rmX5_missing (va_Pc [.ref v_q0, .int a0] (PreW G (wdX5 G v_q0 v_q1 v_q2 v_q3 v_q4 v_q5 v_q6 v_q7 v_q8 v_q9 v_q10 v_q11 v_q12 v_q13 v_q14 v_q15 v_q16 v_thrown v_gain v_size v_w v_s v_h v_laidArea v_parts v_isMinus v_readSpot v_isStar v_wantsNumber v_waiting v_shiftX v_shiftY v_times v_dotsLaid v_joinedLaid v_hash v_isThereA v_vA v_spotOfA v_inMiddleA v_tintsA v_bufferA v_valuesA v_ranksA v_oldRanksA v_partA v_allRanksA v_basesA v_isMetA v_metXA v_metYA v_lineA))) (vp_Si (fun r => r = o0 ∧ True)) 0 0 (fun _ => False) := by
  refine of_ri (cc := cX5_missing) (maxL := 2) (ty := .int) (plainFor_of_name (by decide)) rfl (Nat.le_of_ble_eq_true rfl) ?_
  intro p e s m args below meth c ls Q S hl hP hK hret
  have S : CallFix p m c cX5_missing 2 s args wsX5_missing RX5 := S
  obtain ⟨hx, hb, hml, hown, hts⟩ := id S
  have hl : lv_has ls 2 [(0, .ref v_q0), (1, .int a0)] := hl
  unfold mX5_missing at h
  refine lv_iload_n hx hb dX5_missing_0 rfl (lv_at hl 1 rfl) ?_
  obtain ⟨r1_0, g1, h⟩ := bnd1_e h
  refine roSi1 (rest := []) (As := [.int a0]) S (ctX5_isSlot l G a0 r1_0 g1) (va_cwS 1 hts gX5_missing_X5_isSlot rfl rfl rfl hsX5_isSlot ⟨Nat.le_of_ble_eq_true rfl, Nat.le_of_ble_eq_true rfl⟩) hK hP [] rfl rfl hl.1 rfl (Nat.le_of_ble_eq_true rfl) dX5_missing_1 ⟨Nat.le_refl _, Nat.le_refl _⟩ (fun hz1 => ?_)
  refine lv_if_ne (tgt := 11) hx hb dX5_missing_4 (by decide) (fun c2 => ?_) (fun c2 => ?_)
  · replace h := ite_f c2 h
    refine lv_aload_n hx hb dX5_missing_11 rfl (lv_at hl 0 rfl) ?_
    refine va_get (D := G.1) (ci := 5) (v := .ref v_q1) (C := RX5) (T := TX5) (N := 35) hx hb hts fw_X5_missing_X5 hown hK.1 hP 0 rfl rfl 1 (by decide) (hts (.fieldLink RX5 7 "HalftoneScreensModel" "isThere" "[Z") lk_X5_missing_f7) (fun _ h9 => h9) rfl dX5_missing_12 ?_
    refine lv_iload_n hx hb dX5_missing_15 rfl (lv_at hl 1 rfl) ?_
    obtain ⟨i3, h⟩ := gd_e h
    refine va_zald hx hb hK.1 hP 1 1 rfl rfl i3 dX5_missing_16 ?_
    refine lv_if_eq (tgt := 24) hx hb dX5_missing_17 (by decide) (fun c4 => ?_) (fun c4 => ?_)
    · replace h := ite_t c4 h
      refine lv_iconst (v := 2) hx hb dX5_missing_24 (by decide) ?_
      exact hret _ _ _ ⟨smi h, trivial⟩ rfl dX5_missing_25
    · replace h := ite_f c4 h
      refine lv_iconst (v := 0) hx hb dX5_missing_20 (by decide) ?_
      refine lv_goto (tgt := 25) hx hb dX5_missing_21 (by decide) ?_
      exact hret _ _ _ ⟨smi h, trivial⟩ rfl dX5_missing_25
  · replace h := ite_t c2 h
    refine lv_iconst (v := 1) hx hb dX5_missing_7 (by decide) ?_
    refine lv_goto (tgt := 25) hx hb dX5_missing_8 (by decide) ?_
    exact hret _ _ _ ⟨smi h, trivial⟩ rfl dX5_missing_25
theorem fw_X5_areaIn_X5 : ∀ w ∈ wsX50, w ∈ wsX5_areaIn := fun w h => List.mem_cons_of_mem _ (List.mem_append_right _ h)
theorem lk_X5_areaIn_f13 : Cond.fieldLink RX5 13 "HalftoneScreensModel" "v" "[I" ∈ wsX5_areaIn := List.mem_of_getElem? (i := 1) rfl
theorem hsX5_areaOf : yX5_areaOf.cls ≠ "java/lang/invoke/MethodHandle" ∧ yX5_areaOf.cls ≠ "java/lang/invoke/VarHandle" ∧ (parseMethodDescriptor yX5_areaOf.desc).map (fun d => d.parameters.length) = some 4 := by decide +kernel
theorem hvX5_areaOf : yX5_areaOf.cls = RX5 ∧ yX5_areaOf.cls ≠ "java/lang/invoke/MethodHandle" ∧ yX5_areaOf.cls ≠ "java/lang/invoke/VarHandle" ∧ (parseMethodDescriptor yX5_areaOf.desc).map (fun d => d.parameters.length) = some 4 := ⟨rfl, hsX5_areaOf⟩
abbrev rmX5_areaIn : Room := { frames := 2, cells := 0, slots := 0, locals := 43 }
set_option maxHeartbeats 4000000 in
set_option maxRecDepth 100000 in
theorem ctX5_areaIn (l : Launch) (G : GG) (v_q0 : Nat) (v_q1 : Nat) (v_q2 : Nat) (v_q3 : Nat) (v_q4 : Nat) (v_q5 : Nat) (v_q6 : Nat) (v_q7 : Nat) (v_q8 : Nat) (v_q9 : Nat) (v_q10 : Nat) (v_q11 : Nat) (v_q12 : Nat) (v_q13 : Nat) (v_q14 : Nat) (v_q15 : Nat) (v_q16 : Nat) (v_thrown : Int32) (v_gain : Int32) (v_size : Int32) (v_w : Int32) (v_s : Int32) (v_h : Int32) (v_laidArea : Int32) (v_parts : Int32) (v_isMinus : Int32) (v_readSpot : Int32) (v_isStar : Int32) (v_wantsNumber : Int32) (v_waiting : Int32) (v_shiftX : Int32) (v_shiftY : Int32) (v_times : Int32) (v_dotsLaid : Int32) (v_joinedLaid : Int32) (v_hash : Int64) (v_isThereA : (Nat → Int32)) (v_vA : (Nat → Int32)) (v_spotOfA : (Nat → Int32)) (v_inMiddleA : (Nat → Int32)) (v_tintsA : (Nat → Int32)) (v_bufferA : (Nat → Int32)) (v_valuesA : (Nat → Int32)) (v_ranksA : (Nat → Int32)) (v_oldRanksA : (Nat → Int32)) (v_partA : (Nat → Int32)) (v_allRanksA : (Nat → Int32)) (v_basesA : (Nat → Int32)) (v_isMetA : (Nat → Int32)) (v_metXA : (Nat → Int32)) (v_metYA : (Nat → Int32)) (v_lineA : (Nat → Int32)) (a0 : Int32) (o0 : Int32) (h : mX5_areaIn v_vA a0 = some (o0))  : Met l yX5_areaIn wsX5_areaIn rmX5_areaIn (va_Pc [.ref v_q0, .int a0] (PreW G (wdX5 G v_q0 v_q1 v_q2 v_q3 v_q4 v_q5 v_q6 v_q7 v_q8 v_q9 v_q10 v_q11 v_q12 v_q13 v_q14 v_q15 v_q16 v_thrown v_gain v_size v_w v_s v_h v_laidArea v_parts v_isMinus v_readSpot v_isStar v_wantsNumber v_waiting v_shiftX v_shiftY v_times v_dotsLaid v_joinedLaid v_hash v_isThereA v_vA v_spotOfA v_inMiddleA v_tintsA v_bufferA v_valuesA v_ranksA v_oldRanksA v_partA v_allRanksA v_basesA v_isMetA v_metXA v_metYA v_lineA))) (vp_Si (fun r => r = o0 ∧ True)) 0 0 (fun _ => False) := by
  refine of_ri (cc := cX5_areaIn) (maxL := 2) (ty := .int) (plainFor_of_name (by decide)) rfl (Nat.le_of_ble_eq_true rfl) ?_
  intro p e s m args below meth c ls Q S hl hP hK hret
  have S : CallFix p m c cX5_areaIn 2 s args wsX5_areaIn RX5 := S
  obtain ⟨hx, hb, hml, hown, hts⟩ := id S
  have hl : lv_has ls 2 [(0, .ref v_q0), (1, .int a0)] := hl
  unfold mX5_areaIn at h
  refine lv_aload_n hx hb dX5_areaIn_0 rfl (lv_at hl 0 rfl) ?_
  refine va_get (D := G.1) (ci := 5) (v := .ref v_q2) (C := RX5) (T := TX5) (N := 35) hx hb hts fw_X5_areaIn_X5 hown hK.1 hP 0 rfl rfl 2 (by decide) (hts (.fieldLink RX5 13 "HalftoneScreensModel" "v" "[I") lk_X5_areaIn_f13) (fun _ h9 => h9) rfl dX5_areaIn_1 ?_
  refine lv_iconst (v := 4) hx hb dX5_areaIn_4 (by decide) ?_
  refine lv_iload_n hx hb dX5_areaIn_5 rfl (lv_at hl 1 rfl) ?_
  refine lv_imul hx hb dX5_areaIn_6 ?_
  obtain ⟨i1, h⟩ := gd_e h
  refine va_iald hx hb hK.1 hP 2 0 rfl rfl i1 dX5_areaIn_7 ?_
  refine lv_aload_n hx hb dX5_areaIn_8 rfl (lv_at hl 0 rfl) ?_
  refine va_get (D := G.1) (ci := 5) (v := .ref v_q2) (C := RX5) (T := TX5) (N := 35) hx hb hts fw_X5_areaIn_X5 hown hK.1 hP 0 rfl rfl 2 (by decide) (hts (.fieldLink RX5 13 "HalftoneScreensModel" "v" "[I") lk_X5_areaIn_f13) (fun _ h9 => h9) rfl dX5_areaIn_9 ?_
  refine lv_iconst (v := 4) hx hb dX5_areaIn_12 (by decide) ?_
  refine lv_iload_n hx hb dX5_areaIn_13 rfl (lv_at hl 1 rfl) ?_
  refine lv_imul hx hb dX5_areaIn_14 ?_
  refine lv_iconst (v := 1) hx hb dX5_areaIn_15 (by decide) ?_
  refine lv_iadd hx hb dX5_areaIn_16 ?_
  obtain ⟨i2, h⟩ := gd_e h
  refine va_iald hx hb hK.1 hP 2 0 rfl rfl i2 dX5_areaIn_17 ?_
  refine lv_aload_n hx hb dX5_areaIn_18 rfl (lv_at hl 0 rfl) ?_
  refine va_get (D := G.1) (ci := 5) (v := .ref v_q2) (C := RX5) (T := TX5) (N := 35) hx hb hts fw_X5_areaIn_X5 hown hK.1 hP 0 rfl rfl 2 (by decide) (hts (.fieldLink RX5 13 "HalftoneScreensModel" "v" "[I") lk_X5_areaIn_f13) (fun _ h9 => h9) rfl dX5_areaIn_19 ?_
  refine lv_iconst (v := 4) hx hb dX5_areaIn_22 (by decide) ?_
  refine lv_iload_n hx hb dX5_areaIn_23 rfl (lv_at hl 1 rfl) ?_
  refine lv_imul hx hb dX5_areaIn_24 ?_
  refine lv_iconst (v := 2) hx hb dX5_areaIn_25 (by decide) ?_
  refine lv_iadd hx hb dX5_areaIn_26 ?_
  obtain ⟨i3, h⟩ := gd_e h
  refine va_iald hx hb hK.1 hP 2 0 rfl rfl i3 dX5_areaIn_27 ?_
  refine lv_aload_n hx hb dX5_areaIn_28 rfl (lv_at hl 0 rfl) ?_
  refine va_get (D := G.1) (ci := 5) (v := .ref v_q2) (C := RX5) (T := TX5) (N := 35) hx hb hts fw_X5_areaIn_X5 hown hK.1 hP 0 rfl rfl 2 (by decide) (hts (.fieldLink RX5 13 "HalftoneScreensModel" "v" "[I") lk_X5_areaIn_f13) (fun _ h9 => h9) rfl dX5_areaIn_29 ?_
  refine lv_iconst (v := 4) hx hb dX5_areaIn_32 (by decide) ?_
  refine lv_iload_n hx hb dX5_areaIn_33 rfl (lv_at hl 1 rfl) ?_
  refine lv_imul hx hb dX5_areaIn_34 ?_
  refine lv_iconst (v := 3) hx hb dX5_areaIn_35 (by decide) ?_
  refine lv_iadd hx hb dX5_areaIn_36 ?_
  obtain ⟨i4, h⟩ := gd_e h
  refine va_iald hx hb hK.1 hP 2 0 rfl rfl i4 dX5_areaIn_37 ?_
  obtain ⟨r5_0, g5, h⟩ := bnd1_e h
  refine roSi1 (rest := []) (As := [.int (v_vA (4 * a0).toNatClampNeg), .int (v_vA ((4 * a0) + 1).toNatClampNeg), .int (v_vA ((4 * a0) + 2).toNatClampNeg), .int (v_vA ((4 * a0) + 3).toNatClampNeg)]) S (ctX5_areaOf l G (v_vA (4 * a0).toNatClampNeg) (v_vA ((4 * a0) + 1).toNatClampNeg) (v_vA ((4 * a0) + 2).toNatClampNeg) (v_vA ((4 * a0) + 3).toNatClampNeg) r5_0 g5) (va_cwS 4 hts gX5_areaIn_X5_areaOf rfl rfl rfl hsX5_areaOf ⟨Nat.le_of_ble_eq_true rfl, Nat.le_of_ble_eq_true rfl⟩) hK hP [] rfl rfl hl.1 rfl (Nat.le_of_ble_eq_true rfl) dX5_areaIn_38 ⟨Nat.le_refl _, Nat.le_refl _⟩ (fun _ => ?_)
  exact hret _ _ _ ⟨smi h, trivial⟩ rfl dX5_areaIn_41
theorem fw_X5_placeAt_X5 : ∀ w ∈ wsX50, w ∈ wsX5_placeAt := fun w h => List.mem_cons_of_mem _ (List.mem_append_right _ h)
theorem lk_X5_placeAt_f82 : Cond.fieldLink RX5 82 "HalftoneScreensModel" "h" "I" ∈ wsX5_placeAt := List.mem_of_getElem? (i := 1) rfl
theorem lk_X5_placeAt_f89 : Cond.fieldLink RX5 89 "HalftoneScreensModel" "w" "I" ∈ wsX5_placeAt := List.mem_of_getElem? (i := 2) rfl
theorem lk_X5_placeAt_f92 : Cond.fieldLink RX5 92 "HalftoneScreensModel" "s" "I" ∈ wsX5_placeAt := List.mem_of_getElem? (i := 3) rfl
theorem hsX5_floor : yX5_floor.cls ≠ "java/lang/invoke/MethodHandle" ∧ yX5_floor.cls ≠ "java/lang/invoke/VarHandle" ∧ (parseMethodDescriptor yX5_floor.desc).map (fun d => d.parameters.length) = some 2 := by decide +kernel
theorem hvX5_floor : yX5_floor.cls = RX5 ∧ yX5_floor.cls ≠ "java/lang/invoke/MethodHandle" ∧ yX5_floor.cls ≠ "java/lang/invoke/VarHandle" ∧ (parseMethodDescriptor yX5_floor.desc).map (fun d => d.parameters.length) = some 2 := ⟨rfl, hsX5_floor⟩
abbrev rmX5_placeAt : Room := { frames := 2, cells := 0, slots := 0, locals := 43 }
set_option maxHeartbeats 4000000 in
set_option maxRecDepth 100000 in
theorem ctX5_placeAt (l : Launch) (G : GG) (v_q0 : Nat) (v_q1 : Nat) (v_q2 : Nat) (v_q3 : Nat) (v_q4 : Nat) (v_q5 : Nat) (v_q6 : Nat) (v_q7 : Nat) (v_q8 : Nat) (v_q9 : Nat) (v_q10 : Nat) (v_q11 : Nat) (v_q12 : Nat) (v_q13 : Nat) (v_q14 : Nat) (v_q15 : Nat) (v_q16 : Nat) (v_thrown : Int32) (v_gain : Int32) (v_size : Int32) (v_w : Int32) (v_s : Int32) (v_h : Int32) (v_laidArea : Int32) (v_parts : Int32) (v_isMinus : Int32) (v_readSpot : Int32) (v_isStar : Int32) (v_wantsNumber : Int32) (v_waiting : Int32) (v_shiftX : Int32) (v_shiftY : Int32) (v_times : Int32) (v_dotsLaid : Int32) (v_joinedLaid : Int32) (v_hash : Int64) (v_isThereA : (Nat → Int32)) (v_vA : (Nat → Int32)) (v_spotOfA : (Nat → Int32)) (v_inMiddleA : (Nat → Int32)) (v_tintsA : (Nat → Int32)) (v_bufferA : (Nat → Int32)) (v_valuesA : (Nat → Int32)) (v_ranksA : (Nat → Int32)) (v_oldRanksA : (Nat → Int32)) (v_partA : (Nat → Int32)) (v_allRanksA : (Nat → Int32)) (v_basesA : (Nat → Int32)) (v_isMetA : (Nat → Int32)) (v_metXA : (Nat → Int32)) (v_metYA : (Nat → Int32)) (v_lineA : (Nat → Int32)) (a0 : Int32) (a1 : Int32) (o0 : Int32) (h : mX5_placeAt v_w v_s v_h a0 a1 = some (o0))  : Met l yX5_placeAt wsX5_placeAt rmX5_placeAt (va_Pc [.ref v_q0, .int a0, .int a1] (PreW G (wdX5 G v_q0 v_q1 v_q2 v_q3 v_q4 v_q5 v_q6 v_q7 v_q8 v_q9 v_q10 v_q11 v_q12 v_q13 v_q14 v_q15 v_q16 v_thrown v_gain v_size v_w v_s v_h v_laidArea v_parts v_isMinus v_readSpot v_isStar v_wantsNumber v_waiting v_shiftX v_shiftY v_times v_dotsLaid v_joinedLaid v_hash v_isThereA v_vA v_spotOfA v_inMiddleA v_tintsA v_bufferA v_valuesA v_ranksA v_oldRanksA v_partA v_allRanksA v_basesA v_isMetA v_metXA v_metYA v_lineA))) (vp_Si (fun r => r = o0 ∧ True)) 0 0 (fun _ => False) := by
  refine of_ri (cc := cX5_placeAt) (maxL := 4) (ty := .int) (plainFor_of_name (by decide)) rfl (Nat.le_of_ble_eq_true rfl) ?_
  intro p e s m args below meth c ls Q S hl hP hK hret
  have S : CallFix p m c cX5_placeAt 4 s args wsX5_placeAt RX5 := S
  obtain ⟨hx, hb, hml, hown, hts⟩ := id S
  have hl : lv_has ls 4 [(0, .ref v_q0), (1, .int a0), (2, .int a1)] := hl
  unfold mX5_placeAt at h
  refine lv_iload_n hx hb dX5_placeAt_0 rfl (lv_at hl 2 rfl) ?_
  refine lv_aload_n hx hb dX5_placeAt_1 rfl (lv_at hl 0 rfl) ?_
  refine va_get (D := G.1) (ci := 5) (v := .int v_h) (C := RX5) (T := TX5) (N := 35) hx hb hts fw_X5_placeAt_X5 hown hK.1 hP 0 rfl rfl 11 (by decide) (hts (.fieldLink RX5 82 "HalftoneScreensModel" "h" "I") lk_X5_placeAt_f82) (fun _ h9 => h9) rfl dX5_placeAt_2 ?_
  obtain ⟨r1_0, g1, h⟩ := bnd1_e h
  refine roSi1 (rest := []) (As := [.int a1, .int v_h]) S (ctX5_floor l G a1 v_h r1_0 g1) (va_cwS 2 hts gX5_placeAt_X5_floor rfl rfl rfl hsX5_floor ⟨Nat.le_of_ble_eq_true rfl, Nat.le_of_ble_eq_true rfl⟩) hK hP [] rfl rfl hl.1 rfl (Nat.le_of_ble_eq_true rfl) dX5_placeAt_5 ⟨Nat.le_refl _, Nat.le_refl _⟩ (fun _ => ?_)
  refine lv_istore_n (lv' := [(3, .int r1_0), (0, .ref v_q0), (1, .int a0), (2, .int a1)]) hx hb dX5_placeAt_8 rfl hl (by decide) rfl (fun ls hl => ?_)
  refine lv_iload_n hx hb dX5_placeAt_9 rfl (lv_at hl 3 rfl) ?_
  refine lv_iload_n hx hb dX5_placeAt_10 rfl (lv_at hl 0 rfl) ?_
  refine lv_aload_n hx hb dX5_placeAt_11 rfl (lv_at hl 1 rfl) ?_
  refine va_get (D := G.1) (ci := 5) (v := .int v_h) (C := RX5) (T := TX5) (N := 35) hx hb hts fw_X5_placeAt_X5 hown hK.1 hP 0 rfl rfl 11 (by decide) (hts (.fieldLink RX5 82 "HalftoneScreensModel" "h" "I") lk_X5_placeAt_f82) (fun _ h9 => h9) rfl dX5_placeAt_12 ?_
  refine lv_imul hx hb dX5_placeAt_15 ?_
  refine lv_isub hx hb dX5_placeAt_16 ?_
  refine lv_aload_n hx hb dX5_placeAt_17 rfl (lv_at hl 1 rfl) ?_
  refine va_get (D := G.1) (ci := 5) (v := .int v_w) (C := RX5) (T := TX5) (N := 35) hx hb hts fw_X5_placeAt_X5 hown hK.1 hP 0 rfl rfl 9 (by decide) (hts (.fieldLink RX5 89 "HalftoneScreensModel" "w" "I") lk_X5_placeAt_f89) (fun _ h9 => h9) rfl dX5_placeAt_18 ?_
  refine lv_imul hx hb dX5_placeAt_21 ?_
  refine lv_iload_n hx hb dX5_placeAt_22 rfl (lv_at hl 2 rfl) ?_
  refine lv_iload_n hx hb dX5_placeAt_23 rfl (lv_at hl 0 rfl) ?_
  refine lv_aload_n hx hb dX5_placeAt_24 rfl (lv_at hl 1 rfl) ?_
  refine va_get (D := G.1) (ci := 5) (v := .int v_s) (C := RX5) (T := TX5) (N := 35) hx hb hts fw_X5_placeAt_X5 hown hK.1 hP 0 rfl rfl 10 (by decide) (hts (.fieldLink RX5 92 "HalftoneScreensModel" "s" "I") lk_X5_placeAt_f92) (fun _ h9 => h9) rfl dX5_placeAt_25 ?_
  refine lv_imul hx hb dX5_placeAt_28 ?_
  refine lv_isub hx hb dX5_placeAt_29 ?_
  refine lv_aload_n hx hb dX5_placeAt_30 rfl (lv_at hl 1 rfl) ?_
  refine va_get (D := G.1) (ci := 5) (v := .int v_w) (C := RX5) (T := TX5) (N := 35) hx hb hts fw_X5_placeAt_X5 hown hK.1 hP 0 rfl rfl 9 (by decide) (hts (.fieldLink RX5 89 "HalftoneScreensModel" "w" "I") lk_X5_placeAt_f89) (fun _ h9 => h9) rfl dX5_placeAt_31 ?_
  obtain ⟨r2_0, g2, h⟩ := bnd1_e h
  refine roSi1 (rest := [.int ((a1 - (r1_0 * v_h)) * v_w)]) (As := [.int (a0 - (r1_0 * v_s)), .int v_w]) S (ctX5_mod l G (a0 - (r1_0 * v_s)) v_w r2_0 g2) (va_cwS 2 hts gX5_placeAt_X5_mod rfl rfl rfl hsX5_mod ⟨Nat.le_of_ble_eq_true rfl, Nat.le_of_ble_eq_true rfl⟩) hK hP [] rfl rfl hl.1 rfl (Nat.le_of_ble_eq_true rfl) dX5_placeAt_34 ⟨Nat.le_refl _, Nat.le_refl _⟩ (fun _ => ?_)
  refine lv_iadd hx hb dX5_placeAt_37 ?_
  exact hret _ _ _ ⟨smi h, trivial⟩ rfl dX5_placeAt_38
theorem fw_X5_nearestValue_X5 : ∀ w ∈ wsX50, w ∈ wsX5_nearestValue := fun w h => List.mem_cons_of_mem _ (List.mem_append_right _ h)
theorem lk_X5_nearestValue_f89 : Cond.fieldLink RX5 89 "HalftoneScreensModel" "w" "I" ∈ wsX5_nearestValue := List.mem_of_getElem? (i := 1) rfl
theorem lk_X5_nearestValue_f82 : Cond.fieldLink RX5 82 "HalftoneScreensModel" "h" "I" ∈ wsX5_nearestValue := List.mem_of_getElem? (i := 2) rfl
theorem lk_X5_nearestValue_f92 : Cond.fieldLink RX5 92 "HalftoneScreensModel" "s" "I" ∈ wsX5_nearestValue := List.mem_of_getElem? (i := 3) rfl
abbrev rmX5_nearestValue : Room := { frames := 2, cells := 0, slots := 0, locals := 43 }
set_option maxHeartbeats 4000000 in
set_option maxRecDepth 100000 in
theorem ctX5_nearestValue (l : Launch) (G : GG) (v_q0 : Nat) (v_q1 : Nat) (v_q2 : Nat) (v_q3 : Nat) (v_q4 : Nat) (v_q5 : Nat) (v_q6 : Nat) (v_q7 : Nat) (v_q8 : Nat) (v_q9 : Nat) (v_q10 : Nat) (v_q11 : Nat) (v_q12 : Nat) (v_q13 : Nat) (v_q14 : Nat) (v_q15 : Nat) (v_q16 : Nat) (v_thrown : Int32) (v_gain : Int32) (v_size : Int32) (v_w : Int32) (v_s : Int32) (v_h : Int32) (v_laidArea : Int32) (v_parts : Int32) (v_isMinus : Int32) (v_readSpot : Int32) (v_isStar : Int32) (v_wantsNumber : Int32) (v_waiting : Int32) (v_shiftX : Int32) (v_shiftY : Int32) (v_times : Int32) (v_dotsLaid : Int32) (v_joinedLaid : Int32) (v_hash : Int64) (v_isThereA : (Nat → Int32)) (v_vA : (Nat → Int32)) (v_spotOfA : (Nat → Int32)) (v_inMiddleA : (Nat → Int32)) (v_tintsA : (Nat → Int32)) (v_bufferA : (Nat → Int32)) (v_valuesA : (Nat → Int32)) (v_ranksA : (Nat → Int32)) (v_oldRanksA : (Nat → Int32)) (v_partA : (Nat → Int32)) (v_allRanksA : (Nat → Int32)) (v_basesA : (Nat → Int32)) (v_isMetA : (Nat → Int32)) (v_metXA : (Nat → Int32)) (v_metYA : (Nat → Int32)) (v_lineA : (Nat → Int32)) (a0 : Int32) (a1 : Int32) (a2 : Int32) (a3 : Int32) (a4 : Int32) (o0 : Int32) (h : mX5_nearestValue v_w v_s v_h a0 a1 a2 a3 a4 = some (o0))  : Met l yX5_nearestValue wsX5_nearestValue rmX5_nearestValue (va_Pc [.ref v_q0, .int a0, .int a1, .int a2, .int a3, .int a4] (PreW G (wdX5 G v_q0 v_q1 v_q2 v_q3 v_q4 v_q5 v_q6 v_q7 v_q8 v_q9 v_q10 v_q11 v_q12 v_q13 v_q14 v_q15 v_q16 v_thrown v_gain v_size v_w v_s v_h v_laidArea v_parts v_isMinus v_readSpot v_isStar v_wantsNumber v_waiting v_shiftX v_shiftY v_times v_dotsLaid v_joinedLaid v_hash v_isThereA v_vA v_spotOfA v_inMiddleA v_tintsA v_bufferA v_valuesA v_ranksA v_oldRanksA v_partA v_allRanksA v_basesA v_isMetA v_metXA v_metYA v_lineA))) (vp_Si (fun r => r = o0 ∧ True)) 0 0 (fun _ => False) := by
  refine of_ri (cc := cX5_nearestValue) (maxL := 14) (ty := .int) (plainFor_of_name (by decide)) rfl (Nat.le_of_ble_eq_true rfl) ?_
  intro p e s m args below meth c ls Q S hl hP hK hret
  have S : CallFix p m c cX5_nearestValue 14 s args wsX5_nearestValue RX5 := S
  obtain ⟨hx, hb, hml, hown, hts⟩ := id S
  have hl : lv_has ls 14 [(0, .ref v_q0), (1, .int a0), (2, .int a1), (3, .int a2), (4, .int a3), (5, .int a4)] := hl
  unfold mX5_nearestValue at h
  refine lv_iconst (v := (-1)) hx hb dX5_nearestValue_0 (by decide) ?_
  refine lv_istore (lv' := [(6, .int (-1)), (0, .ref v_q0), (1, .int a0), (2, .int a1), (3, .int a2), (4, .int a3), (5, .int a4)]) hx hb dX5_nearestValue_1 hl (by decide) rfl (fun ls hl => ?_)
  refine lv_iconst (v := 2) hx hb dX5_nearestValue_3 (by decide) ?_
  refine lv_iload_n hx hb dX5_nearestValue_4 rfl (lv_at hl 3 rfl) ?_
  refine lv_imul hx hb dX5_nearestValue_5 ?_
  refine lv_iload hx hb dX5_nearestValue_6 (lv_at hl 5 rfl) ?_
  refine lv_isub hx hb dX5_nearestValue_8 ?_
  refine lv_aload_n hx hb dX5_nearestValue_9 rfl (lv_at hl 1 rfl) ?_
  refine va_get (D := G.1) (ci := 5) (v := .int v_w) (C := RX5) (T := TX5) (N := 35) hx hb hts fw_X5_nearestValue_X5 hown hK.1 hP 0 rfl rfl 9 (by decide) (hts (.fieldLink RX5 89 "HalftoneScreensModel" "w" "I") lk_X5_nearestValue_f89) (fun _ h9 => h9) rfl dX5_nearestValue_10 ?_
  refine lv_isub hx hb dX5_nearestValue_13 ?_
  refine lv_aload_n hx hb dX5_nearestValue_14 rfl (lv_at hl 1 rfl) ?_
  refine va_get (D := G.1) (ci := 5) (v := .int v_h) (C := RX5) (T := TX5) (N := 35) hx hb hts fw_X5_nearestValue_X5 hown hK.1 hP 0 rfl rfl 11 (by decide) (hts (.fieldLink RX5 82 "HalftoneScreensModel" "h" "I") lk_X5_nearestValue_f82) (fun _ h9 => h9) rfl dX5_nearestValue_15 ?_
  refine lv_isub hx hb dX5_nearestValue_18 ?_
  refine lv_iconst (v := 2) hx hb dX5_nearestValue_19 (by decide) ?_
  refine lv_aload_n hx hb dX5_nearestValue_20 rfl (lv_at hl 1 rfl) ?_
  refine va_get (D := G.1) (ci := 5) (v := .int v_h) (C := RX5) (T := TX5) (N := 35) hx hb hts fw_X5_nearestValue_X5 hown hK.1 hP 0 rfl rfl 11 (by decide) (hts (.fieldLink RX5 82 "HalftoneScreensModel" "h" "I") lk_X5_nearestValue_f82) (fun _ h9 => h9) rfl dX5_nearestValue_21 ?_
  refine lv_imul hx hb dX5_nearestValue_24 ?_
  obtain ⟨r1_0, g1, h⟩ := bnd1_e h
  refine roSi1 (rest := []) (As := [.int ((((2 * a1) - a3) - v_w) - v_h), .int (2 * v_h)]) S (ctX5_floor l G ((((2 * a1) - a3) - v_w) - v_h) (2 * v_h) r1_0 g1) (va_cwS 2 hts gX5_nearestValue_X5_floor rfl rfl rfl hsX5_floor ⟨Nat.le_of_ble_eq_true rfl, Nat.le_of_ble_eq_true rfl⟩) hK hP [] rfl rfl hl.1 rfl (Nat.le_of_ble_eq_true rfl) dX5_nearestValue_25 ⟨Nat.le_refl _, Nat.le_refl _⟩ (fun _ => ?_)
  refine lv_istore (lv' := [(7, .int r1_0), (6, .int (-1)), (0, .ref v_q0), (1, .int a0), (2, .int a1), (3, .int a2), (4, .int a3), (5, .int a4)]) hx hb dX5_nearestValue_28 hl (by decide) rfl (fun ls hl => ?_)
  refine lv_iconst (v := 2) hx hb dX5_nearestValue_30 (by decide) ?_
  refine lv_iload_n hx hb dX5_nearestValue_31 rfl (lv_at hl 4 rfl) ?_
  refine lv_imul hx hb dX5_nearestValue_32 ?_
  refine lv_iload hx hb dX5_nearestValue_33 (lv_at hl 6 rfl) ?_
  refine lv_isub hx hb dX5_nearestValue_35 ?_
  refine lv_aload_n hx hb dX5_nearestValue_36 rfl (lv_at hl 2 rfl) ?_
  refine va_get (D := G.1) (ci := 5) (v := .int v_w) (C := RX5) (T := TX5) (N := 35) hx hb hts fw_X5_nearestValue_X5 hown hK.1 hP 0 rfl rfl 9 (by decide) (hts (.fieldLink RX5 89 "HalftoneScreensModel" "w" "I") lk_X5_nearestValue_f89) (fun _ h9 => h9) rfl dX5_nearestValue_37 ?_
  refine lv_iadd hx hb dX5_nearestValue_40 ?_
  refine lv_aload_n hx hb dX5_nearestValue_41 rfl (lv_at hl 2 rfl) ?_
  refine va_get (D := G.1) (ci := 5) (v := .int v_h) (C := RX5) (T := TX5) (N := 35) hx hb hts fw_X5_nearestValue_X5 hown hK.1 hP 0 rfl rfl 11 (by decide) (hts (.fieldLink RX5 82 "HalftoneScreensModel" "h" "I") lk_X5_nearestValue_f82) (fun _ h9 => h9) rfl dX5_nearestValue_42 ?_
  refine lv_iadd hx hb dX5_nearestValue_45 ?_
  refine lv_iconst (v := 2) hx hb dX5_nearestValue_46 (by decide) ?_
  refine lv_aload_n hx hb dX5_nearestValue_47 rfl (lv_at hl 2 rfl) ?_
  refine va_get (D := G.1) (ci := 5) (v := .int v_h) (C := RX5) (T := TX5) (N := 35) hx hb hts fw_X5_nearestValue_X5 hown hK.1 hP 0 rfl rfl 11 (by decide) (hts (.fieldLink RX5 82 "HalftoneScreensModel" "h" "I") lk_X5_nearestValue_f82) (fun _ h9 => h9) rfl dX5_nearestValue_48 ?_
  refine lv_imul hx hb dX5_nearestValue_51 ?_
  obtain ⟨r2_0, g2, h⟩ := bnd1_e h
  refine roSi1 (rest := []) (As := [.int ((((2 * a1) - a3) + v_w) + v_h), .int (2 * v_h)]) S (ctX5_floor l G ((((2 * a1) - a3) + v_w) + v_h) (2 * v_h) r2_0 g2) (va_cwS 2 hts gX5_nearestValue_X5_floor rfl rfl rfl hsX5_floor ⟨Nat.le_of_ble_eq_true rfl, Nat.le_of_ble_eq_true rfl⟩) hK hP [] rfl rfl hl.1 rfl (Nat.le_of_ble_eq_true rfl) dX5_nearestValue_52 ⟨Nat.le_refl _, Nat.le_refl _⟩ (fun _ => ?_)
  refine lv_iconst (v := 1) hx hb dX5_nearestValue_55 (by decide) ?_
  refine lv_iadd hx hb dX5_nearestValue_56 ?_
  refine lv_topi (fun x3 e3 => ?_)
  replace h := nmB_e e3 h
  refine lv_istore (lv' := [(8, .int x3), (7, .int r1_0), (6, .int (-1)), (0, .ref v_q0), (1, .int a0), (2, .int a1), (3, .int a2), (4, .int a3), (5, .int a4)]) hx hb dX5_nearestValue_57 hl (by decide) rfl (fun ls hl => ?_)
  refine lv_iload hx hb dX5_nearestValue_59 (lv_at hl 1 rfl) ?_
  refine lv_istore (lv' := [(9, .int r1_0), (8, .int x3), (7, .int r1_0), (6, .int (-1)), (0, .ref v_q0), (1, .int a0), (2, .int a1), (3, .int a2), (4, .int a3), (5, .int a4)]) hx hb dX5_nearestValue_61 hl (by decide) rfl (fun ls hl => ?_)
  obtain ⟨u4_0, u4_1, g4, h⟩ := bnd2_e h
  have L4 : ∀ (fu : Nat) (v4_0 : Int32) (v4_1 : Int32) (u4_0 : Int32) (u4_1 : Int32) (ls : Array Slot), mX5_nearestValue_L63 v_w v_s v_h a0 a1 a2 a3 a4 x3 fu v4_0 v4_1 = some (u4_0, u4_1) → lv_has ls 14 [(9, .int v4_0), (8, .int x3), (7, .int r1_0), (6, .int v4_1), (0, .ref v_q0), (1, .int a0), (2, .int a1), (3, .int a2), (4, .int a3), (5, .int a4)] → (∀ (ls : Array Slot), lv_has ls 14 [(9, .int u4_0), (8, .int x3), (7, .int r1_0), (6, .int u4_1), (0, .ref v_q0), (1, .int a0), (2, .int a1), (3, .int a2), (4, .int a3), (5, .int a4)] → W p l e rmX5_nearestValue s m args below meth c s.heap [] 0 0 Q (F0 m 224 ls [])) → W p l e rmX5_nearestValue s m args below meth c s.heap [] 0 0 Q (F0 m 63 ls []) := by
    intro fu
    induction fu with
    | zero => intro v4_0 v4_1 u4_0 u4_1 ls h; exact nomatch h
    | succ fu ih =>
      intro v4_0 v4_1 u4_0 u4_1 ls h hl kE
      rw [mX5_nearestValue_L63] at h
      refine lv_iload hx hb dX5_nearestValue_63 (lv_at hl 0 rfl) ?_
      refine lv_iload hx hb dX5_nearestValue_65 (lv_at hl 1 rfl) ?_
      refine lv_icmp_gt (tgt := 224) hx hb dX5_nearestValue_67 (by decide) (fun c5 => ?_) (fun c5 => ?_)
      · replace h := ite_t c5 h
        obtain ⟨rfl, rfl⟩ := sm2 h
        exact kE ls hl
      · replace h := ite_f c5 h
        refine lv_iconst (v := 2) hx hb dX5_nearestValue_70 (by decide) ?_
        refine lv_iload_n hx hb dX5_nearestValue_71 rfl (lv_at hl 5 rfl) ?_
        refine lv_imul hx hb dX5_nearestValue_72 ?_
        refine lv_iload_n hx hb dX5_nearestValue_73 rfl (lv_at hl 7 rfl) ?_
        refine lv_isub hx hb dX5_nearestValue_74 ?_
        refine lv_iconst (v := 2) hx hb dX5_nearestValue_75 (by decide) ?_
        refine lv_iload hx hb dX5_nearestValue_76 (lv_at hl 0 rfl) ?_
        refine lv_imul hx hb dX5_nearestValue_78 ?_
        refine lv_aload_n hx hb dX5_nearestValue_79 rfl (lv_at hl 4 rfl) ?_
        refine va_get (D := G.1) (ci := 5) (v := .int v_s) (C := RX5) (T := TX5) (N := 35) hx hb hts fw_X5_nearestValue_X5 hown hK.1 hP 0 rfl rfl 10 (by decide) (hts (.fieldLink RX5 92 "HalftoneScreensModel" "s" "I") lk_X5_nearestValue_f92) (fun _ h9 => h9) rfl dX5_nearestValue_80 ?_
        refine lv_imul hx hb dX5_nearestValue_83 ?_
        refine lv_isub hx hb dX5_nearestValue_84 ?_
        refine lv_iconst (v := 2) hx hb dX5_nearestValue_85 (by decide) ?_
        refine lv_aload_n hx hb dX5_nearestValue_86 rfl (lv_at hl 4 rfl) ?_
        refine va_get (D := G.1) (ci := 5) (v := .int v_w) (C := RX5) (T := TX5) (N := 35) hx hb hts fw_X5_nearestValue_X5 hown hK.1 hP 0 rfl rfl 9 (by decide) (hts (.fieldLink RX5 89 "HalftoneScreensModel" "w" "I") lk_X5_nearestValue_f89) (fun _ h9 => h9) rfl dX5_nearestValue_87 ?_
        refine lv_imul hx hb dX5_nearestValue_90 ?_
        obtain ⟨r6_0, g6, h⟩ := bnd1_e h
        refine roSi1 (rest := []) (As := [.int (((2 * a0) - a2) - ((2 * v4_0) * v_s)), .int (2 * v_w)]) S (ctX5_mod l G (((2 * a0) - a2) - ((2 * v4_0) * v_s)) (2 * v_w) r6_0 g6) (va_cwS 2 hts gX5_nearestValue_X5_mod rfl rfl rfl hsX5_mod ⟨Nat.le_of_ble_eq_true rfl, Nat.le_of_ble_eq_true rfl⟩) hK hP [] rfl rfl hl.1 rfl (Nat.le_of_ble_eq_true rfl) dX5_nearestValue_91 ⟨Nat.le_refl _, Nat.le_refl _⟩ (fun _ => ?_)
        refine lv_istore (lv' := [(10, .int r6_0), (9, .int v4_0), (8, .int x3), (7, .int r1_0), (6, .int v4_1), (0, .ref v_q0), (1, .int a0), (2, .int a1), (3, .int a2), (4, .int a3), (5, .int a4)]) hx hb dX5_nearestValue_94 hl (by decide) rfl (fun ls hl => ?_)
        refine lv_iload hx hb dX5_nearestValue_96 (lv_at hl 0 rfl) ?_
        refine lv_iconst (v := 2) hx hb dX5_nearestValue_98 (by decide) ?_
        refine lv_aload_n hx hb dX5_nearestValue_99 rfl (lv_at hl 5 rfl) ?_
        refine va_get (D := G.1) (ci := 5) (v := .int v_w) (C := RX5) (T := TX5) (N := 35) hx hb hts fw_X5_nearestValue_X5 hown hK.1 hP 0 rfl rfl 9 (by decide) (hts (.fieldLink RX5 89 "HalftoneScreensModel" "w" "I") lk_X5_nearestValue_f89) (fun _ h9 => h9) rfl dX5_nearestValue_100 ?_
        refine lv_imul hx hb dX5_nearestValue_103 ?_
        refine lv_iload hx hb dX5_nearestValue_104 (lv_at hl 0 rfl) ?_
        refine lv_isub hx hb dX5_nearestValue_106 ?_
        obtain ⟨K7, hK7, h⟩ := jB1_e h
        have J7 : ∀ (j7_0 : Int32) (ls : Array Slot), K7 j7_0 = some (u4_0, u4_1) → lv_has ls 14 [(10, .int r6_0), (9, .int v4_0), (8, .int x3), (7, .int r1_0), (6, .int v4_1), (0, .ref v_q0), (1, .int a0), (2, .int a1), (3, .int a2), (4, .int a3), (5, .int a4)] → W p l e rmX5_nearestValue s m args below meth c s.heap [] 0 0 Q (F0 m 124 ls [.int j7_0]) := by
          intro j7_0 ls h hl
          replace h := (hK7 j7_0).symm.trans h
          refine lv_istore (lv' := [(11, .int j7_0), (10, .int r6_0), (9, .int v4_0), (8, .int x3), (7, .int r1_0), (6, .int v4_1), (0, .ref v_q0), (1, .int a0), (2, .int a1), (3, .int a2), (4, .int a3), (5, .int a4)]) hx hb dX5_nearestValue_124 hl (by decide) rfl (fun ls hl => ?_)
          refine lv_iconst (v := 2) hx hb dX5_nearestValue_126 (by decide) ?_
          refine lv_iload_n hx hb dX5_nearestValue_127 rfl (lv_at hl 8 rfl) ?_
          refine lv_imul hx hb dX5_nearestValue_128 ?_
          refine lv_iload hx hb dX5_nearestValue_129 (lv_at hl 10 rfl) ?_
          refine lv_isub hx hb dX5_nearestValue_131 ?_
          refine lv_iconst (v := 2) hx hb dX5_nearestValue_132 (by decide) ?_
          refine lv_iload hx hb dX5_nearestValue_133 (lv_at hl 2 rfl) ?_
          refine lv_imul hx hb dX5_nearestValue_135 ?_
          refine lv_aload_n hx hb dX5_nearestValue_136 rfl (lv_at hl 6 rfl) ?_
          refine va_get (D := G.1) (ci := 5) (v := .int v_h) (C := RX5) (T := TX5) (N := 35) hx hb hts fw_X5_nearestValue_X5 hown hK.1 hP 0 rfl rfl 11 (by decide) (hts (.fieldLink RX5 82 "HalftoneScreensModel" "h" "I") lk_X5_nearestValue_f82) (fun _ h9 => h9) rfl dX5_nearestValue_137 ?_
          refine lv_imul hx hb dX5_nearestValue_140 ?_
          refine lv_isub hx hb dX5_nearestValue_141 ?_
          obtain ⟨r9_0, g9, h⟩ := bnd1_e h
          refine roSi1 (rest := []) (As := [.int (((2 * a1) - a3) - ((2 * v4_0) * v_h))]) S (ctX5_abs l G (((2 * a1) - a3) - ((2 * v4_0) * v_h)) r9_0 g9) (va_cwS 1 hts gX5_nearestValue_X5_abs rfl rfl rfl hsX5_abs ⟨Nat.le_of_ble_eq_true rfl, Nat.le_of_ble_eq_true rfl⟩) hK hP [] rfl rfl hl.1 rfl (Nat.le_of_ble_eq_true rfl) dX5_nearestValue_142 ⟨Nat.le_refl _, Nat.le_refl _⟩ (fun _ => ?_)
          refine lv_istore (lv' := [(12, .int r9_0), (11, .int j7_0), (10, .int r6_0), (9, .int v4_0), (8, .int x3), (7, .int r1_0), (6, .int v4_1), (0, .ref v_q0), (1, .int a0), (2, .int a1), (3, .int a2), (4, .int a3), (5, .int a4)]) hx hb dX5_nearestValue_145 hl (by decide) rfl (fun ls hl => ?_)
          refine lv_iload hx hb dX5_nearestValue_147 (lv_at hl 12 rfl) ?_
          obtain ⟨K10, hK10, h⟩ := jB1_e h
          have J10 : ∀ (j10_0 : Int32) (ls : Array Slot), K10 j10_0 = some (u4_0, u4_1) → lv_has ls 14 [(12, .int r9_0), (11, .int j7_0), (10, .int r6_0), (9, .int v4_0), (8, .int x3), (7, .int r1_0), (6, .int v4_1), (0, .ref v_q0), (1, .int a0), (2, .int a1), (3, .int a2), (4, .int a3), (5, .int a4)] → W p l e rmX5_nearestValue s m args below meth c s.heap [] 0 0 Q (F0 m 194 ls [.int j10_0]) := by
            intro j10_0 ls h hl
            replace h := (hK10 j10_0).symm.trans h
            refine lv_istore (lv' := [(13, .int j10_0), (12, .int r9_0), (11, .int j7_0), (10, .int r6_0), (9, .int v4_0), (8, .int x3), (7, .int r1_0), (6, .int v4_1), (0, .ref v_q0), (1, .int a0), (2, .int a1), (3, .int a2), (4, .int a3), (5, .int a4)]) hx hb dX5_nearestValue_194 hl (by decide) rfl (fun ls hl => ?_)
            refine lv_iload hx hb dX5_nearestValue_196 (lv_at hl 7 rfl) ?_
            refine lv_iconst (v := (-1)) hx hb dX5_nearestValue_198 (by decide) ?_
            refine lv_icmp_eq (tgt := 209) hx hb dX5_nearestValue_199 (by decide) (fun c14 => ?_) (fun c14 => ?_)
            · replace h := ite_t c14 h
              refine lv_iload hx hb dX5_nearestValue_209 (lv_at hl 0 rfl) ?_
              refine lv_goto (tgt := 216) hx hb dX5_nearestValue_211 (by decide) ?_
              refine lv_istore (lv' := [(6, .int j10_0), (13, .int j10_0), (12, .int r9_0), (11, .int j7_0), (10, .int r6_0), (9, .int v4_0), (8, .int x3), (7, .int r1_0), (0, .ref v_q0), (1, .int a0), (2, .int a1), (3, .int a2), (4, .int a3), (5, .int a4)]) hx hb dX5_nearestValue_216 hl (by decide) rfl (fun ls hl => ?_)
              obtain ⟨x15, e15⟩ : ∃ y : Int32, y = v4_0 + 1 := ⟨_, rfl⟩
              replace h := nmB_e e15 h
              refine lv_iinc (v := x15) (lv' := [(9, .int x15), (6, .int j10_0), (13, .int j10_0), (12, .int r9_0), (11, .int j7_0), (10, .int r6_0), (8, .int x3), (7, .int r1_0), (0, .ref v_q0), (1, .int a0), (2, .int a1), (3, .int a2), (4, .int a3), (5, .int a4)]) hx hb dX5_nearestValue_218 hl (k := 5) rfl (by rw [e15]; rfl) (by decide) rfl (fun ls hl => ?_)
              refine lv_goto (tgt := 63) hx hb dX5_nearestValue_221 (by decide) ?_
              exact ih x15 j10_0 u4_0 u4_1 ls h (lv_sub hl [0, 6, 7, 1, 8, 9, 10, 11, 12, 13] rfl) kE
            · replace h := ite_f c14 h
              refine lv_iload hx hb dX5_nearestValue_202 (lv_at hl 0 rfl) ?_
              refine lv_iload hx hb dX5_nearestValue_204 (lv_at hl 7 rfl) ?_
              refine lv_icmp_ge (tgt := 214) hx hb dX5_nearestValue_206 (by decide) (fun c16 => ?_) (fun c16 => ?_)
              · replace h := ite_t c16 h
                refine lv_iload hx hb dX5_nearestValue_214 (lv_at hl 7 rfl) ?_
                refine lv_istore (lv' := [(6, .int v4_1), (13, .int j10_0), (12, .int r9_0), (11, .int j7_0), (10, .int r6_0), (9, .int v4_0), (8, .int x3), (7, .int r1_0), (0, .ref v_q0), (1, .int a0), (2, .int a1), (3, .int a2), (4, .int a3), (5, .int a4)]) hx hb dX5_nearestValue_216 hl (by decide) rfl (fun ls hl => ?_)
                obtain ⟨x17, e17⟩ : ∃ y : Int32, y = v4_0 + 1 := ⟨_, rfl⟩
                replace h := nmB_e e17 h
                refine lv_iinc (v := x17) (lv' := [(9, .int x17), (6, .int v4_1), (13, .int j10_0), (12, .int r9_0), (11, .int j7_0), (10, .int r6_0), (8, .int x3), (7, .int r1_0), (0, .ref v_q0), (1, .int a0), (2, .int a1), (3, .int a2), (4, .int a3), (5, .int a4)]) hx hb dX5_nearestValue_218 hl (k := 5) rfl (by rw [e17]; rfl) (by decide) rfl (fun ls hl => ?_)
                refine lv_goto (tgt := 63) hx hb dX5_nearestValue_221 (by decide) ?_
                exact ih x17 v4_1 u4_0 u4_1 ls h (lv_sub hl [0, 6, 7, 1, 8, 9, 10, 11, 12, 13] rfl) kE
              · replace h := ite_f c16 h
                refine lv_iload hx hb dX5_nearestValue_209 (lv_at hl 0 rfl) ?_
                refine lv_goto (tgt := 216) hx hb dX5_nearestValue_211 (by decide) ?_
                refine lv_istore (lv' := [(6, .int j10_0), (13, .int j10_0), (12, .int r9_0), (11, .int j7_0), (10, .int r6_0), (9, .int v4_0), (8, .int x3), (7, .int r1_0), (0, .ref v_q0), (1, .int a0), (2, .int a1), (3, .int a2), (4, .int a3), (5, .int a4)]) hx hb dX5_nearestValue_216 hl (by decide) rfl (fun ls hl => ?_)
                obtain ⟨x18, e18⟩ : ∃ y : Int32, y = v4_0 + 1 := ⟨_, rfl⟩
                replace h := nmB_e e18 h
                refine lv_iinc (v := x18) (lv' := [(9, .int x18), (6, .int j10_0), (13, .int j10_0), (12, .int r9_0), (11, .int j7_0), (10, .int r6_0), (8, .int x3), (7, .int r1_0), (0, .ref v_q0), (1, .int a0), (2, .int a1), (3, .int a2), (4, .int a3), (5, .int a4)]) hx hb dX5_nearestValue_218 hl (k := 5) rfl (by rw [e18]; rfl) (by decide) rfl (fun ls hl => ?_)
                refine lv_goto (tgt := 63) hx hb dX5_nearestValue_221 (by decide) ?_
                exact ih x18 j10_0 u4_0 u4_1 ls h (lv_sub hl [0, 6, 7, 1, 8, 9, 10, 11, 12, 13] rfl) kE
          refine lv_if_ne (tgt := 166) hx hb dX5_nearestValue_149 (by decide) (fun c11 => ?_) (fun c11 => ?_)
          · replace h := ite_f c11 h
            refine lv_iload hx hb dX5_nearestValue_166 (lv_at hl 12 rfl) ?_
            refine lv_iconst (v := 1) hx hb dX5_nearestValue_168 (by decide) ?_
            refine lv_icmp_ne (tgt := 180) hx hb dX5_nearestValue_169 (by decide) (fun c12 => ?_) (fun c12 => ?_)
            · replace h := ite_f c12 h
              refine lv_iload hx hb dX5_nearestValue_180 (lv_at hl 1 rfl) ?_
              refine lv_iload hx hb dX5_nearestValue_182 (lv_at hl 0 rfl) ?_
              refine lv_icmp_le (tgt := 192) hx hb dX5_nearestValue_184 (by decide) (fun c13 => ?_) (fun c13 => ?_)
              · replace h := ite_t c13 h
                refine lv_iload hx hb dX5_nearestValue_192 (lv_at hl 0 rfl) ?_
                exact J10 r9_0 ls h hl
              · replace h := ite_f c13 h
                refine lv_iload hx hb dX5_nearestValue_187 (lv_at hl 1 rfl) ?_
                refine lv_goto (tgt := 194) hx hb dX5_nearestValue_189 (by decide) ?_
                exact J10 j7_0 ls h hl
            · replace h := ite_t c12 h
              refine lv_iload hx hb dX5_nearestValue_172 (lv_at hl 1 rfl) ?_
              refine lv_iload hx hb dX5_nearestValue_174 (lv_at hl 0 rfl) ?_
              refine lv_iadd hx hb dX5_nearestValue_176 ?_
              refine lv_goto (tgt := 194) hx hb dX5_nearestValue_177 (by decide) ?_
              exact J10 (j7_0 + r9_0) ls h hl
          · replace h := ite_t c11 h
            refine lv_iload hx hb dX5_nearestValue_152 (lv_at hl 1 rfl) ?_
            refine lv_iload hx hb dX5_nearestValue_154 (lv_at hl 1 rfl) ?_
            refine lv_imul hx hb dX5_nearestValue_156 ?_
            refine lv_iload hx hb dX5_nearestValue_157 (lv_at hl 0 rfl) ?_
            refine lv_iload hx hb dX5_nearestValue_159 (lv_at hl 0 rfl) ?_
            refine lv_imul hx hb dX5_nearestValue_161 ?_
            refine lv_iadd hx hb dX5_nearestValue_162 ?_
            refine lv_goto (tgt := 194) hx hb dX5_nearestValue_163 (by decide) ?_
            exact J10 ((j7_0 * j7_0) + (r9_0 * r9_0)) ls h hl
        refine lv_icmp_ge (tgt := 115) hx hb dX5_nearestValue_107 (by decide) (fun c8 => ?_) (fun c8 => ?_)
        · replace h := ite_t c8 h
          refine lv_iconst (v := 2) hx hb dX5_nearestValue_115 (by decide) ?_
          refine lv_aload_n hx hb dX5_nearestValue_116 rfl (lv_at hl 5 rfl) ?_
          refine va_get (D := G.1) (ci := 5) (v := .int v_w) (C := RX5) (T := TX5) (N := 35) hx hb hts fw_X5_nearestValue_X5 hown hK.1 hP 0 rfl rfl 9 (by decide) (hts (.fieldLink RX5 89 "HalftoneScreensModel" "w" "I") lk_X5_nearestValue_f89) (fun _ h9 => h9) rfl dX5_nearestValue_117 ?_
          refine lv_imul hx hb dX5_nearestValue_120 ?_
          refine lv_iload hx hb dX5_nearestValue_121 (lv_at hl 0 rfl) ?_
          refine lv_isub hx hb dX5_nearestValue_123 ?_
          exact J7 ((2 * v_w) - r6_0) ls h hl
        · replace h := ite_f c8 h
          refine lv_iload hx hb dX5_nearestValue_110 (lv_at hl 0 rfl) ?_
          refine lv_goto (tgt := 124) hx hb dX5_nearestValue_112 (by decide) ?_
          exact J7 r6_0 ls h hl
  refine L4 FU r1_0 (-1) u4_0 u4_1 ls g4 hl (fun ls hl => ?_)
  refine lv_iload hx hb dX5_nearestValue_224 (lv_at hl 3 rfl) ?_
  exact hret _ _ _ ⟨smi h, trivial⟩ rfl dX5_nearestValue_226
theorem fw_X5_valueAt_X5 : ∀ w ∈ wsX50, w ∈ wsX5_valueAt := fun w h => List.mem_cons_of_mem _ (List.mem_append_right _ h)
theorem lk_X5_valueAt_f13 : Cond.fieldLink RX5 13 "HalftoneScreensModel" "v" "[I" ∈ wsX5_valueAt := List.mem_of_getElem? (i := 1) rfl
theorem lk_X5_valueAt_f20 : Cond.fieldLink RX5 20 "HalftoneScreensModel" "inMiddle" "[Z" ∈ wsX5_valueAt := List.mem_of_getElem? (i := 2) rfl
theorem lk_X5_valueAt_f17 : Cond.fieldLink RX5 17 "HalftoneScreensModel" "spotOf" "[I" ∈ wsX5_valueAt := List.mem_of_getElem? (i := 3) rfl
theorem hsX5_areaIn : yX5_areaIn.cls ≠ "java/lang/invoke/MethodHandle" ∧ yX5_areaIn.cls ≠ "java/lang/invoke/VarHandle" ∧ (parseMethodDescriptor yX5_areaIn.desc).map (fun d => d.parameters.length) = some 1 := by decide +kernel
theorem hvX5_areaIn : yX5_areaIn.cls = RX5 ∧ yX5_areaIn.cls ≠ "java/lang/invoke/MethodHandle" ∧ yX5_areaIn.cls ≠ "java/lang/invoke/VarHandle" ∧ (parseMethodDescriptor yX5_areaIn.desc).map (fun d => d.parameters.length) = some 1 := ⟨rfl, hsX5_areaIn⟩
theorem hsX5_nearestValue : yX5_nearestValue.cls ≠ "java/lang/invoke/MethodHandle" ∧ yX5_nearestValue.cls ≠ "java/lang/invoke/VarHandle" ∧ (parseMethodDescriptor yX5_nearestValue.desc).map (fun d => d.parameters.length) = some 5 := by decide +kernel
theorem hvX5_nearestValue : yX5_nearestValue.cls = RX5 ∧ yX5_nearestValue.cls ≠ "java/lang/invoke/MethodHandle" ∧ yX5_nearestValue.cls ≠ "java/lang/invoke/VarHandle" ∧ (parseMethodDescriptor yX5_nearestValue.desc).map (fun d => d.parameters.length) = some 5 := ⟨rfl, hsX5_nearestValue⟩
abbrev rmX5_valueAt : Room := { frames := 3, cells := 0, slots := 0, locals := 76 }
set_option maxHeartbeats 4000000 in
set_option maxRecDepth 100000 in
theorem ctX5_valueAt (l : Launch) (G : GG) (v_q0 : Nat) (v_q1 : Nat) (v_q2 : Nat) (v_q3 : Nat) (v_q4 : Nat) (v_q5 : Nat) (v_q6 : Nat) (v_q7 : Nat) (v_q8 : Nat) (v_q9 : Nat) (v_q10 : Nat) (v_q11 : Nat) (v_q12 : Nat) (v_q13 : Nat) (v_q14 : Nat) (v_q15 : Nat) (v_q16 : Nat) (v_thrown : Int32) (v_gain : Int32) (v_size : Int32) (v_w : Int32) (v_s : Int32) (v_h : Int32) (v_laidArea : Int32) (v_parts : Int32) (v_isMinus : Int32) (v_readSpot : Int32) (v_isStar : Int32) (v_wantsNumber : Int32) (v_waiting : Int32) (v_shiftX : Int32) (v_shiftY : Int32) (v_times : Int32) (v_dotsLaid : Int32) (v_joinedLaid : Int32) (v_hash : Int64) (v_isThereA : (Nat → Int32)) (v_vA : (Nat → Int32)) (v_spotOfA : (Nat → Int32)) (v_inMiddleA : (Nat → Int32)) (v_tintsA : (Nat → Int32)) (v_bufferA : (Nat → Int32)) (v_valuesA : (Nat → Int32)) (v_ranksA : (Nat → Int32)) (v_oldRanksA : (Nat → Int32)) (v_partA : (Nat → Int32)) (v_allRanksA : (Nat → Int32)) (v_basesA : (Nat → Int32)) (v_isMetA : (Nat → Int32)) (v_metXA : (Nat → Int32)) (v_metYA : (Nat → Int32)) (v_lineA : (Nat → Int32)) (a0 : Int32) (a1 : Int32) (a2 : Int32) (o0 : Int32) (h : mX5_valueAt v_w v_s v_h v_vA v_spotOfA v_inMiddleA a0 a1 a2 = some (o0))  : Met l yX5_valueAt wsX5_valueAt rmX5_valueAt (va_Pc [.ref v_q0, .int a0, .int a1, .int a2] (PreW G (wdX5 G v_q0 v_q1 v_q2 v_q3 v_q4 v_q5 v_q6 v_q7 v_q8 v_q9 v_q10 v_q11 v_q12 v_q13 v_q14 v_q15 v_q16 v_thrown v_gain v_size v_w v_s v_h v_laidArea v_parts v_isMinus v_readSpot v_isStar v_wantsNumber v_waiting v_shiftX v_shiftY v_times v_dotsLaid v_joinedLaid v_hash v_isThereA v_vA v_spotOfA v_inMiddleA v_tintsA v_bufferA v_valuesA v_ranksA v_oldRanksA v_partA v_allRanksA v_basesA v_isMetA v_metXA v_metYA v_lineA))) (vp_Si (fun r => r = o0 ∧ True)) 0 0 (fun _ => False) := by
  refine of_ri (cc := cX5_valueAt) (maxL := 12) (ty := .int) (plainFor_of_name (by decide)) rfl (Nat.le_of_ble_eq_true rfl) ?_
  intro p e s m args below meth c ls Q S hl hP hK hret
  have S : CallFix p m c cX5_valueAt 12 s args wsX5_valueAt RX5 := S
  obtain ⟨hx, hb, hml, hown, hts⟩ := id S
  have hl : lv_has ls 12 [(0, .ref v_q0), (1, .int a0), (2, .int a1), (3, .int a2)] := hl
  unfold mX5_valueAt at h
  refine lv_iconst (v := 4) hx hb dX5_valueAt_0 (by decide) ?_
  refine lv_iload_n hx hb dX5_valueAt_1 rfl (lv_at hl 1 rfl) ?_
  refine lv_imul hx hb dX5_valueAt_2 ?_
  refine lv_topi (fun x1 e1 => ?_)
  replace h := nmB_e e1 h
  refine lv_istore (lv' := [(4, .int x1), (0, .ref v_q0), (1, .int a0), (2, .int a1), (3, .int a2)]) hx hb dX5_valueAt_3 hl (by decide) rfl (fun ls hl => ?_)
  refine lv_aload_n hx hb dX5_valueAt_5 rfl (lv_at hl 1 rfl) ?_
  refine va_get (D := G.1) (ci := 5) (v := .ref v_q2) (C := RX5) (T := TX5) (N := 35) hx hb hts fw_X5_valueAt_X5 hown hK.1 hP 0 rfl rfl 2 (by decide) (hts (.fieldLink RX5 13 "HalftoneScreensModel" "v" "[I") lk_X5_valueAt_f13) (fun _ h9 => h9) rfl dX5_valueAt_6 ?_
  refine lv_iload hx hb dX5_valueAt_9 (lv_at hl 0 rfl) ?_
  obtain ⟨i2, h⟩ := gd_e h
  refine va_iald hx hb hK.1 hP 2 0 rfl rfl i2 dX5_valueAt_11 ?_
  refine lv_aload_n hx hb dX5_valueAt_12 rfl (lv_at hl 1 rfl) ?_
  refine va_get (D := G.1) (ci := 5) (v := .ref v_q2) (C := RX5) (T := TX5) (N := 35) hx hb hts fw_X5_valueAt_X5 hown hK.1 hP 0 rfl rfl 2 (by decide) (hts (.fieldLink RX5 13 "HalftoneScreensModel" "v" "[I") lk_X5_valueAt_f13) (fun _ h9 => h9) rfl dX5_valueAt_13 ?_
  refine lv_iload hx hb dX5_valueAt_16 (lv_at hl 0 rfl) ?_
  refine lv_iconst (v := 2) hx hb dX5_valueAt_18 (by decide) ?_
  refine lv_iadd hx hb dX5_valueAt_19 ?_
  obtain ⟨i3, h⟩ := gd_e h
  refine va_iald hx hb hK.1 hP 2 0 rfl rfl i3 dX5_valueAt_20 ?_
  refine lv_iadd hx hb dX5_valueAt_21 ?_
  refine lv_topi (fun x4 e4 => ?_)
  replace h := nmB_e e4 h
  refine lv_istore (lv' := [(5, .int x4), (4, .int x1), (0, .ref v_q0), (1, .int a0), (2, .int a1), (3, .int a2)]) hx hb dX5_valueAt_22 hl (by decide) rfl (fun ls hl => ?_)
  refine lv_aload_n hx hb dX5_valueAt_24 rfl (lv_at hl 2 rfl) ?_
  refine va_get (D := G.1) (ci := 5) (v := .ref v_q2) (C := RX5) (T := TX5) (N := 35) hx hb hts fw_X5_valueAt_X5 hown hK.1 hP 0 rfl rfl 2 (by decide) (hts (.fieldLink RX5 13 "HalftoneScreensModel" "v" "[I") lk_X5_valueAt_f13) (fun _ h9 => h9) rfl dX5_valueAt_25 ?_
  refine lv_iload hx hb dX5_valueAt_28 (lv_at hl 1 rfl) ?_
  refine lv_iconst (v := 1) hx hb dX5_valueAt_30 (by decide) ?_
  refine lv_iadd hx hb dX5_valueAt_31 ?_
  obtain ⟨i5, h⟩ := gd_e h
  refine va_iald hx hb hK.1 hP 2 0 rfl rfl i5 dX5_valueAt_32 ?_
  refine lv_aload_n hx hb dX5_valueAt_33 rfl (lv_at hl 2 rfl) ?_
  refine va_get (D := G.1) (ci := 5) (v := .ref v_q2) (C := RX5) (T := TX5) (N := 35) hx hb hts fw_X5_valueAt_X5 hown hK.1 hP 0 rfl rfl 2 (by decide) (hts (.fieldLink RX5 13 "HalftoneScreensModel" "v" "[I") lk_X5_valueAt_f13) (fun _ h9 => h9) rfl dX5_valueAt_34 ?_
  refine lv_iload hx hb dX5_valueAt_37 (lv_at hl 1 rfl) ?_
  refine lv_iconst (v := 3) hx hb dX5_valueAt_39 (by decide) ?_
  refine lv_iadd hx hb dX5_valueAt_40 ?_
  obtain ⟨i6, h⟩ := gd_e h
  refine va_iald hx hb hK.1 hP 2 0 rfl rfl i6 dX5_valueAt_41 ?_
  refine lv_iadd hx hb dX5_valueAt_42 ?_
  refine lv_topi (fun x7 e7 => ?_)
  replace h := nmB_e e7 h
  refine lv_istore (lv' := [(6, .int x7), (5, .int x4), (4, .int x1), (0, .ref v_q0), (1, .int a0), (2, .int a1), (3, .int a2)]) hx hb dX5_valueAt_43 hl (by decide) rfl (fun ls hl => ?_)
  refine lv_aload_n hx hb dX5_valueAt_45 rfl (lv_at hl 3 rfl) ?_
  refine va_get (D := G.1) (ci := 5) (v := .ref v_q4) (C := RX5) (T := TX5) (N := 35) hx hb hts fw_X5_valueAt_X5 hown hK.1 hP 0 rfl rfl 4 (by decide) (hts (.fieldLink RX5 20 "HalftoneScreensModel" "inMiddle" "[Z") lk_X5_valueAt_f20) (fun _ h9 => h9) rfl dX5_valueAt_46 ?_
  refine lv_iload_n hx hb dX5_valueAt_49 rfl (lv_at hl 4 rfl) ?_
  obtain ⟨i8, h⟩ := gd_e h
  refine va_zald hx hb hK.1 hP 4 1 rfl rfl i8 dX5_valueAt_50 ?_
  refine lv_topi (fun x9 e9 => ?_)
  replace h := nmB_e e9 h
  refine lv_istore (lv' := [(7, .int x9), (6, .int x7), (5, .int x4), (4, .int x1), (0, .ref v_q0), (1, .int a0), (2, .int a1), (3, .int a2)]) hx hb dX5_valueAt_51 hl (by decide) rfl (fun ls hl => ?_)
  refine lv_iload hx hb dX5_valueAt_53 (lv_at hl 0 rfl) ?_
  obtain ⟨K10, hK10, h⟩ := jB1_e h
  have J10 : ∀ (j10_0 : Int32) (ls : Array Slot), K10 j10_0 = some (o0) → lv_has ls 12 [(7, .int x9), (6, .int x7), (5, .int x4), (4, .int x1), (0, .ref v_q0), (1, .int a0), (2, .int a1), (3, .int a2)] → W p l e rmX5_valueAt s m args below meth c s.heap [] 0 0 Q (F0 m 64 ls [.int j10_0]) := by
    intro j10_0 ls h hl
    replace h := (hK10 j10_0).symm.trans h
    refine lv_istore (lv' := [(8, .int j10_0), (7, .int x9), (6, .int x7), (5, .int x4), (4, .int x1), (0, .ref v_q0), (1, .int a0), (2, .int a1), (3, .int a2)]) hx hb dX5_valueAt_64 hl (by decide) rfl (fun ls hl => ?_)
    refine lv_iload hx hb dX5_valueAt_66 (lv_at hl 1 rfl) ?_
    obtain ⟨K12, hK12, h⟩ := jB1_e h
    have J12 : ∀ (j12_0 : Int32) (ls : Array Slot), K12 j12_0 = some (o0) → lv_has ls 12 [(8, .int j10_0), (7, .int x9), (6, .int x7), (5, .int x4), (4, .int x1), (0, .ref v_q0), (1, .int a0), (2, .int a1), (3, .int a2)] → W p l e rmX5_valueAt s m args below meth c s.heap [] 0 0 Q (F0 m 77 ls [.int j12_0]) := by
      intro j12_0 ls h hl
      replace h := (hK12 j12_0).symm.trans h
      refine lv_istore (lv' := [(9, .int j12_0), (8, .int j10_0), (7, .int x9), (6, .int x7), (5, .int x4), (4, .int x1), (0, .ref v_q0), (1, .int a0), (2, .int a1), (3, .int a2)]) hx hb dX5_valueAt_77 hl (by decide) rfl (fun ls hl => ?_)
      refine lv_aload_n hx hb dX5_valueAt_79 rfl (lv_at hl 6 rfl) ?_
      refine va_get (D := G.1) (ci := 5) (v := .ref v_q3) (C := RX5) (T := TX5) (N := 35) hx hb hts fw_X5_valueAt_X5 hown hK.1 hP 0 rfl rfl 3 (by decide) (hts (.fieldLink RX5 17 "HalftoneScreensModel" "spotOf" "[I") lk_X5_valueAt_f17) (fun _ h9 => h9) rfl dX5_valueAt_80 ?_
      refine lv_iload_n hx hb dX5_valueAt_83 rfl (lv_at hl 7 rfl) ?_
      obtain ⟨i14, h⟩ := gd_e h
      refine va_iald hx hb hK.1 hP 3 0 rfl rfl i14 dX5_valueAt_84 ?_
      refine lv_iconst (v := 3) hx hb dX5_valueAt_85 (by decide) ?_
      refine lv_icmp_ne (tgt := 157) hx hb dX5_valueAt_86 (by decide) (fun c15 => ?_) (fun c15 => ?_)
      · replace h := ite_f c15 h
        refine lv_aload_n hx hb dX5_valueAt_157 rfl (lv_at hl 6 rfl) ?_
        refine va_get (D := G.1) (ci := 5) (v := .ref v_q3) (C := RX5) (T := TX5) (N := 35) hx hb hts fw_X5_valueAt_X5 hown hK.1 hP 0 rfl rfl 3 (by decide) (hts (.fieldLink RX5 17 "HalftoneScreensModel" "spotOf" "[I") lk_X5_valueAt_f17) (fun _ h9 => h9) rfl dX5_valueAt_158 ?_
        refine lv_iload_n hx hb dX5_valueAt_161 rfl (lv_at hl 7 rfl) ?_
        obtain ⟨i16, h⟩ := gd_e h
        refine va_iald hx hb hK.1 hP 3 0 rfl rfl i16 dX5_valueAt_162 ?_
        refine lv_iconst (v := 4) hx hb dX5_valueAt_163 (by decide) ?_
        refine lv_icmp_ne (tgt := 209) hx hb dX5_valueAt_164 (by decide) (fun c17 => ?_) (fun c17 => ?_)
        · replace h := ite_f c17 h
          refine lv_aload_n hx hb dX5_valueAt_209 rfl (lv_at hl 6 rfl) ?_
          refine lv_iload_n hx hb dX5_valueAt_210 rfl (lv_at hl 8 rfl) ?_
          refine lv_iload_n hx hb dX5_valueAt_211 rfl (lv_at hl 9 rfl) ?_
          refine lv_iload hx hb dX5_valueAt_212 (lv_at hl 1 rfl) ?_
          refine lv_iload hx hb dX5_valueAt_214 (lv_at hl 0 rfl) ?_
          refine lv_aload_n hx hb dX5_valueAt_216 rfl (lv_at hl 6 rfl) ?_
          refine va_get (D := G.1) (ci := 5) (v := .ref v_q3) (C := RX5) (T := TX5) (N := 35) hx hb hts fw_X5_valueAt_X5 hown hK.1 hP 0 rfl rfl 3 (by decide) (hts (.fieldLink RX5 17 "HalftoneScreensModel" "spotOf" "[I") lk_X5_valueAt_f17) (fun _ h9 => h9) rfl dX5_valueAt_217 ?_
          refine lv_iload_n hx hb dX5_valueAt_220 rfl (lv_at hl 7 rfl) ?_
          obtain ⟨i18, h⟩ := gd_e h
          refine va_iald hx hb hK.1 hP 3 0 rfl rfl i18 dX5_valueAt_221 ?_
          obtain ⟨r19_0, g19, h⟩ := bnd1_e h
          refine roVi1 (rest := []) (As := [.int a1, .int a2, .int j10_0, .int j12_0, .int (v_spotOfA a0.toNatClampNeg)]) S (ctX5_nearestValue l G v_q0 v_q1 v_q2 v_q3 v_q4 v_q5 v_q6 v_q7 v_q8 v_q9 v_q10 v_q11 v_q12 v_q13 v_q14 v_q15 v_q16 v_thrown v_gain v_size v_w v_s v_h v_laidArea v_parts v_isMinus v_readSpot v_isStar v_wantsNumber v_waiting v_shiftX v_shiftY v_times v_dotsLaid v_joinedLaid v_hash v_isThereA v_vA v_spotOfA v_inMiddleA v_tintsA v_bufferA v_valuesA v_ranksA v_oldRanksA v_partA v_allRanksA v_basesA v_isMetA v_metXA v_metYA v_lineA a1 a2 j10_0 j12_0 (v_spotOfA a0.toNatClampNeg) r19_0 g19) (cwV 5 hts gX5_valueAt_X5_nearestValue rfl rfl rfl hvX5_nearestValue ⟨Nat.le_of_ble_eq_true rfl, Nat.le_of_ble_eq_true rfl⟩) hK hP [0, 1, 2, 3, 4, 5, 6, 7, 8, 9, 10, 11, 12, 13, 14, 15, 16] rfl 0 5 rfl rfl rfl rfl hl.1 rfl (Nat.le_of_ble_eq_true rfl) dX5_valueAt_222 ⟨Nat.le_refl _, Nat.le_refl _⟩ (fun _ => ?_)
          exact hret _ _ _ ⟨smi h, trivial⟩ rfl dX5_valueAt_225
        · replace h := ite_t c17 h
          refine lv_aload_n hx hb dX5_valueAt_167 rfl (lv_at hl 6 rfl) ?_
          refine lv_iload_n hx hb dX5_valueAt_168 rfl (lv_at hl 8 rfl) ?_
          refine lv_iload_n hx hb dX5_valueAt_169 rfl (lv_at hl 9 rfl) ?_
          refine lv_iload hx hb dX5_valueAt_170 (lv_at hl 1 rfl) ?_
          refine lv_iload hx hb dX5_valueAt_172 (lv_at hl 0 rfl) ?_
          refine lv_iconst (v := 0) hx hb dX5_valueAt_174 (by decide) ?_
          obtain ⟨r20_0, g20, h⟩ := bnd1_e h
          refine roVi1 (rest := []) (As := [.int a1, .int a2, .int j10_0, .int j12_0, .int 0]) S (ctX5_nearestValue l G v_q0 v_q1 v_q2 v_q3 v_q4 v_q5 v_q6 v_q7 v_q8 v_q9 v_q10 v_q11 v_q12 v_q13 v_q14 v_q15 v_q16 v_thrown v_gain v_size v_w v_s v_h v_laidArea v_parts v_isMinus v_readSpot v_isStar v_wantsNumber v_waiting v_shiftX v_shiftY v_times v_dotsLaid v_joinedLaid v_hash v_isThereA v_vA v_spotOfA v_inMiddleA v_tintsA v_bufferA v_valuesA v_ranksA v_oldRanksA v_partA v_allRanksA v_basesA v_isMetA v_metXA v_metYA v_lineA a1 a2 j10_0 j12_0 0 r20_0 g20) (cwV 5 hts gX5_valueAt_X5_nearestValue rfl rfl rfl hvX5_nearestValue ⟨Nat.le_of_ble_eq_true rfl, Nat.le_of_ble_eq_true rfl⟩) hK hP [0, 1, 2, 3, 4, 5, 6, 7, 8, 9, 10, 11, 12, 13, 14, 15, 16] rfl 0 5 rfl rfl rfl rfl hl.1 rfl (Nat.le_of_ble_eq_true rfl) dX5_valueAt_175 ⟨Nat.le_refl _, Nat.le_refl _⟩ (fun _ => ?_)
          refine lv_aload_n hx hb dX5_valueAt_178 rfl (lv_at hl 6 rfl) ?_
          refine lv_iload_n hx hb dX5_valueAt_179 rfl (lv_at hl 8 rfl) ?_
          refine lv_iload_n hx hb dX5_valueAt_180 rfl (lv_at hl 9 rfl) ?_
          refine lv_iload hx hb dX5_valueAt_181 (lv_at hl 2 rfl) ?_
          obtain ⟨K21, hK21, h⟩ := jB1_e h
          have J21 : ∀ (j21_0 : Int32) (ls : Array Slot), K21 j21_0 = some (o0) → lv_has ls 12 [(9, .int j12_0), (8, .int j10_0), (7, .int x9), (6, .int x7), (5, .int x4), (4, .int x1), (0, .ref v_q0), (1, .int a0), (2, .int a1), (3, .int a2)] → W p l e rmX5_valueAt s m args below meth c s.heap [] 0 0 Q (F0 m 192 ls [.int j21_0, .int a2, .int a1, .ref v_q0, .int r20_0]) := by
            intro j21_0 ls h hl
            replace h := (hK21 j21_0).symm.trans h
            refine lv_iload hx hb dX5_valueAt_192 (lv_at hl 2 rfl) ?_
            refine lv_if_eq (tgt := 201) hx hb dX5_valueAt_194 (by decide) (fun c23 => ?_) (fun c23 => ?_)
            · replace h := ite_t c23 h
              refine lv_iload hx hb dX5_valueAt_201 (lv_at hl 3 rfl) ?_
              refine lv_iconst (v := 0) hx hb dX5_valueAt_203 (by decide) ?_
              obtain ⟨r24_0, g24, h⟩ := bnd1_e h
              refine roVi1 (rest := [.int r20_0]) (As := [.int a1, .int a2, .int j21_0, .int x7, .int 0]) S (ctX5_nearestValue l G v_q0 v_q1 v_q2 v_q3 v_q4 v_q5 v_q6 v_q7 v_q8 v_q9 v_q10 v_q11 v_q12 v_q13 v_q14 v_q15 v_q16 v_thrown v_gain v_size v_w v_s v_h v_laidArea v_parts v_isMinus v_readSpot v_isStar v_wantsNumber v_waiting v_shiftX v_shiftY v_times v_dotsLaid v_joinedLaid v_hash v_isThereA v_vA v_spotOfA v_inMiddleA v_tintsA v_bufferA v_valuesA v_ranksA v_oldRanksA v_partA v_allRanksA v_basesA v_isMetA v_metXA v_metYA v_lineA a1 a2 j21_0 x7 0 r24_0 g24) (cwV 5 hts gX5_valueAt_X5_nearestValue rfl rfl rfl hvX5_nearestValue ⟨Nat.le_of_ble_eq_true rfl, Nat.le_of_ble_eq_true rfl⟩) hK hP [0, 1, 2, 3, 4, 5, 6, 7, 8, 9, 10, 11, 12, 13, 14, 15, 16] rfl 0 5 rfl rfl rfl rfl hl.1 rfl (Nat.le_of_ble_eq_true rfl) dX5_valueAt_204 ⟨Nat.le_refl _, Nat.le_refl _⟩ (fun _ => ?_)
              refine lv_isub hx hb dX5_valueAt_207 ?_
              exact hret _ _ _ ⟨smi h, trivial⟩ rfl dX5_valueAt_208
            · replace h := ite_f c23 h
              refine lv_iconst (v := 0) hx hb dX5_valueAt_197 (by decide) ?_
              refine lv_goto (tgt := 203) hx hb dX5_valueAt_198 (by decide) ?_
              refine lv_iconst (v := 0) hx hb dX5_valueAt_203 (by decide) ?_
              obtain ⟨r25_0, g25, h⟩ := bnd1_e h
              refine roVi1 (rest := [.int r20_0]) (As := [.int a1, .int a2, .int j21_0, .int 0, .int 0]) S (ctX5_nearestValue l G v_q0 v_q1 v_q2 v_q3 v_q4 v_q5 v_q6 v_q7 v_q8 v_q9 v_q10 v_q11 v_q12 v_q13 v_q14 v_q15 v_q16 v_thrown v_gain v_size v_w v_s v_h v_laidArea v_parts v_isMinus v_readSpot v_isStar v_wantsNumber v_waiting v_shiftX v_shiftY v_times v_dotsLaid v_joinedLaid v_hash v_isThereA v_vA v_spotOfA v_inMiddleA v_tintsA v_bufferA v_valuesA v_ranksA v_oldRanksA v_partA v_allRanksA v_basesA v_isMetA v_metXA v_metYA v_lineA a1 a2 j21_0 0 0 r25_0 g25) (cwV 5 hts gX5_valueAt_X5_nearestValue rfl rfl rfl hvX5_nearestValue ⟨Nat.le_of_ble_eq_true rfl, Nat.le_of_ble_eq_true rfl⟩) hK hP [0, 1, 2, 3, 4, 5, 6, 7, 8, 9, 10, 11, 12, 13, 14, 15, 16] rfl 0 5 rfl rfl rfl rfl hl.1 rfl (Nat.le_of_ble_eq_true rfl) dX5_valueAt_204 ⟨Nat.le_refl _, Nat.le_refl _⟩ (fun _ => ?_)
              refine lv_isub hx hb dX5_valueAt_207 ?_
              exact hret _ _ _ ⟨smi h, trivial⟩ rfl dX5_valueAt_208
          refine lv_if_eq (tgt := 190) hx hb dX5_valueAt_183 (by decide) (fun c22 => ?_) (fun c22 => ?_)
          · replace h := ite_t c22 h
            refine lv_iload hx hb dX5_valueAt_190 (lv_at hl 4 rfl) ?_
            exact J21 x4 ls h hl
          · replace h := ite_f c22 h
            refine lv_iconst (v := 0) hx hb dX5_valueAt_186 (by decide) ?_
            refine lv_goto (tgt := 192) hx hb dX5_valueAt_187 (by decide) ?_
            exact J21 0 ls h hl
      · replace h := ite_t c15 h
        refine lv_iconst (v := 2) hx hb dX5_valueAt_89 (by decide) ?_
        refine lv_aload_n hx hb dX5_valueAt_90 rfl (lv_at hl 6 rfl) ?_
        refine lv_iload_n hx hb dX5_valueAt_91 rfl (lv_at hl 7 rfl) ?_
        obtain ⟨r26_0, g26, h⟩ := bnd1_e h
        refine roVi1 (rest := [.int 2]) (As := [.int a0]) S (ctX5_areaIn l G v_q0 v_q1 v_q2 v_q3 v_q4 v_q5 v_q6 v_q7 v_q8 v_q9 v_q10 v_q11 v_q12 v_q13 v_q14 v_q15 v_q16 v_thrown v_gain v_size v_w v_s v_h v_laidArea v_parts v_isMinus v_readSpot v_isStar v_wantsNumber v_waiting v_shiftX v_shiftY v_times v_dotsLaid v_joinedLaid v_hash v_isThereA v_vA v_spotOfA v_inMiddleA v_tintsA v_bufferA v_valuesA v_ranksA v_oldRanksA v_partA v_allRanksA v_basesA v_isMetA v_metXA v_metYA v_lineA a0 r26_0 g26) (cwV 1 hts gX5_valueAt_X5_areaIn rfl rfl rfl hvX5_areaIn ⟨Nat.le_of_ble_eq_true rfl, Nat.le_of_ble_eq_true rfl⟩) hK hP [0, 1, 2, 3, 4, 5, 6, 7, 8, 9, 10, 11, 12, 13, 14, 15, 16] rfl 0 5 rfl rfl rfl rfl hl.1 rfl (Nat.le_of_ble_eq_true rfl) dX5_valueAt_92 ⟨Nat.le_refl _, Nat.le_refl _⟩ (fun _ => ?_)
        refine lv_imul hx hb dX5_valueAt_95 ?_
        refine lv_topi (fun x27 e27 => ?_)
        replace h := nmB_e e27 h
        refine lv_istore (lv' := [(10, .int x27), (9, .int j12_0), (8, .int j10_0), (7, .int x9), (6, .int x7), (5, .int x4), (4, .int x1), (0, .ref v_q0), (1, .int a0), (2, .int a1), (3, .int a2)]) hx hb dX5_valueAt_96 hl (by decide) rfl (fun ls hl => ?_)
        refine lv_iconst (v := 2) hx hb dX5_valueAt_98 (by decide) ?_
        refine lv_iload_n hx hb dX5_valueAt_99 rfl (lv_at hl 9 rfl) ?_
        refine lv_imul hx hb dX5_valueAt_100 ?_
        refine lv_iload hx hb dX5_valueAt_101 (lv_at hl 2 rfl) ?_
        refine lv_isub hx hb dX5_valueAt_103 ?_
        refine lv_aload_n hx hb dX5_valueAt_104 rfl (lv_at hl 7 rfl) ?_
        refine va_get (D := G.1) (ci := 5) (v := .ref v_q2) (C := RX5) (T := TX5) (N := 35) hx hb hts fw_X5_valueAt_X5 hown hK.1 hP 0 rfl rfl 2 (by decide) (hts (.fieldLink RX5 13 "HalftoneScreensModel" "v" "[I") lk_X5_valueAt_f13) (fun _ h9 => h9) rfl dX5_valueAt_105 ?_
        refine lv_iload hx hb dX5_valueAt_108 (lv_at hl 6 rfl) ?_
        refine lv_iconst (v := 1) hx hb dX5_valueAt_110 (by decide) ?_
        refine lv_iadd hx hb dX5_valueAt_111 ?_
        obtain ⟨i28, h⟩ := gd_e h
        refine va_iald hx hb hK.1 hP 2 0 rfl rfl i28 dX5_valueAt_112 ?_
        refine lv_imul hx hb dX5_valueAt_113 ?_
        refine lv_iconst (v := 2) hx hb dX5_valueAt_114 (by decide) ?_
        refine lv_iload_n hx hb dX5_valueAt_115 rfl (lv_at hl 10 rfl) ?_
        refine lv_imul hx hb dX5_valueAt_116 ?_
        refine lv_iload hx hb dX5_valueAt_117 (lv_at hl 1 rfl) ?_
        refine lv_isub hx hb dX5_valueAt_119 ?_
        refine lv_aload_n hx hb dX5_valueAt_120 rfl (lv_at hl 7 rfl) ?_
        refine va_get (D := G.1) (ci := 5) (v := .ref v_q2) (C := RX5) (T := TX5) (N := 35) hx hb hts fw_X5_valueAt_X5 hown hK.1 hP 0 rfl rfl 2 (by decide) (hts (.fieldLink RX5 13 "HalftoneScreensModel" "v" "[I") lk_X5_valueAt_f13) (fun _ h9 => h9) rfl dX5_valueAt_121 ?_
        refine lv_iload hx hb dX5_valueAt_124 (lv_at hl 6 rfl) ?_
        obtain ⟨i29, h⟩ := gd_e h
        refine va_iald hx hb hK.1 hP 2 0 rfl rfl i29 dX5_valueAt_126 ?_
        refine lv_imul hx hb dX5_valueAt_127 ?_
        refine lv_isub hx hb dX5_valueAt_128 ?_
        refine lv_iload hx hb dX5_valueAt_129 (lv_at hl 0 rfl) ?_
        obtain ⟨r30_0, g30, h⟩ := bnd1_e h
        refine roSi1 (rest := []) (As := [.int ((((2 * a1) - j10_0) * (v_vA (x1 + 1).toNatClampNeg)) - (((2 * a2) - j12_0) * (v_vA x1.toNatClampNeg))), .int x27]) S (ctX5_mod l G ((((2 * a1) - j10_0) * (v_vA (x1 + 1).toNatClampNeg)) - (((2 * a2) - j12_0) * (v_vA x1.toNatClampNeg))) x27 r30_0 g30) (va_cwS 2 hts gX5_valueAt_X5_mod rfl rfl rfl hsX5_mod ⟨Nat.le_of_ble_eq_true rfl, Nat.le_of_ble_eq_true rfl⟩) hK hP [] rfl rfl hl.1 rfl (Nat.le_of_ble_eq_true rfl) dX5_valueAt_131 ⟨Nat.le_refl _, Nat.le_refl _⟩ (fun _ => ?_)
        refine lv_istore (lv' := [(11, .int r30_0), (10, .int x27), (9, .int j12_0), (8, .int j10_0), (7, .int x9), (6, .int x7), (5, .int x4), (4, .int x1), (0, .ref v_q0), (1, .int a0), (2, .int a1), (3, .int a2)]) hx hb dX5_valueAt_134 hl (by decide) rfl (fun ls hl => ?_)
        refine lv_iload hx hb dX5_valueAt_136 (lv_at hl 0 rfl) ?_
        refine lv_iload hx hb dX5_valueAt_138 (lv_at hl 1 rfl) ?_
        refine lv_iload hx hb dX5_valueAt_140 (lv_at hl 0 rfl) ?_
        refine lv_isub hx hb dX5_valueAt_142 ?_
        refine lv_icmp_ge (tgt := 151) hx hb dX5_valueAt_143 (by decide) (fun c31 => ?_) (fun c31 => ?_)
        · replace h := ite_t c31 h
          refine lv_iload hx hb dX5_valueAt_151 (lv_at hl 1 rfl) ?_
          refine lv_iload hx hb dX5_valueAt_153 (lv_at hl 0 rfl) ?_
          refine lv_isub hx hb dX5_valueAt_155 ?_
          exact hret _ _ _ ⟨smi h, trivial⟩ rfl dX5_valueAt_156
        · replace h := ite_f c31 h
          refine lv_iload hx hb dX5_valueAt_146 (lv_at hl 0 rfl) ?_
          refine lv_goto (tgt := 156) hx hb dX5_valueAt_148 (by decide) ?_
          exact hret _ _ _ ⟨smi h, trivial⟩ rfl dX5_valueAt_156
    refine lv_if_eq (tgt := 76) hx hb dX5_valueAt_68 (by decide) (fun c13 => ?_) (fun c13 => ?_)
    · replace h := ite_t c13 h
      refine lv_iconst (v := 0) hx hb dX5_valueAt_76 (by decide) ?_
      exact J12 0 ls h hl
    · replace h := ite_f c13 h
      refine lv_iload hx hb dX5_valueAt_71 (lv_at hl 2 rfl) ?_
      refine lv_goto (tgt := 77) hx hb dX5_valueAt_73 (by decide) ?_
      exact J12 x7 ls h hl
  refine lv_if_eq (tgt := 63) hx hb dX5_valueAt_55 (by decide) (fun c11 => ?_) (fun c11 => ?_)
  · replace h := ite_t c11 h
    refine lv_iconst (v := 0) hx hb dX5_valueAt_63 (by decide) ?_
    exact J10 0 ls h hl
  · replace h := ite_f c11 h
    refine lv_iload hx hb dX5_valueAt_58 (lv_at hl 2 rfl) ?_
    refine lv_goto (tgt := 64) hx hb dX5_valueAt_60 (by decide) ?_
    exact J10 x4 ls h hl
theorem fw_X5_screens_X5 : ∀ w ∈ wsX50, w ∈ wsX5_screens := fun w h => List.mem_cons_of_mem _ (List.mem_append_right _ h)
theorem lk_X5_screens_f7 : Cond.fieldLink RX5 7 "HalftoneScreensModel" "isThere" "[Z" ∈ wsX5_screens := List.mem_of_getElem? (i := 1) rfl
abbrev rmX5_screens : Room := { frames := 0, cells := 0, slots := 0, locals := 0 }
set_option maxHeartbeats 4000000 in
set_option maxRecDepth 100000 in
theorem ctX5_screens (l : Launch) (G : GG) (v_q0 : Nat) (v_q1 : Nat) (v_q2 : Nat) (v_q3 : Nat) (v_q4 : Nat) (v_q5 : Nat) (v_q6 : Nat) (v_q7 : Nat) (v_q8 : Nat) (v_q9 : Nat) (v_q10 : Nat) (v_q11 : Nat) (v_q12 : Nat) (v_q13 : Nat) (v_q14 : Nat) (v_q15 : Nat) (v_q16 : Nat) (v_thrown : Int32) (v_gain : Int32) (v_size : Int32) (v_w : Int32) (v_s : Int32) (v_h : Int32) (v_laidArea : Int32) (v_parts : Int32) (v_isMinus : Int32) (v_readSpot : Int32) (v_isStar : Int32) (v_wantsNumber : Int32) (v_waiting : Int32) (v_shiftX : Int32) (v_shiftY : Int32) (v_times : Int32) (v_dotsLaid : Int32) (v_joinedLaid : Int32) (v_hash : Int64) (v_isThereA : (Nat → Int32)) (v_vA : (Nat → Int32)) (v_spotOfA : (Nat → Int32)) (v_inMiddleA : (Nat → Int32)) (v_tintsA : (Nat → Int32)) (v_bufferA : (Nat → Int32)) (v_valuesA : (Nat → Int32)) (v_ranksA : (Nat → Int32)) (v_oldRanksA : (Nat → Int32)) (v_partA : (Nat → Int32)) (v_allRanksA : (Nat → Int32)) (v_basesA : (Nat → Int32)) (v_isMetA : (Nat → Int32)) (v_metXA : (Nat → Int32)) (v_metYA : (Nat → Int32)) (v_lineA : (Nat → Int32)) (o0 : Int32) (h : mX5_screens v_isThereA = some (o0))  : Met l yX5_screens wsX5_screens rmX5_screens (va_Pc [.ref v_q0] (PreW G (wdX5 G v_q0 v_q1 v_q2 v_q3 v_q4 v_q5 v_q6 v_q7 v_q8 v_q9 v_q10 v_q11 v_q12 v_q13 v_q14 v_q15 v_q16 v_thrown v_gain v_size v_w v_s v_h v_laidArea v_parts v_isMinus v_readSpot v_isStar v_wantsNumber v_waiting v_shiftX v_shiftY v_times v_dotsLaid v_joinedLaid v_hash v_isThereA v_vA v_spotOfA v_inMiddleA v_tintsA v_bufferA v_valuesA v_ranksA v_oldRanksA v_partA v_allRanksA v_basesA v_isMetA v_metXA v_metYA v_lineA))) (vp_Si (fun r => r = o0 ∧ True)) 0 0 (fun _ => False) := by
  refine of_ri (cc := cX5_screens) (maxL := 3) (ty := .int) (plainFor_of_name (by decide)) rfl (Nat.le_of_ble_eq_true rfl) ?_
  intro p e s m args below meth c ls Q S hl hP hK hret
  have S : CallFix p m c cX5_screens 3 s args wsX5_screens RX5 := S
  obtain ⟨hx, hb, hml, hown, hts⟩ := id S
  have hl : lv_has ls 3 [(0, .ref v_q0)] := hl
  unfold mX5_screens at h
  refine lv_iconst (v := 0) hx hb dX5_screens_0 (by decide) ?_
  refine lv_istore_n (lv' := [(1, .int 0), (0, .ref v_q0)]) hx hb dX5_screens_1 rfl hl (by decide) rfl (fun ls hl => ?_)
  refine lv_iconst (v := 0) hx hb dX5_screens_2 (by decide) ?_
  refine lv_istore_n (lv' := [(2, .int 0), (1, .int 0), (0, .ref v_q0)]) hx hb dX5_screens_3 rfl hl (by decide) rfl (fun ls hl => ?_)
  obtain ⟨u1_0, u1_1, g1, h⟩ := bnd2_e h
  have L1 : ∀ (fu : Nat) (v1_0 : Int32) (v1_1 : Int32) (u1_0 : Int32) (u1_1 : Int32) (ls : Array Slot), mX5_screens_L4 v_isThereA fu v1_0 v1_1 = some (u1_0, u1_1) → lv_has ls 3 [(2, .int v1_0), (1, .int v1_1), (0, .ref v_q0)] → (∀ (ls : Array Slot), lv_has ls 3 [(2, .int u1_0), (1, .int u1_1), (0, .ref v_q0)] → W p l e rmX5_screens s m args below meth c s.heap [] 0 0 Q (F0 m 32 ls [])) → W p l e rmX5_screens s m args below meth c s.heap [] 0 0 Q (F0 m 4 ls []) := by
    intro fu
    induction fu with
    | zero => intro v1_0 v1_1 u1_0 u1_1 ls h; exact nomatch h
    | succ fu ih =>
      intro v1_0 v1_1 u1_0 u1_1 ls h hl kE
      rw [mX5_screens_L4] at h
      refine lv_iload_n hx hb dX5_screens_4 rfl (lv_at hl 0 rfl) ?_
      refine lv_iconst (v := 3) hx hb dX5_screens_5 (by decide) ?_
      refine lv_icmp_ge (tgt := 32) hx hb dX5_screens_6 (by decide) (fun c2 => ?_) (fun c2 => ?_)
      · replace h := ite_t c2 h
        obtain ⟨rfl, rfl⟩ := sm2 h
        exact kE ls hl
      · replace h := ite_f c2 h
        refine lv_iload_n hx hb dX5_screens_9 rfl (lv_at hl 1 rfl) ?_
        refine lv_aload_n hx hb dX5_screens_10 rfl (lv_at hl 2 rfl) ?_
        refine va_get (D := G.1) (ci := 5) (v := .ref v_q1) (C := RX5) (T := TX5) (N := 35) hx hb hts fw_X5_screens_X5 hown hK.1 hP 0 rfl rfl 1 (by decide) (hts (.fieldLink RX5 7 "HalftoneScreensModel" "isThere" "[Z") lk_X5_screens_f7) (fun _ h9 => h9) rfl dX5_screens_11 ?_
        refine lv_iload_n hx hb dX5_screens_14 rfl (lv_at hl 0 rfl) ?_
        obtain ⟨i3, h⟩ := gd_e h
        refine va_zald hx hb hK.1 hP 1 1 rfl rfl i3 dX5_screens_15 ?_
        refine lv_if_eq (tgt := 23) hx hb dX5_screens_16 (by decide) (fun c4 => ?_) (fun c4 => ?_)
        · replace h := ite_t c4 h
          refine lv_iconst (v := 0) hx hb dX5_screens_23 (by decide) ?_
          refine lv_iadd hx hb dX5_screens_24 ?_
          refine lv_topi (fun x5 e5 => ?_)
          replace h := nmB_e e5 h
          refine lv_istore_n (lv' := [(1, .int x5), (2, .int v1_0), (0, .ref v_q0)]) hx hb dX5_screens_25 rfl hl (by decide) rfl (fun ls hl => ?_)
          obtain ⟨x6, e6⟩ : ∃ y : Int32, y = v1_0 + 1 := ⟨_, rfl⟩
          replace h := nmB_e e6 h
          refine lv_iinc (v := x6) (lv' := [(2, .int x6), (1, .int x5), (0, .ref v_q0)]) hx hb dX5_screens_26 hl (k := 1) rfl (by rw [e6]; rfl) (by decide) rfl (fun ls hl => ?_)
          refine lv_goto (tgt := 4) hx hb dX5_screens_29 (by decide) ?_
          exact ih x6 x5 u1_0 u1_1 ls h hl kE
        · replace h := ite_f c4 h
          refine lv_iconst (v := 1) hx hb dX5_screens_19 (by decide) ?_
          refine lv_goto (tgt := 24) hx hb dX5_screens_20 (by decide) ?_
          refine lv_iadd hx hb dX5_screens_24 ?_
          refine lv_topi (fun x7 e7 => ?_)
          replace h := nmB_e e7 h
          refine lv_istore_n (lv' := [(1, .int x7), (2, .int v1_0), (0, .ref v_q0)]) hx hb dX5_screens_25 rfl hl (by decide) rfl (fun ls hl => ?_)
          obtain ⟨x8, e8⟩ : ∃ y : Int32, y = v1_0 + 1 := ⟨_, rfl⟩
          replace h := nmB_e e8 h
          refine lv_iinc (v := x8) (lv' := [(2, .int x8), (1, .int x7), (0, .ref v_q0)]) hx hb dX5_screens_26 hl (k := 1) rfl (by rw [e8]; rfl) (by decide) rfl (fun ls hl => ?_)
          refine lv_goto (tgt := 4) hx hb dX5_screens_29 (by decide) ?_
          exact ih x8 x7 u1_0 u1_1 ls h hl kE
  refine L1 FU 0 0 u1_0 u1_1 ls g1 hl (fun ls hl => ?_)
  refine lv_iload_n hx hb dX5_screens_32 rfl (lv_at hl 1 rfl) ?_
  exact hret _ _ _ ⟨smi h, trivial⟩ rfl dX5_screens_33
theorem fw_X5_wrong_X5 : ∀ w ∈ wsX50, w ∈ wsX5_wrong := fun w h => List.mem_cons_of_mem _ (List.mem_append_right _ h)
theorem lk_X5_wrong_f7 : Cond.fieldLink RX5 7 "HalftoneScreensModel" "isThere" "[Z" ∈ wsX5_wrong := List.mem_of_getElem? (i := 1) rfl
abbrev rmX5_wrong : Room := { frames := 2, cells := 0, slots := 0, locals := 42 }
set_option maxHeartbeats 4000000 in
set_option maxRecDepth 100000 in
theorem ctX5_wrong (l : Launch) (G : GG) (v_q0 : Nat) (v_q1 : Nat) (v_q2 : Nat) (v_q3 : Nat) (v_q4 : Nat) (v_q5 : Nat) (v_q6 : Nat) (v_q7 : Nat) (v_q8 : Nat) (v_q9 : Nat) (v_q10 : Nat) (v_q11 : Nat) (v_q12 : Nat) (v_q13 : Nat) (v_q14 : Nat) (v_q15 : Nat) (v_q16 : Nat) (v_thrown : Int32) (v_gain : Int32) (v_size : Int32) (v_w : Int32) (v_s : Int32) (v_h : Int32) (v_laidArea : Int32) (v_parts : Int32) (v_isMinus : Int32) (v_readSpot : Int32) (v_isStar : Int32) (v_wantsNumber : Int32) (v_waiting : Int32) (v_shiftX : Int32) (v_shiftY : Int32) (v_times : Int32) (v_dotsLaid : Int32) (v_joinedLaid : Int32) (v_hash : Int64) (v_isThereA : (Nat → Int32)) (v_vA : (Nat → Int32)) (v_spotOfA : (Nat → Int32)) (v_inMiddleA : (Nat → Int32)) (v_tintsA : (Nat → Int32)) (v_bufferA : (Nat → Int32)) (v_valuesA : (Nat → Int32)) (v_ranksA : (Nat → Int32)) (v_oldRanksA : (Nat → Int32)) (v_partA : (Nat → Int32)) (v_allRanksA : (Nat → Int32)) (v_basesA : (Nat → Int32)) (v_isMetA : (Nat → Int32)) (v_metXA : (Nat → Int32)) (v_metYA : (Nat → Int32)) (v_lineA : (Nat → Int32)) (a0 : Int32) (a1 : Int32) (o0 : Int32) (h : mX5_wrong v_isThereA a0 a1 = some (o0))  : Met l yX5_wrong wsX5_wrong rmX5_wrong (va_Pc [.ref v_q0, .int a0, .int a1] (PreW G (wdX5 G v_q0 v_q1 v_q2 v_q3 v_q4 v_q5 v_q6 v_q7 v_q8 v_q9 v_q10 v_q11 v_q12 v_q13 v_q14 v_q15 v_q16 v_thrown v_gain v_size v_w v_s v_h v_laidArea v_parts v_isMinus v_readSpot v_isStar v_wantsNumber v_waiting v_shiftX v_shiftY v_times v_dotsLaid v_joinedLaid v_hash v_isThereA v_vA v_spotOfA v_inMiddleA v_tintsA v_bufferA v_valuesA v_ranksA v_oldRanksA v_partA v_allRanksA v_basesA v_isMetA v_metXA v_metYA v_lineA))) (vp_Si (fun r => r = o0 ∧ True)) 0 0 (fun _ => False) := by
  refine of_ri (cc := cX5_wrong) (maxL := 3) (ty := .int) (plainFor_of_name (by decide)) rfl (Nat.le_of_ble_eq_true rfl) ?_
  intro p e s m args below meth c ls Q S hl hP hK hret
  have S : CallFix p m c cX5_wrong 3 s args wsX5_wrong RX5 := S
  obtain ⟨hx, hb, hml, hown, hts⟩ := id S
  have hl : lv_has ls 3 [(0, .ref v_q0), (1, .int a0), (2, .int a1)] := hl
  unfold mX5_wrong at h
  refine lv_iload_n hx hb dX5_wrong_0 rfl (lv_at hl 1 rfl) ?_
  obtain ⟨r1_0, g1, h⟩ := bnd1_e h
  refine roSi1 (rest := []) (As := [.int a0]) S (ctX5_isSlot l G a0 r1_0 g1) (va_cwS 1 hts gX5_wrong_X5_isSlot rfl rfl rfl hsX5_isSlot ⟨Nat.le_of_ble_eq_true rfl, Nat.le_of_ble_eq_true rfl⟩) hK hP [] rfl rfl hl.1 rfl (Nat.le_of_ble_eq_true rfl) dX5_wrong_1 ⟨Nat.le_refl _, Nat.le_refl _⟩ (fun hz1 => ?_)
  refine lv_if_ne (tgt := 11) hx hb dX5_wrong_4 (by decide) (fun c2 => ?_) (fun c2 => ?_)
  · replace h := ite_f c2 h
    refine lv_iload_n hx hb dX5_wrong_11 rfl (lv_at hl 2 rfl) ?_
    refine lv_if_ne (tgt := 19) hx hb dX5_wrong_12 (by decide) (fun c3 => ?_) (fun c3 => ?_)
    · replace h := ite_f c3 h
      refine lv_aload_n hx hb dX5_wrong_19 rfl (lv_at hl 0 rfl) ?_
      refine va_get (D := G.1) (ci := 5) (v := .ref v_q1) (C := RX5) (T := TX5) (N := 35) hx hb hts fw_X5_wrong_X5 hown hK.1 hP 0 rfl rfl 1 (by decide) (hts (.fieldLink RX5 7 "HalftoneScreensModel" "isThere" "[Z") lk_X5_wrong_f7) (fun _ h9 => h9) rfl dX5_wrong_20 ?_
      refine lv_iload_n hx hb dX5_wrong_23 rfl (lv_at hl 1 rfl) ?_
      obtain ⟨i4, h⟩ := gd_e h
      refine va_zald hx hb hK.1 hP 1 1 rfl rfl i4 dX5_wrong_24 ?_
      refine lv_if_eq (tgt := 32) hx hb dX5_wrong_25 (by decide) (fun c5 => ?_) (fun c5 => ?_)
      · replace h := ite_t c5 h
        refine lv_iconst (v := 3) hx hb dX5_wrong_32 (by decide) ?_
        exact hret _ _ _ ⟨smi h, trivial⟩ rfl dX5_wrong_33
      · replace h := ite_f c5 h
        refine lv_iconst (v := 0) hx hb dX5_wrong_28 (by decide) ?_
        refine lv_goto (tgt := 33) hx hb dX5_wrong_29 (by decide) ?_
        exact hret _ _ _ ⟨smi h, trivial⟩ rfl dX5_wrong_33
    · replace h := ite_t c3 h
      refine lv_iconst (v := 2) hx hb dX5_wrong_15 (by decide) ?_
      refine lv_goto (tgt := 33) hx hb dX5_wrong_16 (by decide) ?_
      exact hret _ _ _ ⟨smi h, trivial⟩ rfl dX5_wrong_33
  · replace h := ite_t c2 h
    refine lv_iconst (v := 1) hx hb dX5_wrong_7 (by decide) ?_
    refine lv_goto (tgt := 33) hx hb dX5_wrong_8 (by decide) ?_
    exact hret _ _ _ ⟨smi h, trivial⟩ rfl dX5_wrong_33
theorem fw_X5_product_X5 : ∀ w ∈ wsX50, w ∈ wsX5_product := fun w h => List.mem_cons_of_mem _ (List.mem_append_right _ h)
theorem lk_X5_product_f13 : Cond.fieldLink RX5 13 "HalftoneScreensModel" "v" "[I" ∈ wsX5_product := List.mem_of_getElem? (i := 1) rfl
abbrev rmX5_product : Room := { frames := 0, cells := 0, slots := 0, locals := 0 }
set_option maxHeartbeats 4000000 in
set_option maxRecDepth 100000 in
theorem ctX5_product (l : Launch) (G : GG) (v_q0 : Nat) (v_q1 : Nat) (v_q2 : Nat) (v_q3 : Nat) (v_q4 : Nat) (v_q5 : Nat) (v_q6 : Nat) (v_q7 : Nat) (v_q8 : Nat) (v_q9 : Nat) (v_q10 : Nat) (v_q11 : Nat) (v_q12 : Nat) (v_q13 : Nat) (v_q14 : Nat) (v_q15 : Nat) (v_q16 : Nat) (v_thrown : Int32) (v_gain : Int32) (v_size : Int32) (v_w : Int32) (v_s : Int32) (v_h : Int32) (v_laidArea : Int32) (v_parts : Int32) (v_isMinus : Int32) (v_readSpot : Int32) (v_isStar : Int32) (v_wantsNumber : Int32) (v_waiting : Int32) (v_shiftX : Int32) (v_shiftY : Int32) (v_times : Int32) (v_dotsLaid : Int32) (v_joinedLaid : Int32) (v_hash : Int64) (v_isThereA : (Nat → Int32)) (v_vA : (Nat → Int32)) (v_spotOfA : (Nat → Int32)) (v_inMiddleA : (Nat → Int32)) (v_tintsA : (Nat → Int32)) (v_bufferA : (Nat → Int32)) (v_valuesA : (Nat → Int32)) (v_ranksA : (Nat → Int32)) (v_oldRanksA : (Nat → Int32)) (v_partA : (Nat → Int32)) (v_allRanksA : (Nat → Int32)) (v_basesA : (Nat → Int32)) (v_isMetA : (Nat → Int32)) (v_metXA : (Nat → Int32)) (v_metYA : (Nat → Int32)) (v_lineA : (Nat → Int32)) (a0 : Int32) (a1 : Int32) (o0 : Int32) (h : mX5_product v_vA a0 a1 = some (o0))  : Met l yX5_product wsX5_product rmX5_product (va_Pc [.ref v_q0, .int a0, .int a1] (PreW G (wdX5 G v_q0 v_q1 v_q2 v_q3 v_q4 v_q5 v_q6 v_q7 v_q8 v_q9 v_q10 v_q11 v_q12 v_q13 v_q14 v_q15 v_q16 v_thrown v_gain v_size v_w v_s v_h v_laidArea v_parts v_isMinus v_readSpot v_isStar v_wantsNumber v_waiting v_shiftX v_shiftY v_times v_dotsLaid v_joinedLaid v_hash v_isThereA v_vA v_spotOfA v_inMiddleA v_tintsA v_bufferA v_valuesA v_ranksA v_oldRanksA v_partA v_allRanksA v_basesA v_isMetA v_metXA v_metYA v_lineA))) (vp_Si (fun r => r = o0 ∧ True)) 0 0 (fun _ => False) := by
  refine of_ri (cc := cX5_product) (maxL := 3) (ty := .int) (plainFor_of_name (by decide)) rfl (Nat.le_of_ble_eq_true rfl) ?_
  intro p e s m args below meth c ls Q S hl hP hK hret
  have S : CallFix p m c cX5_product 3 s args wsX5_product RX5 := S
  obtain ⟨hx, hb, hml, hown, hts⟩ := id S
  have hl : lv_has ls 3 [(0, .ref v_q0), (1, .int a0), (2, .int a1)] := hl
  unfold mX5_product at h
  refine lv_aload_n hx hb dX5_product_0 rfl (lv_at hl 0 rfl) ?_
  refine va_get (D := G.1) (ci := 5) (v := .ref v_q2) (C := RX5) (T := TX5) (N := 35) hx hb hts fw_X5_product_X5 hown hK.1 hP 0 rfl rfl 2 (by decide) (hts (.fieldLink RX5 13 "HalftoneScreensModel" "v" "[I") lk_X5_product_f13) (fun _ h9 => h9) rfl dX5_product_1 ?_
  refine lv_iload_n hx hb dX5_product_4 rfl (lv_at hl 1 rfl) ?_
  obtain ⟨i1, h⟩ := gd_e h
  refine va_iald hx hb hK.1 hP 2 0 rfl rfl i1 dX5_product_5 ?_
  refine lv_aload_n hx hb dX5_product_6 rfl (lv_at hl 0 rfl) ?_
  refine va_get (D := G.1) (ci := 5) (v := .ref v_q2) (C := RX5) (T := TX5) (N := 35) hx hb hts fw_X5_product_X5 hown hK.1 hP 0 rfl rfl 2 (by decide) (hts (.fieldLink RX5 13 "HalftoneScreensModel" "v" "[I") lk_X5_product_f13) (fun _ h9 => h9) rfl dX5_product_7 ?_
  refine lv_iload_n hx hb dX5_product_10 rfl (lv_at hl 2 rfl) ?_
  obtain ⟨i2, h⟩ := gd_e h
  refine va_iald hx hb hK.1 hP 2 0 rfl rfl i2 dX5_product_11 ?_
  refine lv_imul hx hb dX5_product_12 ?_
  refine lv_aload_n hx hb dX5_product_13 rfl (lv_at hl 0 rfl) ?_
  refine va_get (D := G.1) (ci := 5) (v := .ref v_q2) (C := RX5) (T := TX5) (N := 35) hx hb hts fw_X5_product_X5 hown hK.1 hP 0 rfl rfl 2 (by decide) (hts (.fieldLink RX5 13 "HalftoneScreensModel" "v" "[I") lk_X5_product_f13) (fun _ h9 => h9) rfl dX5_product_14 ?_
  refine lv_iload_n hx hb dX5_product_17 rfl (lv_at hl 1 rfl) ?_
  refine lv_iconst (v := 1) hx hb dX5_product_18 (by decide) ?_
  refine lv_iadd hx hb dX5_product_19 ?_
  obtain ⟨i3, h⟩ := gd_e h
  refine va_iald hx hb hK.1 hP 2 0 rfl rfl i3 dX5_product_20 ?_
  refine lv_aload_n hx hb dX5_product_21 rfl (lv_at hl 0 rfl) ?_
  refine va_get (D := G.1) (ci := 5) (v := .ref v_q2) (C := RX5) (T := TX5) (N := 35) hx hb hts fw_X5_product_X5 hown hK.1 hP 0 rfl rfl 2 (by decide) (hts (.fieldLink RX5 13 "HalftoneScreensModel" "v" "[I") lk_X5_product_f13) (fun _ h9 => h9) rfl dX5_product_22 ?_
  refine lv_iload_n hx hb dX5_product_25 rfl (lv_at hl 2 rfl) ?_
  refine lv_iconst (v := 1) hx hb dX5_product_26 (by decide) ?_
  refine lv_iadd hx hb dX5_product_27 ?_
  obtain ⟨i4, h⟩ := gd_e h
  refine va_iald hx hb hK.1 hP 2 0 rfl rfl i4 dX5_product_28 ?_
  refine lv_imul hx hb dX5_product_29 ?_
  refine lv_iadd hx hb dX5_product_30 ?_
  exact hret _ _ _ ⟨smi h, trivial⟩ rfl dX5_product_31
theorem hsX5_missing : yX5_missing.cls ≠ "java/lang/invoke/MethodHandle" ∧ yX5_missing.cls ≠ "java/lang/invoke/VarHandle" ∧ (parseMethodDescriptor yX5_missing.desc).map (fun d => d.parameters.length) = some 1 := by decide +kernel
theorem hvX5_missing : yX5_missing.cls = RX5 ∧ yX5_missing.cls ≠ "java/lang/invoke/MethodHandle" ∧ yX5_missing.cls ≠ "java/lang/invoke/VarHandle" ∧ (parseMethodDescriptor yX5_missing.desc).map (fun d => d.parameters.length) = some 1 := ⟨rfl, hsX5_missing⟩
abbrev rmX5_steppedWrong : Room := { frames := 3, cells := 0, slots := 0, locals := 64 }
set_option maxHeartbeats 4000000 in
set_option maxRecDepth 100000 in
theorem ctX5_steppedWrong (l : Launch) (G : GG) (v_q0 : Nat) (v_q1 : Nat) (v_q2 : Nat) (v_q3 : Nat) (v_q4 : Nat) (v_q5 : Nat) (v_q6 : Nat) (v_q7 : Nat) (v_q8 : Nat) (v_q9 : Nat) (v_q10 : Nat) (v_q11 : Nat) (v_q12 : Nat) (v_q13 : Nat) (v_q14 : Nat) (v_q15 : Nat) (v_q16 : Nat) (v_thrown : Int32) (v_gain : Int32) (v_size : Int32) (v_w : Int32) (v_s : Int32) (v_h : Int32) (v_laidArea : Int32) (v_parts : Int32) (v_isMinus : Int32) (v_readSpot : Int32) (v_isStar : Int32) (v_wantsNumber : Int32) (v_waiting : Int32) (v_shiftX : Int32) (v_shiftY : Int32) (v_times : Int32) (v_dotsLaid : Int32) (v_joinedLaid : Int32) (v_hash : Int64) (v_isThereA : (Nat → Int32)) (v_vA : (Nat → Int32)) (v_spotOfA : (Nat → Int32)) (v_inMiddleA : (Nat → Int32)) (v_tintsA : (Nat → Int32)) (v_bufferA : (Nat → Int32)) (v_valuesA : (Nat → Int32)) (v_ranksA : (Nat → Int32)) (v_oldRanksA : (Nat → Int32)) (v_partA : (Nat → Int32)) (v_allRanksA : (Nat → Int32)) (v_basesA : (Nat → Int32)) (v_isMetA : (Nat → Int32)) (v_metXA : (Nat → Int32)) (v_metYA : (Nat → Int32)) (v_lineA : (Nat → Int32)) (a0 : Int32) (a1 : Int32) (o0 : Int32) (h : mX5_steppedWrong v_isThereA v_vA a0 a1 = some (o0))  : Met l yX5_steppedWrong wsX5_steppedWrong rmX5_steppedWrong (va_Pc [.ref v_q0, .int a0, .int a1] (PreW G (wdX5 G v_q0 v_q1 v_q2 v_q3 v_q4 v_q5 v_q6 v_q7 v_q8 v_q9 v_q10 v_q11 v_q12 v_q13 v_q14 v_q15 v_q16 v_thrown v_gain v_size v_w v_s v_h v_laidArea v_parts v_isMinus v_readSpot v_isStar v_wantsNumber v_waiting v_shiftX v_shiftY v_times v_dotsLaid v_joinedLaid v_hash v_isThereA v_vA v_spotOfA v_inMiddleA v_tintsA v_bufferA v_valuesA v_ranksA v_oldRanksA v_partA v_allRanksA v_basesA v_isMetA v_metXA v_metYA v_lineA))) (vp_Si (fun r => r = o0 ∧ True)) 0 0 (fun _ => False) := by
  refine of_ri (cc := cX5_steppedWrong) (maxL := 4) (ty := .int) (plainFor_of_name (by decide)) rfl (Nat.le_of_ble_eq_true rfl) ?_
  intro p e s m args below meth c ls Q S hl hP hK hret
  have S : CallFix p m c cX5_steppedWrong 4 s args wsX5_steppedWrong RX5 := S
  obtain ⟨hx, hb, hml, hown, hts⟩ := id S
  have hl : lv_has ls 4 [(0, .ref v_q0), (1, .int a0), (2, .int a1)] := hl
  unfold mX5_steppedWrong at h
  refine lv_aload_n hx hb dX5_steppedWrong_0 rfl (lv_at hl 0 rfl) ?_
  refine lv_iload_n hx hb dX5_steppedWrong_1 rfl (lv_at hl 1 rfl) ?_
  obtain ⟨r1_0, g1, h⟩ := bnd1_e h
  refine roVi1 (rest := []) (As := [.int a0]) S (ctX5_missing l G v_q0 v_q1 v_q2 v_q3 v_q4 v_q5 v_q6 v_q7 v_q8 v_q9 v_q10 v_q11 v_q12 v_q13 v_q14 v_q15 v_q16 v_thrown v_gain v_size v_w v_s v_h v_laidArea v_parts v_isMinus v_readSpot v_isStar v_wantsNumber v_waiting v_shiftX v_shiftY v_times v_dotsLaid v_joinedLaid v_hash v_isThereA v_vA v_spotOfA v_inMiddleA v_tintsA v_bufferA v_valuesA v_ranksA v_oldRanksA v_partA v_allRanksA v_basesA v_isMetA v_metXA v_metYA v_lineA a0 r1_0 g1) (cwV 1 hts gX5_steppedWrong_X5_missing rfl rfl rfl hvX5_missing ⟨Nat.le_of_ble_eq_true rfl, Nat.le_of_ble_eq_true rfl⟩) hK hP [0, 1, 2, 3, 4, 5, 6, 7, 8, 9, 10, 11, 12, 13, 14, 15, 16] rfl 0 5 rfl rfl rfl rfl hl.1 rfl (Nat.le_of_ble_eq_true rfl) dX5_steppedWrong_2 ⟨Nat.le_refl _, Nat.le_refl _⟩ (fun _ => ?_)
  refine lv_istore_n (lv' := [(3, .int r1_0), (0, .ref v_q0), (1, .int a0), (2, .int a1)]) hx hb dX5_steppedWrong_5 rfl hl (by decide) rfl (fun ls hl => ?_)
  refine lv_iload_n hx hb dX5_steppedWrong_6 rfl (lv_at hl 0 rfl) ?_
  refine lv_if_le (tgt := 14) hx hb dX5_steppedWrong_7 (by decide) (fun c2 => ?_) (fun c2 => ?_)
  · replace h := ite_t c2 h
    refine lv_iload_n hx hb dX5_steppedWrong_14 rfl (lv_at hl 3 rfl) ?_
    refine lv_iconst (v := 0) hx hb dX5_steppedWrong_15 (by decide) ?_
    refine lv_aload_n hx hb dX5_steppedWrong_16 rfl (lv_at hl 1 rfl) ?_
    refine lv_iload_n hx hb dX5_steppedWrong_17 rfl (lv_at hl 2 rfl) ?_
    obtain ⟨r3_0, g3, h⟩ := bnd1_e h
    refine roVi1 (rest := [.int 0, .int a1]) (As := [.int a0]) S (ctX5_areaIn l G v_q0 v_q1 v_q2 v_q3 v_q4 v_q5 v_q6 v_q7 v_q8 v_q9 v_q10 v_q11 v_q12 v_q13 v_q14 v_q15 v_q16 v_thrown v_gain v_size v_w v_s v_h v_laidArea v_parts v_isMinus v_readSpot v_isStar v_wantsNumber v_waiting v_shiftX v_shiftY v_times v_dotsLaid v_joinedLaid v_hash v_isThereA v_vA v_spotOfA v_inMiddleA v_tintsA v_bufferA v_valuesA v_ranksA v_oldRanksA v_partA v_allRanksA v_basesA v_isMetA v_metXA v_metYA v_lineA a0 r3_0 g3) (cwV 1 hts gX5_steppedWrong_X5_areaIn rfl rfl rfl hvX5_areaIn ⟨Nat.le_of_ble_eq_true rfl, Nat.le_of_ble_eq_true rfl⟩) hK hP [0, 1, 2, 3, 4, 5, 6, 7, 8, 9, 10, 11, 12, 13, 14, 15, 16] rfl 0 5 rfl rfl rfl rfl hl.1 rfl (Nat.le_of_ble_eq_true rfl) dX5_steppedWrong_18 ⟨Nat.le_refl _, Nat.le_refl _⟩ (fun _ => ?_)
    obtain ⟨r4_0, g4, h⟩ := bnd1_e h
    refine roSi1 (rest := []) (As := [.int a1, .int 0, .int r3_0]) S (ctX5_within l G a1 0 r3_0 r4_0 g4) (va_cwS 3 hts gX5_steppedWrong_X5_within rfl rfl rfl hsX5_within ⟨Nat.le_of_ble_eq_true rfl, Nat.le_of_ble_eq_true rfl⟩) hK hP [] rfl rfl hl.1 rfl (Nat.le_of_ble_eq_true rfl) dX5_steppedWrong_21 ⟨Nat.le_refl _, Nat.le_refl _⟩ (fun hz4 => ?_)
    refine lv_if_eq (tgt := 31) hx hb dX5_steppedWrong_24 (by decide) (fun c5 => ?_) (fun c5 => ?_)
    · replace h := ite_t c5 h
      refine lv_iconst (v := 3) hx hb dX5_steppedWrong_31 (by decide) ?_
      exact hret _ _ _ ⟨smi h, trivial⟩ rfl dX5_steppedWrong_32
    · replace h := ite_f c5 h
      refine lv_iconst (v := 0) hx hb dX5_steppedWrong_27 (by decide) ?_
      refine lv_goto (tgt := 32) hx hb dX5_steppedWrong_28 (by decide) ?_
      exact hret _ _ _ ⟨smi h, trivial⟩ rfl dX5_steppedWrong_32
  · replace h := ite_f c2 h
    refine lv_iload_n hx hb dX5_steppedWrong_10 rfl (lv_at hl 0 rfl) ?_
    refine lv_goto (tgt := 32) hx hb dX5_steppedWrong_11 (by decide) ?_
    exact hret _ _ _ ⟨smi h, trivial⟩ rfl dX5_steppedWrong_32
theorem fw_X5_numberOf_X5 : ∀ w ∈ wsX50, w ∈ wsX5_numberOf := fun w h => List.mem_cons_of_mem _ (List.mem_append_right _ h)
theorem lk_X5_numberOf_f82 : Cond.fieldLink RX5 82 "HalftoneScreensModel" "h" "I" ∈ wsX5_numberOf := List.mem_of_getElem? (i := 2) rfl
theorem lk_X5_numberOf_f92 : Cond.fieldLink RX5 92 "HalftoneScreensModel" "s" "I" ∈ wsX5_numberOf := List.mem_of_getElem? (i := 3) rfl
theorem lk_X5_numberOf_f89 : Cond.fieldLink RX5 89 "HalftoneScreensModel" "w" "I" ∈ wsX5_numberOf := List.mem_of_getElem? (i := 1) rfl
abbrev rmX5_numberOf : Room := { frames := 0, cells := 0, slots := 0, locals := 0 }
set_option maxHeartbeats 4000000 in
set_option maxRecDepth 100000 in
theorem ctX5_numberOf (l : Launch) (G : GG) (v_q0 : Nat) (v_q1 : Nat) (v_q2 : Nat) (v_q3 : Nat) (v_q4 : Nat) (v_q5 : Nat) (v_q6 : Nat) (v_q7 : Nat) (v_q8 : Nat) (v_q9 : Nat) (v_q10 : Nat) (v_q11 : Nat) (v_q12 : Nat) (v_q13 : Nat) (v_q14 : Nat) (v_q15 : Nat) (v_q16 : Nat) (v_thrown : Int32) (v_gain : Int32) (v_size : Int32) (v_w : Int32) (v_s : Int32) (v_h : Int32) (v_laidArea : Int32) (v_parts : Int32) (v_isMinus : Int32) (v_readSpot : Int32) (v_isStar : Int32) (v_wantsNumber : Int32) (v_waiting : Int32) (v_shiftX : Int32) (v_shiftY : Int32) (v_times : Int32) (v_dotsLaid : Int32) (v_joinedLaid : Int32) (v_hash : Int64) (v_isThereA : (Nat → Int32)) (v_vA : (Nat → Int32)) (v_spotOfA : (Nat → Int32)) (v_inMiddleA : (Nat → Int32)) (v_tintsA : (Nat → Int32)) (v_bufferA : (Nat → Int32)) (v_valuesA : (Nat → Int32)) (v_ranksA : (Nat → Int32)) (v_oldRanksA : (Nat → Int32)) (v_partA : (Nat → Int32)) (v_allRanksA : (Nat → Int32)) (v_basesA : (Nat → Int32)) (v_isMetA : (Nat → Int32)) (v_metXA : (Nat → Int32)) (v_metYA : (Nat → Int32)) (v_lineA : (Nat → Int32)) (a0 : Int32) (o0 : Int32) (h : mX5_numberOf v_w v_s v_h a0 = some (o0))  : Met l yX5_numberOf wsX5_numberOf rmX5_numberOf (va_Pc [.ref v_q0, .int a0] (PreW G (wdX5 G v_q0 v_q1 v_q2 v_q3 v_q4 v_q5 v_q6 v_q7 v_q8 v_q9 v_q10 v_q11 v_q12 v_q13 v_q14 v_q15 v_q16 v_thrown v_gain v_size v_w v_s v_h v_laidArea v_parts v_isMinus v_readSpot v_isStar v_wantsNumber v_waiting v_shiftX v_shiftY v_times v_dotsLaid v_joinedLaid v_hash v_isThereA v_vA v_spotOfA v_inMiddleA v_tintsA v_bufferA v_valuesA v_ranksA v_oldRanksA v_partA v_allRanksA v_basesA v_isMetA v_metXA v_metYA v_lineA))) (vp_Si (fun r => r = o0 ∧ True)) 0 0 (fun _ => False) := by
  refine of_ri (cc := cX5_numberOf) (maxL := 2) (ty := .int) (plainFor_of_name (by decide)) rfl (Nat.le_of_ble_eq_true rfl) ?_
  intro p e s m args below meth c ls Q S hl hP hK hret
  have S : CallFix p m c cX5_numberOf 2 s args wsX5_numberOf RX5 := S
  obtain ⟨hx, hb, hml, hown, hts⟩ := id S
  have hl : lv_has ls 2 [(0, .ref v_q0), (1, .int a0)] := hl
  unfold mX5_numberOf at h
  refine lv_iload_n hx hb dX5_numberOf_0 rfl (lv_at hl 1 rfl) ?_
  refine lv_if_ne (tgt := 16) hx hb dX5_numberOf_1 (by decide) (fun c1 => ?_) (fun c1 => ?_)
  · replace h := ite_f c1 h
    refine lv_iload_n hx hb dX5_numberOf_16 rfl (lv_at hl 1 rfl) ?_
    refine lv_iconst (v := 1) hx hb dX5_numberOf_17 (by decide) ?_
    refine lv_icmp_ne (tgt := 28) hx hb dX5_numberOf_18 (by decide) (fun c2 => ?_) (fun c2 => ?_)
    · replace h := ite_f c2 h
      refine lv_iload_n hx hb dX5_numberOf_28 rfl (lv_at hl 1 rfl) ?_
      refine lv_iconst (v := 2) hx hb dX5_numberOf_29 (by decide) ?_
      refine lv_icmp_ne (tgt := 40) hx hb dX5_numberOf_30 (by decide) (fun c3 => ?_) (fun c3 => ?_)
      · replace h := ite_f c3 h
        refine lv_aload_n hx hb dX5_numberOf_40 rfl (lv_at hl 0 rfl) ?_
        refine va_get (D := G.1) (ci := 5) (v := .int v_h) (C := RX5) (T := TX5) (N := 35) hx hb hts fw_X5_numberOf_X5 hown hK.1 hP 0 rfl rfl 11 (by decide) (hts (.fieldLink RX5 82 "HalftoneScreensModel" "h" "I") lk_X5_numberOf_f82) (fun _ h9 => h9) rfl dX5_numberOf_41 ?_
        exact hret _ _ _ ⟨smi h, trivial⟩ rfl dX5_numberOf_44
      · replace h := ite_t c3 h
        refine lv_aload_n hx hb dX5_numberOf_33 rfl (lv_at hl 0 rfl) ?_
        refine va_get (D := G.1) (ci := 5) (v := .int v_s) (C := RX5) (T := TX5) (N := 35) hx hb hts fw_X5_numberOf_X5 hown hK.1 hP 0 rfl rfl 10 (by decide) (hts (.fieldLink RX5 92 "HalftoneScreensModel" "s" "I") lk_X5_numberOf_f92) (fun _ h9 => h9) rfl dX5_numberOf_34 ?_
        refine lv_goto (tgt := 44) hx hb dX5_numberOf_37 (by decide) ?_
        exact hret _ _ _ ⟨smi h, trivial⟩ rfl dX5_numberOf_44
    · replace h := ite_t c2 h
      refine lv_aload_n hx hb dX5_numberOf_21 rfl (lv_at hl 0 rfl) ?_
      refine va_get (D := G.1) (ci := 5) (v := .int v_w) (C := RX5) (T := TX5) (N := 35) hx hb hts fw_X5_numberOf_X5 hown hK.1 hP 0 rfl rfl 9 (by decide) (hts (.fieldLink RX5 89 "HalftoneScreensModel" "w" "I") lk_X5_numberOf_f89) (fun _ h9 => h9) rfl dX5_numberOf_22 ?_
      refine lv_goto (tgt := 44) hx hb dX5_numberOf_25 (by decide) ?_
      exact hret _ _ _ ⟨smi h, trivial⟩ rfl dX5_numberOf_44
  · replace h := ite_t c1 h
    refine lv_aload_n hx hb dX5_numberOf_4 rfl (lv_at hl 0 rfl) ?_
    refine va_get (D := G.1) (ci := 5) (v := .int v_w) (C := RX5) (T := TX5) (N := 35) hx hb hts fw_X5_numberOf_X5 hown hK.1 hP 0 rfl rfl 9 (by decide) (hts (.fieldLink RX5 89 "HalftoneScreensModel" "w" "I") lk_X5_numberOf_f89) (fun _ h9 => h9) rfl dX5_numberOf_5 ?_
    refine lv_aload_n hx hb dX5_numberOf_8 rfl (lv_at hl 0 rfl) ?_
    refine va_get (D := G.1) (ci := 5) (v := .int v_h) (C := RX5) (T := TX5) (N := 35) hx hb hts fw_X5_numberOf_X5 hown hK.1 hP 0 rfl rfl 11 (by decide) (hts (.fieldLink RX5 82 "HalftoneScreensModel" "h" "I") lk_X5_numberOf_f82) (fun _ h9 => h9) rfl dX5_numberOf_9 ?_
    refine lv_imul hx hb dX5_numberOf_12 ?_
    refine lv_goto (tgt := 44) hx hb dX5_numberOf_13 (by decide) ?_
    exact hret _ _ _ ⟨smi h, trivial⟩ rfl dX5_numberOf_44
theorem fw_X5_there_X5 : ∀ w ∈ wsX50, w ∈ wsX5_there := fun w h => List.mem_cons_of_mem _ (List.mem_append_right _ h)
theorem lk_X5_there_f7 : Cond.fieldLink RX5 7 "HalftoneScreensModel" "isThere" "[Z" ∈ wsX5_there := List.mem_of_getElem? (i := 1) rfl
abbrev rmX5_there : Room := { frames := 0, cells := 0, slots := 0, locals := 0 }
set_option maxHeartbeats 4000000 in
set_option maxRecDepth 100000 in
theorem ctX5_there (l : Launch) (G : GG) (v_q0 : Nat) (v_q1 : Nat) (v_q2 : Nat) (v_q3 : Nat) (v_q4 : Nat) (v_q5 : Nat) (v_q6 : Nat) (v_q7 : Nat) (v_q8 : Nat) (v_q9 : Nat) (v_q10 : Nat) (v_q11 : Nat) (v_q12 : Nat) (v_q13 : Nat) (v_q14 : Nat) (v_q15 : Nat) (v_q16 : Nat) (v_thrown : Int32) (v_gain : Int32) (v_size : Int32) (v_w : Int32) (v_s : Int32) (v_h : Int32) (v_laidArea : Int32) (v_parts : Int32) (v_isMinus : Int32) (v_readSpot : Int32) (v_isStar : Int32) (v_wantsNumber : Int32) (v_waiting : Int32) (v_shiftX : Int32) (v_shiftY : Int32) (v_times : Int32) (v_dotsLaid : Int32) (v_joinedLaid : Int32) (v_hash : Int64) (v_isThereA : (Nat → Int32)) (v_vA : (Nat → Int32)) (v_spotOfA : (Nat → Int32)) (v_inMiddleA : (Nat → Int32)) (v_tintsA : (Nat → Int32)) (v_bufferA : (Nat → Int32)) (v_valuesA : (Nat → Int32)) (v_ranksA : (Nat → Int32)) (v_oldRanksA : (Nat → Int32)) (v_partA : (Nat → Int32)) (v_allRanksA : (Nat → Int32)) (v_basesA : (Nat → Int32)) (v_isMetA : (Nat → Int32)) (v_metXA : (Nat → Int32)) (v_metYA : (Nat → Int32)) (v_lineA : (Nat → Int32)) (o0 : Int32) (h : mX5_there v_isThereA = some (o0))  : Met l yX5_there wsX5_there rmX5_there (va_Pc [.ref v_q0] (PreW G (wdX5 G v_q0 v_q1 v_q2 v_q3 v_q4 v_q5 v_q6 v_q7 v_q8 v_q9 v_q10 v_q11 v_q12 v_q13 v_q14 v_q15 v_q16 v_thrown v_gain v_size v_w v_s v_h v_laidArea v_parts v_isMinus v_readSpot v_isStar v_wantsNumber v_waiting v_shiftX v_shiftY v_times v_dotsLaid v_joinedLaid v_hash v_isThereA v_vA v_spotOfA v_inMiddleA v_tintsA v_bufferA v_valuesA v_ranksA v_oldRanksA v_partA v_allRanksA v_basesA v_isMetA v_metXA v_metYA v_lineA))) (vp_Si (fun r => r = o0 ∧ True)) 0 0 (fun _ => False) := by
  refine of_ri (cc := cX5_there) (maxL := 3) (ty := .int) (plainFor_of_name (by decide)) rfl (Nat.le_of_ble_eq_true rfl) ?_
  intro p e s m args below meth c ls Q S hl hP hK hret
  have S : CallFix p m c cX5_there 3 s args wsX5_there RX5 := S
  obtain ⟨hx, hb, hml, hown, hts⟩ := id S
  have hl : lv_has ls 3 [(0, .ref v_q0)] := hl
  unfold mX5_there at h
  refine lv_iconst (v := 0) hx hb dX5_there_0 (by decide) ?_
  refine lv_istore_n (lv' := [(1, .int 0), (0, .ref v_q0)]) hx hb dX5_there_1 rfl hl (by decide) rfl (fun ls hl => ?_)
  refine lv_iconst (v := 0) hx hb dX5_there_2 (by decide) ?_
  refine lv_istore_n (lv' := [(2, .int 0), (1, .int 0), (0, .ref v_q0)]) hx hb dX5_there_3 rfl hl (by decide) rfl (fun ls hl => ?_)
  obtain ⟨u1_0, u1_1, g1, h⟩ := bnd2_e h
  have L1 : ∀ (fu : Nat) (v1_0 : Int32) (v1_1 : Int32) (u1_0 : Int32) (u1_1 : Int32) (ls : Array Slot), mX5_there_L4 v_isThereA fu v1_0 v1_1 = some (u1_0, u1_1) → lv_has ls 3 [(2, .int v1_0), (1, .int v1_1), (0, .ref v_q0)] → (∀ (ls : Array Slot), lv_has ls 3 [(2, .int u1_0), (1, .int u1_1), (0, .ref v_q0)] → W p l e rmX5_there s m args below meth c s.heap [] 0 0 Q (F0 m 34 ls [])) → W p l e rmX5_there s m args below meth c s.heap [] 0 0 Q (F0 m 4 ls []) := by
    intro fu
    induction fu with
    | zero => intro v1_0 v1_1 u1_0 u1_1 ls h; exact nomatch h
    | succ fu ih =>
      intro v1_0 v1_1 u1_0 u1_1 ls h hl kE
      rw [mX5_there_L4] at h
      refine lv_iload_n hx hb dX5_there_4 rfl (lv_at hl 0 rfl) ?_
      refine lv_iconst (v := 3) hx hb dX5_there_5 (by decide) ?_
      refine lv_icmp_ge (tgt := 34) hx hb dX5_there_6 (by decide) (fun c2 => ?_) (fun c2 => ?_)
      · replace h := ite_t c2 h
        obtain ⟨rfl, rfl⟩ := sm2 h
        exact kE ls hl
      · replace h := ite_f c2 h
        refine lv_iload_n hx hb dX5_there_9 rfl (lv_at hl 1 rfl) ?_
        refine lv_aload_n hx hb dX5_there_10 rfl (lv_at hl 2 rfl) ?_
        refine va_get (D := G.1) (ci := 5) (v := .ref v_q1) (C := RX5) (T := TX5) (N := 35) hx hb hts fw_X5_there_X5 hown hK.1 hP 0 rfl rfl 1 (by decide) (hts (.fieldLink RX5 7 "HalftoneScreensModel" "isThere" "[Z") lk_X5_there_f7) (fun _ h9 => h9) rfl dX5_there_11 ?_
        refine lv_iload_n hx hb dX5_there_14 rfl (lv_at hl 0 rfl) ?_
        obtain ⟨i3, h⟩ := gd_e h
        refine va_zald hx hb hK.1 hP 1 1 rfl rfl i3 dX5_there_15 ?_
        refine lv_if_eq (tgt := 25) hx hb dX5_there_16 (by decide) (fun c4 => ?_) (fun c4 => ?_)
        · replace h := ite_t c4 h
          refine lv_iconst (v := 0) hx hb dX5_there_25 (by decide) ?_
          refine lv_iadd hx hb dX5_there_26 ?_
          refine lv_topi (fun x5 e5 => ?_)
          replace h := nmB_e e5 h
          refine lv_istore_n (lv' := [(1, .int x5), (2, .int v1_0), (0, .ref v_q0)]) hx hb dX5_there_27 rfl hl (by decide) rfl (fun ls hl => ?_)
          obtain ⟨x6, e6⟩ : ∃ y : Int32, y = v1_0 + 1 := ⟨_, rfl⟩
          replace h := nmB_e e6 h
          refine lv_iinc (v := x6) (lv' := [(2, .int x6), (1, .int x5), (0, .ref v_q0)]) hx hb dX5_there_28 hl (k := 1) rfl (by rw [e6]; rfl) (by decide) rfl (fun ls hl => ?_)
          refine lv_goto (tgt := 4) hx hb dX5_there_31 (by decide) ?_
          exact ih x6 x5 u1_0 u1_1 ls h hl kE
        · replace h := ite_f c4 h
          refine lv_iconst (v := 1) hx hb dX5_there_19 (by decide) ?_
          refine lv_iload_n hx hb dX5_there_20 rfl (lv_at hl 0 rfl) ?_
          refine lv_ishl hx hb dX5_there_21 ?_
          refine lv_goto (tgt := 26) hx hb dX5_there_22 (by decide) ?_
          refine lv_iadd hx hb dX5_there_26 ?_
          refine lv_topi (fun x7 e7 => ?_)
          replace h := nmB_e e7 h
          refine lv_istore_n (lv' := [(1, .int x7), (2, .int v1_0), (0, .ref v_q0)]) hx hb dX5_there_27 rfl hl (by decide) rfl (fun ls hl => ?_)
          obtain ⟨x8, e8⟩ : ∃ y : Int32, y = v1_0 + 1 := ⟨_, rfl⟩
          replace h := nmB_e e8 h
          refine lv_iinc (v := x8) (lv' := [(2, .int x8), (1, .int x7), (0, .ref v_q0)]) hx hb dX5_there_28 hl (k := 1) rfl (by rw [e8]; rfl) (by decide) rfl (fun ls hl => ?_)
          refine lv_goto (tgt := 4) hx hb dX5_there_31 (by decide) ?_
          exact ih x8 x7 u1_0 u1_1 ls h hl kE
  refine L1 FU 0 0 u1_0 u1_1 ls g1 hl (fun ls hl => ?_)
  refine lv_iload_n hx hb dX5_there_34 rfl (lv_at hl 1 rfl) ?_
  exact hret _ _ _ ⟨smi h, trivial⟩ rfl dX5_there_35
theorem fw_X5_strengthOf_X5 : ∀ w ∈ wsX50, w ∈ wsX5_strengthOf := fun w h => List.mem_cons_of_mem _ (List.mem_append_right _ h)
theorem lk_X5_strengthOf_f113 : Cond.fieldLink RX5 113 "HalftoneScreensModel" "laidArea" "I" ∈ wsX5_strengthOf := List.mem_of_getElem? (i := 1) rfl
theorem lk_X5_strengthOf_f89 : Cond.fieldLink RX5 89 "HalftoneScreensModel" "w" "I" ∈ wsX5_strengthOf := List.mem_of_getElem? (i := 2) rfl
theorem lk_X5_strengthOf_f32 : Cond.fieldLink RX5 32 "HalftoneScreensModel" "ranks" "[I" ∈ wsX5_strengthOf := List.mem_of_getElem? (i := 3) rfl
theorem lk_X5_strengthOf_f191 : Cond.fieldLink RX5 191 "HalftoneScreensModel" "gain" "I" ∈ wsX5_strengthOf := List.mem_of_getElem? (i := 4) rfl
theorem hsX5_placeAt : yX5_placeAt.cls ≠ "java/lang/invoke/MethodHandle" ∧ yX5_placeAt.cls ≠ "java/lang/invoke/VarHandle" ∧ (parseMethodDescriptor yX5_placeAt.desc).map (fun d => d.parameters.length) = some 2 := by decide +kernel
theorem hvX5_placeAt : yX5_placeAt.cls = RX5 ∧ yX5_placeAt.cls ≠ "java/lang/invoke/MethodHandle" ∧ yX5_placeAt.cls ≠ "java/lang/invoke/VarHandle" ∧ (parseMethodDescriptor yX5_placeAt.desc).map (fun d => d.parameters.length) = some 2 := ⟨rfl, hsX5_placeAt⟩
abbrev rmX5_strengthOf : Room := { frames := 3, cells := 0, slots := 0, locals := 66 }
set_option maxHeartbeats 4000000 in
set_option maxRecDepth 100000 in
theorem ctX5_strengthOf (l : Launch) (G : GG) (v_q0 : Nat) (v_q1 : Nat) (v_q2 : Nat) (v_q3 : Nat) (v_q4 : Nat) (v_q5 : Nat) (v_q6 : Nat) (v_q7 : Nat) (v_q8 : Nat) (v_q9 : Nat) (v_q10 : Nat) (v_q11 : Nat) (v_q12 : Nat) (v_q13 : Nat) (v_q14 : Nat) (v_q15 : Nat) (v_q16 : Nat) (v_thrown : Int32) (v_gain : Int32) (v_size : Int32) (v_w : Int32) (v_s : Int32) (v_h : Int32) (v_laidArea : Int32) (v_parts : Int32) (v_isMinus : Int32) (v_readSpot : Int32) (v_isStar : Int32) (v_wantsNumber : Int32) (v_waiting : Int32) (v_shiftX : Int32) (v_shiftY : Int32) (v_times : Int32) (v_dotsLaid : Int32) (v_joinedLaid : Int32) (v_hash : Int64) (v_isThereA : (Nat → Int32)) (v_vA : (Nat → Int32)) (v_spotOfA : (Nat → Int32)) (v_inMiddleA : (Nat → Int32)) (v_tintsA : (Nat → Int32)) (v_bufferA : (Nat → Int32)) (v_valuesA : (Nat → Int32)) (v_ranksA : (Nat → Int32)) (v_oldRanksA : (Nat → Int32)) (v_partA : (Nat → Int32)) (v_allRanksA : (Nat → Int32)) (v_basesA : (Nat → Int32)) (v_isMetA : (Nat → Int32)) (v_metXA : (Nat → Int32)) (v_metYA : (Nat → Int32)) (v_lineA : (Nat → Int32)) (a0 : Int32) (o0 : Int32) (h : mX5_strengthOf v_gain v_w v_s v_h v_laidArea v_ranksA a0 = some (o0))  : Met l yX5_strengthOf wsX5_strengthOf rmX5_strengthOf (va_Pc [.ref v_q0, .int a0] (PreW G (wdX5 G v_q0 v_q1 v_q2 v_q3 v_q4 v_q5 v_q6 v_q7 v_q8 v_q9 v_q10 v_q11 v_q12 v_q13 v_q14 v_q15 v_q16 v_thrown v_gain v_size v_w v_s v_h v_laidArea v_parts v_isMinus v_readSpot v_isStar v_wantsNumber v_waiting v_shiftX v_shiftY v_times v_dotsLaid v_joinedLaid v_hash v_isThereA v_vA v_spotOfA v_inMiddleA v_tintsA v_bufferA v_valuesA v_ranksA v_oldRanksA v_partA v_allRanksA v_basesA v_isMetA v_metXA v_metYA v_lineA))) (vp_Si (fun r => r = o0 ∧ True)) 0 0 (fun _ => False) := by
  refine of_ri (cc := cX5_strengthOf) (maxL := 9) (ty := .int) (plainFor_of_name (by decide)) rfl (Nat.le_of_ble_eq_true rfl) ?_
  intro p e s m args below meth c ls Q S hl hP hK hret
  have S : CallFix p m c cX5_strengthOf 9 s args wsX5_strengthOf RX5 := S
  obtain ⟨hx, hb, hml, hown, hts⟩ := id S
  have hl : lv_has ls 9 [(0, .ref v_q0), (1, .int a0)] := hl
  unfold mX5_strengthOf at h
  refine lv_iconst (v := 0) hx hb dX5_strengthOf_0 (by decide) ?_
  refine lv_istore_n (lv' := [(2, .int 0), (0, .ref v_q0), (1, .int a0)]) hx hb dX5_strengthOf_1 rfl hl (by decide) rfl (fun ls hl => ?_)
  refine lv_iconst (v := 0) hx hb dX5_strengthOf_2 (by decide) ?_
  refine lv_istore_n (lv' := [(3, .int 0), (2, .int 0), (0, .ref v_q0), (1, .int a0)]) hx hb dX5_strengthOf_3 rfl hl (by decide) rfl (fun ls hl => ?_)
  obtain ⟨u1_0, u1_1, g1, h⟩ := bnd2_e h
  have L1 : ∀ (fu : Nat) (v1_0 : Int32) (v1_1 : Int32) (u1_0 : Int32) (u1_1 : Int32) (ls : Array Slot), mX5_strengthOf_L4 v_gain v_w v_s v_h v_laidArea v_ranksA a0 fu v1_0 v1_1 = some (u1_0, u1_1) → lv_has ls 9 [(3, .int v1_0), (2, .int v1_1), (0, .ref v_q0), (1, .int a0)] → (∀ (ls : Array Slot), lv_has ls 9 [(3, .int u1_0), (2, .int u1_1), (0, .ref v_q0), (1, .int a0)] → W p l e rmX5_strengthOf s m args below meth c s.heap [] 0 0 Q (F0 m 172 ls [])) → W p l e rmX5_strengthOf s m args below meth c s.heap [] 0 0 Q (F0 m 4 ls []) := by
    intro fu
    induction fu with
    | zero => intro v1_0 v1_1 u1_0 u1_1 ls h; exact nomatch h
    | succ fu ih =>
      intro v1_0 v1_1 u1_0 u1_1 ls h hl kE
      rw [mX5_strengthOf_L4] at h
      refine lv_iload_n hx hb dX5_strengthOf_4 rfl (lv_at hl 0 rfl) ?_
      refine lv_aload_n hx hb dX5_strengthOf_5 rfl (lv_at hl 2 rfl) ?_
      refine va_get (D := G.1) (ci := 5) (v := .int v_laidArea) (C := RX5) (T := TX5) (N := 35) hx hb hts fw_X5_strengthOf_X5 hown hK.1 hP 0 rfl rfl 14 (by decide) (hts (.fieldLink RX5 113 "HalftoneScreensModel" "laidArea" "I") lk_X5_strengthOf_f113) (fun _ h9 => h9) rfl dX5_strengthOf_6 ?_
      refine lv_icmp_ge (tgt := 172) hx hb dX5_strengthOf_9 (by decide) (fun c2 => ?_) (fun c2 => ?_)
      · replace h := ite_t c2 h
        obtain ⟨rfl, rfl⟩ := sm2 h
        exact kE ls hl
      · replace h := ite_f c2 h
        refine lv_iload_n hx hb dX5_strengthOf_12 rfl (lv_at hl 0 rfl) ?_
        refine lv_aload_n hx hb dX5_strengthOf_13 rfl (lv_at hl 2 rfl) ?_
        refine va_get (D := G.1) (ci := 5) (v := .int v_w) (C := RX5) (T := TX5) (N := 35) hx hb hts fw_X5_strengthOf_X5 hown hK.1 hP 0 rfl rfl 9 (by decide) (hts (.fieldLink RX5 89 "HalftoneScreensModel" "w" "I") lk_X5_strengthOf_f89) (fun _ h9 => h9) rfl dX5_strengthOf_14 ?_
        obtain ⟨z3, h⟩ := gz_e h
        refine lv_irem hx hb dX5_strengthOf_17 z3 ?_
        refine lv_topi (fun x4 e4 => ?_)
        replace h := nmB_e e4 h
        refine lv_istore (lv' := [(4, .int x4), (3, .int v1_0), (2, .int v1_1), (0, .ref v_q0), (1, .int a0)]) hx hb dX5_strengthOf_18 hl (by decide) rfl (fun ls hl => ?_)
        refine lv_iload_n hx hb dX5_strengthOf_20 rfl (lv_at hl 1 rfl) ?_
        refine lv_aload_n hx hb dX5_strengthOf_21 rfl (lv_at hl 3 rfl) ?_
        refine va_get (D := G.1) (ci := 5) (v := .int v_w) (C := RX5) (T := TX5) (N := 35) hx hb hts fw_X5_strengthOf_X5 hown hK.1 hP 0 rfl rfl 9 (by decide) (hts (.fieldLink RX5 89 "HalftoneScreensModel" "w" "I") lk_X5_strengthOf_f89) (fun _ h9 => h9) rfl dX5_strengthOf_22 ?_
        obtain ⟨z5, h⟩ := gz_e h
        refine lv_idiv hx hb dX5_strengthOf_25 z5 ?_
        refine lv_topi (fun x6 e6 => ?_)
        replace h := nmB_e e6 h
        refine lv_istore (lv' := [(5, .int x6), (4, .int x4), (3, .int v1_0), (2, .int v1_1), (0, .ref v_q0), (1, .int a0)]) hx hb dX5_strengthOf_26 hl (by decide) rfl (fun ls hl => ?_)
        refine lv_iconst (v := 0) hx hb dX5_strengthOf_28 (by decide) ?_
        refine lv_istore (lv' := [(6, .int 0), (5, .int x6), (4, .int x4), (3, .int v1_0), (2, .int v1_1), (0, .ref v_q0), (1, .int a0)]) hx hb dX5_strengthOf_29 hl (by decide) rfl (fun ls hl => ?_)
        refine lv_iconst (v := 0) hx hb dX5_strengthOf_31 (by decide) ?_
        refine lv_istore (lv' := [(7, .int 0), (6, .int 0), (5, .int x6), (4, .int x4), (3, .int v1_0), (2, .int v1_1), (0, .ref v_q0), (1, .int a0)]) hx hb dX5_strengthOf_32 hl (by decide) rfl (fun ls hl => ?_)
        obtain ⟨u7_0, u7_1, g7, h⟩ := bnd2_e h
        have L7 : ∀ (fu : Nat) (v7_0 : Int32) (v7_1 : Int32) (u7_0 : Int32) (u7_1 : Int32) (ls : Array Slot), mX5_strengthOf_L34 v_w v_s v_h v_ranksA a0 x4 x6 fu v7_0 v7_1 = some (u7_0, u7_1) → lv_has ls 9 [(7, .int v7_0), (6, .int v7_1), (5, .int x6), (4, .int x4), (3, .int v1_0), (2, .int v1_1), (0, .ref v_q0), (1, .int a0)] → (∀ (ls : Array Slot), lv_has ls 9 [(7, .int u7_0), (6, .int u7_1), (5, .int x6), (4, .int x4), (3, .int v1_0), (2, .int v1_1), (0, .ref v_q0), (1, .int a0)] → W p l e rmX5_strengthOf s m args below meth c s.heap [] 0 0 Q (F0 m 120 ls [])) → W p l e rmX5_strengthOf s m args below meth c s.heap [] 0 0 Q (F0 m 34 ls []) := by
          intro fu
          induction fu with
          | zero => intro v7_0 v7_1 u7_0 u7_1 ls h; exact nomatch h
          | succ fu ih =>
            intro v7_0 v7_1 u7_0 u7_1 ls h hl kE
            rw [mX5_strengthOf_L34] at h
            refine lv_iload hx hb dX5_strengthOf_34 (lv_at hl 0 rfl) ?_
            refine lv_iconst (v := 4) hx hb dX5_strengthOf_36 (by decide) ?_
            refine lv_icmp_ge (tgt := 120) hx hb dX5_strengthOf_37 (by decide) (fun c8 => ?_) (fun c8 => ?_)
            · replace h := ite_t c8 h
              obtain ⟨rfl, rfl⟩ := sm2 h
              exact kE ls hl
            · replace h := ite_f c8 h
              refine lv_aload_n hx hb dX5_strengthOf_40 rfl (lv_at hl 6 rfl) ?_
              refine lv_iload hx hb dX5_strengthOf_41 (lv_at hl 3 rfl) ?_
              refine lv_iload hx hb dX5_strengthOf_43 (lv_at hl 0 rfl) ?_
              obtain ⟨K9, hK9, h⟩ := jB1_e h
              have J9 : ∀ (j9_0 : Int32) (ls : Array Slot), K9 j9_0 = some (u7_0, u7_1) → lv_has ls 9 [(7, .int v7_0), (6, .int v7_1), (5, .int x6), (4, .int x4), (3, .int v1_0), (2, .int v1_1), (0, .ref v_q0), (1, .int a0)] → W p l e rmX5_strengthOf s m args below meth c s.heap [] 0 0 Q (F0 m 63 ls [.int j9_0, .int x4, .ref v_q0]) := by
                intro j9_0 ls h hl
                replace h := (hK9 j9_0).symm.trans h
                refine lv_iadd hx hb dX5_strengthOf_63 ?_
                refine lv_iload hx hb dX5_strengthOf_64 (lv_at hl 2 rfl) ?_
                refine lv_iload hx hb dX5_strengthOf_66 (lv_at hl 0 rfl) ?_
                refine lv_iconst (v := 2) hx hb dX5_strengthOf_68 (by decide) ?_
                obtain ⟨K12, hK12, h⟩ := jB1_e h
                have J12 : ∀ (j12_0 : Int32) (ls : Array Slot), K12 j12_0 = some (u7_0, u7_1) → lv_has ls 9 [(7, .int v7_0), (6, .int v7_1), (5, .int x6), (4, .int x4), (3, .int v1_0), (2, .int v1_1), (0, .ref v_q0), (1, .int a0)] → W p l e rmX5_strengthOf s m args below meth c s.heap [] 0 0 Q (F0 m 87 ls [.int j12_0, .int x6, .int (x4 + j9_0), .ref v_q0]) := by
                  intro j12_0 ls h hl
                  replace h := (hK12 j12_0).symm.trans h
                  refine lv_iadd hx hb dX5_strengthOf_87 ?_
                  obtain ⟨r15_0, g15, h⟩ := bnd1_e h
                  refine roVi1 (rest := []) (As := [.int (x4 + j9_0), .int (x6 + j12_0)]) S (ctX5_placeAt l G v_q0 v_q1 v_q2 v_q3 v_q4 v_q5 v_q6 v_q7 v_q8 v_q9 v_q10 v_q11 v_q12 v_q13 v_q14 v_q15 v_q16 v_thrown v_gain v_size v_w v_s v_h v_laidArea v_parts v_isMinus v_readSpot v_isStar v_wantsNumber v_waiting v_shiftX v_shiftY v_times v_dotsLaid v_joinedLaid v_hash v_isThereA v_vA v_spotOfA v_inMiddleA v_tintsA v_bufferA v_valuesA v_ranksA v_oldRanksA v_partA v_allRanksA v_basesA v_isMetA v_metXA v_metYA v_lineA (x4 + j9_0) (x6 + j12_0) r15_0 g15) (cwV 2 hts gX5_strengthOf_X5_placeAt rfl rfl rfl hvX5_placeAt ⟨Nat.le_of_ble_eq_true rfl, Nat.le_of_ble_eq_true rfl⟩) hK hP [0, 1, 2, 3, 4, 5, 6, 7, 8, 9, 10, 11, 12, 13, 14, 15, 16] rfl 0 5 rfl rfl rfl rfl hl.1 rfl (Nat.le_of_ble_eq_true rfl) dX5_strengthOf_88 ⟨Nat.le_refl _, Nat.le_refl _⟩ (fun _ => ?_)
                  refine lv_istore (lv' := [(8, .int r15_0), (7, .int v7_0), (6, .int v7_1), (5, .int x6), (4, .int x4), (3, .int v1_0), (2, .int v1_1), (0, .ref v_q0), (1, .int a0)]) hx hb dX5_strengthOf_91 hl (by decide) rfl (fun ls hl => ?_)
                  refine lv_iload hx hb dX5_strengthOf_93 (lv_at hl 2 rfl) ?_
                  refine lv_aload_n hx hb dX5_strengthOf_95 rfl (lv_at hl 7 rfl) ?_
                  refine va_get (D := G.1) (ci := 5) (v := .ref v_q8) (C := RX5) (T := TX5) (N := 35) hx hb hts fw_X5_strengthOf_X5 hown hK.1 hP 0 rfl rfl 13 (by decide) (hts (.fieldLink RX5 32 "HalftoneScreensModel" "ranks" "[I") lk_X5_strengthOf_f32) (fun _ h9 => h9) rfl dX5_strengthOf_96 ?_
                  refine lv_iload hx hb dX5_strengthOf_99 (lv_at hl 0 rfl) ?_
                  obtain ⟨i16, h⟩ := gd_e h
                  refine va_iald hx hb hK.1 hP 8 0 rfl rfl i16 dX5_strengthOf_101 ?_
                  refine lv_iload_n hx hb dX5_strengthOf_102 rfl (lv_at hl 8 rfl) ?_
                  refine lv_icmp_ge (tgt := 110) hx hb dX5_strengthOf_103 (by decide) (fun c17 => ?_) (fun c17 => ?_)
                  · replace h := ite_t c17 h
                    refine lv_iconst (v := 0) hx hb dX5_strengthOf_110 (by decide) ?_
                    refine lv_iadd hx hb dX5_strengthOf_111 ?_
                    refine lv_topi (fun x18 e18 => ?_)
                    replace h := nmB_e e18 h
                    refine lv_istore (lv' := [(6, .int x18), (8, .int r15_0), (7, .int v7_0), (5, .int x6), (4, .int x4), (3, .int v1_0), (2, .int v1_1), (0, .ref v_q0), (1, .int a0)]) hx hb dX5_strengthOf_112 hl (by decide) rfl (fun ls hl => ?_)
                    obtain ⟨x19, e19⟩ : ∃ y : Int32, y = v7_0 + 1 := ⟨_, rfl⟩
                    replace h := nmB_e e19 h
                    refine lv_iinc (v := x19) (lv' := [(7, .int x19), (6, .int x18), (8, .int r15_0), (5, .int x6), (4, .int x4), (3, .int v1_0), (2, .int v1_1), (0, .ref v_q0), (1, .int a0)]) hx hb dX5_strengthOf_114 hl (k := 2) rfl (by rw [e19]; rfl) (by decide) rfl (fun ls hl => ?_)
                    refine lv_goto (tgt := 34) hx hb dX5_strengthOf_117 (by decide) ?_
                    exact ih x19 x18 u7_0 u7_1 ls h (lv_sub hl [0, 1, 3, 4, 5, 6, 7, 8] rfl) kE
                  · replace h := ite_f c17 h
                    refine lv_iconst (v := 1) hx hb dX5_strengthOf_106 (by decide) ?_
                    refine lv_goto (tgt := 111) hx hb dX5_strengthOf_107 (by decide) ?_
                    refine lv_iadd hx hb dX5_strengthOf_111 ?_
                    refine lv_topi (fun x20 e20 => ?_)
                    replace h := nmB_e e20 h
                    refine lv_istore (lv' := [(6, .int x20), (8, .int r15_0), (7, .int v7_0), (5, .int x6), (4, .int x4), (3, .int v1_0), (2, .int v1_1), (0, .ref v_q0), (1, .int a0)]) hx hb dX5_strengthOf_112 hl (by decide) rfl (fun ls hl => ?_)
                    obtain ⟨x21, e21⟩ : ∃ y : Int32, y = v7_0 + 1 := ⟨_, rfl⟩
                    replace h := nmB_e e21 h
                    refine lv_iinc (v := x21) (lv' := [(7, .int x21), (6, .int x20), (8, .int r15_0), (5, .int x6), (4, .int x4), (3, .int v1_0), (2, .int v1_1), (0, .ref v_q0), (1, .int a0)]) hx hb dX5_strengthOf_114 hl (k := 2) rfl (by rw [e21]; rfl) (by decide) rfl (fun ls hl => ?_)
                    refine lv_goto (tgt := 34) hx hb dX5_strengthOf_117 (by decide) ?_
                    exact ih x21 x20 u7_0 u7_1 ls h (lv_sub hl [0, 1, 3, 4, 5, 6, 7, 8] rfl) kE
                refine lv_icmp_ne (tgt := 76) hx hb dX5_strengthOf_69 (by decide) (fun c13 => ?_) (fun c13 => ?_)
                · replace h := ite_f c13 h
                  refine lv_iload hx hb dX5_strengthOf_76 (lv_at hl 0 rfl) ?_
                  refine lv_iconst (v := 3) hx hb dX5_strengthOf_78 (by decide) ?_
                  refine lv_icmp_ne (tgt := 86) hx hb dX5_strengthOf_79 (by decide) (fun c14 => ?_) (fun c14 => ?_)
                  · replace h := ite_f c14 h
                    refine lv_iconst (v := 0) hx hb dX5_strengthOf_86 (by decide) ?_
                    exact J12 0 ls h hl
                  · replace h := ite_t c14 h
                    refine lv_iconst (v := (-1)) hx hb dX5_strengthOf_82 (by decide) ?_
                    refine lv_goto (tgt := 87) hx hb dX5_strengthOf_83 (by decide) ?_
                    exact J12 (-1) ls h hl
                · replace h := ite_t c13 h
                  refine lv_iconst (v := 1) hx hb dX5_strengthOf_72 (by decide) ?_
                  refine lv_goto (tgt := 87) hx hb dX5_strengthOf_73 (by decide) ?_
                  exact J12 1 ls h hl
              refine lv_if_ne (tgt := 52) hx hb dX5_strengthOf_45 (by decide) (fun c10 => ?_) (fun c10 => ?_)
              · replace h := ite_f c10 h
                refine lv_iload hx hb dX5_strengthOf_52 (lv_at hl 0 rfl) ?_
                refine lv_iconst (v := 1) hx hb dX5_strengthOf_54 (by decide) ?_
                refine lv_icmp_ne (tgt := 62) hx hb dX5_strengthOf_55 (by decide) (fun c11 => ?_) (fun c11 => ?_)
                · replace h := ite_f c11 h
                  refine lv_iconst (v := 0) hx hb dX5_strengthOf_62 (by decide) ?_
                  exact J9 0 ls h hl
                · replace h := ite_t c11 h
                  refine lv_iconst (v := (-1)) hx hb dX5_strengthOf_58 (by decide) ?_
                  refine lv_goto (tgt := 63) hx hb dX5_strengthOf_59 (by decide) ?_
                  exact J9 (-1) ls h hl
              · replace h := ite_t c10 h
                refine lv_iconst (v := 1) hx hb dX5_strengthOf_48 (by decide) ?_
                refine lv_goto (tgt := 63) hx hb dX5_strengthOf_49 (by decide) ?_
                exact J9 1 ls h hl
        refine L7 FU 0 0 u7_0 u7_1 ls g7 hl (fun ls hl => ?_)
        refine lv_aload_n hx hb dX5_strengthOf_120 rfl (lv_at hl 6 rfl) ?_
        refine va_get (D := G.1) (ci := 5) (v := .int v_gain) (C := RX5) (T := TX5) (N := 35) hx hb hts fw_X5_strengthOf_X5 hown hK.1 hP 0 rfl rfl 6 (by decide) (hts (.fieldLink RX5 191 "HalftoneScreensModel" "gain" "I") lk_X5_strengthOf_f191) (fun _ h9 => h9) rfl dX5_strengthOf_121 ?_
        refine lv_iload hx hb dX5_strengthOf_124 (lv_at hl 1 rfl) ?_
        refine lv_imul hx hb dX5_strengthOf_126 ?_
        refine lv_bipush (v := 100) hx hb dX5_strengthOf_127 (by decide) ?_
        obtain ⟨K22, hK22, h⟩ := jB1_e h
        have J22 : ∀ (j22_0 : Int32) (ls : Array Slot), K22 j22_0 = some (u1_0, u1_1) → lv_has ls 9 [(7, .int u7_0), (6, .int u7_1), (5, .int x6), (4, .int x4), (3, .int v1_0), (2, .int v1_1), (0, .ref v_q0), (1, .int a0)] → W p l e rmX5_strengthOf s m args below meth c s.heap [] 0 0 Q (F0 m 144 ls [.int j22_0]) := by
          intro j22_0 ls h hl
          replace h := (hK22 j22_0).symm.trans h
          refine lv_istore (lv' := [(7, .int j22_0), (6, .int u7_1), (5, .int x6), (4, .int x4), (3, .int v1_0), (2, .int v1_1), (0, .ref v_q0), (1, .int a0)]) hx hb dX5_strengthOf_144 hl (by decide) rfl (fun ls hl => ?_)
          refine lv_iload_n hx hb dX5_strengthOf_146 rfl (lv_at hl 5 rfl) ?_
          refine lv_aload_n hx hb dX5_strengthOf_147 rfl (lv_at hl 6 rfl) ?_
          refine va_get (D := G.1) (ci := 5) (v := .ref v_q8) (C := RX5) (T := TX5) (N := 35) hx hb hts fw_X5_strengthOf_X5 hown hK.1 hP 0 rfl rfl 13 (by decide) (hts (.fieldLink RX5 32 "HalftoneScreensModel" "ranks" "[I") lk_X5_strengthOf_f32) (fun _ h9 => h9) rfl dX5_strengthOf_148 ?_
          refine lv_iload_n hx hb dX5_strengthOf_151 rfl (lv_at hl 4 rfl) ?_
          obtain ⟨i24, h⟩ := gd_e h
          refine va_iald hx hb hK.1 hP 8 0 rfl rfl i24 dX5_strengthOf_152 ?_
          refine lv_iload_n hx hb dX5_strengthOf_153 rfl (lv_at hl 7 rfl) ?_
          refine lv_icmp_ge (tgt := 162) hx hb dX5_strengthOf_154 (by decide) (fun c25 => ?_) (fun c25 => ?_)
          · replace h := ite_t c25 h
            refine lv_iload hx hb dX5_strengthOf_162 (lv_at hl 0 rfl) ?_
            refine lv_iadd hx hb dX5_strengthOf_164 ?_
            refine lv_topi (fun x26 e26 => ?_)
            replace h := nmB_e e26 h
            refine lv_istore_n (lv' := [(2, .int x26), (7, .int j22_0), (6, .int u7_1), (5, .int x6), (4, .int x4), (3, .int v1_0), (0, .ref v_q0), (1, .int a0)]) hx hb dX5_strengthOf_165 rfl hl (by decide) rfl (fun ls hl => ?_)
            obtain ⟨x27, e27⟩ : ∃ y : Int32, y = v1_0 + 1 := ⟨_, rfl⟩
            replace h := nmB_e e27 h
            refine lv_iinc (v := x27) (lv' := [(3, .int x27), (2, .int x26), (7, .int j22_0), (6, .int u7_1), (5, .int x6), (4, .int x4), (0, .ref v_q0), (1, .int a0)]) hx hb dX5_strengthOf_166 hl (k := 5) rfl (by rw [e27]; rfl) (by decide) rfl (fun ls hl => ?_)
            refine lv_goto (tgt := 4) hx hb dX5_strengthOf_169 (by decide) ?_
            exact ih x27 x26 u1_0 u1_1 ls h (lv_sub hl [0, 1, 6, 7] rfl) kE
          · replace h := ite_f c25 h
            refine lv_bipush (v := 100) hx hb dX5_strengthOf_157 (by decide) ?_
            refine lv_goto (tgt := 164) hx hb dX5_strengthOf_159 (by decide) ?_
            refine lv_iadd hx hb dX5_strengthOf_164 ?_
            refine lv_topi (fun x28 e28 => ?_)
            replace h := nmB_e e28 h
            refine lv_istore_n (lv' := [(2, .int x28), (7, .int j22_0), (6, .int u7_1), (5, .int x6), (4, .int x4), (3, .int v1_0), (0, .ref v_q0), (1, .int a0)]) hx hb dX5_strengthOf_165 rfl hl (by decide) rfl (fun ls hl => ?_)
            obtain ⟨x29, e29⟩ : ∃ y : Int32, y = v1_0 + 1 := ⟨_, rfl⟩
            replace h := nmB_e e29 h
            refine lv_iinc (v := x29) (lv' := [(3, .int x29), (2, .int x28), (7, .int j22_0), (6, .int u7_1), (5, .int x6), (4, .int x4), (0, .ref v_q0), (1, .int a0)]) hx hb dX5_strengthOf_166 hl (k := 5) rfl (by rw [e29]; rfl) (by decide) rfl (fun ls hl => ?_)
            refine lv_goto (tgt := 4) hx hb dX5_strengthOf_169 (by decide) ?_
            exact ih x29 x28 u1_0 u1_1 ls h (lv_sub hl [0, 1, 6, 7] rfl) kE
        refine lv_icmp_ge (tgt := 142) hx hb dX5_strengthOf_129 (by decide) (fun c23 => ?_) (fun c23 => ?_)
        · replace h := ite_t c23 h
          refine lv_bipush (v := 100) hx hb dX5_strengthOf_142 (by decide) ?_
          exact J22 100 ls h hl
        · replace h := ite_f c23 h
          refine lv_aload_n hx hb dX5_strengthOf_132 rfl (lv_at hl 6 rfl) ?_
          refine va_get (D := G.1) (ci := 5) (v := .int v_gain) (C := RX5) (T := TX5) (N := 35) hx hb hts fw_X5_strengthOf_X5 hown hK.1 hP 0 rfl rfl 6 (by decide) (hts (.fieldLink RX5 191 "HalftoneScreensModel" "gain" "I") lk_X5_strengthOf_f191) (fun _ h9 => h9) rfl dX5_strengthOf_133 ?_
          refine lv_iload hx hb dX5_strengthOf_136 (lv_at hl 1 rfl) ?_
          refine lv_imul hx hb dX5_strengthOf_138 ?_
          refine lv_goto (tgt := 144) hx hb dX5_strengthOf_139 (by decide) ?_
          exact J22 (v_gain * u7_1) ls h hl
  refine L1 FU 0 0 u1_0 u1_1 ls g1 hl (fun ls hl => ?_)
  refine lv_iload_n hx hb dX5_strengthOf_172 rfl (lv_at hl 1 rfl) ?_
  exact hret _ _ _ ⟨smi h, trivial⟩ rfl dX5_strengthOf_173
theorem fw_X5_layBasis_X5 : ∀ w ∈ wsX50, w ∈ wsX5_layBasis := fun w h => List.mem_cons_of_mem _ (List.mem_append_right _ h)
theorem lk_X5_layBasis_f82 : Cond.fieldLink RX5 82 "HalftoneScreensModel" "h" "I" ∈ wsX5_layBasis := List.mem_of_getElem? (i := 1) rfl
theorem lk_X5_layBasis_f89 : Cond.fieldLink RX5 89 "HalftoneScreensModel" "w" "I" ∈ wsX5_layBasis := List.mem_of_getElem? (i := 2) rfl
theorem lk_X5_layBasis_f92 : Cond.fieldLink RX5 92 "HalftoneScreensModel" "s" "I" ∈ wsX5_layBasis := List.mem_of_getElem? (i := 3) rfl
theorem hsX5_gcd : yX5_gcd.cls ≠ "java/lang/invoke/MethodHandle" ∧ yX5_gcd.cls ≠ "java/lang/invoke/VarHandle" ∧ (parseMethodDescriptor yX5_gcd.desc).map (fun d => d.parameters.length) = some 2 := by decide +kernel
theorem hvX5_gcd : yX5_gcd.cls = RX5 ∧ yX5_gcd.cls ≠ "java/lang/invoke/MethodHandle" ∧ yX5_gcd.cls ≠ "java/lang/invoke/VarHandle" ∧ (parseMethodDescriptor yX5_gcd.desc).map (fun d => d.parameters.length) = some 2 := ⟨rfl, hsX5_gcd⟩
abbrev rmX5_layBasis : Room := { frames := 2, cells := 0, slots := 0, locals := 44 }
set_option maxHeartbeats 4000000 in
set_option maxRecDepth 100000 in
theorem ctX5_layBasis (l : Launch) (G : GG) (v_q0 : Nat) (v_q1 : Nat) (v_q2 : Nat) (v_q3 : Nat) (v_q4 : Nat) (v_q5 : Nat) (v_q6 : Nat) (v_q7 : Nat) (v_q8 : Nat) (v_q9 : Nat) (v_q10 : Nat) (v_q11 : Nat) (v_q12 : Nat) (v_q13 : Nat) (v_q14 : Nat) (v_q15 : Nat) (v_q16 : Nat) (v_thrown : Int32) (v_gain : Int32) (v_size : Int32) (v_w : Int32) (v_s : Int32) (v_h : Int32) (v_laidArea : Int32) (v_parts : Int32) (v_isMinus : Int32) (v_readSpot : Int32) (v_isStar : Int32) (v_wantsNumber : Int32) (v_waiting : Int32) (v_shiftX : Int32) (v_shiftY : Int32) (v_times : Int32) (v_dotsLaid : Int32) (v_joinedLaid : Int32) (v_hash : Int64) (v_isThereA : (Nat → Int32)) (v_vA : (Nat → Int32)) (v_spotOfA : (Nat → Int32)) (v_inMiddleA : (Nat → Int32)) (v_tintsA : (Nat → Int32)) (v_bufferA : (Nat → Int32)) (v_valuesA : (Nat → Int32)) (v_ranksA : (Nat → Int32)) (v_oldRanksA : (Nat → Int32)) (v_partA : (Nat → Int32)) (v_allRanksA : (Nat → Int32)) (v_basesA : (Nat → Int32)) (v_isMetA : (Nat → Int32)) (v_metXA : (Nat → Int32)) (v_metYA : (Nat → Int32)) (v_lineA : (Nat → Int32)) (a0 : Int32) (a1 : Int32) (a2 : Int32) (a3 : Int32) (o0 : Int32) (o1 : Int32) (o2 : Int32) (h : mX5_layBasis a0 a1 a2 a3 = some (o0, o1, o2))  : Met l yX5_layBasis wsX5_layBasis rmX5_layBasis (va_Pc [.ref v_q0, .int a0, .int a1, .int a2, .int a3] (PreD G (wdX5 G v_q0 v_q1 v_q2 v_q3 v_q4 v_q5 v_q6 v_q7 v_q8 v_q9 v_q10 v_q11 v_q12 v_q13 v_q14 v_q15 v_q16 v_thrown v_gain v_size v_w v_s v_h v_laidArea v_parts v_isMinus v_readSpot v_isStar v_wantsNumber v_waiting v_shiftX v_shiftY v_times v_dotsLaid v_joinedLaid v_hash v_isThereA v_vA v_spotOfA v_inMiddleA v_tintsA v_bufferA v_valuesA v_ranksA v_oldRanksA v_partA v_allRanksA v_basesA v_isMetA v_metXA v_metYA v_lineA) (fun _ => True))) (QwA G (va_A0 (wdX5 G v_q0 v_q1 v_q2 v_q3 v_q4 v_q5 v_q6 v_q7 v_q8 v_q9 v_q10 v_q11 v_q12 v_q13 v_q14 v_q15 v_q16 v_thrown v_gain v_size v_w v_s v_h v_laidArea v_parts v_isMinus v_readSpot v_isStar v_wantsNumber v_waiting v_shiftX v_shiftY v_times v_dotsLaid v_joinedLaid v_hash v_isThereA v_vA v_spotOfA v_inMiddleA v_tintsA v_bufferA v_valuesA v_ranksA v_oldRanksA v_partA v_allRanksA v_basesA v_isMetA v_metXA v_metYA v_lineA)) (wdX5 G v_q0 v_q1 v_q2 v_q3 v_q4 v_q5 v_q6 v_q7 v_q8 v_q9 v_q10 v_q11 v_q12 v_q13 v_q14 v_q15 v_q16 v_thrown v_gain v_size o0 o1 o2 v_laidArea v_parts v_isMinus v_readSpot v_isStar v_wantsNumber v_waiting v_shiftX v_shiftY v_times v_dotsLaid v_joinedLaid v_hash v_isThereA v_vA v_spotOfA v_inMiddleA v_tintsA v_bufferA v_valuesA v_ranksA v_oldRanksA v_partA v_allRanksA v_basesA v_isMetA v_metXA v_metYA v_lineA) none True) 0 0 (va_A0 (wdX5 G v_q0 v_q1 v_q2 v_q3 v_q4 v_q5 v_q6 v_q7 v_q8 v_q9 v_q10 v_q11 v_q12 v_q13 v_q14 v_q15 v_q16 v_thrown v_gain v_size v_w v_s v_h v_laidArea v_parts v_isMinus v_readSpot v_isStar v_wantsNumber v_waiting v_shiftX v_shiftY v_times v_dotsLaid v_joinedLaid v_hash v_isThereA v_vA v_spotOfA v_inMiddleA v_tintsA v_bufferA v_valuesA v_ranksA v_oldRanksA v_partA v_allRanksA v_basesA v_isMetA v_metXA v_metYA v_lineA)) := by
  refine of_wv (cc := cX5_layBasis) (maxL := 6) (plainFor_of_name (by decide)) rfl (Nat.le_of_ble_eq_true rfl) ?_
  intro p e s m args below meth c ls Q A S hl hP hD hS hK hX hA hret
  obtain ⟨H, hH⟩ : ∃ H, H = s.heap := ⟨_, rfl⟩
  obtain ⟨locs, hlocs⟩ : ∃ L : List Loc, L = [] := ⟨_, rfl⟩
  rw [← hlocs]
  rw [← hlocs] at hS
  have hP : va_P G.1 vwCl (wdX5 G v_q0 v_q1 v_q2 v_q3 v_q4 v_q5 v_q6 v_q7 v_q8 v_q9 v_q10 v_q11 v_q12 v_q13 v_q14 v_q15 v_q16 v_thrown v_gain v_size v_w v_s v_h v_laidArea v_parts v_isMinus v_readSpot v_isStar v_wantsNumber v_waiting v_shiftX v_shiftY v_times v_dotsLaid v_joinedLaid v_hash v_isThereA v_vA v_spotOfA v_inMiddleA v_tintsA v_bufferA v_valuesA v_ranksA v_oldRanksA v_partA v_allRanksA v_basesA v_isMetA v_metXA v_metYA v_lineA) H := by rw [hH]; exact hP
  have hS : va_S A s.heap H locs := by rw [hH]; exact hS
  suffices hgo : W p l e rmX5_layBasis s m args below meth c H locs 0 0 Q (F0 m 0 ls []) by rw [hH] at hgo; exact hgo
  have S : CallFix p m c cX5_layBasis 6 s args wsX5_layBasis RX5 := S
  obtain ⟨hx, hb, hml, hown, hts⟩ := id S
  have hl : lv_has ls 6 [(0, .ref v_q0), (1, .int a0), (2, .int a1), (3, .int a2), (4, .int a3)] := hl
  unfold mX5_layBasis at h
  refine lv_aload_n hx hb dX5_layBasis_0 rfl (lv_at hl 0 rfl) ?_
  refine lv_iload_n hx hb dX5_layBasis_1 rfl (lv_at hl 2 rfl) ?_
  refine lv_iload hx hb dX5_layBasis_2 (lv_at hl 4 rfl) ?_
  obtain ⟨r1_0, g1, h⟩ := bnd1_e h
  refine roSi1 (rest := [.ref v_q0]) (As := [.int a1, .int a3]) S (ctX5_gcd l G a1 a3 r1_0 g1) (va_cwS 2 hts gX5_layBasis_X5_gcd rfl rfl rfl hsX5_gcd ⟨Nat.le_of_ble_eq_true rfl, Nat.le_of_ble_eq_true rfl⟩) hK hP [] rfl rfl hl.1 rfl (Nat.le_of_ble_eq_true rfl) dX5_layBasis_4 ⟨Nat.le_refl _, Nat.le_refl _⟩ (fun _ => ?_)
  refine va_put (D := G.1) (ci := 5) (v := .int r1_0) (ty := .int) (C := RX5) (T := TX5) (N := 35) hx hb hts fw_X5_layBasis_X5 tyX5 tyX5_ok nmX5 hown hK.1 hP hD hS 0 rfl rfl 11 (by decide) (hts (.fieldLink RX5 82 "HalftoneScreensModel" "h" "I") lk_X5_layBasis_f82) (fun _ h9 => h9) rfl (tyX5_ok 11 (by decide)) rfl rfl (Nat.le_of_ble_eq_true rfl) dX5_layBasis_7 (fun H locs hP hD hS => ?_)
  have hP : va_P G.1 vwCl (wdX5 G v_q0 v_q1 v_q2 v_q3 v_q4 v_q5 v_q6 v_q7 v_q8 v_q9 v_q10 v_q11 v_q12 v_q13 v_q14 v_q15 v_q16 v_thrown v_gain v_size v_w v_s r1_0 v_laidArea v_parts v_isMinus v_readSpot v_isStar v_wantsNumber v_waiting v_shiftX v_shiftY v_times v_dotsLaid v_joinedLaid v_hash v_isThereA v_vA v_spotOfA v_inMiddleA v_tintsA v_bufferA v_valuesA v_ranksA v_oldRanksA v_partA v_allRanksA v_basesA v_isMetA v_metXA v_metYA v_lineA) H := hP
  have hD : va_D A (wdX5 G v_q0 v_q1 v_q2 v_q3 v_q4 v_q5 v_q6 v_q7 v_q8 v_q9 v_q10 v_q11 v_q12 v_q13 v_q14 v_q15 v_q16 v_thrown v_gain v_size v_w v_s r1_0 v_laidArea v_parts v_isMinus v_readSpot v_isStar v_wantsNumber v_waiting v_shiftX v_shiftY v_times v_dotsLaid v_joinedLaid v_hash v_isThereA v_vA v_spotOfA v_inMiddleA v_tintsA v_bufferA v_valuesA v_ranksA v_oldRanksA v_partA v_allRanksA v_basesA v_isMetA v_metXA v_metYA v_lineA) := hD
  refine lv_aload_n hx hb dX5_layBasis_10 rfl (lv_at hl 0 rfl) ?_
  refine lv_iload_n hx hb dX5_layBasis_11 rfl (lv_at hl 1 rfl) ?_
  refine lv_iload_n hx hb dX5_layBasis_12 rfl (lv_at hl 2 rfl) ?_
  refine lv_iload_n hx hb dX5_layBasis_13 rfl (lv_at hl 3 rfl) ?_
  refine lv_iload hx hb dX5_layBasis_14 (lv_at hl 4 rfl) ?_
  obtain ⟨r2_0, g2, h⟩ := bnd1_e h
  refine roSi1 (rest := [.ref v_q0]) (As := [.int a0, .int a1, .int a2, .int a3]) S (ctX5_areaOf l G a0 a1 a2 a3 r2_0 g2) (va_cwS 4 hts gX5_layBasis_X5_areaOf rfl rfl rfl hsX5_areaOf ⟨Nat.le_of_ble_eq_true rfl, Nat.le_of_ble_eq_true rfl⟩) hK hP [] rfl rfl hl.1 rfl (Nat.le_of_ble_eq_true rfl) dX5_layBasis_16 ⟨Nat.le_refl _, Nat.le_refl _⟩ (fun _ => ?_)
  refine lv_aload_n hx hb dX5_layBasis_19 rfl (lv_at hl 0 rfl) ?_
  refine va_get (D := G.1) (ci := 5) (v := .int r1_0) (C := RX5) (T := TX5) (N := 35) hx hb hts fw_X5_layBasis_X5 hown hK.1 hP 0 rfl rfl 11 (by decide) (hts (.fieldLink RX5 82 "HalftoneScreensModel" "h" "I") lk_X5_layBasis_f82) (fun _ h9 => h9) rfl dX5_layBasis_20 ?_
  obtain ⟨z3, h⟩ := gz_e h
  refine lv_idiv hx hb dX5_layBasis_23 z3 ?_
  refine lv_topi (fun x4 e4 => ?_)
  replace h := nmB_e e4 h
  refine va_put (D := G.1) (ci := 5) (v := .int x4) (ty := .int) (C := RX5) (T := TX5) (N := 35) hx hb hts fw_X5_layBasis_X5 tyX5 tyX5_ok nmX5 hown hK.1 hP hD hS 0 rfl rfl 9 (by decide) (hts (.fieldLink RX5 89 "HalftoneScreensModel" "w" "I") lk_X5_layBasis_f89) (fun _ h9 => h9) rfl (tyX5_ok 9 (by decide)) rfl rfl (Nat.le_of_ble_eq_true rfl) dX5_layBasis_24 (fun H locs hP hD hS => ?_)
  have hP : va_P G.1 vwCl (wdX5 G v_q0 v_q1 v_q2 v_q3 v_q4 v_q5 v_q6 v_q7 v_q8 v_q9 v_q10 v_q11 v_q12 v_q13 v_q14 v_q15 v_q16 v_thrown v_gain v_size x4 v_s r1_0 v_laidArea v_parts v_isMinus v_readSpot v_isStar v_wantsNumber v_waiting v_shiftX v_shiftY v_times v_dotsLaid v_joinedLaid v_hash v_isThereA v_vA v_spotOfA v_inMiddleA v_tintsA v_bufferA v_valuesA v_ranksA v_oldRanksA v_partA v_allRanksA v_basesA v_isMetA v_metXA v_metYA v_lineA) H := hP
  have hD : va_D A (wdX5 G v_q0 v_q1 v_q2 v_q3 v_q4 v_q5 v_q6 v_q7 v_q8 v_q9 v_q10 v_q11 v_q12 v_q13 v_q14 v_q15 v_q16 v_thrown v_gain v_size x4 v_s r1_0 v_laidArea v_parts v_isMinus v_readSpot v_isStar v_wantsNumber v_waiting v_shiftX v_shiftY v_times v_dotsLaid v_joinedLaid v_hash v_isThereA v_vA v_spotOfA v_inMiddleA v_tintsA v_bufferA v_valuesA v_ranksA v_oldRanksA v_partA v_allRanksA v_basesA v_isMetA v_metXA v_metYA v_lineA) := hD
  refine lv_iload hx hb dX5_layBasis_27 (lv_at hl 4 rfl) ?_
  refine lv_if_ne (tgt := 54) hx hb dX5_layBasis_29 (by decide) (fun c5 => ?_) (fun c5 => ?_)
  · replace h := ite_f c5 h
    refine lv_iconst (v := 0) hx hb dX5_layBasis_54 (by decide) ?_
    refine lv_istore (lv' := [(5, .int 0), (0, .ref v_q0), (1, .int a0), (2, .int a1), (3, .int a2), (4, .int a3)]) hx hb dX5_layBasis_55 hl (by decide) rfl (fun ls hl => ?_)
    obtain ⟨u6_0, g6, h⟩ := bnd1_e h
    have L6 : ∀ (fu : Nat) (v6_0 : Int32) (u6_0 : Int32) (H : Heap) (locs : List Loc) (ls : Array Slot), mX5_layBasis_L57 a1 a3 r1_0 fu v6_0 = some (u6_0) → lv_has ls 6 [(5, .int v6_0), (0, .ref v_q0), (1, .int a0), (2, .int a1), (3, .int a2), (4, .int a3)] → va_P G.1 vwCl (wdX5 G v_q0 v_q1 v_q2 v_q3 v_q4 v_q5 v_q6 v_q7 v_q8 v_q9 v_q10 v_q11 v_q12 v_q13 v_q14 v_q15 v_q16 v_thrown v_gain v_size x4 v_s r1_0 v_laidArea v_parts v_isMinus v_readSpot v_isStar v_wantsNumber v_waiting v_shiftX v_shiftY v_times v_dotsLaid v_joinedLaid v_hash v_isThereA v_vA v_spotOfA v_inMiddleA v_tintsA v_bufferA v_valuesA v_ranksA v_oldRanksA v_partA v_allRanksA v_basesA v_isMetA v_metXA v_metYA v_lineA) H → va_D A (wdX5 G v_q0 v_q1 v_q2 v_q3 v_q4 v_q5 v_q6 v_q7 v_q8 v_q9 v_q10 v_q11 v_q12 v_q13 v_q14 v_q15 v_q16 v_thrown v_gain v_size x4 v_s r1_0 v_laidArea v_parts v_isMinus v_readSpot v_isStar v_wantsNumber v_waiting v_shiftX v_shiftY v_times v_dotsLaid v_joinedLaid v_hash v_isThereA v_vA v_spotOfA v_inMiddleA v_tintsA v_bufferA v_valuesA v_ranksA v_oldRanksA v_partA v_allRanksA v_basesA v_isMetA v_metXA v_metYA v_lineA) → va_S A s.heap H locs → (∀ (H : Heap) (locs : List Loc) (ls : Array Slot), lv_has ls 6 [(5, .int u6_0), (0, .ref v_q0), (1, .int a0), (2, .int a1), (3, .int a2), (4, .int a3)] → va_P G.1 vwCl (wdX5 G v_q0 v_q1 v_q2 v_q3 v_q4 v_q5 v_q6 v_q7 v_q8 v_q9 v_q10 v_q11 v_q12 v_q13 v_q14 v_q15 v_q16 v_thrown v_gain v_size x4 v_s r1_0 v_laidArea v_parts v_isMinus v_readSpot v_isStar v_wantsNumber v_waiting v_shiftX v_shiftY v_times v_dotsLaid v_joinedLaid v_hash v_isThereA v_vA v_spotOfA v_inMiddleA v_tintsA v_bufferA v_valuesA v_ranksA v_oldRanksA v_partA v_allRanksA v_basesA v_isMetA v_metXA v_metYA v_lineA) H → va_D A (wdX5 G v_q0 v_q1 v_q2 v_q3 v_q4 v_q5 v_q6 v_q7 v_q8 v_q9 v_q10 v_q11 v_q12 v_q13 v_q14 v_q15 v_q16 v_thrown v_gain v_size x4 v_s r1_0 v_laidArea v_parts v_isMinus v_readSpot v_isStar v_wantsNumber v_waiting v_shiftX v_shiftY v_times v_dotsLaid v_joinedLaid v_hash v_isThereA v_vA v_spotOfA v_inMiddleA v_tintsA v_bufferA v_valuesA v_ranksA v_oldRanksA v_partA v_allRanksA v_basesA v_isMetA v_metXA v_metYA v_lineA) → va_S A s.heap H locs → W p l e rmX5_layBasis s m args below meth c H locs 0 0 Q (F0 m 78 ls [])) → W p l e rmX5_layBasis s m args below meth c H locs 0 0 Q (F0 m 57 ls []) := by
      intro fu
      induction fu with
      | zero => intro v6_0 u6_0 H locs ls h; exact nomatch h
      | succ fu ih =>
        intro v6_0 u6_0 H locs ls h hl hP hD hS kE
        rw [mX5_layBasis_L57] at h
        refine lv_aload_n hx hb dX5_layBasis_57 rfl (lv_at hl 1 rfl) ?_
        refine va_get (D := G.1) (ci := 5) (v := .int r1_0) (C := RX5) (T := TX5) (N := 35) hx hb hts fw_X5_layBasis_X5 hown hK.1 hP 0 rfl rfl 11 (by decide) (hts (.fieldLink RX5 82 "HalftoneScreensModel" "h" "I") lk_X5_layBasis_f82) (fun _ h9 => h9) rfl dX5_layBasis_58 ?_
        refine lv_iload hx hb dX5_layBasis_61 (lv_at hl 0 rfl) ?_
        refine lv_iload_n hx hb dX5_layBasis_63 rfl (lv_at hl 3 rfl) ?_
        refine lv_imul hx hb dX5_layBasis_64 ?_
        refine lv_isub hx hb dX5_layBasis_65 ?_
        refine lv_iload hx hb dX5_layBasis_66 (lv_at hl 5 rfl) ?_
        obtain ⟨z7, h⟩ := gz_e h
        refine lv_irem hx hb dX5_layBasis_68 z7 ?_
        refine lv_if_eq (tgt := 78) hx hb dX5_layBasis_69 (by decide) (fun c8 => ?_) (fun c8 => ?_)
        · replace h := ite_t c8 h
          obtain rfl := sm1 h
          exact kE H locs ls hl hP hD hS
        · replace h := ite_f c8 h
          obtain ⟨x9, e9⟩ : ∃ y : Int32, y = v6_0 + 1 := ⟨_, rfl⟩
          replace h := nmB_e e9 h
          refine lv_iinc (v := x9) (lv' := [(5, .int x9), (0, .ref v_q0), (1, .int a0), (2, .int a1), (3, .int a2), (4, .int a3)]) hx hb dX5_layBasis_72 hl (k := 0) rfl (by rw [e9]; rfl) (by decide) rfl (fun ls hl => ?_)
          refine lv_goto (tgt := 57) hx hb dX5_layBasis_75 (by decide) ?_
          exact ih x9 u6_0 H locs ls h hl hP hD hS kE
    refine L6 FU 0 u6_0 H locs ls g6 hl hP hD hS (fun H locs ls hl hP hD hS => ?_)
    refine lv_aload_n hx hb dX5_layBasis_78 rfl (lv_at hl 1 rfl) ?_
    refine lv_iload hx hb dX5_layBasis_79 (lv_at hl 0 rfl) ?_
    refine lv_iload_n hx hb dX5_layBasis_81 rfl (lv_at hl 2 rfl) ?_
    refine lv_imul hx hb dX5_layBasis_82 ?_
    refine lv_aload_n hx hb dX5_layBasis_83 rfl (lv_at hl 1 rfl) ?_
    refine va_get (D := G.1) (ci := 5) (v := .int r1_0) (C := RX5) (T := TX5) (N := 35) hx hb hts fw_X5_layBasis_X5 hown hK.1 hP 0 rfl rfl 11 (by decide) (hts (.fieldLink RX5 82 "HalftoneScreensModel" "h" "I") lk_X5_layBasis_f82) (fun _ h9 => h9) rfl dX5_layBasis_84 ?_
    refine lv_iload hx hb dX5_layBasis_87 (lv_at hl 0 rfl) ?_
    refine lv_iload_n hx hb dX5_layBasis_89 rfl (lv_at hl 3 rfl) ?_
    refine lv_imul hx hb dX5_layBasis_90 ?_
    refine lv_isub hx hb dX5_layBasis_91 ?_
    refine lv_iload hx hb dX5_layBasis_92 (lv_at hl 5 rfl) ?_
    obtain ⟨z10, h⟩ := gz_e h
    refine lv_idiv hx hb dX5_layBasis_94 z10 ?_
    refine lv_iload_n hx hb dX5_layBasis_95 rfl (lv_at hl 4 rfl) ?_
    refine lv_imul hx hb dX5_layBasis_96 ?_
    refine lv_iadd hx hb dX5_layBasis_97 ?_
    refine lv_aload_n hx hb dX5_layBasis_98 rfl (lv_at hl 1 rfl) ?_
    refine va_get (D := G.1) (ci := 5) (v := .int x4) (C := RX5) (T := TX5) (N := 35) hx hb hts fw_X5_layBasis_X5 hown hK.1 hP 0 rfl rfl 9 (by decide) (hts (.fieldLink RX5 89 "HalftoneScreensModel" "w" "I") lk_X5_layBasis_f89) (fun _ h9 => h9) rfl dX5_layBasis_99 ?_
    obtain ⟨r11_0, g11, h⟩ := bnd1_e h
    refine roSi1 (rest := [.ref v_q0]) (As := [.int ((u6_0 * a0) + (((r1_0 - (u6_0 * a1)) / a3) * a2)), .int x4]) S (ctX5_mod l G ((u6_0 * a0) + (((r1_0 - (u6_0 * a1)) / a3) * a2)) x4 r11_0 g11) (va_cwS 2 hts gX5_layBasis_X5_mod rfl rfl rfl hsX5_mod ⟨Nat.le_of_ble_eq_true rfl, Nat.le_of_ble_eq_true rfl⟩) hK hP [] rfl rfl hl.1 rfl (Nat.le_of_ble_eq_true rfl) dX5_layBasis_102 ⟨Nat.le_refl _, Nat.le_refl _⟩ (fun _ => ?_)
    refine va_put (D := G.1) (ci := 5) (v := .int r11_0) (ty := .int) (C := RX5) (T := TX5) (N := 35) hx hb hts fw_X5_layBasis_X5 tyX5 tyX5_ok nmX5 hown hK.1 hP hD hS 0 rfl rfl 10 (by decide) (hts (.fieldLink RX5 92 "HalftoneScreensModel" "s" "I") lk_X5_layBasis_f92) (fun _ h9 => h9) rfl (tyX5_ok 10 (by decide)) rfl rfl (Nat.le_of_ble_eq_true rfl) dX5_layBasis_105 (fun H locs hP hD hS => ?_)
    have hP : va_P G.1 vwCl (wdX5 G v_q0 v_q1 v_q2 v_q3 v_q4 v_q5 v_q6 v_q7 v_q8 v_q9 v_q10 v_q11 v_q12 v_q13 v_q14 v_q15 v_q16 v_thrown v_gain v_size x4 r11_0 r1_0 v_laidArea v_parts v_isMinus v_readSpot v_isStar v_wantsNumber v_waiting v_shiftX v_shiftY v_times v_dotsLaid v_joinedLaid v_hash v_isThereA v_vA v_spotOfA v_inMiddleA v_tintsA v_bufferA v_valuesA v_ranksA v_oldRanksA v_partA v_allRanksA v_basesA v_isMetA v_metXA v_metYA v_lineA) H := hP
    have hD : va_D A (wdX5 G v_q0 v_q1 v_q2 v_q3 v_q4 v_q5 v_q6 v_q7 v_q8 v_q9 v_q10 v_q11 v_q12 v_q13 v_q14 v_q15 v_q16 v_thrown v_gain v_size x4 r11_0 r1_0 v_laidArea v_parts v_isMinus v_readSpot v_isStar v_wantsNumber v_waiting v_shiftX v_shiftY v_times v_dotsLaid v_joinedLaid v_hash v_isThereA v_vA v_spotOfA v_inMiddleA v_tintsA v_bufferA v_valuesA v_ranksA v_oldRanksA v_partA v_allRanksA v_basesA v_isMetA v_metXA v_metYA v_lineA) := hD
    obtain ⟨rfl, rfl, rfl⟩ := sm3 h
    exact hret _ _ _ _ trivial hP hD hS dX5_layBasis_108
  · replace h := ite_t c5 h
    refine lv_aload_n hx hb dX5_layBasis_32 rfl (lv_at hl 0 rfl) ?_
    refine lv_iload_n hx hb dX5_layBasis_33 rfl (lv_at hl 2 rfl) ?_
    refine lv_if_le (tgt := 41) hx hb dX5_layBasis_34 (by decide) (fun c12 => ?_) (fun c12 => ?_)
    · replace h := ite_t c12 h
      refine lv_iload_n hx hb dX5_layBasis_41 rfl (lv_at hl 1 rfl) ?_
      refine lv_ineg hx hb dX5_layBasis_42 ?_
      refine lv_aload_n hx hb dX5_layBasis_43 rfl (lv_at hl 0 rfl) ?_
      refine va_get (D := G.1) (ci := 5) (v := .int x4) (C := RX5) (T := TX5) (N := 35) hx hb hts fw_X5_layBasis_X5 hown hK.1 hP 0 rfl rfl 9 (by decide) (hts (.fieldLink RX5 89 "HalftoneScreensModel" "w" "I") lk_X5_layBasis_f89) (fun _ h9 => h9) rfl dX5_layBasis_44 ?_
      obtain ⟨r13_0, g13, h⟩ := bnd1_e h
      refine roSi1 (rest := [.ref v_q0]) (As := [.int (-a0), .int x4]) S (ctX5_mod l G (-a0) x4 r13_0 g13) (va_cwS 2 hts gX5_layBasis_X5_mod rfl rfl rfl hsX5_mod ⟨Nat.le_of_ble_eq_true rfl, Nat.le_of_ble_eq_true rfl⟩) hK hP [] rfl rfl hl.1 rfl (Nat.le_of_ble_eq_true rfl) dX5_layBasis_47 ⟨Nat.le_refl _, Nat.le_refl _⟩ (fun _ => ?_)
      refine va_put (D := G.1) (ci := 5) (v := .int r13_0) (ty := .int) (C := RX5) (T := TX5) (N := 35) hx hb hts fw_X5_layBasis_X5 tyX5 tyX5_ok nmX5 hown hK.1 hP hD hS 0 rfl rfl 10 (by decide) (hts (.fieldLink RX5 92 "HalftoneScreensModel" "s" "I") lk_X5_layBasis_f92) (fun _ h9 => h9) rfl (tyX5_ok 10 (by decide)) rfl rfl (Nat.le_of_ble_eq_true rfl) dX5_layBasis_50 (fun H locs hP hD hS => ?_)
      have hP : va_P G.1 vwCl (wdX5 G v_q0 v_q1 v_q2 v_q3 v_q4 v_q5 v_q6 v_q7 v_q8 v_q9 v_q10 v_q11 v_q12 v_q13 v_q14 v_q15 v_q16 v_thrown v_gain v_size x4 r13_0 r1_0 v_laidArea v_parts v_isMinus v_readSpot v_isStar v_wantsNumber v_waiting v_shiftX v_shiftY v_times v_dotsLaid v_joinedLaid v_hash v_isThereA v_vA v_spotOfA v_inMiddleA v_tintsA v_bufferA v_valuesA v_ranksA v_oldRanksA v_partA v_allRanksA v_basesA v_isMetA v_metXA v_metYA v_lineA) H := hP
      have hD : va_D A (wdX5 G v_q0 v_q1 v_q2 v_q3 v_q4 v_q5 v_q6 v_q7 v_q8 v_q9 v_q10 v_q11 v_q12 v_q13 v_q14 v_q15 v_q16 v_thrown v_gain v_size x4 r13_0 r1_0 v_laidArea v_parts v_isMinus v_readSpot v_isStar v_wantsNumber v_waiting v_shiftX v_shiftY v_times v_dotsLaid v_joinedLaid v_hash v_isThereA v_vA v_spotOfA v_inMiddleA v_tintsA v_bufferA v_valuesA v_ranksA v_oldRanksA v_partA v_allRanksA v_basesA v_isMetA v_metXA v_metYA v_lineA) := hD
      obtain ⟨rfl, rfl, rfl⟩ := sm3 h
      exact hret _ _ _ _ trivial hP hD hS dX5_layBasis_53
    · replace h := ite_f c12 h
      refine lv_iload_n hx hb dX5_layBasis_37 rfl (lv_at hl 1 rfl) ?_
      refine lv_goto (tgt := 43) hx hb dX5_layBasis_38 (by decide) ?_
      refine lv_aload_n hx hb dX5_layBasis_43 rfl (lv_at hl 0 rfl) ?_
      refine va_get (D := G.1) (ci := 5) (v := .int x4) (C := RX5) (T := TX5) (N := 35) hx hb hts fw_X5_layBasis_X5 hown hK.1 hP 0 rfl rfl 9 (by decide) (hts (.fieldLink RX5 89 "HalftoneScreensModel" "w" "I") lk_X5_layBasis_f89) (fun _ h9 => h9) rfl dX5_layBasis_44 ?_
      obtain ⟨r14_0, g14, h⟩ := bnd1_e h
      refine roSi1 (rest := [.ref v_q0]) (As := [.int a0, .int x4]) S (ctX5_mod l G a0 x4 r14_0 g14) (va_cwS 2 hts gX5_layBasis_X5_mod rfl rfl rfl hsX5_mod ⟨Nat.le_of_ble_eq_true rfl, Nat.le_of_ble_eq_true rfl⟩) hK hP [] rfl rfl hl.1 rfl (Nat.le_of_ble_eq_true rfl) dX5_layBasis_47 ⟨Nat.le_refl _, Nat.le_refl _⟩ (fun _ => ?_)
      refine va_put (D := G.1) (ci := 5) (v := .int r14_0) (ty := .int) (C := RX5) (T := TX5) (N := 35) hx hb hts fw_X5_layBasis_X5 tyX5 tyX5_ok nmX5 hown hK.1 hP hD hS 0 rfl rfl 10 (by decide) (hts (.fieldLink RX5 92 "HalftoneScreensModel" "s" "I") lk_X5_layBasis_f92) (fun _ h9 => h9) rfl (tyX5_ok 10 (by decide)) rfl rfl (Nat.le_of_ble_eq_true rfl) dX5_layBasis_50 (fun H locs hP hD hS => ?_)
      have hP : va_P G.1 vwCl (wdX5 G v_q0 v_q1 v_q2 v_q3 v_q4 v_q5 v_q6 v_q7 v_q8 v_q9 v_q10 v_q11 v_q12 v_q13 v_q14 v_q15 v_q16 v_thrown v_gain v_size x4 r14_0 r1_0 v_laidArea v_parts v_isMinus v_readSpot v_isStar v_wantsNumber v_waiting v_shiftX v_shiftY v_times v_dotsLaid v_joinedLaid v_hash v_isThereA v_vA v_spotOfA v_inMiddleA v_tintsA v_bufferA v_valuesA v_ranksA v_oldRanksA v_partA v_allRanksA v_basesA v_isMetA v_metXA v_metYA v_lineA) H := hP
      have hD : va_D A (wdX5 G v_q0 v_q1 v_q2 v_q3 v_q4 v_q5 v_q6 v_q7 v_q8 v_q9 v_q10 v_q11 v_q12 v_q13 v_q14 v_q15 v_q16 v_thrown v_gain v_size x4 r14_0 r1_0 v_laidArea v_parts v_isMinus v_readSpot v_isStar v_wantsNumber v_waiting v_shiftX v_shiftY v_times v_dotsLaid v_joinedLaid v_hash v_isThereA v_vA v_spotOfA v_inMiddleA v_tintsA v_bufferA v_valuesA v_ranksA v_oldRanksA v_partA v_allRanksA v_basesA v_isMetA v_metXA v_metYA v_lineA) := hD
      obtain ⟨rfl, rfl, rfl⟩ := sm3 h
      exact hret _ _ _ _ trivial hP hD hS dX5_layBasis_53
theorem fw_X5_layScreen_X5 : ∀ w ∈ wsX50, w ∈ wsX5_layScreen := fun w h => List.mem_cons_of_mem _ (List.mem_append_right _ h)
theorem lk_X5_layScreen_f13 : Cond.fieldLink RX5 13 "HalftoneScreensModel" "v" "[I" ∈ wsX5_layScreen := List.mem_of_getElem? (i := 1) rfl
theorem hsX5_layBasis : yX5_layBasis.cls ≠ "java/lang/invoke/MethodHandle" ∧ yX5_layBasis.cls ≠ "java/lang/invoke/VarHandle" ∧ (parseMethodDescriptor yX5_layBasis.desc).map (fun d => d.parameters.length) = some 4 := by decide +kernel
theorem hvX5_layBasis : yX5_layBasis.cls = RX5 ∧ yX5_layBasis.cls ≠ "java/lang/invoke/MethodHandle" ∧ yX5_layBasis.cls ≠ "java/lang/invoke/VarHandle" ∧ (parseMethodDescriptor yX5_layBasis.desc).map (fun d => d.parameters.length) = some 4 := ⟨rfl, hsX5_layBasis⟩
abbrev rmX5_layScreen : Room := { frames := 3, cells := 0, slots := 0, locals := 69 }
set_option maxHeartbeats 4000000 in
set_option maxRecDepth 100000 in
theorem ctX5_layScreen (l : Launch) (G : GG) (v_q0 : Nat) (v_q1 : Nat) (v_q2 : Nat) (v_q3 : Nat) (v_q4 : Nat) (v_q5 : Nat) (v_q6 : Nat) (v_q7 : Nat) (v_q8 : Nat) (v_q9 : Nat) (v_q10 : Nat) (v_q11 : Nat) (v_q12 : Nat) (v_q13 : Nat) (v_q14 : Nat) (v_q15 : Nat) (v_q16 : Nat) (v_thrown : Int32) (v_gain : Int32) (v_size : Int32) (v_w : Int32) (v_s : Int32) (v_h : Int32) (v_laidArea : Int32) (v_parts : Int32) (v_isMinus : Int32) (v_readSpot : Int32) (v_isStar : Int32) (v_wantsNumber : Int32) (v_waiting : Int32) (v_shiftX : Int32) (v_shiftY : Int32) (v_times : Int32) (v_dotsLaid : Int32) (v_joinedLaid : Int32) (v_hash : Int64) (v_isThereA : (Nat → Int32)) (v_vA : (Nat → Int32)) (v_spotOfA : (Nat → Int32)) (v_inMiddleA : (Nat → Int32)) (v_tintsA : (Nat → Int32)) (v_bufferA : (Nat → Int32)) (v_valuesA : (Nat → Int32)) (v_ranksA : (Nat → Int32)) (v_oldRanksA : (Nat → Int32)) (v_partA : (Nat → Int32)) (v_allRanksA : (Nat → Int32)) (v_basesA : (Nat → Int32)) (v_isMetA : (Nat → Int32)) (v_metXA : (Nat → Int32)) (v_metYA : (Nat → Int32)) (v_lineA : (Nat → Int32)) (a0 : Int32) (o0 : Int32) (o1 : Int32) (o2 : Int32) (h : mX5_layScreen v_vA a0 = some (o0, o1, o2))  : Met l yX5_layScreen wsX5_layScreen rmX5_layScreen (va_Pc [.ref v_q0, .int a0] (PreD G (wdX5 G v_q0 v_q1 v_q2 v_q3 v_q4 v_q5 v_q6 v_q7 v_q8 v_q9 v_q10 v_q11 v_q12 v_q13 v_q14 v_q15 v_q16 v_thrown v_gain v_size v_w v_s v_h v_laidArea v_parts v_isMinus v_readSpot v_isStar v_wantsNumber v_waiting v_shiftX v_shiftY v_times v_dotsLaid v_joinedLaid v_hash v_isThereA v_vA v_spotOfA v_inMiddleA v_tintsA v_bufferA v_valuesA v_ranksA v_oldRanksA v_partA v_allRanksA v_basesA v_isMetA v_metXA v_metYA v_lineA) (fun _ => True))) (QwA G (va_A0 (wdX5 G v_q0 v_q1 v_q2 v_q3 v_q4 v_q5 v_q6 v_q7 v_q8 v_q9 v_q10 v_q11 v_q12 v_q13 v_q14 v_q15 v_q16 v_thrown v_gain v_size v_w v_s v_h v_laidArea v_parts v_isMinus v_readSpot v_isStar v_wantsNumber v_waiting v_shiftX v_shiftY v_times v_dotsLaid v_joinedLaid v_hash v_isThereA v_vA v_spotOfA v_inMiddleA v_tintsA v_bufferA v_valuesA v_ranksA v_oldRanksA v_partA v_allRanksA v_basesA v_isMetA v_metXA v_metYA v_lineA)) (wdX5 G v_q0 v_q1 v_q2 v_q3 v_q4 v_q5 v_q6 v_q7 v_q8 v_q9 v_q10 v_q11 v_q12 v_q13 v_q14 v_q15 v_q16 v_thrown v_gain v_size o0 o1 o2 v_laidArea v_parts v_isMinus v_readSpot v_isStar v_wantsNumber v_waiting v_shiftX v_shiftY v_times v_dotsLaid v_joinedLaid v_hash v_isThereA v_vA v_spotOfA v_inMiddleA v_tintsA v_bufferA v_valuesA v_ranksA v_oldRanksA v_partA v_allRanksA v_basesA v_isMetA v_metXA v_metYA v_lineA) none True) 0 0 (va_A0 (wdX5 G v_q0 v_q1 v_q2 v_q3 v_q4 v_q5 v_q6 v_q7 v_q8 v_q9 v_q10 v_q11 v_q12 v_q13 v_q14 v_q15 v_q16 v_thrown v_gain v_size v_w v_s v_h v_laidArea v_parts v_isMinus v_readSpot v_isStar v_wantsNumber v_waiting v_shiftX v_shiftY v_times v_dotsLaid v_joinedLaid v_hash v_isThereA v_vA v_spotOfA v_inMiddleA v_tintsA v_bufferA v_valuesA v_ranksA v_oldRanksA v_partA v_allRanksA v_basesA v_isMetA v_metXA v_metYA v_lineA)) := by
  refine of_wv (cc := cX5_layScreen) (maxL := 3) (plainFor_of_name (by decide)) rfl (Nat.le_of_ble_eq_true rfl) ?_
  intro p e s m args below meth c ls Q A S hl hP hD hS hK hX hA hret
  obtain ⟨H, hH⟩ : ∃ H, H = s.heap := ⟨_, rfl⟩
  obtain ⟨locs, hlocs⟩ : ∃ L : List Loc, L = [] := ⟨_, rfl⟩
  rw [← hlocs]
  rw [← hlocs] at hS
  have hP : va_P G.1 vwCl (wdX5 G v_q0 v_q1 v_q2 v_q3 v_q4 v_q5 v_q6 v_q7 v_q8 v_q9 v_q10 v_q11 v_q12 v_q13 v_q14 v_q15 v_q16 v_thrown v_gain v_size v_w v_s v_h v_laidArea v_parts v_isMinus v_readSpot v_isStar v_wantsNumber v_waiting v_shiftX v_shiftY v_times v_dotsLaid v_joinedLaid v_hash v_isThereA v_vA v_spotOfA v_inMiddleA v_tintsA v_bufferA v_valuesA v_ranksA v_oldRanksA v_partA v_allRanksA v_basesA v_isMetA v_metXA v_metYA v_lineA) H := by rw [hH]; exact hP
  have hS : va_S A s.heap H locs := by rw [hH]; exact hS
  suffices hgo : W p l e rmX5_layScreen s m args below meth c H locs 0 0 Q (F0 m 0 ls []) by rw [hH] at hgo; exact hgo
  have S : CallFix p m c cX5_layScreen 3 s args wsX5_layScreen RX5 := S
  obtain ⟨hx, hb, hml, hown, hts⟩ := id S
  have hl : lv_has ls 3 [(0, .ref v_q0), (1, .int a0)] := hl
  unfold mX5_layScreen at h
  refine lv_iconst (v := 4) hx hb dX5_layScreen_0 (by decide) ?_
  refine lv_iload_n hx hb dX5_layScreen_1 rfl (lv_at hl 1 rfl) ?_
  refine lv_imul hx hb dX5_layScreen_2 ?_
  refine lv_topi (fun x1 e1 => ?_)
  replace h := nmB_e e1 h
  refine lv_istore_n (lv' := [(2, .int x1), (0, .ref v_q0), (1, .int a0)]) hx hb dX5_layScreen_3 rfl hl (by decide) rfl (fun ls hl => ?_)
  refine lv_aload_n hx hb dX5_layScreen_4 rfl (lv_at hl 1 rfl) ?_
  refine lv_aload_n hx hb dX5_layScreen_5 rfl (lv_at hl 1 rfl) ?_
  refine va_get (D := G.1) (ci := 5) (v := .ref v_q2) (C := RX5) (T := TX5) (N := 35) hx hb hts fw_X5_layScreen_X5 hown hK.1 hP 0 rfl rfl 2 (by decide) (hts (.fieldLink RX5 13 "HalftoneScreensModel" "v" "[I") lk_X5_layScreen_f13) (fun _ h9 => h9) rfl dX5_layScreen_6 ?_
  refine lv_iload_n hx hb dX5_layScreen_9 rfl (lv_at hl 0 rfl) ?_
  obtain ⟨i2, h⟩ := gd_e h
  refine va_iald hx hb hK.1 hP 2 0 rfl rfl i2 dX5_layScreen_10 ?_
  refine lv_aload_n hx hb dX5_layScreen_11 rfl (lv_at hl 1 rfl) ?_
  refine va_get (D := G.1) (ci := 5) (v := .ref v_q2) (C := RX5) (T := TX5) (N := 35) hx hb hts fw_X5_layScreen_X5 hown hK.1 hP 0 rfl rfl 2 (by decide) (hts (.fieldLink RX5 13 "HalftoneScreensModel" "v" "[I") lk_X5_layScreen_f13) (fun _ h9 => h9) rfl dX5_layScreen_12 ?_
  refine lv_iload_n hx hb dX5_layScreen_15 rfl (lv_at hl 0 rfl) ?_
  refine lv_iconst (v := 1) hx hb dX5_layScreen_16 (by decide) ?_
  refine lv_iadd hx hb dX5_layScreen_17 ?_
  obtain ⟨i3, h⟩ := gd_e h
  refine va_iald hx hb hK.1 hP 2 0 rfl rfl i3 dX5_layScreen_18 ?_
  refine lv_aload_n hx hb dX5_layScreen_19 rfl (lv_at hl 1 rfl) ?_
  refine va_get (D := G.1) (ci := 5) (v := .ref v_q2) (C := RX5) (T := TX5) (N := 35) hx hb hts fw_X5_layScreen_X5 hown hK.1 hP 0 rfl rfl 2 (by decide) (hts (.fieldLink RX5 13 "HalftoneScreensModel" "v" "[I") lk_X5_layScreen_f13) (fun _ h9 => h9) rfl dX5_layScreen_20 ?_
  refine lv_iload_n hx hb dX5_layScreen_23 rfl (lv_at hl 0 rfl) ?_
  refine lv_iconst (v := 2) hx hb dX5_layScreen_24 (by decide) ?_
  refine lv_iadd hx hb dX5_layScreen_25 ?_
  obtain ⟨i4, h⟩ := gd_e h
  refine va_iald hx hb hK.1 hP 2 0 rfl rfl i4 dX5_layScreen_26 ?_
  refine lv_aload_n hx hb dX5_layScreen_27 rfl (lv_at hl 1 rfl) ?_
  refine va_get (D := G.1) (ci := 5) (v := .ref v_q2) (C := RX5) (T := TX5) (N := 35) hx hb hts fw_X5_layScreen_X5 hown hK.1 hP 0 rfl rfl 2 (by decide) (hts (.fieldLink RX5 13 "HalftoneScreensModel" "v" "[I") lk_X5_layScreen_f13) (fun _ h9 => h9) rfl dX5_layScreen_28 ?_
  refine lv_iload_n hx hb dX5_layScreen_31 rfl (lv_at hl 0 rfl) ?_
  refine lv_iconst (v := 3) hx hb dX5_layScreen_32 (by decide) ?_
  refine lv_iadd hx hb dX5_layScreen_33 ?_
  obtain ⟨i5, h⟩ := gd_e h
  refine va_iald hx hb hK.1 hP 2 0 rfl rfl i5 dX5_layScreen_34 ?_
  obtain ⟨r6_0, r6_1, r6_2, g6, h⟩ := bnd3_e h
  refine rwV_same (rest := []) (As := [.int (v_vA x1.toNatClampNeg), .int (v_vA (x1 + 1).toNatClampNeg), .int (v_vA (x1 + 2).toNatClampNeg), .int (v_vA (x1 + 3).toNatClampNeg)]) S (ctX5_layBasis l G v_q0 v_q1 v_q2 v_q3 v_q4 v_q5 v_q6 v_q7 v_q8 v_q9 v_q10 v_q11 v_q12 v_q13 v_q14 v_q15 v_q16 v_thrown v_gain v_size v_w v_s v_h v_laidArea v_parts v_isMinus v_readSpot v_isStar v_wantsNumber v_waiting v_shiftX v_shiftY v_times v_dotsLaid v_joinedLaid v_hash v_isThereA v_vA v_spotOfA v_inMiddleA v_tintsA v_bufferA v_valuesA v_ranksA v_oldRanksA v_partA v_allRanksA v_basesA v_isMetA v_metXA v_metYA v_lineA (v_vA x1.toNatClampNeg) (v_vA (x1 + 1).toNatClampNeg) (v_vA (x1 + 2).toNatClampNeg) (v_vA (x1 + 3).toNatClampNeg) r6_0 r6_1 r6_2 g6) (cwV 4 hts gX5_layScreen_X5_layBasis rfl rfl rfl hvX5_layBasis ⟨Nat.le_of_ble_eq_true rfl, Nat.le_of_ble_eq_true rfl⟩) hK hP hD hS xb_triv (fun _ _ _ => trivial) 0 5 rfl rfl rfl rfl hl.1 rfl (Nat.le_of_ble_eq_true rfl) dX5_layScreen_35 ⟨Nat.le_refl _, Nat.le_refl _⟩ (fun _ H locs hP hD hS => ?_)
  have hP : va_P G.1 vwCl (wdX5 G v_q0 v_q1 v_q2 v_q3 v_q4 v_q5 v_q6 v_q7 v_q8 v_q9 v_q10 v_q11 v_q12 v_q13 v_q14 v_q15 v_q16 v_thrown v_gain v_size r6_0 r6_1 r6_2 v_laidArea v_parts v_isMinus v_readSpot v_isStar v_wantsNumber v_waiting v_shiftX v_shiftY v_times v_dotsLaid v_joinedLaid v_hash v_isThereA v_vA v_spotOfA v_inMiddleA v_tintsA v_bufferA v_valuesA v_ranksA v_oldRanksA v_partA v_allRanksA v_basesA v_isMetA v_metXA v_metYA v_lineA) H := hP
  have hD : va_D A (wdX5 G v_q0 v_q1 v_q2 v_q3 v_q4 v_q5 v_q6 v_q7 v_q8 v_q9 v_q10 v_q11 v_q12 v_q13 v_q14 v_q15 v_q16 v_thrown v_gain v_size r6_0 r6_1 r6_2 v_laidArea v_parts v_isMinus v_readSpot v_isStar v_wantsNumber v_waiting v_shiftX v_shiftY v_times v_dotsLaid v_joinedLaid v_hash v_isThereA v_vA v_spotOfA v_inMiddleA v_tintsA v_bufferA v_valuesA v_ranksA v_oldRanksA v_partA v_allRanksA v_basesA v_isMetA v_metXA v_metYA v_lineA) := hD
  obtain ⟨rfl, rfl, rfl⟩ := sm3 h
  exact hret _ _ _ _ trivial hP hD hS dX5_layScreen_38
