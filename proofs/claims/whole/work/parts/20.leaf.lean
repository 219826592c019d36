-- contracts of the methods (laid by program from the listing)
abbrev rmJ9_floorDiv_7cf53 : Room := { frames := 0, cells := 0, slots := 0, locals := 0 }
set_option maxHeartbeats 4000000 in
set_option maxRecDepth 100000 in
theorem ctJ9_floorDiv_7cf53 (l : Launch) (G : GG) (a0 : Int32) (a1 : Int32) (o0 : Int32) (h : mJ9_floorDiv_7cf53 a0 a1 = some (o0))  : Met l yJ9_floorDiv_7cf53 wsJ9_floorDiv_7cf53 rmJ9_floorDiv_7cf53 (va_Pc [.int a0, .int a1] (PreW G (([] : va_W)))) (vp_Si (fun r => r = o0 ∧ True)) 0 0 (fun _ => False) := by
  refine of_ri (cc := cJ9_floorDiv_7cf53) (maxL := 3) (ty := .int) (by decide +kernel) rfl (Nat.le_of_ble_eq_true rfl) ?_
  intro p e s m args below meth c ls Q S hl hP hK hret
  have S : CallFix p m c cJ9_floorDiv_7cf53 3 s args wsJ9_floorDiv_7cf53 RJ9 := S
  obtain ⟨hx, hb, hml, hown, hts⟩ := id S
  have hl : lv_has ls 3 [(0, .int a0), (1, .int a1)] := hl
  unfold mJ9_floorDiv_7cf53 at h
  refine lv_iload_n hx hb dJ9_floorDiv_7cf53_0 rfl (lv_at hl 0 rfl) ?_
  refine lv_iload_n hx hb dJ9_floorDiv_7cf53_1 rfl (lv_at hl 1 rfl) ?_
  obtain ⟨z1, h⟩ := gz_e h
  refine lv_idiv hx hb dJ9_floorDiv_7cf53_2 z1 ?_
  refine lv_topi (fun x2 e2 => ?_)
  replace h := nmB_e e2 h
  refine lv_istore_n (lv' := [(2, .int x2), (0, .int a0), (1, .int a1)]) hx hb dJ9_floorDiv_7cf53_3 rfl hl (by decide) rfl (fun ls hl => ?_)
  refine lv_iload_n hx hb dJ9_floorDiv_7cf53_4 rfl (lv_at hl 1 rfl) ?_
  refine lv_iload_n hx hb dJ9_floorDiv_7cf53_5 rfl (lv_at hl 2 rfl) ?_
  refine lv_ixor hx hb dJ9_floorDiv_7cf53_6 ?_
  refine lv_if_ge (tgt := 21) hx hb dJ9_floorDiv_7cf53_7 (by decide) (fun c3 => ?_) (fun c3 => ?_)
  · replace h := ite_t c3 h
    refine lv_iload_n hx hb dJ9_floorDiv_7cf53_21 rfl (lv_at hl 0 rfl) ?_
    exact hret _ _ _ ⟨smi h, trivial⟩ rfl dJ9_floorDiv_7cf53_22
  · replace h := ite_f c3 h
    refine lv_iload_n hx hb dJ9_floorDiv_7cf53_10 rfl (lv_at hl 0 rfl) ?_
    refine lv_iload_n hx hb dJ9_floorDiv_7cf53_11 rfl (lv_at hl 2 rfl) ?_
    refine lv_imul hx hb dJ9_floorDiv_7cf53_12 ?_
    refine lv_iload_n hx hb dJ9_floorDiv_7cf53_13 rfl (lv_at hl 1 rfl) ?_
    refine lv_icmp_eq (tgt := 21) hx hb dJ9_floorDiv_7cf53_14 (by decide) (fun c4 => ?_) (fun c4 => ?_)
    · replace h := ite_t c4 h
      refine lv_iload_n hx hb dJ9_floorDiv_7cf53_21 rfl (lv_at hl 0 rfl) ?_
      exact hret _ _ _ ⟨smi h, trivial⟩ rfl dJ9_floorDiv_7cf53_22
    · replace h := ite_f c4 h
      refine lv_iload_n hx hb dJ9_floorDiv_7cf53_17 rfl (lv_at hl 0 rfl) ?_
      refine lv_iconst (v := 1) hx hb dJ9_floorDiv_7cf53_18 (by decide) ?_
      refine lv_isub hx hb dJ9_floorDiv_7cf53_19 ?_
      exact hret _ _ _ ⟨smi h, trivial⟩ rfl dJ9_floorDiv_7cf53_20
abbrev rmJ9_floorMod_7cf53 : Room := { frames := 0, cells := 0, slots := 0, locals := 0 }
set_option maxHeartbeats 4000000 in
set_option maxRecDepth 100000 in
theorem ctJ9_floorMod_7cf53 (l : Launch) (G : GG) (a0 : Int32) (a1 : Int32) (o0 : Int32) (h : mJ9_floorMod_7cf53 a0 a1 = some (o0))  : Met l yJ9_floorMod_7cf53 wsJ9_floorMod_7cf53 rmJ9_floorMod_7cf53 (va_Pc [.int a0, .int a1] (PreW G (([] : va_W)))) (vp_Si (fun r => r = o0 ∧ True)) 0 0 (fun _ => False) := by
  refine of_ri (cc := cJ9_floorMod_7cf53) (maxL := 3) (ty := .int) (by decide +kernel) rfl (Nat.le_of_ble_eq_true rfl) ?_
  intro p e s m args below meth c ls Q S hl hP hK hret
  have S : CallFix p m c cJ9_floorMod_7cf53 3 s args wsJ9_floorMod_7cf53 RJ9 := S
  obtain ⟨hx, hb, hml, hown, hts⟩ := id S
  have hl : lv_has ls 3 [(0, .int a0), (1, .int a1)] := hl
  unfold mJ9_floorMod_7cf53 at h
  refine lv_iload_n hx hb dJ9_floorMod_7cf53_0 rfl (lv_at hl 0 rfl) ?_
  refine lv_iload_n hx hb dJ9_floorMod_7cf53_1 rfl (lv_at hl 1 rfl) ?_
  obtain ⟨z1, h⟩ := gz_e h
  refine lv_irem hx hb dJ9_floorMod_7cf53_2 z1 ?_
  refine lv_topi (fun x2 e2 => ?_)
  replace h := nmB_e e2 h
  refine lv_istore_n (lv' := [(2, .int x2), (0, .int a0), (1, .int a1)]) hx hb dJ9_floorMod_7cf53_3 rfl hl (by decide) rfl (fun ls hl => ?_)
  refine lv_iload_n hx hb dJ9_floorMod_7cf53_4 rfl (lv_at hl 1 rfl) ?_
  refine lv_iload_n hx hb dJ9_floorMod_7cf53_5 rfl (lv_at hl 2 rfl) ?_
  refine lv_ixor hx hb dJ9_floorMod_7cf53_6 ?_
  refine lv_if_ge (tgt := 18) hx hb dJ9_floorMod_7cf53_7 (by decide) (fun c3 => ?_) (fun c3 => ?_)
  · replace h := ite_t c3 h
    refine lv_iload_n hx hb dJ9_floorMod_7cf53_18 rfl (lv_at hl 0 rfl) ?_
    exact hret _ _ _ ⟨smi h, trivial⟩ rfl dJ9_floorMod_7cf53_19
  · replace h := ite_f c3 h
    refine lv_iload_n hx hb dJ9_floorMod_7cf53_10 rfl (lv_at hl 0 rfl) ?_
    refine lv_if_eq (tgt := 18) hx hb dJ9_floorMod_7cf53_11 (by decide) (fun c4 => ?_) (fun c4 => ?_)
    · replace h := ite_t c4 h
      refine lv_iload_n hx hb dJ9_floorMod_7cf53_18 rfl (lv_at hl 0 rfl) ?_
      exact hret _ _ _ ⟨smi h, trivial⟩ rfl dJ9_floorMod_7cf53_19
    · replace h := ite_f c4 h
      refine lv_iload_n hx hb dJ9_floorMod_7cf53_14 rfl (lv_at hl 0 rfl) ?_
      refine lv_iload_n hx hb dJ9_floorMod_7cf53_15 rfl (lv_at hl 2 rfl) ?_
      refine lv_iadd hx hb dJ9_floorMod_7cf53_16 ?_
      exact hret _ _ _ ⟨smi h, trivial⟩ rfl dJ9_floorMod_7cf53_17
abbrev rmX4_at : Room := { frames := 0, cells := 0, slots := 0, locals := 0 }
set_option maxHeartbeats 4000000 in
set_option maxRecDepth 100000 in
theorem ctX4_at (l : Launch) (G : GG) (qA : Nat) (n : Nat) (rowA : (Nat → Int32)) (a1 : Int32) (o0 : Int32) (h : mX4_at n rowA a1 = some (o0))  : Met l yX4_at wsX4_at rmX4_at (va_Pc [.ref qA, .int a1] (PreW G ([(qA, .inl (G.2 0, n, .inl rowA))]))) (vp_Si (fun r => r = o0 ∧ True)) 0 0 (fun _ => False) := by
  refine of_ri (cc := cX4_at) (maxL := 2) (ty := .int) (plainFor_of_name (by decide)) rfl (Nat.le_of_ble_eq_true rfl) ?_
  intro p e s m args below meth c ls Q S hl hP hK hret
  have S : CallFix p m c cX4_at 2 s args wsX4_at RX4 := S
  obtain ⟨hx, hb, hml, hown, hts⟩ := id S
  have hl : lv_has ls 2 [(0, .ref qA), (1, .int a1)] := hl
  unfold mX4_at at h
  refine lv_iload_n hx hb dX4_at_0 rfl (lv_at hl 1 rfl) ?_
  refine lv_if_lt (tgt := 16) hx hb dX4_at_1 (by decide) (fun c1 => ?_) (fun c1 => ?_)
  · replace h := ite_t c1 h
    refine lv_iconst (v := 0) hx hb dX4_at_16 (by decide) ?_
    exact hret _ _ _ ⟨smi h, trivial⟩ rfl dX4_at_17
  · replace h := ite_f c1 h
    refine lv_iload_n hx hb dX4_at_4 rfl (lv_at hl 1 rfl) ?_
    refine lv_aload_n hx hb dX4_at_5 rfl (lv_at hl 0 rfl) ?_
    refine va_alen (v := (nI n)) hx hb hK.1 hP 0 0 rfl rfl rfl dX4_at_6 ?_
    refine lv_icmp_ge (tgt := 16) hx hb dX4_at_7 (by decide) (fun c2 => ?_) (fun c2 => ?_)
    · replace h := ite_t c2 h
      refine lv_iconst (v := 0) hx hb dX4_at_16 (by decide) ?_
      exact hret _ _ _ ⟨smi h, trivial⟩ rfl dX4_at_17
    · replace h := ite_f c2 h
      refine lv_aload_n hx hb dX4_at_10 rfl (lv_at hl 0 rfl) ?_
      refine lv_iload_n hx hb dX4_at_11 rfl (lv_at hl 1 rfl) ?_
      obtain ⟨i3, h⟩ := gd_e h
      refine va_iald hx hb hK.1 hP 0 0 rfl rfl i3 dX4_at_12 ?_
      refine lv_goto (tgt := 17) hx hb dX4_at_13 (by decide) ?_
      exact hret _ _ _ ⟨smi h, trivial⟩ rfl dX4_at_17
abbrev rmX4_div : Room := { frames := 0, cells := 0, slots := 0, locals := 0 }
set_option maxHeartbeats 4000000 in
set_option maxRecDepth 100000 in
theorem ctX4_div (l : Launch) (G : GG) (a0 : Int32) (a1 : Int32) (o0 : Int32) (h : mX4_div a0 a1 = some (o0))  : Met l yX4_div wsX4_div rmX4_div (va_Pc [.int a0, .int a1] (PreW G (([] : va_W)))) (vp_Si (fun r => r = o0 ∧ True)) 0 0 (fun _ => False) := by
  refine of_ri (cc := cX4_div) (maxL := 2) (ty := .int) (plainFor_of_name (by decide)) rfl (Nat.le_of_ble_eq_true rfl) ?_
  intro p e s m args below meth c ls Q S hl hP hK hret
  have S : CallFix p m c cX4_div 2 s args wsX4_div RX4 := S
  obtain ⟨hx, hb, hml, hown, hts⟩ := id S
  have hl : lv_has ls 2 [(0, .int a0), (1, .int a1)] := hl
  unfold mX4_div at h
  refine lv_iload_n hx hb dX4_div_0 rfl (lv_at hl 1 rfl) ?_
  refine lv_if_eq (tgt := 10) hx hb dX4_div_1 (by decide) (fun c1 => ?_) (fun c1 => ?_)
  · replace h := ite_t c1 h
    refine lv_iconst (v := 0) hx hb dX4_div_10 (by decide) ?_
    exact hret _ _ _ ⟨smi h, trivial⟩ rfl dX4_div_11
  · replace h := ite_f c1 h
    refine lv_iload_n hx hb dX4_div_4 rfl (lv_at hl 0 rfl) ?_
    refine lv_iload_n hx hb dX4_div_5 rfl (lv_at hl 1 rfl) ?_
    obtain ⟨z2, h⟩ := gz_e h
    refine lv_idiv hx hb dX4_div_6 z2 ?_
    refine lv_goto (tgt := 11) hx hb dX4_div_7 (by decide) ?_
    exact hret _ _ _ ⟨smi h, trivial⟩ rfl dX4_div_11
theorem hsJ9_floorDiv_7cf53 : yJ9_floorDiv_7cf53.cls ≠ "java/lang/invoke/MethodHandle" ∧ yJ9_floorDiv_7cf53.cls ≠ "java/lang/invoke/VarHandle" ∧ (parseMethodDescriptor yJ9_floorDiv_7cf53.desc).map (fun d => d.parameters.length) = some 2 := by decide +kernel
theorem hvJ9_floorDiv_7cf53 : yJ9_floorDiv_7cf53.cls = RJ9 ∧ yJ9_floorDiv_7cf53.cls ≠ "java/lang/invoke/MethodHandle" ∧ yJ9_floorDiv_7cf53.cls ≠ "java/lang/invoke/VarHandle" ∧ (parseMethodDescriptor yJ9_floorDiv_7cf53.desc).map (fun d => d.parameters.length) = some 2 := ⟨rfl, hsJ9_floorDiv_7cf53⟩
abbrev rmX4_floorDiv : Room := { frames := 1, cells := 0, slots := 0, locals := 22 }
set_option maxHeartbeats 4000000 in
set_option maxRecDepth 100000 in
theorem ctX4_floorDiv (l : Launch) (G : GG) (a0 : Int32) (a1 : Int32) (o0 : Int32) (h : mX4_floorDiv a0 a1 = some (o0))  : Met l yX4_floorDiv wsX4_floorDiv rmX4_floorDiv (va_Pc [.int a0, .int a1] (PreW G (([] : va_W)))) (vp_Si (fun r => r = o0 ∧ True)) 0 0 (fun _ => False) := by
  refine of_ri (cc := cX4_floorDiv) (maxL := 2) (ty := .int) (plainFor_of_name (by decide)) rfl (Nat.le_of_ble_eq_true rfl) ?_
  intro p e s m args below meth c ls Q S hl hP hK hret
  have S : CallFix p m c cX4_floorDiv 2 s args wsX4_floorDiv RX4 := S
  obtain ⟨hx, hb, hml, hown, hts⟩ := id S
  have hl : lv_has ls 2 [(0, .int a0), (1, .int a1)] := hl
  unfold mX4_floorDiv at h
  refine lv_iload_n hx hb dX4_floorDiv_0 rfl (lv_at hl 1 rfl) ?_
  refine lv_if_eq (tgt := 12) hx hb dX4_floorDiv_1 (by decide) (fun c1 => ?_) (fun c1 => ?_)
  · replace h := ite_t c1 h
    refine lv_iconst (v := 0) hx hb dX4_floorDiv_12 (by decide) ?_
    exact hret _ _ _ ⟨smi h, trivial⟩ rfl dX4_floorDiv_13
  · replace h := ite_f c1 h
    refine lv_iload_n hx hb dX4_floorDiv_4 rfl (lv_at hl 0 rfl) ?_
    refine lv_iload_n hx hb dX4_floorDiv_5 rfl (lv_at hl 1 rfl) ?_
    obtain ⟨r2_0, g2, h⟩ := bnd1_e h
    refine roSi1 (rest := []) (As := [.int a0, .int a1]) S (ctJ9_floorDiv_7cf53 l G a0 a1 r2_0 g2) (va_cwS 2 hts gX4_floorDiv_J9_floorDiv_7cf53 rfl rfl rfl hsJ9_floorDiv_7cf53 ⟨Nat.le_of_ble_eq_true rfl, Nat.le_of_ble_eq_true rfl⟩) hK hP [] rfl rfl hl.1 rfl (Nat.le_of_ble_eq_true rfl) dX4_floorDiv_6 ⟨Nat.le_refl _, Nat.le_refl _⟩ (fun _ => ?_)
    refine lv_goto (tgt := 13) hx hb dX4_floorDiv_9 (by decide) ?_
    exact hret _ _ _ ⟨smi h, trivial⟩ rfl dX4_floorDiv_13
theorem hsJ9_floorMod_7cf53 : yJ9_floorMod_7cf53.cls ≠ "java/lang/invoke/MethodHandle" ∧ yJ9_floorMod_7cf53.cls ≠ "java/lang/invoke/VarHandle" ∧ (parseMethodDescriptor yJ9_floorMod_7cf53.desc).map (fun d => d.parameters.length) = some 2 := by decide +kernel
theorem hvJ9_floorMod_7cf53 : yJ9_floorMod_7cf53.cls = RJ9 ∧ yJ9_floorMod_7cf53.cls ≠ "java/lang/invoke/MethodHandle" ∧ yJ9_floorMod_7cf53.cls ≠ "java/lang/invoke/VarHandle" ∧ (parseMethodDescriptor yJ9_floorMod_7cf53.desc).map (fun d => d.parameters.length) = some 2 := ⟨rfl, hsJ9_floorMod_7cf53⟩
abbrev rmX4_mod : Room := { frames := 1, cells := 0, slots := 0, locals := 22 }
set_option maxHeartbeats 4000000 in
set_option maxRecDepth 100000 in
theorem ctX4_mod (l : Launch) (G : GG) (a0 : Int32) (a1 : Int32) (o0 : Int32) (h : mX4_mod a0 a1 = some (o0))  : Met l yX4_mod wsX4_mod rmX4_mod (va_Pc [.int a0, .int a1] (PreW G (([] : va_W)))) (vp_Si (fun r => r = o0 ∧ True)) 0 0 (fun _ => False) := by
  refine of_ri (cc := cX4_mod) (maxL := 2) (ty := .int) (plainFor_of_name (by decide)) rfl (Nat.le_of_ble_eq_true rfl) ?_
  intro p e s m args below meth c ls Q S hl hP hK hret
  have S : CallFix p m c cX4_mod 2 s args wsX4_mod RX4 := S
  obtain ⟨hx, hb, hml, hown, hts⟩ := id S
  have hl : lv_has ls 2 [(0, .int a0), (1, .int a1)] := hl
  unfold mX4_mod at h
  refine lv_iload_n hx hb dX4_mod_0 rfl (lv_at hl 1 rfl) ?_
  refine lv_if_eq (tgt := 12) hx hb dX4_mod_1 (by decide) (fun c1 => ?_) (fun c1 => ?_)
  · replace h := ite_t c1 h
    refine lv_iconst (v := 0) hx hb dX4_mod_12 (by decide) ?_
    exact hret _ _ _ ⟨smi h, trivial⟩ rfl dX4_mod_13
  · replace h := ite_f c1 h
    refine lv_iload_n hx hb dX4_mod_4 rfl (lv_at hl 0 rfl) ?_
    refine lv_iload_n hx hb dX4_mod_5 rfl (lv_at hl 1 rfl) ?_
    obtain ⟨r2_0, g2, h⟩ := bnd1_e h
    refine roSi1 (rest := []) (As := [.int a0, .int a1]) S (ctJ9_floorMod_7cf53 l G a0 a1 r2_0 g2) (va_cwS 2 hts gX4_mod_J9_floorMod_7cf53 rfl rfl rfl hsJ9_floorMod_7cf53 ⟨Nat.le_of_ble_eq_true rfl, Nat.le_of_ble_eq_true rfl⟩) hK hP [] rfl rfl hl.1 rfl (Nat.le_of_ble_eq_true rfl) dX4_mod_6 ⟨Nat.le_refl _, Nat.le_refl _⟩ (fun _ => ?_)
    refine lv_goto (tgt := 13) hx hb dX4_mod_9 (by decide) ?_
    exact hret _ _ _ ⟨smi h, trivial⟩ rfl dX4_mod_13
theorem lk_X4_gcd_m172 : Cond.methodLink RX4 172 Lib.Math.abs.name ∈ wsX4_gcd := List.mem_of_getElem? (i := 1) rfl
theorem lk_X4_gcd_sabs : Cond.static Lib.Math.abs.name ∈ wsX4_gcd := List.mem_of_getElem? (i := 2) rfl
theorem lk_X4_gcd_iM : Cond.initialized "java/lang/Math" ∈ wsX4_gcd := List.mem_of_getElem? (i := 3) rfl
theorem lk_X4_gcd_cabs : Cond.code Lib.Math.abs.name Lib.Math.abs.code 1 (some .int) ∈ wsX4_gcd := List.mem_of_getElem? (i := 4) rfl
abbrev rmX4_gcd : Room := { frames := 1, cells := 0, slots := 0, locals := 21 }
set_option maxHeartbeats 4000000 in
set_option maxRecDepth 100000 in
theorem ctX4_gcd (l : Launch) (G : GG) (a0 : Int32) (a1 : Int32) (o0 : Int32) (h : mX4_gcd a0 a1 = some (o0))  : Met l yX4_gcd wsX4_gcd rmX4_gcd (va_Pc [.int a0, .int a1] (PreW G (([] : va_W)))) (vp_Si (fun r => r = o0 ∧ True)) 0 0 (fun _ => False) := by
  refine of_ri (cc := cX4_gcd) (maxL := 6) (ty := .int) (plainFor_of_name (by decide)) rfl (Nat.le_of_ble_eq_true rfl) ?_
  intro p e s m args below meth c ls Q S hl hP hK hret
  have S : CallFix p m c cX4_gcd 6 s args wsX4_gcd RX4 := S
  obtain ⟨hx, hb, hml, hown, hts⟩ := id S
  have hl : lv_has ls 6 [(0, .int a0), (1, .int a1)] := hl
  unfold mX4_gcd at h
  refine lv_iload_n hx hb dX4_gcd_0 rfl (lv_at hl 0 rfl) ?_
  refine va_mabs hx hb (hml.trans hl.1.symm) hown (hts (.methodLink RX4 172 Lib.Math.abs.name) lk_X4_gcd_m172) (hts (.static Lib.Math.abs.name) lk_X4_gcd_sabs) (hts (.initialized "java/lang/Math") lk_X4_gcd_iM) (hts (.code Lib.Math.abs.name Lib.Math.abs.code 1 (some .int)) lk_X4_gcd_cabs) (Nat.le_of_ble_eq_true rfl) (Nat.le_of_ble_eq_true rfl) (Nat.le_refl _) (Nat.le_refl _) dX4_gcd_1 ?_
  refine lv_topi (fun x1 e1 => ?_)
  replace h := nmB_e e1 h
  refine lv_istore_n (lv' := [(2, .int x1), (0, .int a0), (1, .int a1)]) hx hb dX4_gcd_4 rfl hl (by decide) rfl (fun ls hl => ?_)
  refine lv_iload_n hx hb dX4_gcd_5 rfl (lv_at hl 2 rfl) ?_
  refine va_mabs hx hb (hml.trans hl.1.symm) hown (hts (.methodLink RX4 172 Lib.Math.abs.name) lk_X4_gcd_m172) (hts (.static Lib.Math.abs.name) lk_X4_gcd_sabs) (hts (.initialized "java/lang/Math") lk_X4_gcd_iM) (hts (.code Lib.Math.abs.name Lib.Math.abs.code 1 (some .int)) lk_X4_gcd_cabs) (Nat.le_of_ble_eq_true rfl) (Nat.le_of_ble_eq_true rfl) (Nat.le_refl _) (Nat.le_refl _) dX4_gcd_6 ?_
  refine lv_topi (fun x2 e2 => ?_)
  replace h := nmB_e e2 h
  refine lv_istore_n (lv' := [(3, .int x2), (2, .int x1), (0, .int a0), (1, .int a1)]) hx hb dX4_gcd_9 rfl hl (by decide) rfl (fun ls hl => ?_)
  refine lv_iconst (v := 0) hx hb dX4_gcd_10 (by decide) ?_
  refine lv_istore (lv' := [(4, .int 0), (3, .int x2), (2, .int x1), (0, .int a0), (1, .int a1)]) hx hb dX4_gcd_11 hl (by decide) rfl (fun ls hl => ?_)
  obtain ⟨u3_0, u3_1, u3_2, g3, h⟩ := bnd3_e h
  have L3 : ∀ (fu : Nat) (v3_0 : Int32) (v3_1 : Int32) (v3_2 : Int32) (u3_0 : Int32) (u3_1 : Int32) (u3_2 : Int32) (ls : Array Slot), mX4_gcd_L13  fu v3_0 v3_1 v3_2 = some (u3_0, u3_1, u3_2) → lv_has ls 6 [(4, .int v3_0), (3, .int v3_1), (2, .int v3_2), (0, .int a0), (1, .int a1)] → (∀ (ls : Array Slot), lv_has ls 6 [(4, .int u3_0), (3, .int u3_1), (2, .int u3_2), (0, .int a0), (1, .int a1)] → W p l e rmX4_gcd s m args below meth c s.heap [] 0 0 Q (F0 m 41 ls [])) → W p l e rmX4_gcd s m args below meth c s.heap [] 0 0 Q (F0 m 13 ls []) := by
    intro fu
    induction fu with
    | zero => intro v3_0 v3_1 v3_2 u3_0 u3_1 u3_2 ls h; exact nomatch h
    | succ fu ih =>
      intro v3_0 v3_1 v3_2 u3_0 u3_1 u3_2 ls h hl kE
      rw [mX4_gcd_L13] at h
      refine lv_iload hx hb dX4_gcd_13 (lv_at hl 0 rfl) ?_
      refine lv_sipush (v := 1000) hx hb dX4_gcd_15 (by decide) ?_
      refine lv_icmp_ge (tgt := 41) hx hb dX4_gcd_18 (by decide) (fun c4 => ?_) (fun c4 => ?_)
      · replace h := ite_t c4 h
        obtain ⟨rfl, rfl, rfl⟩ := sm3 h
        exact kE ls hl
      · replace h := ite_f c4 h
        refine lv_iload_n hx hb dX4_gcd_21 rfl (lv_at hl 1 rfl) ?_
        refine lv_if_eq (tgt := 41) hx hb dX4_gcd_22 (by decide) (fun c5 => ?_) (fun c5 => ?_)
        · replace h := ite_t c5 h
          obtain ⟨rfl, rfl, rfl⟩ := sm3 h
          exact kE ls hl
        · replace h := ite_f c5 h
          refine lv_iload_n hx hb dX4_gcd_25 rfl (lv_at hl 2 rfl) ?_
          refine lv_iload_n hx hb dX4_gcd_26 rfl (lv_at hl 1 rfl) ?_
          obtain ⟨z6, h⟩ := gz_e h
          refine lv_irem hx hb dX4_gcd_27 z6 ?_
          refine lv_topi (fun x7 e7 => ?_)
          replace h := nmB_e e7 h
          refine lv_istore (lv' := [(5, .int x7), (4, .int v3_0), (3, .int v3_1), (2, .int v3_2), (0, .int a0), (1, .int a1)]) hx hb dX4_gcd_28 hl (by decide) rfl (fun ls hl => ?_)
          refine lv_iload_n hx hb dX4_gcd_30 rfl (lv_at hl 2 rfl) ?_
          refine lv_istore_n (lv' := [(2, .int v3_1), (5, .int x7), (4, .int v3_0), (3, .int v3_1), (0, .int a0), (1, .int a1)]) hx hb dX4_gcd_31 rfl hl (by decide) rfl (fun ls hl => ?_)
          refine lv_iload hx hb dX4_gcd_32 (lv_at hl 1 rfl) ?_
          refine lv_istore_n (lv' := [(3, .int x7), (2, .int v3_1), (5, .int x7), (4, .int v3_0), (0, .int a0), (1, .int a1)]) hx hb dX4_gcd_34 rfl hl (by decide) rfl (fun ls hl => ?_)
          obtain ⟨x8, e8⟩ : ∃ y : Int32, y = v3_0 + 1 := ⟨_, rfl⟩
          replace h := nmB_e e8 h
          refine lv_iinc (v := x8) (lv' := [(4, .int x8), (3, .int x7), (2, .int v3_1), (5, .int x7), (0, .int a0), (1, .int a1)]) hx hb dX4_gcd_35 hl (k := 3) rfl (by rw [e8]; rfl) (by decide) rfl (fun ls hl => ?_)
          refine lv_goto (tgt := 13) hx hb dX4_gcd_38 (by decide) ?_
          exact ih x8 x7 v3_1 u3_0 u3_1 u3_2 ls h (lv_sub hl [0, 1, 2, 4, 5] rfl) kE
  refine L3 FU 0 x2 x1 u3_0 u3_1 u3_2 ls g3 hl (fun ls hl => ?_)
  refine lv_iload_n hx hb dX4_gcd_41 rfl (lv_at hl 2 rfl) ?_
  exact hret _ _ _ ⟨smi h, trivial⟩ rfl dX4_gcd_42
theorem lk_X4_areaOf_m172 : Cond.methodLink RX4 172 Lib.Math.abs.name ∈ wsX4_areaOf := List.mem_of_getElem? (i := 1) rfl
theorem lk_X4_areaOf_sabs : Cond.static Lib.Math.abs.name ∈ wsX4_areaOf := List.mem_of_getElem? (i := 2) rfl
theorem lk_X4_areaOf_iM : Cond.initialized "java/lang/Math" ∈ wsX4_areaOf := List.mem_of_getElem? (i := 3) rfl
theorem lk_X4_areaOf_cabs : Cond.code Lib.Math.abs.name Lib.Math.abs.code 1 (some .int) ∈ wsX4_areaOf := List.mem_of_getElem? (i := 4) rfl
abbrev rmX4_areaOf : Room := { frames := 1, cells := 0, slots := 0, locals := 21 }
set_option maxHeartbeats 4000000 in
set_option maxRecDepth 100000 in
theorem ctX4_areaOf (l : Launch) (G : GG) (a0 : Int32) (a1 : Int32) (a2 : Int32) (a3 : Int32) (o0 : Int32) (h : mX4_areaOf a0 a1 a2 a3 = some (o0))  : Met l yX4_areaOf wsX4_areaOf rmX4_areaOf (va_Pc [.int a0, .int a1, .int a2, .int a3] (PreW G (([] : va_W)))) (vp_Si (fun r => r = o0 ∧ True)) 0 0 (fun _ => False) := by
  refine of_ri (cc := cX4_areaOf) (maxL := 4) (ty := .int) (plainFor_of_name (by decide)) rfl (Nat.le_of_ble_eq_true rfl) ?_
  intro p e s m args below meth c ls Q S hl hP hK hret
  have S : CallFix p m c cX4_areaOf 4 s args wsX4_areaOf RX4 := S
  obtain ⟨hx, hb, hml, hown, hts⟩ := id S
  have hl : lv_has ls 4 [(0, .int a0), (1, .int a1), (2, .int a2), (3, .int a3)] := hl
  unfold mX4_areaOf at h
  refine lv_iload_n hx hb dX4_areaOf_0 rfl (lv_at hl 0 rfl) ?_
  refine lv_iload_n hx hb dX4_areaOf_1 rfl (lv_at hl 3 rfl) ?_
  refine lv_imul hx hb dX4_areaOf_2 ?_
  refine lv_iload_n hx hb dX4_areaOf_3 rfl (lv_at hl 1 rfl) ?_
  refine lv_iload_n hx hb dX4_areaOf_4 rfl (lv_at hl 2 rfl) ?_
  refine lv_imul hx hb dX4_areaOf_5 ?_
  refine lv_isub hx hb dX4_areaOf_6 ?_
  refine va_mabs hx hb (hml.trans hl.1.symm) hown (hts (.methodLink RX4 172 Lib.Math.abs.name) lk_X4_areaOf_m172) (hts (.static Lib.Math.abs.name) lk_X4_areaOf_sabs) (hts (.initialized "java/lang/Math") lk_X4_areaOf_iM) (hts (.code Lib.Math.abs.name Lib.Math.abs.code 1 (some .int)) lk_X4_areaOf_cabs) (Nat.le_of_ble_eq_true rfl) (Nat.le_of_ble_eq_true rfl) (Nat.le_refl _) (Nat.le_refl _) dX4_areaOf_7 ?_
  exact hret _ _ _ ⟨smi h, trivial⟩ rfl dX4_areaOf_10
abbrev rmX4_isComponent : Room := { frames := 0, cells := 0, slots := 0, locals := 0 }
set_option maxHeartbeats 4000000 in
set_option maxRecDepth 100000 in
theorem ctX4_isComponent (l : Launch) (G : GG) (a0 : Int32) (o0 : Int32) (h : mX4_isComponent a0 = some (o0))  : Met l yX4_isComponent wsX4_isComponent rmX4_isComponent (va_Pc [.int a0] (PreW G (([] : va_W)))) (vp_Si (fun r => r = o0 ∧ isZ o0)) 0 0 (fun _ => False) := by
  refine of_ri (cc := cX4_isComponent) (maxL := 1) (ty := .boolean) (plainFor_of_name (by decide)) rfl (Nat.le_of_ble_eq_true rfl) ?_
  intro p e s m args below meth c ls Q S hl hP hK hret
  have S : CallFix p m c cX4_isComponent 1 s args wsX4_isComponent RX4 := S
  obtain ⟨hx, hb, hml, hown, hts⟩ := id S
  have hl : lv_has ls 1 [(0, .int a0)] := hl
  unfold mX4_isComponent at h
  refine lv_iload_n hx hb dX4_isComponent_0 rfl (lv_at hl 0 rfl) ?_
  refine lv_bipush (v := (-8)) hx hb dX4_isComponent_1 (by decide) ?_
  refine lv_icmp_lt (tgt := 16) hx hb dX4_isComponent_3 (by decide) (fun c1 => ?_) (fun c1 => ?_)
  · replace h := ite_t c1 h
    refine lv_iconst (v := 0) hx hb dX4_isComponent_16 (by decide) ?_
    exact hret _ _ _ ⟨smi h, isZ.to isZ0 (smi h)⟩ (isZ.nar isZ0) dX4_isComponent_17
  · replace h := ite_f c1 h
    refine lv_iload_n hx hb dX4_isComponent_6 rfl (lv_at hl 0 rfl) ?_
    refine lv_bipush (v := 8) hx hb dX4_isComponent_7 (by decide) ?_
    refine lv_icmp_gt (tgt := 16) hx hb dX4_isComponent_9 (by decide) (fun c2 => ?_) (fun c2 => ?_)
    · replace h := ite_t c2 h
      refine lv_iconst (v := 0) hx hb dX4_isComponent_16 (by decide) ?_
      exact hret _ _ _ ⟨smi h, isZ.to isZ0 (smi h)⟩ (isZ.nar isZ0) dX4_isComponent_17
    · replace h := ite_f c2 h
      refine lv_iconst (v := 1) hx hb dX4_isComponent_12 (by decide) ?_
      refine lv_goto (tgt := 17) hx hb dX4_isComponent_13 (by decide) ?_
      exact hret _ _ _ ⟨smi h, isZ.to isZ1 (smi h)⟩ (isZ.nar isZ1) dX4_isComponent_17
abbrev rmX4_isArea : Room := { frames := 0, cells := 0, slots := 0, locals := 0 }
set_option maxHeartbeats 4000000 in
set_option maxRecDepth 100000 in
theorem ctX4_isArea (l : Launch) (G : GG) (a0 : Int32) (o0 : Int32) (h : mX4_isArea a0 = some (o0))  : Met l yX4_isArea wsX4_isArea rmX4_isArea (va_Pc [.int a0] (PreW G (([] : va_W)))) (vp_Si (fun r => r = o0 ∧ isZ o0)) 0 0 (fun _ => False) := by
  refine of_ri (cc := cX4_isArea) (maxL := 1) (ty := .boolean) (plainFor_of_name (by decide)) rfl (Nat.le_of_ble_eq_true rfl) ?_
  intro p e s m args below meth c ls Q S hl hP hK hret
  have S : CallFix p m c cX4_isArea 1 s args wsX4_isArea RX4 := S
  obtain ⟨hx, hb, hml, hown, hts⟩ := id S
  have hl : lv_has ls 1 [(0, .int a0)] := hl
  unfold mX4_isArea at h
  refine lv_iload_n hx hb dX4_isArea_0 rfl (lv_at hl 0 rfl) ?_
  refine lv_iconst (v := 1) hx hb dX4_isArea_1 (by decide) ?_
  refine lv_icmp_lt (tgt := 15) hx hb dX4_isArea_2 (by decide) (fun c1 => ?_) (fun c1 => ?_)
  · replace h := ite_t c1 h
    refine lv_iconst (v := 0) hx hb dX4_isArea_15 (by decide) ?_
    exact hret _ _ _ ⟨smi h, isZ.to isZ0 (smi h)⟩ (isZ.nar isZ0) dX4_isArea_16
  · replace h := ite_f c1 h
    refine lv_iload_n hx hb dX4_isArea_5 rfl (lv_at hl 0 rfl) ?_
    refine lv_bipush (v := 64) hx hb dX4_isArea_6 (by decide) ?_
    refine lv_icmp_gt (tgt := 15) hx hb dX4_isArea_8 (by decide) (fun c2 => ?_) (fun c2 => ?_)
    · replace h := ite_t c2 h
      refine lv_iconst (v := 0) hx hb dX4_isArea_15 (by decide) ?_
      exact hret _ _ _ ⟨smi h, isZ.to isZ0 (smi h)⟩ (isZ.nar isZ0) dX4_isArea_16
    · replace h := ite_f c2 h
      refine lv_iconst (v := 1) hx hb dX4_isArea_11 (by decide) ?_
      refine lv_goto (tgt := 16) hx hb dX4_isArea_12 (by decide) ?_
      exact hret _ _ _ ⟨smi h, isZ.to isZ1 (smi h)⟩ (isZ.nar isZ1) dX4_isArea_16
abbrev rmX4_isPosition : Room := { frames := 0, cells := 0, slots := 0, locals := 0 }
set_option maxHeartbeats 4000000 in
set_option maxRecDepth 100000 in
theorem ctX4_isPosition (l : Launch) (G : GG) (a0 : Int32) (o0 : Int32) (h : mX4_isPosition a0 = some (o0))  : Met l yX4_isPosition wsX4_isPosition rmX4_isPosition (va_Pc [.int a0] (PreW G (([] : va_W)))) (vp_Si (fun r => r = o0 ∧ isZ o0)) 0 0 (fun _ => False) := by
  refine of_ri (cc := cX4_isPosition) (maxL := 1) (ty := .boolean) (plainFor_of_name (by decide)) rfl (Nat.le_of_ble_eq_true rfl) ?_
  intro p e s m args below meth c ls Q S hl hP hK hret
  have S : CallFix p m c cX4_isPosition 1 s args wsX4_isPosition RX4 := S
  obtain ⟨hx, hb, hml, hown, hts⟩ := id S
  have hl : lv_has ls 1 [(0, .int a0)] := hl
  unfold mX4_isPosition at h
  refine lv_iload_n hx hb dX4_isPosition_0 rfl (lv_at hl 0 rfl) ?_
  refine lv_sipush (v := (-10000)) hx hb dX4_isPosition_1 (by decide) ?_
  refine lv_icmp_lt (tgt := 18) hx hb dX4_isPosition_4 (by decide) (fun c1 => ?_) (fun c1 => ?_)
  · replace h := ite_t c1 h
    refine lv_iconst (v := 0) hx hb dX4_isPosition_18 (by decide) ?_
    exact hret _ _ _ ⟨smi h, isZ.to isZ0 (smi h)⟩ (isZ.nar isZ0) dX4_isPosition_19
  · replace h := ite_f c1 h
    refine lv_iload_n hx hb dX4_isPosition_7 rfl (lv_at hl 0 rfl) ?_
    refine lv_sipush (v := 10000) hx hb dX4_isPosition_8 (by decide) ?_
    refine lv_icmp_gt (tgt := 18) hx hb dX4_isPosition_11 (by decide) (fun c2 => ?_) (fun c2 => ?_)
    · replace h := ite_t c2 h
      refine lv_iconst (v := 0) hx hb dX4_isPosition_18 (by decide) ?_
      exact hret _ _ _ ⟨smi h, isZ.to isZ0 (smi h)⟩ (isZ.nar isZ0) dX4_isPosition_19
    · replace h := ite_f c2 h
      refine lv_iconst (v := 1) hx hb dX4_isPosition_14 (by decide) ?_
      refine lv_goto (tgt := 19) hx hb dX4_isPosition_15 (by decide) ?_
      exact hret _ _ _ ⟨smi h, isZ.to isZ1 (smi h)⟩ (isZ.nar isZ1) dX4_isPosition_19
abbrev rmX4_isSide : Room := { frames := 0, cells := 0, slots := 0, locals := 0 }
set_option maxHeartbeats 4000000 in
set_option maxRecDepth 100000 in
theorem ctX4_isSide (l : Launch) (G : GG) (a0 : Int32) (o0 : Int32) (h : mX4_isSide a0 = some (o0))  : Met l yX4_isSide wsX4_isSide rmX4_isSide (va_Pc [.int a0] (PreW G (([] : va_W)))) (vp_Si (fun r => r = o0 ∧ isZ o0)) 0 0 (fun _ => False) := by
  refine of_ri (cc := cX4_isSide) (maxL := 1) (ty := .boolean) (plainFor_of_name (by decide)) rfl (Nat.le_of_ble_eq_true rfl) ?_
  intro p e s m args below meth c ls Q S hl hP hK hret
  have S : CallFix p m c cX4_isSide 1 s args wsX4_isSide RX4 := S
  obtain ⟨hx, hb, hml, hown, hts⟩ := id S
  have hl : lv_has ls 1 [(0, .int a0)] := hl
  unfold mX4_isSide at h
  refine lv_iload_n hx hb dX4_isSide_0 rfl (lv_at hl 0 rfl) ?_
  refine lv_iconst (v := 1) hx hb dX4_isSide_1 (by decide) ?_
  refine lv_icmp_lt (tgt := 15) hx hb dX4_isSide_2 (by decide) (fun c1 => ?_) (fun c1 => ?_)
  · replace h := ite_t c1 h
    refine lv_iconst (v := 0) hx hb dX4_isSide_15 (by decide) ?_
    exact hret _ _ _ ⟨smi h, isZ.to isZ0 (smi h)⟩ (isZ.nar isZ0) dX4_isSide_16
  · replace h := ite_f c1 h
    refine lv_iload_n hx hb dX4_isSide_5 rfl (lv_at hl 0 rfl) ?_
    refine lv_bipush (v := 64) hx hb dX4_isSide_6 (by decide) ?_
    refine lv_icmp_gt (tgt := 15) hx hb dX4_isSide_8 (by decide) (fun c2 => ?_) (fun c2 => ?_)
    · replace h := ite_t c2 h
      refine lv_iconst (v := 0) hx hb dX4_isSide_15 (by decide) ?_
      exact hret _ _ _ ⟨smi h, isZ.to isZ0 (smi h)⟩ (isZ.nar isZ0) dX4_isSide_16
    · replace h := ite_f c2 h
      refine lv_iconst (v := 1) hx hb dX4_isSide_11 (by decide) ?_
      refine lv_goto (tgt := 16) hx hb dX4_isSide_12 (by decide) ?_
      exact hret _ _ _ ⟨smi h, isZ.to isZ1 (smi h)⟩ (isZ.nar isZ1) dX4_isSide_16
theorem lk_X4_isNearer_m172 : Cond.methodLink RX4 172 Lib.Math.abs.name ∈ wsX4_isNearer := List.mem_of_getElem? (i := 1) rfl
theorem lk_X4_isNearer_sabs : Cond.static Lib.Math.abs.name ∈ wsX4_isNearer := List.mem_of_getElem? (i := 2) rfl
theorem lk_X4_isNearer_iM : Cond.initialized "java/lang/Math" ∈ wsX4_isNearer := List.mem_of_getElem? (i := 3) rfl
theorem lk_X4_isNearer_cabs : Cond.code Lib.Math.abs.name Lib.Math.abs.code 1 (some .int) ∈ wsX4_isNearer := List.mem_of_getElem? (i := 4) rfl
abbrev rmX4_isNearer : Room := { frames := 1, cells := 0, slots := 0, locals := 21 }
set_option maxHeartbeats 4000000 in
set_option maxRecDepth 100000 in
theorem ctX4_isNearer (l : Launch) (G : GG) (a0 : Int32) (a1 : Int32) (a2 : Int32) (a3 : Int32) (a4 : Int32) (a5 : Int32) (o0 : Int32) (h : mX4_isNearer a0 a1 a2 a3 a4 a5 = some (o0))  : Met l yX4_isNearer wsX4_isNearer rmX4_isNearer (va_Pc [.int a0, .int a1, .int a2, .int a3, .int a4, .int a5] (PreW G (([] : va_W)))) (vp_Si (fun r => r = o0 ∧ isZ o0)) 0 0 (fun _ => False) := by
  refine of_ri (cc := cX4_isNearer) (maxL := 16) (ty := .boolean) (plainFor_of_name (by decide)) rfl (Nat.le_of_ble_eq_true rfl) ?_
  intro p e s m args below meth c ls Q S hl hP hK hret
  have S : CallFix p m c cX4_isNearer 16 s args wsX4_isNearer RX4 := S
  obtain ⟨hx, hb, hml, hown, hts⟩ := id S
  have hl : lv_has ls 16 [(0, .int a0), (1, .int a1), (2, .int a2), (3, .int a3), (4, .int a4), (5, .int a5)] := hl
  unfold mX4_isNearer at h
  refine lv_iload_n hx hb dX4_isNearer_0 rfl (lv_at hl 0 rfl) ?_
  refine lv_iload hx hb dX4_isNearer_1 (lv_at hl 4 rfl) ?_
  refine lv_imul hx hb dX4_isNearer_3 ?_
  refine lv_iload_n hx hb dX4_isNearer_4 rfl (lv_at hl 1 rfl) ?_
  refine lv_iload hx hb dX4_isNearer_5 (lv_at hl 5 rfl) ?_
  refine lv_imul hx hb dX4_isNearer_7 ?_
  refine lv_isub hx hb dX4_isNearer_8 ?_
  refine va_mabs hx hb (hml.trans hl.1.symm) hown (hts (.methodLink RX4 172 Lib.Math.abs.name) lk_X4_isNearer_m172) (hts (.static Lib.Math.abs.name) lk_X4_isNearer_sabs) (hts (.initialized "java/lang/Math") lk_X4_isNearer_iM) (hts (.code Lib.Math.abs.name Lib.Math.abs.code 1 (some .int)) lk_X4_isNearer_cabs) (Nat.le_of_ble_eq_true rfl) (Nat.le_of_ble_eq_true rfl) (Nat.le_refl _) (Nat.le_refl _) dX4_isNearer_9 ?_
  refine lv_i2l hx hb dX4_isNearer_12 rfl ?_
  refine lv_topl (fun x1 e1 => ?_)
  replace h := nmB_e e1 h
  refine lv_lstore (lv' := [(6, .long x1), (0, .int a0), (1, .int a1), (2, .int a2), (3, .int a3), (4, .int a4), (5, .int a5)]) hx hb dX4_isNearer_13 hl (by decide) rfl (fun ls hl => ?_)
  refine lv_iload_n hx hb dX4_isNearer_15 rfl (lv_at hl 3 rfl) ?_
  refine lv_iload hx hb dX4_isNearer_16 (lv_at hl 5 rfl) ?_
  refine lv_imul hx hb dX4_isNearer_18 ?_
  refine lv_iload_n hx hb dX4_isNearer_19 rfl (lv_at hl 4 rfl) ?_
  refine lv_iload hx hb dX4_isNearer_20 (lv_at hl 6 rfl) ?_
  refine lv_imul hx hb dX4_isNearer_22 ?_
  refine lv_isub hx hb dX4_isNearer_23 ?_
  refine va_mabs hx hb (hml.trans hl.1.symm) hown (hts (.methodLink RX4 172 Lib.Math.abs.name) lk_X4_isNearer_m172) (hts (.static Lib.Math.abs.name) lk_X4_isNearer_sabs) (hts (.initialized "java/lang/Math") lk_X4_isNearer_iM) (hts (.code Lib.Math.abs.name Lib.Math.abs.code 1 (some .int)) lk_X4_isNearer_cabs) (Nat.le_of_ble_eq_true rfl) (Nat.le_of_ble_eq_true rfl) (Nat.le_refl _) (Nat.le_refl _) dX4_isNearer_24 ?_
  refine lv_i2l hx hb dX4_isNearer_27 rfl ?_
  refine lv_topl (fun x2 e2 => ?_)
  replace h := nmB_e e2 h
  refine lv_lstore (lv' := [(8, .long x2), (6, .long x1), (0, .int a0), (1, .int a1), (2, .int a2), (3, .int a3), (4, .int a4), (5, .int a5)]) hx hb dX4_isNearer_28 hl (by decide) rfl (fun ls hl => ?_)
  refine lv_iload_n hx hb dX4_isNearer_30 rfl (lv_at hl 2 rfl) ?_
  refine lv_iload_n hx hb dX4_isNearer_31 rfl (lv_at hl 2 rfl) ?_
  refine lv_imul hx hb dX4_isNearer_32 ?_
  refine lv_iload_n hx hb dX4_isNearer_33 rfl (lv_at hl 3 rfl) ?_
  refine lv_iload_n hx hb dX4_isNearer_34 rfl (lv_at hl 3 rfl) ?_
  refine lv_imul hx hb dX4_isNearer_35 ?_
  refine lv_iadd hx hb dX4_isNearer_36 ?_
  refine lv_topi (fun x3 e3 => ?_)
  replace h := nmB_e e3 h
  refine lv_istore (lv' := [(10, .int x3), (8, .long x2), (6, .long x1), (0, .int a0), (1, .int a1), (2, .int a2), (3, .int a3), (4, .int a4), (5, .int a5)]) hx hb dX4_isNearer_37 hl (by decide) rfl (fun ls hl => ?_)
  refine lv_iload_n hx hb dX4_isNearer_39 rfl (lv_at hl 5 rfl) ?_
  refine lv_iload_n hx hb dX4_isNearer_40 rfl (lv_at hl 5 rfl) ?_
  refine lv_imul hx hb dX4_isNearer_41 ?_
  refine lv_iload_n hx hb dX4_isNearer_42 rfl (lv_at hl 6 rfl) ?_
  refine lv_iload_n hx hb dX4_isNearer_43 rfl (lv_at hl 6 rfl) ?_
  refine lv_imul hx hb dX4_isNearer_44 ?_
  refine lv_iadd hx hb dX4_isNearer_45 ?_
  refine lv_topi (fun x4 e4 => ?_)
  replace h := nmB_e e4 h
  refine lv_istore (lv' := [(11, .int x4), (10, .int x3), (8, .long x2), (6, .long x1), (0, .int a0), (1, .int a1), (2, .int a2), (3, .int a3), (4, .int a4), (5, .int a5)]) hx hb dX4_isNearer_46 hl (by decide) rfl (fun ls hl => ?_)
  refine lv_lload hx hb dX4_isNearer_48 (lv_at hl 3 rfl) ?_
  refine lv_lload hx hb dX4_isNearer_50 (lv_at hl 3 rfl) ?_
  refine lv_lmul hx hb dX4_isNearer_52 ?_
  refine lv_iload hx hb dX4_isNearer_53 (lv_at hl 0 rfl) ?_
  refine lv_i2l hx hb dX4_isNearer_55 rfl ?_
  refine lv_lmul hx hb dX4_isNearer_56 ?_
  refine lv_topl (fun x5 e5 => ?_)
  replace h := nmB_e e5 h
  refine lv_lstore (lv' := [(12, .long x5), (11, .int x4), (10, .int x3), (8, .long x2), (6, .long x1), (0, .int a0), (1, .int a1), (2, .int a2), (3, .int a3), (4, .int a4), (5, .int a5)]) hx hb dX4_isNearer_57 hl (by decide) rfl (fun ls hl => ?_)
  refine lv_lload hx hb dX4_isNearer_59 (lv_at hl 3 rfl) ?_
  refine lv_lload hx hb dX4_isNearer_61 (lv_at hl 3 rfl) ?_
  refine lv_lmul hx hb dX4_isNearer_63 ?_
  refine lv_iload hx hb dX4_isNearer_64 (lv_at hl 2 rfl) ?_
  refine lv_i2l hx hb dX4_isNearer_66 rfl ?_
  refine lv_lmul hx hb dX4_isNearer_67 ?_
  refine lv_topl (fun x6 e6 => ?_)
  replace h := nmB_e e6 h
  refine lv_lstore (lv' := [(14, .long x6), (12, .long x5), (11, .int x4), (10, .int x3), (8, .long x2), (6, .long x1), (0, .int a0), (1, .int a1), (2, .int a2), (3, .int a3), (4, .int a4), (5, .int a5)]) hx hb dX4_isNearer_68 hl (by decide) rfl (fun ls hl => ?_)
  refine lv_lload hx hb dX4_isNearer_70 (lv_at hl 1 rfl) ?_
  refine lv_lload hx hb dX4_isNearer_72 (lv_at hl 0 rfl) ?_
  refine W.lcmp hx hb dX4_isNearer_74 ?_
  refine lv_if_eq (tgt := 92) hx hb dX4_isNearer_75 (by decide) (fun c7 => ?_) (fun c7 => ?_)
  · replace h := ite_t c7 h
    refine lv_iload hx hb dX4_isNearer_92 (lv_at hl 3 rfl) ?_
    refine lv_iload hx hb dX4_isNearer_94 (lv_at hl 2 rfl) ?_
    refine lv_icmp_eq (tgt := 112) hx hb dX4_isNearer_96 (by decide) (fun c8 => ?_) (fun c8 => ?_)
    · replace h := ite_t c8 h
      refine lv_iload_n hx hb dX4_isNearer_112 rfl (lv_at hl 6 rfl) ?_
      refine lv_iload_n hx hb dX4_isNearer_113 rfl (lv_at hl 8 rfl) ?_
      refine lv_icmp_ge (tgt := 121) hx hb dX4_isNearer_114 (by decide) (fun c9 => ?_) (fun c9 => ?_)
      · replace h := ite_t c9 h
        refine lv_iconst (v := 0) hx hb dX4_isNearer_121 (by decide) ?_
        exact hret _ _ _ ⟨smi h, isZ.to isZ0 (smi h)⟩ (isZ.nar isZ0) dX4_isNearer_122
      · replace h := ite_f c9 h
        refine lv_iconst (v := 1) hx hb dX4_isNearer_117 (by decide) ?_
        refine lv_goto (tgt := 122) hx hb dX4_isNearer_118 (by decide) ?_
        exact hret _ _ _ ⟨smi h, isZ.to isZ1 (smi h)⟩ (isZ.nar isZ1) dX4_isNearer_122
    · replace h := ite_f c8 h
      refine lv_iload hx hb dX4_isNearer_99 (lv_at hl 3 rfl) ?_
      refine lv_iload hx hb dX4_isNearer_101 (lv_at hl 2 rfl) ?_
      refine lv_icmp_ge (tgt := 110) hx hb dX4_isNearer_103 (by decide) (fun c10 => ?_) (fun c10 => ?_)
      · replace h := ite_t c10 h
        refine lv_iconst (v := 0) hx hb dX4_isNearer_110 (by decide) ?_
        exact hret _ _ _ ⟨smi h, isZ.to isZ0 (smi h)⟩ (isZ.nar isZ0) dX4_isNearer_111
      · replace h := ite_f c10 h
        refine lv_iconst (v := 1) hx hb dX4_isNearer_106 (by decide) ?_
        refine lv_goto (tgt := 111) hx hb dX4_isNearer_107 (by decide) ?_
        exact hret _ _ _ ⟨smi h, isZ.to isZ1 (smi h)⟩ (isZ.nar isZ1) dX4_isNearer_111
  · replace h := ite_f c7 h
    refine lv_lload hx hb dX4_isNearer_78 (lv_at hl 1 rfl) ?_
    refine lv_lload hx hb dX4_isNearer_80 (lv_at hl 0 rfl) ?_
    refine W.lcmp hx hb dX4_isNearer_82 ?_
    refine lv_if_ge (tgt := 90) hx hb dX4_isNearer_83 (by decide) (fun c11 => ?_) (fun c11 => ?_)
    · replace h := ite_t c11 h
      refine lv_iconst (v := 0) hx hb dX4_isNearer_90 (by decide) ?_
      exact hret _ _ _ ⟨smi h, isZ.to isZ0 (smi h)⟩ (isZ.nar isZ0) dX4_isNearer_91
    · replace h := ite_f c11 h
      refine lv_iconst (v := 1) hx hb dX4_isNearer_86 (by decide) ?_
      refine lv_goto (tgt := 91) hx hb dX4_isNearer_87 (by decide) ?_
      exact hret _ _ _ ⟨smi h, isZ.to isZ1 (smi h)⟩ (isZ.nar isZ1) dX4_isNearer_91
theorem lk_X4_mix_k218 : Cond.constantLong RX4 218 (31) ∈ wsX4_mix := List.mem_of_getElem? (i := 1) rfl
abbrev rmX4_mix : Room := { frames := 0, cells := 0, slots := 0, locals := 0 }
set_option maxHeartbeats 4000000 in
set_option maxRecDepth 100000 in
theorem ctX4_mix (l : Launch) (G : GG) (a0 : Int64) (a1 : Int64) (o0 : Int64) (h : mX4_mix a0 a1 = some (o0))  : Met l yX4_mix wsX4_mix rmX4_mix (va_Pc [.long a0, .long a1] (PreW G (([] : va_W)))) (vp_Sl (fun r => r = o0 ∧ True)) 0 0 (fun _ => False) := by
  refine of_rl (cc := cX4_mix) (maxL := 4) (plainFor_of_name (by decide)) rfl (Nat.le_of_ble_eq_true rfl) ?_
  intro p e s m args below meth c ls Q S hl hP hK hret
  have S : CallFix p m c cX4_mix 4 s args wsX4_mix RX4 := S
  obtain ⟨hx, hb, hml, hown, hts⟩ := id S
  have hl : lv_has ls 4 [(0, .long a0), (2, .long a1)] := hl
  unfold mX4_mix at h
  refine lv_ldc2 (v := 31) hx hb hown (hts (.constantLong RX4 218 (31)) lk_X4_mix_k218) dX4_mix_0 ?_
  refine lv_lload_n hx hb dX4_mix_3 rfl (lv_at hl 0 rfl) ?_
  refine lv_lmul hx hb dX4_mix_4 ?_
  refine lv_lload_n hx hb dX4_mix_5 rfl (lv_at hl 1 rfl) ?_
  refine lv_ladd hx hb dX4_mix_6 ?_
  exact hret _ _ _ ⟨smi h, trivial⟩ dX4_mix_7
abbrev rmX4_put : Room := { frames := 0, cells := 0, slots := 0, locals := 0 }
set_option maxHeartbeats 4000000 in
set_option maxRecDepth 100000 in
theorem ctX4_put (l : Launch) (G : GG) (qA : Nat) (n : Nat) (rowA : (Nat → Int32)) (a1 : Int32) (a2 : Int32) (o0 : (Nat → Int32)) (h : mX4_put n rowA a1 a2 = some (o0))  : Met l yX4_put wsX4_put rmX4_put (va_Pc [.ref qA, .int a1, .int a2] (PreD G ([(qA, .inl (G.2 0, n, .inl rowA))]) (fun _ => True))) (QwA G (va_A0 ([(qA, .inl (G.2 0, n, .inl rowA))])) ([(qA, .inl (G.2 0, n, .inl o0))]) none True) 0 0 (va_A0 ([(qA, .inl (G.2 0, n, .inl rowA))])) := by
  refine of_wv (cc := cX4_put) (maxL := 3) (plainFor_of_name (by decide)) rfl (Nat.le_of_ble_eq_true rfl) ?_
  intro p e s m args below meth c ls Q A S hl hP hD hS hK hX hA hret
  obtain ⟨H, hH⟩ : ∃ H, H = s.heap := ⟨_, rfl⟩
  obtain ⟨locs, hlocs⟩ : ∃ L : List Loc, L = [] := ⟨_, rfl⟩
  rw [← hlocs]
  rw [← hlocs] at hS
  have hP : va_P G.1 vwCl ([(qA, .inl (G.2 0, n, .inl rowA))]) H := by rw [hH]; exact hP
  have hS : va_S A s.heap H locs := by rw [hH]; exact hS
  suffices hgo : W p l e rmX4_put s m args below meth c H locs 0 0 Q (F0 m 0 ls []) by rw [hH] at hgo; exact hgo
  have S : CallFix p m c cX4_put 3 s args wsX4_put RX4 := S
  obtain ⟨hx, hb, hml, hown, hts⟩ := id S
  have hl : lv_has ls 3 [(0, .ref qA), (1, .int a1), (2, .int a2)] := hl
  unfold mX4_put at h
  refine lv_iload_n hx hb dX4_put_0 rfl (lv_at hl 1 rfl) ?_
  refine lv_if_lt (tgt := 14) hx hb dX4_put_1 (by decide) (fun c1 => ?_) (fun c1 => ?_)
  · replace h := ite_t c1 h
    obtain rfl := sm1 h
    exact hret _ _ _ _ trivial hP hD hS dX4_put_14
  · replace h := ite_f c1 h
    refine lv_iload_n hx hb dX4_put_4 rfl (lv_at hl 1 rfl) ?_
    refine lv_aload_n hx hb dX4_put_5 rfl (lv_at hl 0 rfl) ?_
    refine va_alen (v := (nI n)) hx hb hK.1 hP 0 0 rfl rfl rfl dX4_put_6 ?_
    refine lv_icmp_ge (tgt := 14) hx hb dX4_put_7 (by decide) (fun c2 => ?_) (fun c2 => ?_)
    · replace h := ite_t c2 h
      obtain rfl := sm1 h
      exact hret _ _ _ _ trivial hP hD hS dX4_put_14
    · replace h := ite_f c2 h
      refine lv_aload_n hx hb dX4_put_10 rfl (lv_at hl 0 rfl) ?_
      refine lv_iload_n hx hb dX4_put_11 rfl (lv_at hl 1 rfl) ?_
      refine lv_iload_n hx hb dX4_put_12 rfl (lv_at hl 2 rfl) ?_
      obtain ⟨i3, h⟩ := gd_e h
      refine va_iast hx hb hK.1 hP hD hS 0 0 rfl rfl i3 dX4_put_13 (fun H locs hP hD hS => ?_)
      have hP : va_P G.1 vwCl ([(qA, .inl (G.2 0, n, .inl (upd rowA a1.toNatClampNeg a2)))]) H := hP
      have hD : va_D A ([(qA, .inl (G.2 0, n, .inl (upd rowA a1.toNatClampNeg a2)))]) := hD
      obtain rfl := sm1 h
      exact hret _ _ _ _ trivial hP hD hS dX4_put_14
set_option maxHeartbeats 4000000 in
set_option maxRecDepth 100000 in
theorem ctX4_at_T (l : Launch) (t : Nat) (f : Nat → Int32) (i o0 : Int32) (h : mX4_at 4 f i = some o0) : Met l yX4_at wsX4_at rmX4_at (va_Pc [.ref t, .int i] (fun U => va_T .int t 4 (fun j => .int (f j)) (fun _ => False) U U.heap)) (vp_Si (fun r => r = o0 ∧ True)) 0 0 (fun _ => False) := by
  refine of_any (cc := cX4_at) (maxL := 2) (ret := some .int) (plainFor_of_name (by decide)) rfl (Nat.le_of_ble_eq_true rfl) ?_
  intro p e s m args below meth c ls S hr hlocks hl hT
  have S : CallFix p m c cX4_at 2 s args wsX4_at RX4 := S
  obtain ⟨hx, hb, hml, hown, hts⟩ := id S
  have hS : va_S (fun _ => False) s.heap s.heap [] := va_S.rf
  have hl : lv_has ls 2 [(0, .ref t), (1, .int i)] := hl
  unfold mX4_at at h
  refine lv_iload_n hx hb dX4_at_0 rfl (lv_at hl 1 rfl) ?_
  refine lv_if_lt (tgt := 16) hx hb dX4_at_1 (by decide) (fun c1 => ?_) (fun c1 => ?_)
  · replace h := ite_t c1 h
    refine lv_iconst (v := 0) hx hb dX4_at_16 (by decide) ?_
    exact W.zret hx hb hr rfl (fun t ht _ => ⟨0, rfl, ⟨smi h, trivial⟩, ht⟩) (fun _ h => nomatch h) dX4_at_17 hlocks
  · replace h := ite_f c1 h
    refine lv_iload_n hx hb dX4_at_4 rfl (lv_at hl 1 rfl) ?_
    refine lv_aload_n hx hb dX4_at_5 rfl (lv_at hl 0 rfl) ?_
    refine va_tlen (v := nI 4) hx hb hT hS rfl dX4_at_6 ?_
    refine lv_icmp_ge (tgt := 16) hx hb dX4_at_7 (by decide) (fun c2 => ?_) (fun c2 => ?_)
    · replace h := ite_t c2 h
      refine lv_iconst (v := 0) hx hb dX4_at_16 (by decide) ?_
      exact W.zret hx hb hr rfl (fun t ht _ => ⟨0, rfl, ⟨smi h, trivial⟩, ht⟩) (fun _ h => nomatch h) dX4_at_17 hlocks
    · replace h := ite_f c2 h
      refine lv_aload_n hx hb dX4_at_10 rfl (lv_at hl 0 rfl) ?_
      refine lv_iload_n hx hb dX4_at_11 rfl (lv_at hl 1 rfl) ?_
      obtain ⟨i3, h⟩ := gd_e h
      refine va_ti hx hb hT hS i3 (v := .int (f i.toNatClampNeg)) rfl dX4_at_12 ?_
      refine lv_goto (tgt := 17) hx hb dX4_at_13 (by decide) ?_
      exact W.zret hx hb hr rfl (fun t ht _ => ⟨_, rfl, ⟨smi h, trivial⟩, ht⟩) (fun _ h => nomatch h) dX4_at_17 hlocks
