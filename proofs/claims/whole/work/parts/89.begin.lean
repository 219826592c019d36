-- ===== the law: its loop (laid by llgen.py) =====
theorem ll_gt {i L : Nat} (hi : i ≤ 3600) (hL : L ≤ 3584) : (Int32.ofNat L - 7 < nI i) ↔ L < i + 7 := by
  have e7 : (7 : Int32) = iI 7 := iI_lit 7
  have eL : Int32.ofNat L = iI (L : Int) := (iI_nat L).symm
  rw [eL, e7, ← iI_nat i, iI_sub, iI_lt (by omega) (by omega) (by omega) (by omega)]
  omega
theorem ll_7 (i : Nat) : nI i + Int32.ofInt 7 = nI (i + 7) := by
  have e7 : Int32.ofInt 7 = nI 7 := by decide +kernel
  rw [e7, lnI_add]
theorem ll_in {i L : Nat} (hi : i + 7 ≤ L) (hL : L ≤ 3584) : vp_in (nI i) L := vp_in_nI (by omega) (by omega)
set_option maxHeartbeats 4000000 in
set_option maxRecDepth 100000 in
theorem law_loop {p : Program} {l : Launch} {e : Env} {s : State} {m : MethodId} {below : List Frame} {meth : Method} {c : Code} {b L : Nat} {xs : Nat → Int32} {G : GG} {ad um : Nat → Nat} {qo qd : Nat} {Q : State → Prop} (hF : LF p l s m c b L xs G) (hout : ∀ (H : Heap) (ls : Array Slot), W p l e room_1 s m #[Value.ref b] below meth c H [] 601024 7293034 Q (F0 m 2078 ls [.int 1])) : ∀ (n i cells slots : Nat), L ≤ i + 7 * n → i ≤ L → cells + n ≤ 601024 → slots + 6 * n ≤ 7293034 → ∀ (cl : Cls) (x : Mdl) (f : Nat → Int64) (fd : Nat → UInt64) (H : Heap) (locs : List Loc), LSt s G ad um qo qd cl x f fd H locs → ∀ ls : Array Slot, lv_has ls 9 (lvL b ad um qo qd i) → W p l e room_1 s m #[Value.ref b] below meth c H locs cells slots Q (F0 m 28 ls []) := by
  intro n
  induction n with
  | zero =>
    intro i cells slots hn hiL hc1 hc2 cl x f fd H locs hI ls hl
    obtain ⟨⟨hx, hb, hml, hown, hts, hX, hbl⟩, hK, hT, hL, hfl⟩ := id hF
    have hS := hI.2.2.1
    have hbA : ¬ AL s b := Nat.not_le.mpr hbl
    refine lv_iload hx hb dL_law_28 (lv_at hl 5 rfl) ?_
    refine lv_aload_n hx hb dL_law_30 rfl (lv_at hl 0 rfl) ?_
    refine va_slen hx hb hX hbl hbA hS dL_law_31 ?_
    refine lv_bipush (v := 7) hx hb dL_law_32 (by decide) ?_
    refine lv_isub hx hb dL_law_34 ?_
    refine lv_icmp_gt (tgt := 2077) hx hb dL_law_35 (by decide) (fun hg => ?_) (fun hg => absurd ((ll_gt (by omega) hL).mpr (by omega)) hg)
    refine lv_iconst (v := 1) hx hb dL_law_2077 (by decide) ?_
    refine va_forget (fun q hq => hS.2.2 q hq) ?_
    refine W.widen (k := 601024) (n := 7293034) (by omega) (by omega) ?_
    exact hout H ls
  | succ n ih =>
    intro i cells slots hn hiL hc1 hc2 cl x f fd H locs hI ls hl
    obtain ⟨⟨hx, hb, hml, hown, hts, hX, hbl⟩, hK, hT, hL, hfl⟩ := id hF
    have hS := hI.2.2.1
    have hbA : ¬ AL s b := Nat.not_le.mpr hbl
    refine lv_iload hx hb dL_law_28 (lv_at hl 5 rfl) ?_
    refine lv_aload_n hx hb dL_law_30 rfl (lv_at hl 0 rfl) ?_
    refine va_slen hx hb hX hbl hbA hS dL_law_31 ?_
    refine lv_bipush (v := 7) hx hb dL_law_32 (by decide) ?_
    refine lv_isub hx hb dL_law_34 ?_
    refine lv_icmp_gt (tgt := 2077) hx hb dL_law_35 (by decide) (fun hg => ?_) (fun hg => ?_)
    · refine lv_iconst (v := 1) hx hb dL_law_2077 (by decide) ?_
      refine va_forget (fun q hq => hS.2.2 q hq) ?_
      refine W.widen (k := 601024) (n := 7293034) (by omega) (by omega) ?_
      exact hout H ls
    · have hi : i + 7 ≤ L := Nat.not_lt.mp (fun z => hg ((ll_gt (by omega) hL).mpr z))
      have kk : LKont p l e s m below meth c b G ad um qo qd i cells slots Q := by
        intro cl x f fd H locs hI ls hl
        refine lv_iinc (v := nI (i + 7)) (lv' := [(5, .int (nI (i + 7))), (0, .ref b), (1, .ref (ad 0)), (2, .ref (um 0)), (3, .ref qo), (4, .ref qd)]) hx hb dL_law_2071 hl (k := 5) rfl (ll_7 i) (by decide) rfl (fun ls hl => ?_)
        refine lv_goto (tgt := 28) hx hb dL_law_2074 (by decide) ?_
        exact ih (i + 7) (cells + 1) (slots + 6) (by omega) hi (by omega) (by omega) cl x f fd H locs hI ls (lv_sub hl [1, 2, 3, 4, 5, 0] rfl)
      refine lv_aload_n hx hb dL_law_38 rfl (lv_at hl 0 rfl) ?_
      refine lv_iload hx hb dL_law_39 (lv_at hl 5 rfl) ?_
      refine va_sld hx hb hX hbl hbA hS (ll_in hi hL) dL_law_41 ?_
      refine lv_bipush (v := 31) hx hb dL_law_42 (by decide) ?_
      refine lv_iand hx hb dL_law_44 ?_
      generalize (xs (nI i).toNatClampNeg &&& 31) = v
      by_cases h1 : v.toInt < 0
      · refine lv_tableOut (tgt := 2071) hx hb dL_law_45 (Or.inl h1) (by decide) ?_
        refine W.widen (k := cells + 1) (n := slots + 6) (by omega) (by omega) ?_
        exact kk cl x f fd H locs hI ls hl
      by_cases h2 : 28 < v.toInt
      · refine lv_tableOut (tgt := 2071) hx hb dL_law_45 (Or.inr h2) (by decide) ?_
        refine W.widen (k := cells + 1) (n := slots + 6) (by omega) (by omega) ?_
        exact kk cl x f fd H locs hI ls hl
      have hv : v.toInt = 0 ∨ v.toInt = 1 ∨ v.toInt = 2 ∨ v.toInt = 3 ∨ v.toInt = 4 ∨ v.toInt = 5 ∨ v.toInt = 6 ∨ v.toInt = 7 ∨ v.toInt = 8 ∨ v.toInt = 9 ∨ v.toInt = 10 ∨ v.toInt = 11 ∨ v.toInt = 12 ∨ v.toInt = 13 ∨ v.toInt = 14 ∨ v.toInt = 15 ∨ v.toInt = 16 ∨ v.toInt = 17 ∨ v.toInt = 18 ∨ v.toInt = 19 ∨ v.toInt = 20 ∨ v.toInt = 21 ∨ v.toInt = 22 ∨ v.toInt = 23 ∨ v.toInt = 24 ∨ v.toInt = 25 ∨ v.toInt = 26 ∨ v.toInt = 27 ∨ v.toInt = 28 := by omega
      rcases hv with hv | hv | hv | hv | hv | hv | hv | hv | hv | hv | hv | hv | hv | hv | hv | hv | hv | hv | hv | hv | hv | hv | hv | hv | hv | hv | hv | hv | hv
      · exact lv_tableIn (off := 131) (tgt := 176) hx hb dL_law_45 h1 h2 (by rw [hv]; rfl) (by decide) (law_c0 hF hi hI (by omega) (by omega) hl kk)
      · exact lv_tableIn (off := 187) (tgt := 232) hx hb dL_law_45 h1 h2 (by rw [hv]; rfl) (by decide) (law_c1 hF hi hI (by omega) (by omega) hl kk)
      · exact lv_tableIn (off := 200) (tgt := 245) hx hb dL_law_45 h1 h2 (by rw [hv]; rfl) (by decide) (law_c2 hF hi hI (by omega) (by omega) hl kk)
      · exact lv_tableIn (off := 213) (tgt := 258) hx hb dL_law_45 h1 h2 (by rw [hv]; rfl) (by decide) (law_c3 hF hi hI (by omega) (by omega) hl kk)
      · exact lv_tableIn (off := 269) (tgt := 314) hx hb dL_law_45 h1 h2 (by rw [hv]; rfl) (by decide) (law_c4 hF hi hI (by omega) (by omega) hl kk)
      · exact lv_tableIn (off := 387) (tgt := 432) hx hb dL_law_45 h1 h2 (by rw [hv]; rfl) (by decide) (law_c5 hF hi hI (by omega) (by omega) hl kk)
      · exact lv_tableIn (off := 443) (tgt := 488) hx hb dL_law_45 h1 h2 (by rw [hv]; rfl) (by decide) (law_c6 hF hi hI (by omega) (by omega) hl kk)
      · exact lv_tableIn (off := 527) (tgt := 572) hx hb dL_law_45 h1 h2 (by rw [hv]; rfl) (by decide) (law_c7 hF hi hI (by omega) (by omega) hl kk)
      · exact lv_tableIn (off := 595) (tgt := 640) hx hb dL_law_45 h1 h2 (by rw [hv]; rfl) (by decide) (law_c8 hF hi hI (by omega) (by omega) hl kk)
      · exact lv_tableIn (off := 651) (tgt := 696) hx hb dL_law_45 h1 h2 (by rw [hv]; rfl) (by decide) (law_c9 hF hi hI (by omega) (by omega) hl kk)
      · exact lv_tableIn (off := 719) (tgt := 764) hx hb dL_law_45 h1 h2 (by rw [hv]; rfl) (by decide) (law_c10 hF hi hI (by omega) (by omega) hl kk)
      · exact lv_tableIn (off := 775) (tgt := 820) hx hb dL_law_45 h1 h2 (by rw [hv]; rfl) (by decide) (law_c11 hF hi hI (by omega) (by omega) hl kk)
      · exact lv_tableIn (off := 843) (tgt := 888) hx hb dL_law_45 h1 h2 (by rw [hv]; rfl) (by decide) (law_c12 hF hi hI (by omega) (by omega) hl kk)
      · exact lv_tableIn (off := 923) (tgt := 968) hx hb dL_law_45 h1 h2 (by rw [hv]; rfl) (by decide) (law_c13 hF hi hI (by omega) (by omega) hl kk)
      · exact lv_tableIn (off := 1003) (tgt := 1048) hx hb dL_law_45 h1 h2 (by rw [hv]; rfl) (by decide) (law_c14 hF hi hI (by omega) (by omega) hl kk)
      · exact lv_tableIn (off := 1071) (tgt := 1116) hx hb dL_law_45 h1 h2 (by rw [hv]; rfl) (by decide) (law_c15 hF hi hI (by omega) (by omega) hl kk)
      · exact lv_tableIn (off := 1139) (tgt := 1184) hx hb dL_law_45 h1 h2 (by rw [hv]; rfl) (by decide) (law_c16 hF hi hI (by omega) (by omega) hl kk)
      · exact lv_tableIn (off := 1243) (tgt := 1288) hx hb dL_law_45 h1 h2 (by rw [hv]; rfl) (by decide) (law_c17 hF hi hI (by omega) (by omega) hl kk)
      · exact lv_tableIn (off := 1311) (tgt := 1356) hx hb dL_law_45 h1 h2 (by rw [hv]; rfl) (by decide) (law_c18 hF hi hI (by omega) (by omega) hl kk)
      · exact lv_tableIn (off := 1379) (tgt := 1424) hx hb dL_law_45 h1 h2 (by rw [hv]; rfl) (by decide) (law_c19 hF hi hI (by omega) (by omega) hl kk)
      · exact lv_tableIn (off := 1447) (tgt := 1492) hx hb dL_law_45 h1 h2 (by rw [hv]; rfl) (by decide) (law_c20 hF hi hI (by omega) (by omega) hl kk)
      · exact lv_tableIn (off := 1515) (tgt := 1560) hx hb dL_law_45 h1 h2 (by rw [hv]; rfl) (by decide) (law_c21 hF hi hI (by omega) (by omega) hl kk)
      · exact lv_tableIn (off := 1592) (tgt := 1637) hx hb dL_law_45 h1 h2 (by rw [hv]; rfl) (by decide) (law_c22 hF hi hI (by omega) (by omega) hl kk)
      · exact lv_tableIn (off := 1660) (tgt := 1705) hx hb dL_law_45 h1 h2 (by rw [hv]; rfl) (by decide) (law_c23 hF hi hI (by omega) (by omega) hl kk)
      · exact lv_tableIn (off := 1728) (tgt := 1773) hx hb dL_law_45 h1 h2 (by rw [hv]; rfl) (by decide) (law_c24 hF hi hI (by omega) (by omega) hl kk)
      · exact lv_tableIn (off := 1808) (tgt := 1853) hx hb dL_law_45 h1 h2 (by rw [hv]; rfl) (by decide) (law_c25 hF hi hI (by omega) (by omega) hl kk)
      · exact lv_tableIn (off := 1864) (tgt := 1909) hx hb dL_law_45 h1 h2 (by rw [hv]; rfl) (by decide) (law_c26 hF hi hI (by omega) (by omega) hl kk)
      · exact lv_tableIn (off := 1956) (tgt := 2001) hx hb dL_law_45 h1 h2 (by rw [hv]; rfl) (by decide) (law_c27 hF hi hI (by omega) (by omega) hl kk)
      · exact lv_tableIn (off := 2012) (tgt := 2057) hx hb dL_law_45 h1 h2 (by rw [hv]; rfl) (by decide) (law_c28 hF hi hI (by omega) (by omega) hl kk)
-- ===== what stands at the law's start =====
set_option maxRecDepth 20000 in
theorem nkL_in : ∀ w ∈ nkL, w ∈ lw_tbl := mem_r _ [395, 402, 270, 255, 593, 489, 479, 482, 401, 676, 581, 594, 603, 173, 74, 111, 150, 168] (by decide +kernel)
set_option maxRecDepth 20000 in
theorem nfL_in : ∀ w ∈ nfL, w ∈ lw_tbl := mem_r _ [419, 421, 587, 588] (by decide +kernel)
set_option maxRecDepth 20000 in
theorem thL_in : ∀ w ∈ thL, w ∈ lw_tbl := mem_r _ [299, 457, 510, 301, 303, 305] (by decide +kernel)
def lsL : List Cond := [.stringRef RX4 229 "an argument is out of range", .stringRef RX4 236 "the state does not allow this call", .stringRef RX4 241 "there is no such slot", .laysStatic Bundle.tN "UNASSIGNED_STACK" Bundle.steD, .laysStatic Bundle.tN "SUPPRESSED_SENTINEL" Bundle.listD, .initialized Bundle.tN, .laysStatic RX4 "STEP_X" "[I", .laysStatic RX4 "STEP_Y" "[I", .initialized RX4, .initialized RX5, .instantiable RX0 10, .instantiable RX1 8, .instantiable RX2 3, .instantiable RX3 15, .instantiable RX4 5, .instantiable RX5 35, .arrayClass .int, .arrayClass .boolean, .arrayClass .long, .arrayClass .double, .arrayOver (.object "HalftoneScreens$Screen"), .classLink RL 8 RX4, .classLink RL 102 RX5, .methodLink RL 101 yX4_init, .methodLink RL 104 yX5_init, .instanceMethod yX4_init, .instanceMethod yX5_init]
set_option maxRecDepth 20000 in
theorem lsL_in : ∀ w ∈ lsL, w ∈ lw_tbl := mem_r _ [338, 464, 517, 324, 326, 54, 420, 422, 48, 53, 110, 73, 149, 167, 63, 829, 108, 940, 1255, 1256, 71, 62, 828, 64, 830, 65, 831] (by decide +kernel)
theorem lsW {s : State} {b : Nat} (hts : ∀ w ∈ lw_tbl, w.before #[Value.ref b] s = true) (i : Nat) {w : Cond} (h : lsL[i]? = some w) : w.before #[Value.ref b] s = true := hts w (lsL_in w (List.mem_of_getElem? h))
theorem arr_K {s : State} {ty : FieldType} {A : Array Value} (hne : ∀ C, ty ≠ .object C) (h : (Cond.arrayClass ty).before A s = true) : ∃ cA : ClassId, ArrOfT s cA ty ∧ va_RA s cA ty := by
  obtain ⟨cA, kA, comp, h1, h2, h3⟩ := Cond.arrayClass_spec h
  refine ⟨cA, fun n z => ⟨fun k h => (by cases h), kA, h2, comp, h3⟩, ?_⟩
  cases ty <;> first | exact h1 | exact absurd rfl (hne _)
theorem arr_O {s : State} {C : String} {A : Array Value} (h : (Cond.arrayOver (.object C)).before A s = true) : ∃ cA : ClassId, ArrOfT s cA (.object C) ∧ va_RA s cA (.object C) := by
  obtain ⟨comp, cA, kA, f1, f2, f3, f4, f5⟩ := Cond.arrayOver_spec h
  exact ⟨cA, fun N z => ⟨(fun k h => by cases h), kA, f3, comp, f4⟩, kA, comp, f3, f4, f1, f5⟩
set_option maxHeartbeats 4000000 in
theorem KK_of {s : State} {b : Nat} (hts : ∀ w ∈ lw_tbl, w.before #[Value.ref b] s = true) : ∃ G : GG, KK G s := by
  obtain ⟨c0, i0, h0⟩ := u_known (C := RX0) (T := TX0) (N := 10) (n := 10) hts inX0 (lsW hts 10 rfl)
  obtain ⟨c1, i1, h1⟩ := u_known (C := RX1) (T := TX1) (N := 8) (n := 8) hts inX1 (lsW hts 11 rfl)
  obtain ⟨c2, i2, h2⟩ := u_known (C := RX2) (T := TX2) (N := 3) (n := 3) hts inX2 (lsW hts 12 rfl)
  obtain ⟨c3, i3, h3⟩ := u_known (C := RX3) (T := TX3) (N := 15) (n := 15) hts inX3 (lsW hts 13 rfl)
  obtain ⟨c4, i4, h4⟩ := u_known (C := RX4) (T := TX4) (N := 5) (n := 5) hts inX4 (lsW hts 14 rfl)
  obtain ⟨c5, i5, h5⟩ := u_known (C := RX5) (T := TX5) (N := 35) (n := 35) hts inX5 (lsW hts 15 rfl)
  obtain ⟨a0, p0⟩ := arr_K (fun _ h => by cases h) (lsW hts 16 rfl)
  obtain ⟨a1, p1⟩ := arr_K (fun _ h => by cases h) (lsW hts 17 rfl)
  obtain ⟨a3, p3⟩ := arr_K (fun _ h => by cases h) (lsW hts 18 rfl)
  obtain ⟨a4, p4⟩ := arr_K (fun _ h => by cases h) (lsW hts 19 rfl)
  obtain ⟨a2, p2⟩ := arr_O (lsW hts 20 rfl)
  let dC : Nat → ClassId := fun k => if k = 0 then c0 else if k = 1 then c1 else if k = 2 then c2 else if k = 3 then c3 else if k = 4 then c4 else c5
  let dI : Nat → Nat → Nat := fun k => if k = 0 then i0 else if k = 1 then i1 else if k = 2 then i2 else if k = 3 then i3 else if k = 4 then i4 else i5
  let dA : Nat → ClassId := fun k => if k = 0 then a0 else if k = 1 then a1 else if k = 2 then a2 else if k = 3 then a3 else a4
  refine ⟨((dC, dI), dA), ⟨?_, ?_⟩, fun w hw => va_Nw.of ?_ (hts w (nkL_in w hw)), fun w hw => va_Nw.of ?_ (hts w (nfL_in w hw))⟩
  · intro k q hq
    match k, hq with
    | 0, hq => cases hq; exact h0
    | 1, hq => cases hq; exact h1
    | 2, hq => cases hq; exact h2
    | 3, hq => cases hq; exact h3
    | 4, hq => cases hq; exact h4
    | 5, hq => cases hq; exact h5
    | k + 6, hq => simp [vwCl] at hq
  · intro k q hq
    match k, hq with
    | 0, hq => cases hq; exact p0
    | 1, hq => cases hq; exact p1
    | 2, hq => cases hq; exact p2
    | 3, hq => cases hq; exact p3
    | 4, hq => cases hq; exact p4
    | k + 5, hq => simp [tyG] at hq
  · simp only [nkL, List.mem_cons, List.not_mem_nil, or_false] at hw
    rcases hw with rfl | rfl | rfl | rfl | rfl | rfl | rfl | rfl | rfl | rfl | rfl | rfl | rfl | rfl | rfl | rfl | rfl | rfl <;> rfl
  · simp only [nfL, List.mem_cons, List.not_mem_nil, or_false] at hw
    rcases hw with rfl | rfl | rfl | rfl <;> rfl
theorem str_K {s : State} {A : Array Value} {own tx : String} {k : Nat} (h1 : (Cond.stringRef own k tx).before A s = true) (h2 : (Cond.exactly (.string own k) "java/lang/String").before A s = true) : ∃ a, vk_R own k tx a s := by
  obtain ⟨a, c, cell, kk, e, -⟩ := Cond.exactly_spec h2
  exact ⟨a, vk_R.of h1 e⟩
set_option maxHeartbeats 4000000 in
set_option maxRecDepth 100000 in
theorem FT_of {s : State} {b : Nat} (hts : ∀ w ∈ lw_tbl, w.before #[Value.ref b] s = true) (hgv : (Jvm.Cond.and given_1 narrow_1).before #[Value.ref b] s = true) : FT (AL s) s := by
  have hs := flat_of_before _ hgv
  have hA : ∀ a : Nat, a < s.heap.size → ¬ AL s a := fun a h => Nat.not_le.mpr h
  refine ⟨⟨fun w hw => va_Nw.of (thL_tabs w hw) (hts w (thL_in w hw)), str_K (lsW hts 0 rfl) (hs _ (by decide +kernel)), str_K (lsW hts 1 rfl) (hs _ (by decide +kernel)), str_K (lsW hts 2 rfl) (hs _ (by decide +kernel)), vx_Zqof (lsW hts 3 rfl) (lsW hts 5 rfl) (hs _ (by decide +kernel)) hA, vx_Zqof (lsW hts 4 rfl) (lsW hts 5 rfl) (hs _ (by decide +kernel)) hA⟩, ?_, ?_⟩
  · have n12 : va_Nc (exn 1) (exn 2) s := va_Nc.of (hs (.not (.castable "java/lang/IllegalArgumentException" "java/lang/IllegalStateException")) (by decide +kernel))
    have n13 : va_Nc (exn 1) (exn 3) s := va_Nc.of (hs (.not (.castable "java/lang/IllegalArgumentException" "java/lang/IndexOutOfBoundsException")) (by decide +kernel))
    have n21 : va_Nc (exn 2) (exn 1) s := va_Nc.of (hs (.not (.castable "java/lang/IllegalStateException" "java/lang/IllegalArgumentException")) (by decide +kernel))
    have n23 : va_Nc (exn 2) (exn 3) s := va_Nc.of (hs (.not (.castable "java/lang/IllegalStateException" "java/lang/IndexOutOfBoundsException")) (by decide +kernel))
    have n31 : va_Nc (exn 3) (exn 1) s := va_Nc.of (hs (.not (.castable "java/lang/IndexOutOfBoundsException" "java/lang/IllegalArgumentException")) (by decide +kernel))
    have n32 : va_Nc (exn 3) (exn 2) s := va_Nc.of (hs (.not (.castable "java/lang/IndexOutOfBoundsException" "java/lang/IllegalStateException")) (by decide +kernel))
    intro i hi j hj hij
    simp only [List.mem_cons, List.not_mem_nil, or_false] at hi hj
    rcases hi with rfl | rfl | rfl <;> rcases hj with rfl | rfl | rfl <;> first | exact absurd rfl hij | assumption
  · obtain ⟨tX, eX, hX⟩ := va_Tof (tm := .static RX4 "STEP_X" "[I") (ty := .int) (N := 4) (f := fun j => .int (stX j)) (by decide) (hs _ (by decide +kernel)) (va_eqt (hs (.eq (.length (.static RX4 "STEP_X" "[I")) (.int 4)) (by decide +kernel))) (fun j hj => by
      have : j = 0 ∨ j = 1 ∨ j = 2 ∨ j = 3 := by omega
      rcases this with rfl | rfl | rfl | rfl
      · exact va_eqt (hs (.eq (.elem (.static RX4 "STEP_X" "[I") (.int 0)) (.int 1)) (by decide +kernel))
      · exact va_eqt (hs (.eq (.elem (.static RX4 "STEP_X" "[I") (.int 1)) (.int 0)) (by decide +kernel))
      · exact va_eqt (hs (.eq (.elem (.static RX4 "STEP_X" "[I") (.int 2)) (.int (-1))) (by decide +kernel))
      · exact va_eqt (hs (.eq (.elem (.static RX4 "STEP_X" "[I") (.int 3)) (.int 0)) (by decide +kernel))) hA
    obtain ⟨tY, eY, hY⟩ := va_Tof (tm := .static RX4 "STEP_Y" "[I") (ty := .int) (N := 4) (f := fun j => .int (stY j)) (by decide) (hs _ (by decide +kernel)) (va_eqt (hs (.eq (.length (.static RX4 "STEP_Y" "[I")) (.int 4)) (by decide +kernel))) (fun j hj => by
      have : j = 0 ∨ j = 1 ∨ j = 2 ∨ j = 3 := by omega
      rcases this with rfl | rfl | rfl | rfl
      · exact va_eqt (hs (.eq (.elem (.static RX4 "STEP_Y" "[I") (.int 0)) (.int 0)) (by decide +kernel))
      · exact va_eqt (hs (.eq (.elem (.static RX4 "STEP_Y" "[I") (.int 1)) (.int 1)) (by decide +kernel))
      · exact va_eqt (hs (.eq (.elem (.static RX4 "STEP_Y" "[I") (.int 2)) (.int 0)) (by decide +kernel))
      · exact va_eqt (hs (.eq (.elem (.static RX4 "STEP_Y" "[I") (.int 3)) (.int (-1))) (by decide +kernel))) hA
    exact ⟨tX, tY, va_Zof (lsW hts 6 rfl) (lsW hts 8 rfl) eX hA, va_Zof (lsW hts 7 rfl) (lsW hts 8 rfl) eY hA, hX, hY⟩
-- ===== the law's start (laid by lsgen.py) =====
set_option maxHeartbeats 4000000 in
set_option maxRecDepth 100000 in
theorem law_begin {p : Program} {l : Launch} {e : Env} {s : State} {m : MethodId} {below : List Frame} {meth : Method} {c : Code} {b L : Nat} {xs : Nat → Int32} {Q : State → Prop} (hfl : l.stackTraces = false) (hL : L ≤ 3584) (hx : p.tables.exec = Jvm.exec) (hb : c.code = cL_law) (hml : c.maxLocals = 9) (hown : s.vm.findClass RL = some m.cls) (hts : ∀ w ∈ lw_tbl, w.before #[Value.ref b] s = true) (hX : va_X b L xs s s.heap) (hbl : b < s.heap.size) (hgv : (Jvm.Cond.and given_1 narrow_1).before #[Value.ref b] s = true) (hout : ∀ (H : Heap) (ls : Array Slot), W p l e room_1 s m #[Value.ref b] below meth c H [] 601024 7293034 Q (F0 m 2078 ls [.int 1])) : W p l e room_1 s m #[Value.ref b] below meth c s.heap [] 0 0 Q (entryFrame m ([Value.ref b] : List Value).toArray 9) := by
  obtain ⟨G, hK⟩ := KK_of hts
  have hT := FT_of hts hgv
  have hA : ∀ q : Nat, s.heap.size ≤ q → AL s q := fun _ h => h
  have hS : va_S (AL s) s.heap s.heap [] := va_S.rf
  have hP : va_P G.1 vwCl [] s.heap := fun k q h => by simp at h
  have hD : va_D (AL s) [] := ⟨fun i j p q h => by simp at h, fun k q h => by simp at h⟩
  have S : CallFix p m c cL_law 9 s #[Value.ref b] lw_tbl RL := ⟨hx, hb, hml, hown, hts⟩
  have hl := lv_entry ([.ref b]) (n := 9) (Nat.le_of_ble_eq_true rfl)
  rw [lg_entry_eq]
  generalize (lg_sl ([.ref b]) ++ List.replicate (9 - (lg_sl ([.ref b])).length) Slot.unset).toArray = ls at hl ⊢
  have hl : lv_has ls 9 [(0, .ref b)] := hl
  refine W.eq (g2 := F0 m 0 ls []) rfl ?_
  refine va_new (ci := 4) (fs := [.null, .null, .null, .null, .int 0]) (C := RX4) (T := TX4) (N := 5) hx hb hts inX4 tyX4 tyX4_ok hown (lsW hts 21 rfl) (lsW hts 14 rfl) (lsW hts 8 rfl) hK.1 hP hD hS hA rfl (fun j hj => by rcases (show j = 0 ∨ j = 1 ∨ j = 2 ∨ j = 3 ∨ j = 4 by omega) with rfl | rfl | rfl | rfl | rfl <;> rfl) (Nat.le_of_ble_eq_true rfl) (Nat.le_of_ble_eq_true rfl) dL_law_0 (fun q0 H hP hD hS => ?_)
  have hP : va_P G.1 vwCl ([] ++ [(q0, .inr (4, [.null, .null, .null, .null, .int 0]))]) H := hP
  have hD : va_D (AL s) ([] ++ [(q0, .inr (4, [.null, .null, .null, .null, .int 0]))]) := hD
  refine lv_dup hx hb dL_law_3 rfl ?_
  refine inI (wr := []) (wf := wiX4 G q0) (rest := [.ref q0]) (As := []) S (ctX4_init l G q0 H.size) (cwI 0 hts gL_law_X4_init rfl rfl rfl (lsW hts 8 rfl) (lsW hts 23 rfl) (lsW hts 25 rfl) rfl hsX4_init ⟨Nat.le_of_ble_eq_true rfl, Nat.le_of_ble_eq_true rfl⟩) hK hP hD hS hA (fun U g mk a h => va_AO.moved (u := U) (U := U.calling g mk a) (Vm.Alike.refl _) h) (fun U hU hW => va_AO.moved hW.alike (va_AO.of (lsW hts 20 rfl))) rfl hl.1 rfl (Nat.le_of_ble_eq_true rfl) dL_law_4 ⟨Nat.le_of_ble_eq_true rfl, Nat.le_of_ble_eq_true rfl⟩ (fun ad H locs hP hD hS => ?_)
  refine lv_astore_n (lv' := [(1, .ref q0), (0, .ref b)]) hx hb dL_law_7 rfl hl (by decide) rfl (fun ls hl => ?_)
  refine va_new (ci := 5) (fs := [.int 0, .null, .null, .null, .null, .null, .int 0, .int 0, .null, .int 0, .int 0, .int 0, .null, .null, .int 0, .null, .int 0, .null, .int 0, .int 0, .int 0, .int 0, .null, .null, .null, .null, .null, .null, .int 0, .int 0, .int 0, .int 0, .int 0, .int 0, .long 0]) (C := RX5) (T := TX5) (N := 35) hx hb hts inX5 tyX5 tyX5_ok hown (lsW hts 22 rfl) (lsW hts 15 rfl) (lsW hts 9 rfl) hK.1 hP hD hS hA rfl (fun j hj => by rcases (show j = 0 ∨ j = 1 ∨ j = 2 ∨ j = 3 ∨ j = 4 ∨ j = 5 ∨ j = 6 ∨ j = 7 ∨ j = 8 ∨ j = 9 ∨ j = 10 ∨ j = 11 ∨ j = 12 ∨ j = 13 ∨ j = 14 ∨ j = 15 ∨ j = 16 ∨ j = 17 ∨ j = 18 ∨ j = 19 ∨ j = 20 ∨ j = 21 ∨ j = 22 ∨ j = 23 ∨ j = 24 ∨ j = 25 ∨ j = 26 ∨ j = 27 ∨ j = 28 ∨ j = 29 ∨ j = 30 ∨ j = 31 ∨ j = 32 ∨ j = 33 ∨ j = 34 by omega) with rfl | rfl | rfl | rfl | rfl | rfl | rfl | rfl | rfl | rfl | rfl | rfl | rfl | rfl | rfl | rfl | rfl | rfl | rfl | rfl | rfl | rfl | rfl | rfl | rfl | rfl | rfl | rfl | rfl | rfl | rfl | rfl | rfl | rfl | rfl <;> rfl) (Nat.le_of_ble_eq_true rfl) (Nat.le_of_ble_eq_true rfl) dL_law_8 (fun q1 H hP hD hS => ?_)
  refine lv_dup hx hb dL_law_11 rfl ?_
  refine inI (wr := [] ++ wiX4 G q0 ad) (wf := wiX5 G q1) (rest := [.ref q1]) (As := []) S (ctX5_init l G q1 H.size) (cwI 0 hts gL_law_X5_init rfl rfl rfl (lsW hts 9 rfl) (lsW hts 24 rfl) (lsW hts 26 rfl) rfl hsX5_init ⟨Nat.le_of_ble_eq_true rfl, Nat.le_of_ble_eq_true rfl⟩) hK hP hD hS hA xb_triv (fun _ _ _ => trivial) rfl hl.1 rfl (Nat.le_of_ble_eq_true rfl) dL_law_12 ⟨Nat.le_of_ble_eq_true rfl, Nat.le_of_ble_eq_true rfl⟩ (fun um H locs hP hD hS => ?_)
  refine lv_astore_n (lv' := [(2, .ref q1), (1, .ref q0), (0, .ref b)]) hx hb dL_law_15 rfl hl (by decide) rfl (fun ls hl => ?_)
  refine lv_iconst (v := 1) hx hb dL_law_16 (by decide) ?_
  refine nwa (N' := 1) (atype := .long) (ty := .long) (k := 3) hx hb (lsW hts 18 rfl) rfl hK rfl (by decide) hP hD hS hA (a0 := (1, .inr (.inl (fun _ => (0 : Int64))))) (fun _ => vp_cell_l _ _ _) (by decide) (by decide) (by decide) (Nat.le_of_ble_eq_true rfl) (Nat.le_of_ble_eq_true rfl) dL_law_17 (fun qo H hP hD hS => ?_)
  refine lv_astore_n (lv' := [(3, .ref qo), (2, .ref q1), (1, .ref q0), (0, .ref b)]) hx hb dL_law_19 rfl hl (by decide) rfl (fun ls hl => ?_)
  refine lv_iconst (v := 1) hx hb dL_law_20 (by decide) ?_
  refine nwa (N' := 1) (atype := .double) (ty := .double) (k := 4) hx hb (lsW hts 19 rfl) rfl hK rfl (by decide) hP hD hS hA (a0 := (1, .inr (.inr (.inr (.inl (fun _ => FP.dconst0)))))) (fun _ => vp_cell_d _ _ _) (by decide) (by decide) (by decide) (Nat.le_of_ble_eq_true rfl) (Nat.le_of_ble_eq_true rfl) dL_law_21 (fun qd H hP hD hS => ?_)
  refine lv_astore (lv' := [(4, .ref qd), (3, .ref qo), (2, .ref q1), (1, .ref q0), (0, .ref b)]) hx hb dL_law_23 hl (by decide) rfl (fun ls hl => ?_)
  refine lv_iconst (v := 0) hx hb dL_law_25 (by decide) ?_
  refine lv_istore (lv' := [(5, .int 0), (4, .ref qd), (3, .ref qo), (2, .ref q1), (1, .ref q0), (0, .ref b)]) hx hb dL_law_26 hl (by decide) rfl (fun ls hl => ?_)
  obtain ⟨ad', had⟩ : ∃ ad' : Nat → Nat, ad' = fun k => if k = 0 then q0 else ad k := ⟨_, rfl⟩
  obtain ⟨um', hum⟩ : ∃ um' : Nat → Nat, um' = fun k => if k = 0 then q1 else um k := ⟨_, rfl⟩
  have hP : va_P G.1 vwCl (wdL G ad' um' qo qd (mkC 0 0 0 0 0 0 0 (fun _ => (0 : Int32)) (fun _ => (0 : Int32)) 0 0 0 0 0 0 (fun _ => (0 : Int32)) (fun _ => (0 : Int32)) (fun _ => (0 : Int32)) (fun _ => (0 : Int32)) 1 0 1 (mkS 0 0 0 0 0 0 0 0 1 0 1 (fun _ => (0 : Int32)) (fun _ => (0 : Int32)) (fun _ => (0 : Int32)) (fun _ => (0 : Int32)) (fun _ => (0 : Int32)) (fun _ => (0 : Int32))) (mkS 0 0 0 0 0 0 0 0 1 0 1 (fun _ => (0 : Int32)) (fun _ => (0 : Int32)) (fun _ => (0 : Int32)) (fun _ => (0 : Int32)) (fun _ => (0 : Int32)) (fun _ => (0 : Int32))) (mkS 0 0 0 0 0 0 0 0 1 0 1 (fun _ => (0 : Int32)) (fun _ => (0 : Int32)) (fun _ => (0 : Int32)) (fun _ => (0 : Int32)) (fun _ => (0 : Int32)) (fun _ => (0 : Int32)))) (mkM 0 0 0 0 0 0 0 0 0 0 0 0 0 0 0 0 0 0 0 (fun _ => (0 : Int32)) (fun _ => (0 : Int32)) (fun _ => (0 : Int32)) (fun _ => (0 : Int32)) (fun _ => (0 : Int32)) (fun _ => (0 : Int32)) (fun _ => (0 : Int32)) (fun _ => (0 : Int32)) (fun _ => (0 : Int32)) (fun _ => (0 : Int32)) (fun _ => (0 : Int32)) (fun _ => (0 : Int32)) (fun _ => (0 : Int32)) (fun _ => (0 : Int32)) (fun _ => (0 : Int32)) (fun _ => (0 : Int32))) (fun _ => 0) (fun _ => FP.dconst0)) H := by rw [had, hum]; exact hP.sub [0, 1, 2, 3, 4, 5, 6, 7, 8, 9, 10, 11, 12, 13, 14, 15, 16, 17, 18, 19, 20, 21, 22, 23, 24, 25, 26, 27, 28, 29, 30, 31, 32, 33, 34, 52, 53, 35, 36, 37, 38, 39, 40, 41, 42, 43, 44, 45, 46, 47, 48, 49, 50, 51] rfl
  have hD : va_D (AL s) (wdL G ad' um' qo qd (mkC 0 0 0 0 0 0 0 (fun _ => (0 : Int32)) (fun _ => (0 : Int32)) 0 0 0 0 0 0 (fun _ => (0 : Int32)) (fun _ => (0 : Int32)) (fun _ => (0 : Int32)) (fun _ => (0 : Int32)) 1 0 1 (mkS 0 0 0 0 0 0 0 0 1 0 1 (fun _ => (0 : Int32)) (fun _ => (0 : Int32)) (fun _ => (0 : Int32)) (fun _ => (0 : Int32)) (fun _ => (0 : Int32)) (fun _ => (0 : Int32))) (mkS 0 0 0 0 0 0 0 0 1 0 1 (fun _ => (0 : Int32)) (fun _ => (0 : Int32)) (fun _ => (0 : Int32)) (fun _ => (0 : Int32)) (fun _ => (0 : Int32)) (fun _ => (0 : Int32))) (mkS 0 0 0 0 0 0 0 0 1 0 1 (fun _ => (0 : Int32)) (fun _ => (0 : Int32)) (fun _ => (0 : Int32)) (fun _ => (0 : Int32)) (fun _ => (0 : Int32)) (fun _ => (0 : Int32)))) (mkM 0 0 0 0 0 0 0 0 0 0 0 0 0 0 0 0 0 0 0 (fun _ => (0 : Int32)) (fun _ => (0 : Int32)) (fun _ => (0 : Int32)) (fun _ => (0 : Int32)) (fun _ => (0 : Int32)) (fun _ => (0 : Int32)) (fun _ => (0 : Int32)) (fun _ => (0 : Int32)) (fun _ => (0 : Int32)) (fun _ => (0 : Int32)) (fun _ => (0 : Int32)) (fun _ => (0 : Int32)) (fun _ => (0 : Int32)) (fun _ => (0 : Int32)) (fun _ => (0 : Int32)) (fun _ => (0 : Int32))) (fun _ => 0) (fun _ => FP.dconst0)) := by rw [had, hum]; exact hD.sub [0, 1, 2, 3, 4, 5, 6, 7, 8, 9, 10, 11, 12, 13, 14, 15, 16, 17, 18, 19, 20, 21, 22, 23, 24, 25, 26, 27, 28, 29, 30, 31, 32, 33, 34, 52, 53, 35, 36, 37, 38, 39, 40, 41, 42, 43, 44, 45, 46, 47, 48, 49, 50, 51] rfl rfl
  have hI : INVM (mkC 0 0 0 0 0 0 0 (fun _ => (0 : Int32)) (fun _ => (0 : Int32)) 0 0 0 0 0 0 (fun _ => (0 : Int32)) (fun _ => (0 : Int32)) (fun _ => (0 : Int32)) (fun _ => (0 : Int32)) 1 0 1 (mkS 0 0 0 0 0 0 0 0 1 0 1 (fun _ => (0 : Int32)) (fun _ => (0 : Int32)) (fun _ => (0 : Int32)) (fun _ => (0 : Int32)) (fun _ => (0 : Int32)) (fun _ => (0 : Int32))) (mkS 0 0 0 0 0 0 0 0 1 0 1 (fun _ => (0 : Int32)) (fun _ => (0 : Int32)) (fun _ => (0 : Int32)) (fun _ => (0 : Int32)) (fun _ => (0 : Int32)) (fun _ => (0 : Int32))) (mkS 0 0 0 0 0 0 0 0 1 0 1 (fun _ => (0 : Int32)) (fun _ => (0 : Int32)) (fun _ => (0 : Int32)) (fun _ => (0 : Int32)) (fun _ => (0 : Int32)) (fun _ => (0 : Int32)))) (mkM 0 0 0 0 0 0 0 0 0 0 0 0 0 0 0 0 0 0 0 (fun _ => (0 : Int32)) (fun _ => (0 : Int32)) (fun _ => (0 : Int32)) (fun _ => (0 : Int32)) (fun _ => (0 : Int32)) (fun _ => (0 : Int32)) (fun _ => (0 : Int32)) (fun _ => (0 : Int32)) (fun _ => (0 : Int32)) (fun _ => (0 : Int32)) (fun _ => (0 : Int32)) (fun _ => (0 : Int32)) (fun _ => (0 : Int32)) (fun _ => (0 : Int32)) (fun _ => (0 : Int32)) (fun _ => (0 : Int32))) := INV_start rfl rfl rfl rfl rfl rfl rfl rfl
  have e0 : ad' 0 = q0 := by rw [had]; rfl
  have e1 : um' 0 = q1 := by rw [hum]; rfl
  refine law_loop ⟨⟨hx, hb, hml, hown, hts, hX, hbl⟩, hK, hT, hL, hfl⟩ hout 512 0 _ _ (by omega) (Nat.zero_le L) (by decide) (by decide) _ _ _ _ H locs ⟨hP, hD, hS, hI⟩ ls ?_
  rw [lvL, e0, e1]
  exact lv_sub hl [5, 4, 3, 2, 1, 0] rfl
