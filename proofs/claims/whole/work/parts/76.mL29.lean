set_option maxHeartbeats 4000000
-- ===== load =====
section SlotLoad
variable {k : Nat} {th v so im ti : Nat → Int32} {β : Type}
theorem bnd1_some {T β : Type} {a : T} {k : T → Option β} : bnd1 (some a) k = k a := rfl
theorem areaOf_some (A B C D : Int32) : ∃ r, mX5_areaOf A B C D = some r := by
  unfold mX5_areaOf mX5_abs
  by_cases h : 0 ≤ A * D - B * C
  · exact ⟨A * D - B * C, by rw [if_pos h]; rfl⟩
  · exact ⟨-(A * D - B * C), by rw [if_neg h]; rfl⟩
theorem within_some (A B C : Int32) : ∃ r, mX5_within A B C = some r := by
  unfold mX5_within
  split
  · exact ⟨_, rfl⟩
  · split
    · exact ⟨_, rfl⟩
    · exact ⟨_, rfl⟩
theorem isSlot_some (A : Int32) : ∃ r, mX5_isSlot A = some r := by
  obtain ⟨r, e⟩ := within_some A 0 2
  exact ⟨r, by unfold mX5_isSlot; rw [e]; rfl⟩
/-- what the class reads, and the reference; whether it is a whole screen -/
theorem load_read {n : Nat} {codes buf : Nat → Int32} (hn : n ≤ 20) (hcb : ∀ i, i < n → codes i = buf i) (pA qA : Nat → Int32) :
    ∃ (r0 r1 r2 r3 r4 r5 : Int32) (pA' : Nat → Int32) (j s1 s2 s3 s4 s5 : Int32) (qA' : Nat → Int32), mX1_isComplete (iI n) codes pA = some (r0, r1, r2, r3, r4, r5, pA') ∧ mX5_rightLength (iI n) buf qA = some (j, s1, s2, s3, s4, s5, qA') ∧
      ((r0 = 0 ∧ ¬ (j = iI n ∧ ¬ s3 = -1)) ∨ (r0 = 1 ∧ j = iI n ∧ ¬ s3 = -1 ∧ ∃ a b c d spot mid : Int, PC a ∧ PC b ∧ PC c ∧ PC d ∧ (0 ≤ spot ∧ spot ≤ 4) ∧ (mid = 0 ∨ mid = 1) ∧ pA' 0 = iI a ∧ pA' 1 = iI b ∧ pA' 2 = iI c ∧ pA' 3 = iI d ∧ qA' 0 = iI a ∧ qA' 1 = iI b ∧ qA' 2 = iI c ∧ qA' 3 = iI d ∧ r4 = iI spot ∧ s3 = iI spot ∧ r5 = iI mid ∧ s4 = iI mid)) := by
  obtain ⟨i, r1, r2, r3, r4, r5, pA', s1, s2, s3, s4, s5, qA', h1, h2, h3, h4⟩ := read_all hn hcb pA qA
  by_cases hi : i = n
  · subst hi
    obtain ⟨ph, pt, ng, sp, mi, ps, im', rs, st, wn, e1, e2, e3, e4, e5, hN, hp0, hp1, hc⟩ := h4 rfl
    have hcc : mX1_isComplete (iI i) codes pA = if iI ph = 3 then some (1, r1, r2, r3, r4, r5, pA') else if iI ph = 4 then some (1, r1, r2, r3, r4, r5, pA') else some (0, r1, r2, r3, r4, r5, pA') := by
      unfold mX1_isComplete
      rw [h2]
      simp only [bnd7, if_true]
      rw [e1]
    have done : ps = 4 → rs = sp → (0 ≤ sp ∧ sp ≤ 4) → st = mi → (mi = 0 ∨ mi = 1) → mX1_isComplete (iI i) codes pA = some (1, r1, r2, r3, r4, r5, pA') → ∃ (r0 r1 r2 r3 r4 r5 : Int32) (pA' : Nat → Int32) (j s1 s2 s3 s4 s5 : Int32) (qA' : Nat → Int32), mX1_isComplete (iI i) codes pA = some (r0, r1, r2, r3, r4, r5, pA') ∧ mX5_rightLength (iI i) buf qA = some (j, s1, s2, s3, s4, s5, qA') ∧
      ((r0 = 0 ∧ ¬ (j = iI i ∧ ¬ s3 = -1)) ∨ (r0 = 1 ∧ j = iI i ∧ ¬ s3 = -1 ∧ ∃ a b c d spot mid : Int, PC a ∧ PC b ∧ PC c ∧ PC d ∧ (0 ≤ spot ∧ spot ≤ 4) ∧ (mid = 0 ∨ mid = 1) ∧ pA' 0 = iI a ∧ pA' 1 = iI b ∧ pA' 2 = iI c ∧ pA' 3 = iI d ∧ qA' 0 = iI a ∧ qA' 1 = iI b ∧ qA' 2 = iI c ∧ qA' 3 = iI d ∧ r4 = iI spot ∧ s3 = iI spot ∧ r5 = iI mid ∧ s4 = iI mid)) := by
      intro q1 q2 q3 q4 q5 q6
      obtain ⟨z0, a, a0, a1, a2⟩ := hN 0 (by omega)
      obtain ⟨z1, b, b0, b1, b2⟩ := hN 1 (by omega)
      obtain ⟨z2, c, c0, c1, c2⟩ := hN 2 (by omega)
      obtain ⟨z3, d, d0, d1, d2⟩ := hN 3 (by omega)
      refine ⟨1, r1, r2, r3, r4, r5, pA', iI i, s1, s2, s3, s4, s5, qA', q6, h3, Or.inr ⟨rfl, rfl, ?_, a, b, c, d, sp, mi, ⟨a0, a1⟩, ⟨b0, b1⟩, ⟨c0, c1⟩, ⟨d0, d1⟩, q3, q5, a2, b2, c2, d2, by rw [← z0]; exact a2, by rw [← z1]; exact b2, by rw [← z2]; exact c2, by rw [← z3]; exact d2, e2, by rw [e4, q2], e3, by rw [e5, q4]⟩⟩
      rw [e4, q2, iI_m1, iI_inj (by omega) (by omega) (by omega) (by omega)]
      omega
    have no : rs = -1 → mX1_isComplete (iI i) codes pA = some (0, r1, r2, r3, r4, r5, pA') → ∃ (r0 r1 r2 r3 r4 r5 : Int32) (pA' : Nat → Int32) (j s1 s2 s3 s4 s5 : Int32) (qA' : Nat → Int32), mX1_isComplete (iI i) codes pA = some (r0, r1, r2, r3, r4, r5, pA') ∧ mX5_rightLength (iI i) buf qA = some (j, s1, s2, s3, s4, s5, qA') ∧
      ((r0 = 0 ∧ ¬ (j = iI i ∧ ¬ s3 = -1)) ∨ (r0 = 1 ∧ j = iI i ∧ ¬ s3 = -1 ∧ ∃ a b c d spot mid : Int, PC a ∧ PC b ∧ PC c ∧ PC d ∧ (0 ≤ spot ∧ spot ≤ 4) ∧ (mid = 0 ∨ mid = 1) ∧ pA' 0 = iI a ∧ pA' 1 = iI b ∧ pA' 2 = iI c ∧ pA' 3 = iI d ∧ qA' 0 = iI a ∧ qA' 1 = iI b ∧ qA' 2 = iI c ∧ qA' 3 = iI d ∧ r4 = iI spot ∧ s3 = iI spot ∧ r5 = iI mid ∧ s4 = iI mid)) := by
      intro q1 q2
      exact ⟨0, r1, r2, r3, r4, r5, pA', iI i, s1, s2, s3, s4, s5, qA', q2, h3, Or.inl ⟨rfl, fun z => z.2 (by rw [e4, q1, iI_m1])⟩⟩
    rcases hc with ⟨p1, -, -, -, -, p2, -⟩ | ⟨p1, -, -, -, -, p2, -⟩ | ⟨p1, -, -, -, p2, -⟩ | ⟨p1, -, p3, -, p4, p5, p6, p7, p8⟩ | ⟨p1, -, p3, -, p4, p5, p6, p7, p8⟩
    · exact no p2 (by rw [hcc, p1, if_neg (by decide +kernel), if_neg (by decide +kernel)])
    · exact no p2 (by rw [hcc, p1, if_neg (by decide +kernel), if_neg (by decide +kernel)])
    · exact no p2 (by rw [hcc, p1, if_neg (by decide +kernel), if_neg (by decide +kernel)])
    · exact done p3 p4 ⟨p5, p6⟩ (by omega) (by omega) (by rw [hcc, p1, if_pos iI_3.symm])
    · exact done p3 p4 ⟨p5, p6⟩ (by omega) (by omega) (by rw [hcc, p1, if_neg (by decide +kernel), if_pos iI_4.symm])
  · have hne : ¬ iI (i : Int) = iI (n : Int) := by rw [iI_inj (by omega) (by omega) (by omega) (by omega)]; omega
    refine ⟨0, r1, r2, r3, r4, r5, pA', iI i, s1, s2, s3, s4, s5, qA', ?_, h3, Or.inl ⟨rfl, fun z => hne z.1⟩⟩
    unfold mX1_isComplete
    rw [h2]
    simp only [bnd7]
    rw [if_neg hne]
/-- the reference's load behind its reading -/
theorem load_r {sz j s1 s2 s3 s4 s5 : Int32} {buf part qA' : Nat → Int32} (a0 : Int32) (h : mX5_rightLength sz buf part = some (j, s1, s2, s3, s4, s5, qA')) : ∃ A f z : Int32, mX5_areaOf (qA' 0) (qA' 1) (qA' 2) (qA' 3) = some A ∧ mX5_within A 1 64 = some f ∧ mX5_isSlot a0 = some z ∧
    mX5_load sz th v so im ti buf part a0 = if z = 0 then some (0, 1, sz, s1, s2, s3, s4, s5, th, v, so, im, ti, qA') else if ¬ (j = sz ∧ ¬ s3 = -1) then some (0, 2, sz, s1, s2, s3, s4, s5, th, v, so, im, ti, qA') else if f = 0 then some (0, 3, sz, s1, s2, s3, s4, s5, th, v, so, im, ti, qA') else
      (bnd5 (mX5_put th v so im ti a0 (qA' 0) (qA' 1) (qA' 2) (qA' 3) s3) fun r21_0 r21_1 r21_2 r21_3 r21_4 => gd a0 3 <| bnd1 (mX5_areaIn r21_1 a0) fun r23_0 => some (r23_0, 0, 0, s1, s2, s3, s4, s5, r21_0, r21_1, r21_2, (upd r21_3 a0.toNatClampNeg (vp_nar .boolean s4)), r21_4, qA')) := by
  obtain ⟨A, eA⟩ := areaOf_some (qA' 0) (qA' 1) (qA' 2) (qA' 3)
  obtain ⟨f, ef⟩ := within_some A 1 64
  obtain ⟨z, ez⟩ := isSlot_some a0
  refine ⟨A, f, z, eA, ef, ez, ?_⟩
  have g0 : ∀ {β : Type} {E : Option β}, gd 0 4 E = E := fun {β E} => by rw [iI_0]; exact gdI (by omega) (by omega) (by omega)
  have g1 : ∀ {β : Type} {E : Option β}, gd 1 4 E = E := fun {β E} => by rw [iI_1]; exact gdI (by omega) (by omega) (by omega)
  have g2 : ∀ {β : Type} {E : Option β}, gd 2 4 E = E := fun {β E} => by rw [iI_2]; exact gdI (by omega) (by omega) (by omega)
  have g3 : ∀ {β : Type} {E : Option β}, gd 3 4 E = E := fun {β E} => by rw [iI_3]; exact gdI (by omega) (by omega) (by omega)
  have t0 : (0 : Int32).toNatClampNeg = 0 := by decide
  have t1 : (1 : Int32).toNatClampNeg = 1 := by decide
  have t2 : (2 : Int32).toNatClampNeg = 2 := by decide
  have t3 : (3 : Int32).toNatClampNeg = 3 := by decide
  have n1 : ¬ (1 : Int32) = 0 := by decide
  have l1 : ¬ (1 : Int32) ≤ 0 := by decide
  have l2 : ¬ (2 : Int32) ≤ 0 := by decide
  have l3 : ¬ (3 : Int32) ≤ 0 := by decide
  have l0 : (0 : Int32) ≤ 0 := by decide
  unfold mX5_load
  rw [h]
  simp only [bnd7, g0, g1, g2, g3, t0, t1, t2, t3]
  rw [eA]
  simp only [bnd1]
  rw [ef]
  simp only []
  rw [ez]
  dsimp only [jB]
  by_cases hj : j = sz
  · rw [if_pos hj]
    by_cases h3 : s3 = -1
    · have hn : ¬ (j = sz ∧ ¬ s3 = -1) := fun q => q.2 h3
      rw [if_pos h3, if_pos hn]
      simp only [if_neg l1, if_neg l2, if_true]
    · have hn : ¬ ¬ (j = sz ∧ ¬ s3 = -1) := fun q => q ⟨hj, h3⟩
      rw [if_neg h3, if_neg hn]
      simp only [if_neg l1, if_neg l3, if_neg n1, if_pos l0]
  · have hn : ¬ (j = sz ∧ ¬ s3 = -1) := fun q => hj q.1
    rw [if_neg hj, if_pos hn]
    simp only [if_neg l1, if_neg l2, if_true]
theorem load_w1 {n : Nat} {codes pA pA' : Nat → Int32} {r0 r1 r2 r3 r4 r5 : Int32} (h1 : mX1_isComplete (iI n) codes pA = some (r0, r1, r2, r3, r4, r5, pA')) (q1 : ¬ r0 = 0) : mxX4_load (iI n) codes pA = (bnd1 (mX4_at 4 pA' 0) fun r3_0 =>
    bnd1 (mX4_at 4 pA' 1) fun r4_0 =>
    bnd1 (mX4_at 4 pA' 2) fun r5_0 =>
    bnd1 (mX4_at 4 pA' 3) fun r6_0 =>
    bnd1 (mX4_areaOf r3_0 r4_0 r5_0 r6_0) fun r7_0 =>
    bnd1 (mX4_isArea r7_0) fun r8_0 =>
    if r8_0 = 0 then (some (1, r1, r2, r3, r4, r5, pA'))
    else (none)) := by
  unfold mxX4_load
  rw [h1]
  simp only [bnd7]
  rw [if_neg q1]
theorem load_w2 {γ : Type} {pA' : Nat → Int32} {a b c d : Int} (F : Int32 → Int32 → Int32 → Int32 → Option γ)
    (a0 : mX4_at 4 pA' 0 = some (iI a)) (a1 : mX4_at 4 pA' 1 = some (iI b)) (a2 : mX4_at 4 pA' 2 = some (iI c)) (a3 : mX4_at 4 pA' 3 = some (iI d)) : (bnd1 (mX4_at 4 pA' 0) fun r3_0 =>
    bnd1 (mX4_at 4 pA' 1) fun r4_0 =>
    bnd1 (mX4_at 4 pA' 2) fun r5_0 =>
    bnd1 (mX4_at 4 pA' 3) fun r6_0 => F r3_0 r4_0 r5_0 r6_0) = F (iI a) (iI b) (iI c) (iI d) := by
  rw [a0, a1, a2, a3]
  rfl
theorem load_w3 {n : Nat} {codes pA pA' va ov ra ol od ne : Nat → Int32} {r0 r1 r2 r3 r4 r5 : Int32} (h1 : mX1_isComplete (iI n) codes pA = some (r0, r1, r2, r3, r4, r5, pA')) (q1 : ¬ r0 = 0) : mX4_load (iI n) codes pA va ov ra ol od ne = (bnd1 (mX4_at 4 pA' 0) fun r3_0 =>
    bnd1 (mX4_at 4 pA' 1) fun r4_0 =>
    bnd1 (mX4_at 4 pA' 2) fun r5_0 =>
    bnd1 (mX4_at 4 pA' 3) fun r6_0 =>
    bnd1 (mX4_areaOf r3_0 r4_0 r5_0 r6_0) fun r7_0 =>
    bnd1 (mX4_isArea r7_0) fun r8_0 =>
    gz r8_0 <|
    bnd8 (mX3_become r3_0 r4_0 r5_0 r6_0 r4 r5) fun r10_0 r10_1 r10_2 r10_3 r10_4 r10_5 r10_6 r10_7 =>
    bnd10 (mX3_regrow r10_1 r10_2 r10_3 r10_4 r10_5 r10_6 va ov ra ol od ne) fun r11_0 r11_1 r11_2 r11_3 r11_4 r11_5 r11_6 r11_7 r11_8 r11_9 =>
    bnd1 (mX3_area r11_1 r11_3) fun r12_0 =>
    some (r12_0, 0, r1, r2, r3, r4, r5, pA', r10_0, r10_1, r10_2, r10_3, r10_4, r10_5, r10_6, r10_7, r11_1, r11_2, r11_3, r11_4, r11_5, r11_6, r11_7, r11_8, r11_9)) := by
  unfold mX4_load
  rw [h1]
  simp only [bnd7, gz, if_neg q1]
theorem load_w4 {γ : Type} {a b c d : Int} (x : Option γ) (hax : mX4_areaOf (iI a) (iI b) (iI c) (iI d) = some (iI ((a * d - b * c).natAbs : Int)))
    (hay : mX4_isArea (iI ((a * d - b * c).natAbs : Int)) = some 1) : (bnd1 (mX4_areaOf (iI a) (iI b) (iI c) (iI d)) fun r7_0 => bnd1 (mX4_isArea r7_0) fun r8_0 => gz r8_0 x) = x := by
  have n1 : ¬ (1 : Int32) = 0 := by decide
  rw [hax, bnd1_some, hay, bnd1_some]
  exact if_neg n1
theorem load_y2 {a b c d : Int} {γ : Type} (x y : Option γ) (hax : mX4_areaOf (iI a) (iI b) (iI c) (iI d) = some (iI ((a * d - b * c).natAbs : Int)))
    (hay : mX4_isArea (iI ((a * d - b * c).natAbs : Int)) = some (if 1 ≤ ((a * d - b * c).natAbs : Int) ∧ ((a * d - b * c).natAbs : Int) ≤ 64 then 1 else 0)) : (bnd1 (mX4_areaOf (iI a) (iI b) (iI c) (iI d)) fun r7_0 => bnd1 (mX4_isArea r7_0) fun r8_0 => if r8_0 = 0 then x else y) = if 1 ≤ ((a * d - b * c).natAbs : Int) ∧ ((a * d - b * c).natAbs : Int) ≤ 64 then y else x := by
  have n1 : ¬ (1 : Int32) = 0 := by decide
  rw [hax, bnd1_some, hay, bnd1_some]
  by_cases hA : 1 ≤ ((a * d - b * c).natAbs : Int) ∧ ((a * d - b * c).natAbs : Int) ≤ 64
  · rw [if_pos hA, if_pos hA, if_neg n1]
  · rw [if_neg hA, if_neg hA, if_pos rfl]
theorem SX_load (hk : k < 3) {n : Nat} {codes buf : Nat → Int32} (hn : n ≤ 20) (hcb : ∀ i, i < n → codes i = buf i) (pA part va ov ra ol od ne : Nat → Int32) (Kf : Nat × Int32 × Int32 × Int32 × Int32 × Int32 × (Nat → Int32) → Option β) (F : Int32 → Int32 → Int32 → Int32 → Int32 → Int32 → Int32 → (Nat → Int32) → Int32 → Int32 → Int32 → Int32 → Int32 → Int32 → Int32 → Int32 → Int32 → Int32 → Int32 → (Nat → Int32) → (Nat → Int32) → (Nat → Int32) → (Nat → Int32) → (Nat → Int32) → (Nat → Int32) → Option β) :
    (∃ (kk : Nat) (t1 t2 t3 t4 t5 : Int32) (t6 : Nat → Int32) (b t s1 s2 s3 s4 s5 : Int32) (part' : Nat → Int32), lq (mxX4_load (iI n) codes pA) Kf (bnd25 (mX4_load (iI n) codes pA va ov ra ol od ne) F) = Kf (kk, t1, t2, t3, t4, t5, t6) ∧ mX5_load (iI n) th v so im ti buf part (iI k) = some (b, t, iI n, s1, s2, s3, s4, s5, th, v, so, im, ti, part') ∧ ((kk = 1 ∧ t = 3) ∨ (kk = 2 ∧ t = 2))) ∨
    (∃ (o o2 o3 o4 o5 o6 : Int32) (o7 : Nat → Int32) (o8 o9 o10 o11 o12 o13 o14 o15 o16 o17 o18 : Int32) (o19 o20 o21 o22 o23 o24 : Nat → Int32) (s1 s2 s3 s4 s5 : Int32) (th' v' so' im' ti' part' : Nat → Int32), lq (mxX4_load (iI n) codes pA) Kf (bnd25 (mX4_load (iI n) codes pA va ov ra ol od ne) F) = F o 0 o2 o3 o4 o5 o6 o7 o8 o9 o10 o11 o12 o13 o14 o15 o16 o17 o18 o19 o20 o21 o22 o23 o24 ∧ mX5_load (iI n) th v so im ti buf part (iI k) = some (o, 0, 0, s1, s2, s3, s4, s5, th', v', so', im', ti', part') ∧
      SI (mkS o8 o9 o10 o11 o12 o13 o14 o15 o16 o17 o18 o19 o20 o21 o22 o23 o24) k th' v' so' im' ti' ∧ (∀ i, i ≠ k → th' i = th i) ∧ (∀ i, (i < 4 * k ∨ 4 * k + 4 ≤ i) → v' i = v i) ∧ (∀ i, i ≠ k → so' i = so i) ∧ (∀ i, i ≠ k → im' i = im i) ∧ (∀ i, i ≠ k → ti' i = ti i)) := by
  obtain ⟨r0, r1, r2, r3, r4, r5, pA', j, s1, s2, s3, s4, s5, qA', h1, h2, h3⟩ := load_read hn hcb pA part
  obtain ⟨A, f, z, eA, ef, ez, hr⟩ := load_r (th := th) (v := v) (so := so) (im := im) (ti := ti) (iI k) h2
  have n1 : ¬ (1 : Int32) = 0 := by decide
  rw [R_isSlot hk] at ez
  have hz : ¬ z = 0 := by rw [← Option.some.inj ez]; exact n1
  rw [if_neg hz] at hr
  rcases h3 with ⟨q1, q2⟩ | ⟨q1, q2, q3, a, b, c, d, spot, mid, ha, hb, hc, hd, hs, hm, p0, p1, p2, p3, u0, u1, u2, u3, w1, w2, w3, w4⟩
  · left
    rw [if_pos q2] at hr
    refine ⟨2, r1, r2, r3, r4, r5, pA', 0, 2, s1, s2, s3, s4, s5, qA', ?_, hr, Or.inr ⟨rfl, rfl⟩⟩
    unfold mxX4_load
    rw [h1]
    simp only [bnd7]
    rw [if_pos q1]
    simp only [lq]
  · rw [if_neg (fun q => q ⟨q2, q3⟩)] at hr
    have hbd := PC.bd ha hb hc hd
    have e64 : (64 : Int32) = iI 64 := iI_lit 64
    rw [u0, u1, u2, u3, X5_areaOf (by omega) (by omega)] at eA
    have eA' : A = iI ((a * d - b * c).natAbs : Int) := (Option.some.inj eA).symm
    rw [eA', iI_1, e64, X5_within (by omega) (by omega) (by omega) (by omega) (by omega) (by omega)] at ef
    have ef' : f = if 1 ≤ ((a * d - b * c).natAbs : Int) ∧ ((a * d - b * c).natAbs : Int) ≤ 64 then 1 else 0 := by
      have := (Option.some.inj ef).symm
      rw [this]
    have a0 : mX4_at 4 pA' 0 = some (iI a) := by rw [iI_0, X4_atI (by omega) (by omega) (by omega)]; show some (pA' 0) = _; rw [p0]
    have a1 : mX4_at 4 pA' 1 = some (iI b) := by rw [iI_1, X4_atI (by omega) (by omega) (by omega)]; show some (pA' 1) = _; rw [p1]
    have a2 : mX4_at 4 pA' 2 = some (iI c) := by rw [iI_2, X4_atI (by omega) (by omega) (by omega)]; show some (pA' 2) = _; rw [p2]
    have a3 : mX4_at 4 pA' 3 = some (iI d) := by rw [iI_3, X4_atI (by omega) (by omega) (by omega)]; show some (pA' 3) = _; rw [p3]
    have hq1 : ¬ r0 = 0 := by rw [q1]; exact n1
    have hax : mX4_areaOf (iI a) (iI b) (iI c) (iI d) = some (iI ((a * d - b * c).natAbs : Int)) := X4_areaOf (by omega) (by omega)
    have hay : mX4_isArea (iI ((a * d - b * c).natAbs : Int)) = some (if 1 ≤ ((a * d - b * c).natAbs : Int) ∧ ((a * d - b * c).natAbs : Int) ≤ 64 then 1 else 0) := X4_isArea (by omega) (by omega)
    have hcx : mxX4_load (iI n) codes pA = if 1 ≤ ((a * d - b * c).natAbs : Int) ∧ ((a * d - b * c).natAbs : Int) ≤ 64 then none else some (1, r1, r2, r3, r4, r5, pA') := ((load_w1 h1 hq1).trans (load_w2 (fun r3_0 r4_0 r5_0 r6_0 => bnd1 (mX4_areaOf r3_0 r4_0 r5_0 r6_0) fun r7_0 => bnd1 (mX4_isArea r7_0) fun r8_0 => if r8_0 = 0 then (some (1, r1, r2, r3, r4, r5, pA')) else (none)) a0 a1 a2 a3)).trans (load_y2 _ _ hax hay)
    by_cases hA : 1 ≤ ((a * d - b * c).natAbs : Int) ∧ ((a * d - b * c).natAbs : Int) ≤ 64
    · right
      rw [if_pos hA] at hcx ef'
      rw [ef', if_neg n1] at hr
      have hS := PS.scr ha hb hc hd hA
      obtain ⟨w, s, h, N, ro, va', ov', ra', od', ne', e1, e2, e3, e4⟩ := lay_both hk hS hs hm va ov ra ol od ne
      obtain ⟨v', x1, x2, x3, x4, x5, x6⟩ := R_put (th := th) (v := v) (so := so) (im := im) (ti := ti) hk (iI a) (iI b) (iI c) (iI d) (iI spot)
      have sv : SlotV v' k a b c d := ⟨x2, x3, x4, x5⟩
      have hnar : vp_nar .boolean (iI mid) = iI mid := by
        rcases hm with rfl | rfl
        · rw [← iI_0]; exact nar_b0.trans iI_0.symm
        · rw [← iI_1]; exact nar_b1.trans iI_1.symm
      refine ⟨iI N, r1, r2, r3, r4, r5, pA', 1, iI a, iI b, iI c, iI d, iI spot, iI mid, 0, iI w, iI s, iI h, va', ov', ra', va_cpy ra ol 0 0 64, od', ne', s1, s2, s3, s4, s5, upd th k 1, v', upd so k (iI spot), upd (upd im k 0) k (iI mid), upd ti k 0, qA', ?_, ?_, e4 _ _ _ _ _ upd_same sv upd_same upd_same upd_same, fun i hi => upd_ne hi, x6, fun i hi => upd_ne hi, fun i hi => by rw [upd_ne hi, upd_ne hi], fun i hi => upd_ne hi⟩
      · rw [hcx]
        have hay1 : mX4_isArea (iI ((a * d - b * c).natAbs : Int)) = some 1 := by rw [hay, if_pos hA]
        simp only [lq]
        rw [load_w3 h1 hq1, load_w2 (fun r3_0 r4_0 r5_0 r6_0 => bnd1 (mX4_areaOf r3_0 r4_0 r5_0 r6_0) fun r7_0 => bnd1 (mX4_isArea r7_0) fun r8_0 => gz r8_0 <| bnd8 (mX3_become r3_0 r4_0 r5_0 r6_0 r4 r5) fun r10_0 r10_1 r10_2 r10_3 r10_4 r10_5 r10_6 r10_7 => bnd10 (mX3_regrow r10_1 r10_2 r10_3 r10_4 r10_5 r10_6 va ov ra ol od ne) fun r11_0 r11_1 r11_2 r11_3 r11_4 r11_5 r11_6 r11_7 r11_8 r11_9 => bnd1 (mX3_area r11_1 r11_3) fun r12_0 => some (r12_0, 0, r1, r2, r3, r4, r5, pA', r10_0, r10_1, r10_2, r10_3, r10_4, r10_5, r10_6, r10_7, r11_1, r11_2, r11_3, r11_4, r11_5, r11_6, r11_7, r11_8, r11_9)) a0 a1 a2 a3, load_w4 _ hax hay1, w1, w3]
        unfold mX3_become
        simp only [bnd8]
        rw [e1]
        simp only [bnd10]
        rw [e2]
        simp only [bnd1, bnd25]
      · rw [hr, u0, u1, u2, u3, w2, x1]
        simp only [bnd5]
        rw [gdk hk, X5_areaIn hk sv hS, e3, clk (by omega), w4, hnar]
        simp only [bnd1]
    · left
      rw [if_neg hA] at hcx ef'
      rw [if_pos ef'] at hr
      exact ⟨1, r1, r2, r3, r4, r5, pA', 0, 3, s1, s2, s3, s4, s5, qA', by rw [hcx]; simp only [lq], hr, Or.inl ⟨rfl, rfl⟩⟩
end SlotLoad
-- ===== all three screens: which pixels have ink =====
abbrev TD : Type := Int × Int × Int × Int × Int × Int × Int × Int × Int × Int × Nat × (Nat → Int)
abbrev TD.a (T : TD) : Int := T.1
abbrev TD.b (T : TD) : Int := T.2.1
abbrev TD.c (T : TD) : Int := T.2.2.1
abbrev TD.d (T : TD) : Int := T.2.2.2.1
abbrev TD.sp (T : TD) : Int := T.2.2.2.2.1
abbrev TD.mi (T : TD) : Int := T.2.2.2.2.2.1
abbrev TD.t (T : TD) : Int := T.2.2.2.2.2.2.1
abbrev TD.w (T : TD) : Int := T.2.2.2.2.2.2.2.1
abbrev TD.s (T : TD) : Int := T.2.2.2.2.2.2.2.2.1
abbrev TD.h (T : TD) : Int := T.2.2.2.2.2.2.2.2.2.1
abbrev TD.N (T : TD) : Nat := T.2.2.2.2.2.2.2.2.2.2.1
abbrev TD.V (T : TD) : Nat → Int := T.2.2.2.2.2.2.2.2.2.2.2
def SDT (x : Scr) (k : Nat) (v so im ti : Nat → Int32) (T : TD) : Prop := SD x k v so im ti T.a T.b T.c T.d T.sp T.mi T.t T.w T.s T.h T.N T.V
def AllSI (X : Nat → Scr) (th v so im ti : Nat → Int32) : Prop := ∀ j, j < 3 → SI (X j) j th v so im ti
def PD (X : Nat → Scr) (th v so im ti : Nat → Int32) (D : Nat → TD) : Prop := ∀ j, j < 3 → ((X j).pr = 0 ∧ th j = 0) ∨ ((X j).pr = 1 ∧ th j = 1 ∧ SDT (X j) j v so im ti (D j))
theorem AllSI.data {X : Nat → Scr} {th v so im ti : Nat → Int32} (H : AllSI X th v so im ti) : ∃ D, PD X th v so im ti D := by
  have h : ∀ j : Nat, ∃ T : TD, j < 3 → ((X j).pr = 0 ∧ th j = 0) ∨ ((X j).pr = 1 ∧ th j = 1 ∧ SDT (X j) j v so im ti T) := by
    intro j
    by_cases hj : j < 3
    · rcases H j hj with h | ⟨h1, h2, a, b, c, d, spot, mid, t, w, s, h, N, V, S⟩
      · exact ⟨(0, 0, 0, 0, 0, 0, 0, 0, 0, 0, 0, fun _ => 0), fun _ => Or.inl h⟩
      · exact ⟨(a, b, c, d, spot, mid, t, w, s, h, N, V), fun _ => Or.inr ⟨h1, h2, S⟩⟩
    · exact ⟨(0, 0, 0, 0, 0, 0, 0, 0, 0, 0, 0, fun _ => 0), fun q => absurd q hj⟩
  exact ⟨fun j => Classical.choose (h j), fun j hj => Classical.choose_spec (h j) hj⟩
def inkAt (T : TD) (x y : Int) : Bool := Ink (Rk T.V T.N) T.t (num T.w T.s T.h x y).toNat
section Inks
variable {X : Nat → Scr} {th v so im ti : Nat → Int32} {D : Nat → TD}
theorem SDT.num {x : Scr} {k : Nat} {T : TD} (S : SDT x k v so im ti T) (a b : Int) : 0 ≤ num T.w T.s T.h a b ∧ num T.w T.s T.h a b < T.N := by
  have B := S.B
  have h1 := num_range (s := T.s) B.1 B.2.2.2.2.1 a b
  have h2 := S.area.1
  omega
theorem X3_inks {x : Scr} {k : Nat} {T : TD} (S : SDT x k v so im ti T) {a b : Int} (a0 : -100000 ≤ a) (a1 : a ≤ 100000) (b0 : -100000 ≤ b) (b1 : b ≤ 100000) : mX3_inks x.ti x.w x.s x.h x.ra (iI a) (iI b) = some (if inkAt T a b = true then 1 else 0) := by
  obtain ⟨r1, r2, r3, -⟩ := S.rk
  have hN := S.N64
  have hn := S.num a b
  obtain ⟨-, -, -, ⟨t0, t1⟩, ⟨-, -, -, -, -, -, f7, f8, f9, f10⟩, -⟩ := id S
  unfold mX3_inks
  rw [f7, f8, f9, f10, X2_numberOf S.B a0 a1 b0 b1]
  simp only [bnd1]
  have e : iI (num T.w T.s T.h a b) = iI (((num T.w T.s T.h a b).toNat : Nat) : Int) := by congr 1; omega
  rw [e, X3_inksPlace hN r1 r2 (by omega) (by omega) (by omega)]
  rfl
/-- what the reference lays for all screens -/
def AR (th : Nat → Int32) (D : Nat → TD) (m : Nat) (aR ba : Nat → Int32) : Prop := ∀ j, j < m → th j = 1 → (∀ p, p < (D j).N → aR (64 * j + p) = iI (Rk (D j).V (D j).N p : Nat)) ∧ ba (3 * j) = iI (D j).w ∧ ba (3 * j + 1) = iI (D j).s ∧ ba (3 * j + 2) = iI (D j).h
theorem R_all_L23 {N : Nat} {rk : Nat → Int32} {j : Nat} (hj : j < 3) (hN : N ≤ 64) (n : Nat) : ∀ (fu p : Nat) (aR : Nat → Int32), p + n = N → n < fu → (∀ q, q < p → aR (64 * j + q) = rk q) → ∃ r aR', mX5_layAll_L23 (iI j) (iI N) rk fu (iI p) aR = some (r, aR') ∧ (∀ q, q < N → aR' (64 * j + q) = rk q) ∧ ∀ i, (i < 64 * j ∨ 64 * j + 64 ≤ i) → aR' i = aR i := by
  induction n with
  | zero =>
    intro fu p aR hp hf hI
    obtain ⟨fu, rfl⟩ : ∃ k, fu = k + 1 := ⟨fu - 1, by omega⟩
    exact ⟨iI p, aR, by rw [mX5_layAll_L23, if_pos (by rw [iI_le (by omega) (by omega) (by omega) (by omega)]; omega)], fun q hq => hI q (by omega), fun _ _ => rfl⟩
  | succ n ih =>
    intro fu p aR hp hf hI
    obtain ⟨fu, rfl⟩ : ∃ k, fu = k + 1 := ⟨fu - 1, by omega⟩
    obtain ⟨r, aR', e1, e2, e3⟩ := ih fu (p + 1) (upd aR (64 * j + p) (rk p)) (by omega) (by omega) (fun q hq => by
      by_cases hqp : q = p
      · rw [hqp, upd_same]
      · rw [upd_ne (by omega)]; exact hI q (by omega))
    refine ⟨r, aR', ?_, e2, fun i hi => by rw [e3 i hi, upd_ne (by omega)]⟩
    have e64 : (64 : Int32) = iI 64 := iI_lit 64
    rw [mX5_layAll_L23, if_neg (by rw [iI_le (by omega) (by omega) (by omega) (by omega)]; omega), gdI (by omega) (by omega) (by omega), clk (by omega)]
    simp only [nmB]
    rw [e64, iI_mul, iI_add, gdI (by omega) (by omega) (by omega), iI_clamp (by omega) (by omega)]
    have ej : (64 * (j : Int) + (p : Int)).toNat = 64 * j + p := by omega
    rw [ej, iI_1, iI_add, ← e1]
    rfl
theorem R_all_L2 (P : PD X th v so im ti D) (n : Nat) : ∀ (fu j : Nat) (w1 w2 w3 w4 : Int32) (val rk aR ba : Nat → Int32), j + n = 3 → n < fu → AR th D j aR ba → ∃ (r x1 x2 x3 x4 : Int32) (val' rk' aR' ba' : Nat → Int32), mX5_layAll_L2 th v so im fu (iI j) w1 w2 w3 w4 val rk aR ba = some (r, x1, x2, x3, x4, val', rk', aR', ba') ∧ AR th D 3 aR' ba' := by
  induction n with
  | zero =>
    intro fu j w1 w2 w3 w4 val rk aR ba hj hf hA
    obtain ⟨fu, rfl⟩ : ∃ k, fu = k + 1 := ⟨fu - 1, by omega⟩
    have : j = 3 := by omega
    subst this
    exact ⟨_, _, _, _, _, _, _, _, _, by rw [mX5_layAll_L2, if_pos (by rw [iI_3, iI_le (by omega) (by omega) (by omega) (by omega)]; omega)], hA⟩
  | succ n ih =>
    intro fu j w1 w2 w3 w4 val rk aR ba hj hf hA
    obtain ⟨fu, rfl⟩ : ∃ k, fu = k + 1 := ⟨fu - 1, by omega⟩
    have hj3 : j < 3 := by omega
    have ej : iI (j : Int) + 1 = iI ((j + 1 : Nat) : Int) := by rw [iI_1, iI_add]; rfl
    rw [mX5_layAll_L2, if_neg (by rw [iI_3, iI_le (by omega) (by omega) (by omega) (by omega)]; omega), gdk hj3, clk (by omega)]
    rcases P j hj3 with ⟨-, ht⟩ | ⟨-, ht, S⟩
    · rw [if_pos ht]
      simp only [nmB]
      rw [ej]
      refine ih fu (j + 1) w1 w2 w3 w4 val rk aR ba (by omega) (by omega) (fun i hi hti => ?_)
      by_cases hij : i = j
      · subst hij; rw [ht] at hti; exact absurd hti (by decide)
      · exact hA i (by omega) hti
    · have hN := S.N64
      obtain ⟨val', rk', y1, y2⟩ := S.grow hj3 val rk
      obtain ⟨r, aR', f1, f2, f3⟩ := R_all_L23 (rk := rk') hj3 hN (D j).N FU 0 aR (by omega) (by unfold FU; omega) (fun q hq => by omega)
      rw [iI_n0] at f1
      have g0 : ∀ {β : Type} {E : Option β}, gd (3 * iI j) 9 E = E := fun {β E} => by rw [iI_3, iI_mul]; exact gdI (by omega) (by omega) (by omega)
      have g1 : ∀ {β : Type} {E : Option β}, gd (3 * iI j + 1) 9 E = E := fun {β E} => by rw [iI_3, iI_mul, iI_1, iI_add]; exact gdI (by omega) (by omega) (by omega)
      have g2 : ∀ {β : Type} {E : Option β}, gd (3 * iI j + 2) 9 E = E := fun {β E} => by rw [iI_3, iI_mul, iI_2, iI_add]; exact gdI (by omega) (by omega) (by omega)
      have t0 : (3 * iI (j : Int)).toNatClampNeg = 3 * j := by rw [iI_3, iI_mul, iI_clamp (by omega) (by omega)]; omega
      have t1 : (3 * iI (j : Int) + 1).toNatClampNeg = 3 * j + 1 := by rw [iI_3, iI_mul, iI_1, iI_add, iI_clamp (by omega) (by omega)]; omega
      have t2 : (3 * iI (j : Int) + 2).toNatClampNeg = 3 * j + 2 := by rw [iI_3, iI_mul, iI_2, iI_add, iI_clamp (by omega) (by omega)]; omega
      rw [if_neg (by rw [ht]; decide), y1]
      simp only [bnd6]
      rw [f1]
      simp only [bnd2, g0, g1, g2, nmB]
      rw [t0, t1, t2, ej]
      refine ih fu (j + 1) _ _ _ _ _ _ _ _ (by omega) (by omega) (fun i hi hti => ?_)
      by_cases hij : i = j
      · subst hij
        refine ⟨fun p hp => ?_, ?_, ?_, ?_⟩
        · rw [f2 p hp]; exact (y2 p hp).2
        · rw [upd_ne (by omega), upd_ne (by omega)]; exact upd_same
        · rw [upd_ne (by omega)]; exact upd_same
        · exact upd_same
      · obtain ⟨h1, h2, h3, h4⟩ := hA i (by omega) hti
        have hNi : (D i).N ≤ 64 := by
          rcases P i (by omega) with ⟨-, q⟩ | ⟨-, -, q⟩
          · rw [q] at hti; exact absurd hti (by decide)
          · exact q.N64
        refine ⟨fun p hp => ?_, ?_, ?_, ?_⟩
        · rw [f3 (64 * i + p) (by omega)]; exact h1 p hp
        · rw [upd_ne (by omega), upd_ne (by omega), upd_ne (by omega)]; exact h2
        · rw [upd_ne (by omega), upd_ne (by omega), upd_ne (by omega)]; exact h3
        · rw [upd_ne (by omega), upd_ne (by omega), upd_ne (by omega)]; exact h4
theorem R_layAll (P : PD X th v so im ti D) (w1 w2 w3 w4 : Int32) (val rk aR ba : Nat → Int32) : ∃ (x1 x2 x3 x4 : Int32) (val' rk' aR' ba' : Nat → Int32), mX5_layAll w1 w2 w3 w4 th v so im val rk aR ba = some (x1, x2, x3, x4, val', rk', aR', ba') ∧ AR th D 3 aR' ba' := by
  obtain ⟨r, x1, x2, x3, x4, val', rk', aR', ba', e, hA⟩ := R_all_L2 P 3 FU 0 w1 w2 w3 w4 val rk aR ba (by omega) (by unfold FU; omega) (fun i hi => by omega)
  rw [iI_n0] at e
  refine ⟨x1, x2, x3, x4, val', rk', aR', ba', ?_, hA⟩
  unfold mX5_layAll
  rw [e]
  rfl
theorem R_hasInk (P : PD X th v so im ti D) {aR ba : Nat → Int32} (hA : AR th D 3 aR ba) {j : Nat} (hj : j < 3) (ht : th j = 1) {a b : Int} (a0 : -100000 ≤ a) (a1 : a ≤ 100000) (b0 : -100000 ≤ b) (b1 : b ≤ 100000) : mX5_hasInk ti aR ba (iI j) (iI a) (iI b) = some (if inkAt (D j) a b = true then 1 else 0, iI (D j).w, iI (D j).s, iI (D j).h) := by
  have S : SDT (X j) j v so im ti (D j) := by
    rcases P j hj with ⟨-, q⟩ | ⟨-, -, q⟩
    · rw [q] at ht; exact absurd ht (by decide)
    · exact q
  obtain ⟨h1, h2, h3, h4⟩ := hA j hj ht
  have hN := S.N64
  have hn := S.num a b
  obtain ⟨r1, r2, r3, -⟩ := S.rk
  obtain ⟨-, -, -, ⟨t0', t1'⟩, ⟨-, -, -, -, -, -, f7, f8, f9, f10⟩, -, -, -, -, -, -, g12⟩ := id S
  have g0 : ∀ {β : Type} {E : Option β}, gd (3 * iI j) 9 E = E := fun {β E} => by rw [iI_3, iI_mul]; exact gdI (by omega) (by omega) (by omega)
  have g1 : ∀ {β : Type} {E : Option β}, gd (3 * iI j + 1) 9 E = E := fun {β E} => by rw [iI_3, iI_mul, iI_1, iI_add]; exact gdI (by omega) (by omega) (by omega)
  have g2 : ∀ {β : Type} {E : Option β}, gd (3 * iI j + 2) 9 E = E := fun {β E} => by rw [iI_3, iI_mul, iI_2, iI_add]; exact gdI (by omega) (by omega) (by omega)
  have t0 : (3 * iI (j : Int)).toNatClampNeg = 3 * j := by rw [iI_3, iI_mul, iI_clamp (by omega) (by omega)]; omega
  have t1 : (3 * iI (j : Int) + 1).toNatClampNeg = 3 * j + 1 := by rw [iI_3, iI_mul, iI_1, iI_add, iI_clamp (by omega) (by omega)]; omega
  have t2 : (3 * iI (j : Int) + 2).toNatClampNeg = 3 * j + 2 := by rw [iI_3, iI_mul, iI_2, iI_add, iI_clamp (by omega) (by omega)]; omega
  have e64 : (64 : Int32) = iI 64 := iI_lit 64
  generalize hq : num (D j).w (D j).s (D j).h a b = q at hn
  have hq2 : inkAt (D j) a b = Ink (Rk (D j).V (D j).N) (D j).t q.toNat := by unfold inkAt; rw [hq]
  have hRq := r2 q.toNat (by omega)
  unfold mX5_hasInk
  simp only [g0, g1, g2, nmB]
  rw [t0, t1, t2, h2, h3, h4, X5_placeAt S.B a0 a1 b0 b1, hq]
  simp only [bnd1]
  rw [e64, iI_mul, iI_add, gdI (by omega) (by omega) (by omega), gdk hj, clk (by omega), iI_clamp (by omega) (by omega)]
  have ej : (64 * (j : Int) + q).toNat = 64 * j + q.toNat := by omega
  have hle : (iI (D j).t ≤ iI (Rk (D j).V (D j).N q.toNat : Nat)) ↔ ¬ inkAt (D j) a b = true := by
    rw [iI_le (by omega) (by omega) (by omega) (by omega), hq2]
    unfold Ink
    rw [decide_eq_true_iff]
    omega
  rw [ej, h1 _ (by omega), g12]
  by_cases hI : inkAt (D j) a b = true
  · rw [if_neg (fun z => (hle.mp z) hI), if_pos hI]
  · rw [if_pos (hle.mpr hI), if_neg hI]
def ibit (X : Nat → Scr) (D : Nat → TD) (a b : Int) (j : Nat) : Bool := (X j).pr == 1 && inkAt (D j) a b
def ibn (X : Nat → Scr) (D : Nat → TD) (a b : Int) : Int := (if ibit X D a b 0 = true then 1 else 0) + (if ibit X D a b 1 = true then 2 else 0) + (if ibit X D a b 2 = true then 4 else 0)
theorem ibit_no {a b : Int} {j : Nat} (h : (X j).pr = 0) : ¬ ibit X D a b j = true := by
  unfold ibit
  rw [h]
  intro q
  simp at q
theorem ibit_is {a b : Int} {j : Nat} (h : (X j).pr = 1) : ibit X D a b j = inkAt (D j) a b := by
  unfold ibit
  rw [h]
  simp
theorem X4_inksOf (P : PD X th v so im ti D) {a b : Int} (a0 : -100000 ≤ a) (a1 : a ≤ 100000) (b0 : -100000 ≤ b) (b1 : b ≤ 100000) : mX4_inksOf (X 0).pr (X 0).ti (X 0).w (X 0).s (X 0).h (X 0).ra (X 1).pr (X 1).ti (X 1).w (X 1).s (X 1).h (X 1).ra (X 2).pr (X 2).ti (X 2).w (X 2).s (X 2).h (X 2).ra (iI a) (iI b) = some (iI (ibn X D a b)) := by
  have n1 : ¬ (1 : Int32) = 0 := by decide
  have step : ∀ (j : Nat) (hj : j < 3) (β : Type) (F : Int32 → Option β) (acc : Int32) (bit : Int32), jB F (fun K => if (X j).pr = 0 then K acc else (bnd1 (mX3_inks (X j).ti (X j).w (X j).s (X j).h (X j).ra (iI a) (iI b)) fun r => if r = 0 then K acc else (nmB (acc ||| bit) fun x => K x))) = F (if ibit X D a b j = true then acc ||| bit else acc) := by
    intro j hj β F acc bit
    dsimp only [jB]
    rcases P j hj with ⟨hp, -⟩ | ⟨hp, -, S⟩
    · rw [if_pos hp, if_neg (ibit_no hp)]
    · rw [if_neg (by rw [hp]; exact n1), X3_inks S a0 a1 b0 b1, ibit_is hp]
      simp only [bnd1, nmB]
      by_cases hI : inkAt (D j) a b = true
      · rw [if_pos hI, if_neg n1, if_pos hI]
      · rw [if_neg hI, if_pos rfl, if_neg hI]
  unfold mX4_inksOf
  rw [step 0 (by omega), step 1 (by omega), step 2 (by omega)]
  unfold ibn
  cases ibit X D a b 0 <;> cases ibit X D a b 1 <;> cases ibit X D a b 2 <;> decide +kernel
theorem R_inksAt (P : PD X th v so im ti D) {aR ba : Nat → Int32} (hA : AR th D 3 aR ba) (w1 w2 w3 : Int32) {a b : Int} (a0 : -100000 ≤ a) (a1 : a ≤ 100000) (b0 : -100000 ≤ b) (b1 : b ≤ 100000) : ∃ x1 x2 x3 : Int32, mX5_inksAt w1 w2 w3 th ti aR ba (iI a) (iI b) = some (iI (ibn X D a b), x1, x2, x3) := by
  have n1 : ¬ (1 : Int32) = 0 := by decide
  have step : ∀ (j : Nat) (hj : j < 3) (fu : Nat) (acc : Int32) (q1 q2 q3 : Int32), ∃ x1 x2 x3 : Int32, mX5_inksAt_L5 th ti aR ba (iI a) (iI b) (fu + 1) (iI j) acc q1 q2 q3 = mX5_inksAt_L5 th ti aR ba (iI a) (iI b) fu (iI ((j + 1 : Nat) : Int)) (if ibit X D a b j = true then acc + ((1 : Int32) <<< (iI j &&& 31)) else acc + 0) x1 x2 x3 := by
    intro j hj fu acc q1 q2 q3
    have ej : iI (j : Int) + 1 = iI ((j + 1 : Nat) : Int) := by rw [iI_1, iI_add]; rfl
    rw [mX5_inksAt_L5, if_neg (by rw [iI_3, iI_le (by omega) (by omega) (by omega) (by omega)]; omega), gdk hj, clk (by omega)]
    rcases P j hj with ⟨hp, ht⟩ | ⟨hp, ht, S⟩
    · refine ⟨q1, q2, q3, ?_⟩
      rw [if_pos ht, if_neg (ibit_no hp)]
      simp only [nmB]
      rw [ej]
    · refine ⟨iI (D j).w, iI (D j).s, iI (D j).h, ?_⟩
      rw [if_neg (by rw [ht]; exact n1), R_hasInk P hA hj ht a0 a1 b0 b1, ibit_is hp]
      simp only [bnd4, nmB]
      rw [ej]
      by_cases hI : inkAt (D j) a b = true
      · rw [if_pos hI, if_neg n1, if_pos hI]
      · rw [if_neg hI, if_pos rfl, if_neg hI]
  unfold mX5_inksAt
  obtain ⟨x1, x2, x3, e0⟩ := step 0 (by omega) 999999 0 w1 w2 w3
  obtain ⟨y1, y2, y3, e1⟩ := step 1 (by omega) 999998 (if ibit X D a b 0 = true then 0 + ((1 : Int32) <<< (iI ((0 : Nat) : Int) &&& 31)) else 0 + 0) x1 x2 x3
  obtain ⟨z1, z2, z3, e2⟩ := step 2 (by omega) 999997 (if ibit X D a b 1 = true then (if ibit X D a b 0 = true then 0 + ((1 : Int32) <<< (iI ((0 : Nat) : Int) &&& 31)) else 0 + 0) + ((1 : Int32) <<< (iI ((1 : Nat) : Int) &&& 31)) else (if ibit X D a b 0 = true then 0 + ((1 : Int32) <<< (iI ((0 : Nat) : Int) &&& 31)) else 0 + 0) + 0) y1 y2 y3
  refine ⟨z1, z2, z3, ?_⟩
  show (bnd5 (mX5_inksAt_L5 th ti aR ba (iI a) (iI b) (999999 + 1) (iI ((0 : Nat) : Int)) 0 w1 w2 w3) fun u1_0 u1_1 u1_2 u1_3 u1_4 => some (u1_1, u1_2, u1_3, u1_4)) = _
  rw [e0]
  show (bnd5 (mX5_inksAt_L5 th ti aR ba (iI a) (iI b) (999998 + 1) (iI ((1 : Nat) : Int)) _ x1 x2 x3) fun u1_0 u1_1 u1_2 u1_3 u1_4 => some (u1_1, u1_2, u1_3, u1_4)) = _
  rw [e1]
  show (bnd5 (mX5_inksAt_L5 th ti aR ba (iI a) (iI b) (999997 + 1) (iI ((2 : Nat) : Int)) _ y1 y2 y3) fun u1_0 u1_1 u1_2 u1_3 u1_4 => some (u1_1, u1_2, u1_3, u1_4)) = _
  rw [e2]
  rw [mX5_inksAt_L5, if_pos (by rw [iI_3, iI_le (by omega) (by omega) (by omega) (by omega)]; omega)]
  simp only [bnd5]
  congr 1
  congr 1
  unfold ibn
  cases ibit X D a b 0 <;> cases ibit X D a b 1 <;> cases ibit X D a b 2 <;> decide +kernel
end Inks
