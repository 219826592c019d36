set_option maxHeartbeats 4000000
-- ===== period, beat, mixture: the calls =====
section PeriodCalls
variable {X : Nat → Scr} {th v so im ti : Nat → Int32} {D : Nat → TD} {β : Type}
theorem X2_prop (w s h q : Int32) : ∃ p, mX2_property w s h q = some p ∧ mX5_numberOf w s h q = some p := by
  unfold mX2_property mX5_numberOf mX2_area
  dsimp only [bnd1]
  by_cases h0 : q = 0
  · exact ⟨w * h, by rw [if_pos h0], by rw [if_pos h0]⟩
  · by_cases h1 : q = 1
    · exact ⟨w, by rw [if_neg h0, if_pos h1], by rw [if_neg h0, if_pos h1]⟩
    · by_cases h2 : q = 2
      · exact ⟨s, by rw [if_neg h0, if_neg h1, if_pos h2], by rw [if_neg h0, if_neg h1, if_pos h2]⟩
      · exact ⟨h, by rw [if_neg h0, if_neg h1, if_neg h2], by rw [if_neg h0, if_neg h1, if_neg h2]⟩
theorem pmk_of : ∀ n : Nat, n < 8 → ∃ a b c, pmk a b c = n := by decide
theorem X4_07 {q : Int} (h1 : -2147483648 ≤ q) (h2 : q < 2147483648) {α : Type} (G : Int32 → α) {hi : Nat} (hh : hi < 100) : jB G (fun K => if iI q < 0 then K 0 else if iI (hi : Int) < iI q then K 0 else K 1) = G (if 0 ≤ q ∧ q ≤ hi then 1 else 0) := by
  have c1 : (iI q < 0) ↔ q < 0 := iI_neg' h1 h2
  have c2 : (iI (hi : Int) < iI q) ↔ (hi : Int) < q := by rw [iI_lt (by omega) (by omega) h1 h2]
  dsimp only [jB]
  by_cases k1 : q < 0
  · rw [if_pos (c1.mpr k1), if_neg (by omega)]
  · rw [if_neg (fun z => k1 (c1.mp z))]
    by_cases k2 : (hi : Int) < q
    · rw [if_pos (c2.mpr k2), if_neg (by omega)]
    · rw [if_neg (fun z => k2 (c2.mp z)), if_pos (by omega)]
theorem X4_03 {q : Int} (h1 : -2147483648 ≤ q) (h2 : q < 2147483648) {α : Type} (G : Int32 → α) : jB G (fun K => if iI q < 0 then K 0 else if 3 < iI q then K 0 else K 1) = G (if 0 ≤ q ∧ q ≤ 3 then 1 else 0) := X4_07 (hi := 3) h1 h2 G (by omega)
theorem X4_18 {q : Int} (h1 : -2147483648 ≤ q) (h2 : q < 2147483648) {α : Type} (G : Int32 → α) : jB G (fun K => if iI q < 1 then K 0 else if 8 ≤ iI q then K 0 else K 1) = G (if 1 ≤ q ∧ q ≤ 7 then 1 else 0) := by
  have e8 : (8 : Int32) = iI 8 := iI_lit 8
  have c1 : (iI q < 1) ↔ q < 1 := by rw [iI_1, iI_lt h1 h2 (by omega) (by omega)]
  have c2 : (8 ≤ iI q) ↔ 8 ≤ q := by rw [e8, iI_le (by omega) (by omega) h1 h2]
  dsimp only [jB]
  by_cases k1 : q < 1
  · rw [if_pos (c1.mpr k1), if_neg (by omega)]
  · rw [if_neg (fun z => k1 (c1.mp z))]
    by_cases k2 : 8 ≤ q
    · rw [if_pos (c2.mpr k2), if_neg (by omega)]
    · rw [if_neg (fun z => k2 (c2.mp z)), if_pos (by omega)]
theorem X4_08 {q : Int} (h1 : -2147483648 ≤ q) (h2 : q < 2147483648) {α : Type} (G : Int32 → α) : jB G (fun K => if iI q < 0 then K 0 else if 8 ≤ iI q then K 0 else K 1) = G (if 0 ≤ q ∧ q ≤ 7 then 1 else 0) := by
  have e8 : (8 : Int32) = iI 8 := iI_lit 8
  have c1 : (iI q < 0) ↔ q < 0 := iI_neg' h1 h2
  have c2 : (8 ≤ iI q) ↔ 8 ≤ q := by rw [e8, iI_le (by omega) (by omega) h1 h2]
  dsimp only [jB]
  by_cases k1 : q < 0
  · rw [if_pos (c1.mpr k1), if_neg (by omega)]
  · rw [if_neg (fun z => k1 (c1.mp z))]
    by_cases k2 : 8 ≤ q
    · rw [if_pos (c2.mpr k2), if_neg (by omega)]
    · rw [if_neg (fun z => k2 (c2.mp z)), if_pos (by omega)]
theorem X5_03 {q : Int} (h1 : -2147483648 ≤ q) (h2 : q < 2147483648) : mX5_within (iI q) 0 3 = some (if 0 ≤ q ∧ q ≤ 3 then 1 else 0) := by
  rw [iI_0, iI_3, X5_within h1 h2 (by omega) (by omega) (by omega) (by omega)]
  rw [← iI_0]
theorem X5_17 {q : Int} (h1 : -2147483648 ≤ q) (h2 : q < 2147483648) : mX5_within (iI q) 1 7 = some (if 1 ≤ q ∧ q ≤ 7 then 1 else 0) := by
  have e7 : (7 : Int32) = iI 7 := iI_lit 7
  rw [iI_1, e7, X5_within h1 h2 (by omega) (by omega) (by omega) (by omega)]
  rw [← iI_1]
theorem X5_07 {q : Int} (h1 : -2147483648 ≤ q) (h2 : q < 2147483648) : mX5_within (iI q) 0 7 = some (if 0 ≤ q ∧ q ≤ 7 then 1 else 0) := by
  have e7 : (7 : Int32) = iI 7 := iI_lit 7
  rw [iI_0, e7, X5_within h1 h2 (by omega) (by omega) (by omega) (by omega)]
  rw [← iI_0]
theorem X4_period_ok (P : PD X th v so im ti D) {n q : Int} (n0 : 1 ≤ n) (n1 : n ≤ 7) (q0 : 0 ≤ q) (q1 : q ≤ 3) (hm : iI n &&& iI (pm X : Nat) = iI n) : ∃ W x H p, PB W x H 262144 ∧ mX4_period (X 0).pr (X 0).w (X 0).s (X 0).h (X 1).pr (X 1).w (X 1).s (X 1).h (X 2).pr (X 2).w (X 2).s (X 2).h (iI n) (iI q) = some (p, iI W, iI x, iI H) ∧ mX5_layPeriod v (iI n) = some (iI W, iI x, iI H) ∧ mX5_numberOf (iI W) (iI x) (iI H) (iI q) = some p := by
  have d1 : ¬ (1 : Int32) = 0 := by decide
  obtain ⟨a, b, c, e⟩ := pmk_of n.toNat (by omega)
  have en : n = (pmk a b c : Nat) := by omega
  have hm' := (mask_both a b c (prs X 0) (prs X 1) (prs X 2)).1.mp (by rw [← en]; exact hm)
  obtain ⟨W, x, H, p1, e1, e2⟩ := period_both P a b c hm'.1 hm'.2.1 hm'.2.2
  obtain ⟨p, e3, e4⟩ := X2_prop (iI W) (iI x) (iI H) (iI q)
  rw [← en] at e1 e2
  refine ⟨W, x, H, p, p1, ?_, e2, e4⟩
  unfold mX4_period
  rw [X4_18 (by omega) (by omega), if_pos (show 1 ≤ n ∧ n ≤ 7 from ⟨n0, n1⟩)]
  simp only [gz, if_neg d1]
  rw [X4_03 (by omega) (by omega), if_pos (show 0 ≤ q ∧ q ≤ 3 from ⟨q0, q1⟩)]
  simp only [if_neg d1]
  rw [X4_present P, bnd1_some]
  dsimp only [jB]
  rw [if_pos hm, if_neg d1, e1]
  show bnd1 (mX2_property (iI W) (iI x) (iI H) (iI q)) _ = _
  rw [e3]
  rfl
theorem SX_period (P : PD X th v so im ti D) (a1 a2 : Int32) (vw vs vh : Int32) (Kf : Nat → Option β) (F : Int32 → Int32 → Int32 → Int32 → Option β) :
    (∃ (kk : Nat) (b t : Int32), lq (mxX4_period (X 0).pr (X 1).pr (X 2).pr a1 a2) Kf (bnd4 (mX4_period (X 0).pr (X 0).w (X 0).s (X 0).h (X 1).pr (X 1).w (X 1).s (X 1).h (X 2).pr (X 2).w (X 2).s (X 2).h a1 a2) F) = Kf kk ∧ mX5_period vw vs vh th v a1 a2 = some (b, t, vw, vs, vh) ∧ ((kk = 1 ∧ t = 1) ∨ (kk = 2 ∧ t = 2))) ∨
    (∃ (o o1 o2 o3 : Int32), lq (mxX4_period (X 0).pr (X 1).pr (X 2).pr a1 a2) Kf (bnd4 (mX4_period (X 0).pr (X 0).w (X 0).s (X 0).h (X 1).pr (X 1).w (X 1).s (X 1).h (X 2).pr (X 2).w (X 2).s (X 2).h a1 a2) F) = F o o1 o2 o3 ∧ mX5_period vw vs vh th v a1 a2 = some (o, 0, o1, o2, o3)) := by
  obtain ⟨n, rfl, n0, n9⟩ := i32_of a1
  obtain ⟨q, rfl, q0, q9⟩ := i32_of a2
  have d1 : ¬ (1 : Int32) = 0 := by decide
  have l1 : ¬ (1 : Int32) ≤ 0 := by decide
  have l2 : ¬ (2 : Int32) ≤ 0 := by decide
  have l0 : (0 : Int32) ≤ 0 := by decide
  have hC : mxX4_period (X 0).pr (X 1).pr (X 2).pr (iI n) (iI q) = if 1 ≤ n ∧ n ≤ 7 then (if 0 ≤ q ∧ q ≤ 3 then (if iI n &&& iI (pm X : Nat) = iI n then none else some 2) else some 1) else some 1 := by
    unfold mxX4_period
    rw [X4_18 n0 n9, X4_present P]
    by_cases h1 : 1 ≤ n ∧ n ≤ 7
    · rw [if_pos h1, if_pos h1, if_neg d1, X4_03 q0 q9]
      by_cases h2 : 0 ≤ q ∧ q ≤ 3
      · rw [if_pos h2, if_pos h2, if_neg d1, bnd1_some]
        dsimp only [jB]
        by_cases h3 : iI n &&& iI (pm X : Nat) = iI n
        · rw [if_pos h3, if_pos h3, if_neg d1]
        · rw [if_neg h3, if_neg h3, if_pos rfl]
      · rw [if_neg h2, if_neg h2, if_pos rfl]
    · rw [if_neg h1, if_neg h1, if_pos rfl]
  have hR : mX5_period vw vs vh th v (iI n) (iI q) = if 1 ≤ n ∧ n ≤ 7 then (if 0 ≤ q ∧ q ≤ 3 then (if iI n &&& (iI (pm X : Nat) ^^^ (-1)) = 0 then (bnd3 (mX5_layPeriod v (iI n)) fun r9_0 r9_1 r9_2 => bnd1 (mX5_numberOf r9_0 r9_1 r9_2 (iI q)) fun r10_0 => some (r10_0, 0, r9_0, r9_1, r9_2)) else some (0, 2, vw, vs, vh)) else some (0, 1, vw, vs, vh)) else some (0, 1, vw, vs, vh) := by
    unfold mX5_period
    rw [X5_17 n0 n9, X5_03 q0 q9, X5_there P]
    dsimp only [jB, bnd1]
    by_cases h1 : 1 ≤ n ∧ n ≤ 7
    · rw [if_pos h1, if_pos h1, if_neg d1]
      by_cases h2 : 0 ≤ q ∧ q ≤ 3
      · rw [if_pos h2, if_pos h2, if_neg d1]
        by_cases h3 : iI n &&& (iI (pm X : Nat) ^^^ (-1)) = 0
        · rw [if_pos h3, if_pos h3, if_pos l0]
        · rw [if_neg h3, if_neg h3, if_neg l2]
      · rw [if_neg h2, if_neg h2, if_pos rfl, if_neg l1]
    · rw [if_neg h1, if_neg h1, if_pos rfl, if_neg l1]
  rw [hC, hR]
  by_cases h1 : 1 ≤ n ∧ n ≤ 7
  · by_cases h2 : 0 ≤ q ∧ q ≤ 3
    · simp only [if_pos h1, if_pos h2]
      obtain ⟨a, b, c, e⟩ := pmk_of n.toNat (by omega)
      have en : n = (pmk a b c : Nat) := by omega
      have hmm := mask_both a b c (prs X 0) (prs X 1) (prs X 2)
      have hmi : iI n &&& iI (pm X : Nat) = iI n ↔ iI n &&& (iI (pm X : Nat) ^^^ (-1)) = 0 := by rw [en]; exact hmm.1.trans hmm.2.symm
      by_cases h3 : iI n &&& iI (pm X : Nat) = iI n
      · right
        obtain ⟨W, x, H, p, -, e1, e2, e3⟩ := X4_period_ok P h1.1 h1.2 h2.1 h2.2 h3
        refine ⟨p, iI W, iI x, iI H, ?_, ?_⟩
        · rw [if_pos h3]
          show bnd4 _ F = _
          rw [e1]
          rfl
        · rw [if_pos (hmi.mp h3), e2]
          show bnd1 (mX5_numberOf (iI W) (iI x) (iI H) (iI q)) _ = _
          rw [e3]
          rfl
      · left
        exact ⟨2, 0, 2, by rw [if_neg h3]; rfl, by rw [if_neg (fun z => h3 (hmi.mpr z))], Or.inr ⟨rfl, rfl⟩⟩
    · left
      exact ⟨1, 0, 1, by rw [if_pos h1, if_neg h2]; rfl, by rw [if_pos h1, if_neg h2], Or.inl ⟨rfl, rfl⟩⟩
  · left
    exact ⟨1, 0, 1, by rw [if_neg h1]; rfl, by rw [if_neg h1], Or.inl ⟨rfl, rfl⟩⟩
theorem beat_both {x y : Scr} {i j : Nat} {T U : TD} (hi : i < 3) (hj : j < 3) (S : SDT x i v so im ti T) (S' : SDT y j v so im ti U) : ∃ w s h, mX2_addAll x.w x.s x.h y.w y.s y.h = some (iI w, iI s, iI h) ∧ mX5_layBeat v (iI i) (iI j) = some (iI w, iI s, iI h) := by
  have B1 := S.B
  have B2 := S'.B
  obtain ⟨g1, -, -, -, ⟨-, -, -, -, -, -, -, f8, f9, f10⟩, G, g7, g8, g9, -⟩ := id S
  obtain ⟨k1, -, -, -, ⟨-, -, -, -, -, -, -, l8, l9, l10⟩, G', k7, k8, k9, -⟩ := id S'
  obtain ⟨w, s, h, e1, H1⟩ := X2_addAll B1 B2
  obtain ⟨w', s', h', e2, H2⟩ := X5_layBeat hi hj g9 g1 k9 k1 G.1 G'.1
  obtain ⟨rfl, rfl, rfl⟩ := H1.uniq H2
  exact ⟨w, s, h, by rw [f8, f9, f10, l8, l9, l10]; exact e1, e2⟩
theorem beat_eqs (p0 w0 s0 h0 p1 w1 s1 h1 q : Int32) : mX4_beat p0 w0 s0 h0 q = mX4_beatv01 p0 w0 s0 h0 p0 w0 s0 h0 q ∧ mX4_beatv02 p0 w0 s0 h0 p1 w1 s1 h1 q = mX4_beatv01 p0 w0 s0 h0 p1 w1 s1 h1 q ∧ mX4_beatv10 p0 w0 s0 h0 p1 w1 s1 h1 q = mX4_beatv01 p1 w1 s1 h1 p0 w0 s0 h0 q ∧ mX4_beatv11 p0 w0 s0 h0 q = mX4_beatv01 p0 w0 s0 h0 p0 w0 s0 h0 q ∧ mX4_beatv12 p0 w0 s0 h0 p1 w1 s1 h1 q = mX4_beatv01 p0 w0 s0 h0 p1 w1 s1 h1 q ∧ mX4_beatv20 p0 w0 s0 h0 p1 w1 s1 h1 q = mX4_beatv01 p1 w1 s1 h1 p0 w0 s0 h0 q ∧ mX4_beatv21 p0 w0 s0 h0 p1 w1 s1 h1 q = mX4_beatv01 p1 w1 s1 h1 p0 w0 s0 h0 q ∧ mX4_beatv22 p0 w0 s0 h0 q = mX4_beatv01 p0 w0 s0 h0 p0 w0 s0 h0 q := ⟨rfl, rfl, rfl, rfl, rfl, rfl, rfl, rfl⟩
theorem X4_beat_ok (P : PD X th v so im ti D) {i j : Nat} (hi : i < 3) (hj : j < 3) (pi : (X i).pr = 1) (pj : (X j).pr = 1) {q : Int} (q0 : 0 ≤ q) (q1 : q ≤ 3) : ∃ W x H p, mX4_beatv01 (X i).pr (X i).w (X i).s (X i).h (X j).pr (X j).w (X j).s (X j).h (iI q) = some (p, iI W, iI x, iI H) ∧ mX5_layBeat v (iI i) (iI j) = some (iI W, iI x, iI H) ∧ mX5_numberOf (iI W) (iI x) (iI H) (iI q) = some p := by
  have d1 : ¬ (1 : Int32) = 0 := by decide
  obtain ⟨-, -, S⟩ := prs_pr P hi (prs_is pi)
  obtain ⟨-, -, S'⟩ := prs_pr P hj (prs_is pj)
  obtain ⟨w, s, h, e1, e2⟩ := beat_both hi hj S S'
  obtain ⟨p, e3, e4⟩ := X2_prop (iI w) (iI s) (iI h) (iI q)
  refine ⟨w, s, h, p, ?_, e2, e4⟩
  unfold mX4_beatv01
  rw [X4_03 (by omega) (by omega), if_pos (show 0 ≤ q ∧ q ≤ 3 from ⟨q0, q1⟩)]
  simp only [gz, if_neg d1]
  dsimp only [jB]
  rw [if_neg (by rw [pi]; exact d1), if_neg (by rw [pj]; exact d1), if_neg d1]
  unfold mX2_become
  simp only [bnd3]
  rw [e1]
  show bnd1 (mX2_property (iI w) (iI s) (iI h) (iI q)) _ = _
  rw [e3]
  rfl
theorem SX_beat (P : PD X th v so im ti D) {i j : Nat} (hi : i < 3) (hj : j < 3) (a2 : Int32) (vw vs vh : Int32) (Kf : Nat → Option β) (F : Int32 → Int32 → Int32 → Int32 → Option β) :
    (∃ (kk : Nat) (b t : Int32), lq (mxX4_beat (X i).pr (X j).pr a2) Kf (bnd4 (mX4_beatv01 (X i).pr (X i).w (X i).s (X i).h (X j).pr (X j).w (X j).s (X j).h a2) F) = Kf kk ∧ mX5_beat vw vs vh th v (iI i) (iI j) a2 = some (b, t, vw, vs, vh) ∧ ((kk = 1 ∧ t = 2) ∨ (kk = 2 ∧ t = 3))) ∨
    (∃ (o o1 o2 o3 : Int32), lq (mxX4_beat (X i).pr (X j).pr a2) Kf (bnd4 (mX4_beatv01 (X i).pr (X i).w (X i).s (X i).h (X j).pr (X j).w (X j).s (X j).h a2) F) = F o o1 o2 o3 ∧ mX5_beat vw vs vh th v (iI i) (iI j) a2 = some (o, 0, o1, o2, o3)) := by
  obtain ⟨q, rfl, q0, q9⟩ := i32_of a2
  have d1 : ¬ (1 : Int32) = 0 := by decide
  have l3 : ¬ (3 : Int32) ≤ 0 := by decide
  have l2 : ¬ (2 : Int32) ≤ 0 := by decide
  have l0 : (0 : Int32) ≤ 0 := by decide
  have hC : mxX4_beat (X i).pr (X j).pr (iI q) = if 0 ≤ q ∧ q ≤ 3 then (if (X i).pr = 0 then some 2 else if (X j).pr = 0 then some 2 else none) else some 1 := by
    unfold mxX4_beat
    rw [X4_03 q0 q9]
    by_cases h2 : 0 ≤ q ∧ q ≤ 3
    · rw [if_pos h2, if_pos h2, if_neg d1]
      dsimp only [jB]
      rw [if_pos rfl, if_neg d1]
    · rw [if_neg h2, if_neg h2, if_pos rfl]
  have hR : mX5_beat vw vs vh th v (iI i) (iI j) (iI q) = if 0 ≤ q ∧ q ≤ 3 then (if th i = 0 then some (0, 3, vw, vs, vh) else if th j = 0 then some (0, 3, vw, vs, vh) else (bnd3 (mX5_layBeat v (iI i) (iI j)) fun r15_0 r15_1 r15_2 => bnd1 (mX5_numberOf r15_0 r15_1 r15_2 (iI q)) fun r16_0 => some (r16_0, 0, r15_0, r15_1, r15_2))) else some (0, 2, vw, vs, vh) := by
    unfold mX5_beat
    rw [R_isSlot hi, R_isSlot hj, X5_03 q0 q9]
    dsimp only [jB, bnd1]
    rw [if_neg d1, if_neg d1, if_neg d1]
    by_cases h2 : 0 ≤ q ∧ q ≤ 3
    · rw [if_pos h2, if_pos h2, if_neg d1, gdk hi, gdk hj, clk (by omega), clk (by omega), if_neg l3, if_pos l0]
    · rw [if_neg h2, if_neg h2, if_pos rfl, if_neg l2]
  rw [hC, hR]
  by_cases h2 : 0 ≤ q ∧ q ≤ 3
  · simp only [if_pos h2]
    rcases P i hi with ⟨pi, ti'⟩ | ⟨pi, ti', -⟩
    · left
      exact ⟨2, 0, 3, by rw [if_pos pi]; rfl, by rw [if_pos ti'], Or.inr ⟨rfl, rfl⟩⟩
    · rcases P j hj with ⟨pj, tj⟩ | ⟨pj, tj, -⟩
      · left
        exact ⟨2, 0, 3, by rw [if_neg (by rw [pi]; exact d1), if_pos pj]; rfl, by rw [if_neg (by rw [ti']; exact d1), if_pos tj], Or.inr ⟨rfl, rfl⟩⟩
      · right
        obtain ⟨W, x, H, p, e1, e2, e3⟩ := X4_beat_ok P hi hj pi pj h2.1 h2.2
        refine ⟨p, iI W, iI x, iI H, ?_, ?_⟩
        · rw [if_neg (show ¬ (X i).pr = 0 by rw [pi]; exact d1), if_neg (show ¬ (X j).pr = 0 by rw [pj]; exact d1)]
          show bnd4 _ F = _
          rw [e1]
          rfl
        · rw [if_neg (by rw [ti']; exact d1), if_neg (by rw [tj]; exact d1), e2]
          show bnd1 (mX5_numberOf (iI W) (iI x) (iI H) (iI q)) _ = _
          rw [e3]
          rfl
  · left
    exact ⟨1, 0, 2, by rw [if_neg h2]; rfl, by rw [if_neg h2], Or.inl ⟨rfl, rfl⟩⟩
end PeriodCalls
-- ===== mixture =====
def mixF (X : Nat → Scr) (D : Nat → TD) (n : Int) (W q : Nat) : Bool := decide (ibn X D ((q % W : Nat) : Int) ((q / W : Nat) : Int) = n)
section Mixture
variable {X : Nat → Scr} {th v so im ti : Nat → Int32} {D : Nat → TD} {β : Type}
theorem ibn_bd (a b : Int) : 0 ≤ ibn X D a b ∧ ibn X D a b ≤ 7 := by
  unfold ibn
  cases ibit X D a b 0 <;> cases ibit X D a b 1 <;> cases ibit X D a b 2 <;> decide
theorem X4_mix_row (P : PD X th v so im ti D) {n : Int} (n0 : 0 ≤ n) (n7 : n ≤ 7) {W : Nat} (hW : W ≤ 4096) {r : Nat} (hr : r < 4096) (hrW : (r + 1) * W ≤ 4096) (m : Nat) : ∀ (fu c : Nat), c + m = W → m < fu →
    mX4_mixture_L81 (X 0).pr (X 0).ti (X 0).w (X 0).s (X 0).h (X 0).ra (X 1).pr (X 1).ti (X 1).w (X 1).s (X 1).h (X 1).ra (X 2).pr (X 2).ti (X 2).w (X 2).s (X 2).h (X 2).ra (iI n) (iI (W : Int)) (iI (r : Int)) fu (iI (c : Int)) (iI (cnt (mixF X D n W) (r * W + c) : Nat)) = some (iI (W : Int), iI (cnt (mixF X D n W) (r * W + W) : Nat)) := by
  induction m with
  | zero =>
    intro fu c hc hf
    obtain ⟨fu, rfl⟩ : ∃ k, fu = k + 1 := ⟨fu - 1, by omega⟩
    have : c = W := by omega
    subst this
    rw [mX4_mixture_L81, if_pos (by rw [iI_le (by omega) (by omega) (by omega) (by omega)]; omega)]
  | succ m ih =>
    intro fu c hc hf
    obtain ⟨fu, rfl⟩ : ∃ k, fu = k + 1 := ⟨fu - 1, by omega⟩
    have hI := ih fu (c + 1) (by omega) (by omega)
    have hc' : c < W := by omega
    have hfv : mixF X D n W (r * W + c) = decide (ibn X D (c : Int) (r : Int) = n) := by unfold mixF; rw [row_mod hc', row_div hc']
    have hb := ibn_bd (X := X) (D := D) (c : Int) (r : Int)
    rw [mX4_mixture_L81, if_neg (by rw [iI_le (by omega) (by omega) (by omega) (by omega)]; omega), X4_inksOf P (by omega) (by omega) (by omega) (by omega)]
    simp only [bnd1, nmB, iI_1, iI_add]
    have e1 : ((c : Int) + 1) = ((c + 1 : Nat) : Int) := rfl
    rw [e1, ← hI, ← Nat.add_assoc]
    by_cases hq : ibn X D (c : Int) (r : Int) = n
    · rw [if_pos (by rw [hq]), cnt_t (by rw [hfv]; exact decide_eq_true hq)]; rfl
    · rw [if_neg (by rw [iI_inj (by omega) (by omega) (by omega) (by omega)]; exact hq), cnt_f (by rw [hfv]; exact fun z => hq (of_decide_eq_true z))]
theorem X4_mix_rows (P : PD X th v so im ti D) {n : Int} (n0 : 0 ≤ n) (n7 : n ≤ 7) {W H : Nat} (hW0 : 0 < W) (hHW : H * W ≤ 4096) (m : Nat) : ∀ (fu r : Nat), r + m = H → m < fu →
    mX4_mixture_L66 (X 0).pr (X 0).ti (X 0).w (X 0).s (X 0).h (X 0).ra (X 1).pr (X 1).ti (X 1).w (X 1).s (X 1).h (X 1).ra (X 2).pr (X 2).ti (X 2).w (X 2).s (X 2).h (X 2).ra (iI n) (iI (W : Int)) (iI (H : Int)) fu (iI (r : Int)) (iI (cnt (mixF X D n W) (r * W) : Nat)) = some (iI (H : Int), iI (cnt (mixF X D n W) (H * W) : Nat)) := by
  have hH : H ≤ 4096 := Nat.le_trans (Nat.le_mul_of_pos_right H hW0) hHW
  induction m with
  | zero =>
    intro fu r hr hf
    obtain ⟨fu, rfl⟩ : ∃ k, fu = k + 1 := ⟨fu - 1, by omega⟩
    have : r = H := by omega
    subst this
    rw [mX4_mixture_L66, if_pos (by rw [iI_le (by omega) (by omega) (by omega) (by omega)]; omega)]
  | succ m ih =>
    intro fu r hr hf
    obtain ⟨fu, rfl⟩ : ∃ k, fu = k + 1 := ⟨fu - 1, by omega⟩
    have hI := ih fu (r + 1) (by omega) (by omega)
    have hrW : (r + 1) * W ≤ H * W := Nat.mul_le_mul_right W (by omega)
    have hWW : W ≤ (r + 1) * W := Nat.le_mul_of_pos_left W (by omega)
    have hR := X4_mix_row P n0 n7 (W := W) (by omega) (r := r) (by omega) (by omega) W FU 0 (by omega) (by unfold FU; omega)
    rw [iI_n0, Nat.add_zero] at hR
    rw [mX4_mixture_L66, if_neg (by rw [iI_le (by omega) (by omega) (by omega) (by omega)]; omega), hR]
    simp only [bnd2, nmB, iI_1, iI_add]
    rw [← hI, Nat.succ_mul]
    rfl
theorem R_mix_L (P : PD X th v so im ti D) {aR ba : Nat → Int32} (hA : AR th D 3 aR ba) {n : Int} (n0 : 0 ≤ n) (n7 : n ≤ 7) {W H : Nat} (hW0 : 0 < W) (hHW : H * W ≤ 4096) (m : Nat) : ∀ (fu q : Nat) (w1 w2 w3 : Int32), q + m = H * W → m < fu →
    ∃ (r x1 x2 x3 : Int32), mX5_mixed_L10 th ti (iI n) (iI (W : Int)) (iI (H : Int)) aR ba fu (iI (q : Int)) (iI (cnt (mixF X D n W) q : Nat)) w1 w2 w3 = some (r, iI (cnt (mixF X D n W) (H * W) : Nat), x1, x2, x3) := by
  have hWH : (W : Int) * (H : Int) = ((H * W : Nat) : Int) := by rw [Int.mul_comm]; rfl
  induction m with
  | zero =>
    intro fu q w1 w2 w3 hq hf
    obtain ⟨fu, rfl⟩ : ∃ k, fu = k + 1 := ⟨fu - 1, by omega⟩
    have : q = H * W := by omega
    subst this
    refine ⟨iI ((H * W : Nat) : Int), w1, w2, w3, ?_⟩
    rw [mX5_mixed_L10, iI_mul, hWH, if_pos (by rw [iI_le (by omega) (by omega) (by omega) (by omega)]; omega)]
  | succ m ih =>
    intro fu q w1 w2 w3 hq hf
    obtain ⟨fu, rfl⟩ : ∃ k, fu = k + 1 := ⟨fu - 1, by omega⟩
    have hm : q % W < W := Nat.mod_lt _ hW0
    have hd : q / W < H := (Nat.div_lt_iff_lt_mul hW0).mpr (by omega)
    have hH0 : 0 < H := Nat.lt_of_le_of_lt (Nat.zero_le _) hd
    have hW9 : W ≤ H * W := Nat.le_mul_of_pos_left W hH0
    have hH9 : H ≤ H * W := Nat.le_mul_of_pos_right H hW0
    have hz : ¬ iI (W : Int) = 0 := by rw [iI_eq0 (by omega) (by omega)]; omega
    have hp1 := Int.natCast_nonneg (q / W)
    have hp2 := Int.natCast_nonneg (q % W)
    obtain ⟨y1, y2, y3, e0⟩ := R_inksAt P hA w1 w2 w3 (a := ((q % W : Nat) : Int)) (b := ((q / W : Nat) : Int)) (by omega) (by omega) (by omega) (by omega)
    obtain ⟨r, x1, x2, x3, hI⟩ := ih fu (q + 1) y1 y2 y3 (by omega) (by omega)
    refine ⟨r, x1, x2, x3, ?_⟩
    have hb := ibn_bd (X := X) (D := D) ((q % W : Nat) : Int) ((q / W : Nat) : Int)
    rw [mX5_mixed_L10, iI_mul, hWH, if_neg (by rw [iI_le (by omega) (by omega) (by omega) (by omega)]; omega)]
    simp only [gz, if_neg hz]
    rw [iI_nmod (by omega) (by omega) hW0, iI_ndiv (by omega) (by omega), e0]
    simp only [bnd4, nmB, iI_1, iI_add]
    have e1 : ((q : Int) + 1) = ((q + 1 : Nat) : Int) := rfl
    rw [e1, ← hI]
    have hfv : mixF X D n W q = decide (ibn X D ((q % W : Nat) : Int) ((q / W : Nat) : Int) = n) := rfl
    by_cases hq : ibn X D ((q % W : Nat) : Int) ((q / W : Nat) : Int) = n
    · rw [if_pos (by rw [hq]), cnt_t (by rw [hfv]; exact decide_eq_true hq)]; rfl
    · rw [if_neg (by rw [iI_inj (by omega) (by omega) (by omega) (by omega)]; exact hq), cnt_f (by rw [hfv]; exact fun z => hq (of_decide_eq_true z)), iI_0, iI_add, Int.add_zero]
theorem pmk_zero (a b c : Bool) : iI (pmk a b c : Nat) = 0 ↔ pmk a b c = 0 := by cases a <;> cases b <;> cases c <;> decide +kernel
theorem SX_mixture (P : PD X th v so im ti D) (a1 : Int32) (fw fs fh vw vs vh vl : Int32) (val rk aR ba : Nat → Int32) (Kf : Nat × Int32 × Int32 × Int32 → Option β) (F : Int32 → Int32 → Int32 → Int32 → Option β) :
    (∃ (kk : Nat) (t1 t2 t3 b t w' s' h' l' : Int32) (val' rk' aR' ba' : Nat → Int32), lq (mxX4_mixture fw fs fh (X 0).pr (X 0).w (X 0).s (X 0).h (X 1).pr (X 1).w (X 1).s (X 1).h (X 2).pr (X 2).w (X 2).s (X 2).h a1) Kf (bnd4 (mX4_mixture (X 0).pr (X 0).ti (X 0).w (X 0).s (X 0).h (X 0).ra (X 1).pr (X 1).ti (X 1).w (X 1).s (X 1).h (X 1).ra (X 2).pr (X 2).ti (X 2).w (X 2).s (X 2).h (X 2).ra a1) F) = Kf (kk, t1, t2, t3) ∧ mX5_mixture vw vs vh vl th v so im ti val rk aR ba a1 = some (b, t, w', s', h', l', val', rk', aR', ba') ∧ ((kk = 1 ∧ t = 1) ∨ (kk = 2 ∧ t = 2))) ∨
    (∃ (o o1 o2 o3 w' s' h' l' : Int32) (val' rk' aR' ba' : Nat → Int32), lq (mxX4_mixture fw fs fh (X 0).pr (X 0).w (X 0).s (X 0).h (X 1).pr (X 1).w (X 1).s (X 1).h (X 2).pr (X 2).w (X 2).s (X 2).h a1) Kf (bnd4 (mX4_mixture (X 0).pr (X 0).ti (X 0).w (X 0).s (X 0).h (X 0).ra (X 1).pr (X 1).ti (X 1).w (X 1).s (X 1).h (X 1).ra (X 2).pr (X 2).ti (X 2).w (X 2).s (X 2).h (X 2).ra a1) F) = F o o1 o2 o3 ∧ mX5_mixture vw vs vh vl th v so im ti val rk aR ba a1 = some (o, 0, w', s', h', l', val', rk', aR', ba')) := by
  obtain ⟨n, rfl, n0, n9⟩ := i32_of a1
  have d1 : ¬ (1 : Int32) = 0 := by decide
  have l1 : ¬ (1 : Int32) ≤ 0 := by decide
  have l2 : ¬ (2 : Int32) ≤ 0 := by decide
  have l0 : (0 : Int32) ≤ 0 := by decide
  obtain ⟨W, x, H, pb, e1, e2⟩ := period_both P (prs X 0) (prs X 1) (prs X 2) id id id
  have e1' : mX4_findPeriod (X 0).w (X 0).s (X 0).h (X 1).w (X 1).s (X 1).h (X 2).w (X 2).s (X 2).h (iI (pm X : Nat)) = some (iI W, iI x, iI H) := e1
  have e2' : mX5_layPeriod v (iI (pm X : Nat)) = some (iI W, iI x, iI H) := e2
  have hAr : (4096 < iI W * iI H) ↔ 4096 < W * H := by
    have e4 : (4096 : Int32) = iI 4096 := iI_lit 4096
    have hp : 0 ≤ W * H := Int.mul_nonneg (by have := pb.1; omega) (by have := pb.2.2.2.1; omega)
    have := pb.2.2.2.2
    rw [e4, iI_mul, iI_lt (by omega) (by omega) (by omega) (by omega)]
  have hAr2 : (iI W * iI H ≤ 4096) ↔ ¬ 4096 < W * H := by
    have e4 : (4096 : Int32) = iI 4096 := iI_lit 4096
    have hp : 0 ≤ W * H := Int.mul_nonneg (by have := pb.1; omega) (by have := pb.2.2.2.1; omega)
    have := pb.2.2.2.2
    rw [e4, iI_mul, iI_le (by omega) (by omega) (by omega) (by omega)]
    omega
  have hC : mxX4_mixture fw fs fh (X 0).pr (X 0).w (X 0).s (X 0).h (X 1).pr (X 1).w (X 1).s (X 1).h (X 2).pr (X 2).w (X 2).s (X 2).h (iI n) = if 0 ≤ n ∧ n ≤ 7 then (if iI (pm X : Nat) = 0 then some (2, fw, fs, fh) else if 4096 < iI W * iI H then some (2, iI W, iI x, iI H) else none) else some (1, fw, fs, fh) := by
    unfold mxX4_mixture
    rw [X4_08 n0 n9, X4_present P]
    by_cases h1 : 0 ≤ n ∧ n ≤ 7
    · rw [if_pos h1, if_pos h1, if_neg d1, bnd1_some]
      dsimp only [jB]
      by_cases h2 : iI (pm X : Nat) = 0
      · rw [if_pos h2, if_pos h2, if_pos rfl]
      · rw [if_neg h2, if_neg h2, if_neg d1, e1']
        unfold mX2_area
        simp only [bnd3, bnd1, if_true]
        by_cases h3 : 4096 < iI W * iI H
        · rw [if_pos h3, if_pos h3]
        · rw [if_neg h3, if_neg h3, if_neg d1]
    · rw [if_neg h1, if_neg h1, if_pos rfl]
  have hR : mX5_mixture vw vs vh vl th v so im ti val rk aR ba (iI n) = if 0 ≤ n ∧ n ≤ 7 then (if iI (pm X : Nat) = 0 then some (0, 2, vw, vs, vh, vl, val, rk, aR, ba) else if iI W * iI H ≤ 4096 then (bnd9 (mX5_mixed (iI W) (iI x) (iI H) vl th v so im ti val rk aR ba (iI n) (iI W) (iI H)) fun r12_0 r12_1 r12_2 r12_3 r12_4 r12_5 r12_6 r12_7 r12_8 => some (r12_0, 0, r12_1, r12_2, r12_3, r12_4, r12_5, r12_6, r12_7, r12_8)) else some (0, 2, iI W, iI x, iI H, vl, val, rk, aR, ba)) else some (0, 1, vw, vs, vh, vl, val, rk, aR, ba) := by
    unfold mX5_mixture
    rw [X5_07 n0 n9, X5_there P]
    dsimp only [jB, bnd1]
    by_cases h1 : 0 ≤ n ∧ n ≤ 7
    · rw [if_pos h1, if_pos h1, if_neg d1]
      by_cases h2 : iI (pm X : Nat) = 0
      · rw [if_pos h2, if_pos h2, if_neg l2]
      · rw [if_neg h2, if_neg h2, if_pos l0, e2']
        simp only [bnd3]
        by_cases h3 : iI W * iI H ≤ 4096
        · rw [if_pos h3, if_pos h3, if_pos l0]
        · rw [if_neg h3, if_neg h3, if_neg l2]
    · rw [if_neg h1, if_neg h1, if_pos rfl, if_neg l1]
  rw [hC, hR]
  by_cases h1 : 0 ≤ n ∧ n ≤ 7
  · simp only [if_pos h1]
    by_cases h2 : iI (pm X : Nat) = 0
    · left
      exact ⟨2, fw, fs, fh, 0, 2, vw, vs, vh, vl, val, rk, aR, ba, by rw [if_pos h2]; rfl, by rw [if_pos h2], Or.inr ⟨rfl, rfl⟩⟩
    · simp only [if_neg h2]
      by_cases h3 : 4096 < W * H
      · left
        exact ⟨2, iI W, iI x, iI H, 0, 2, iI W, iI x, iI H, vl, val, rk, aR, ba, by rw [if_pos (hAr.mpr h3)]; rfl, by rw [if_neg (fun z => hAr2.mp z h3)], Or.inr ⟨rfl, rfl⟩⟩
      · right
        obtain ⟨p1, p2, p3, p4, p5⟩ := pb
        obtain ⟨W, rfl⟩ : ∃ k : Nat, W = k := ⟨W.toNat, by omega⟩
        obtain ⟨H, rfl⟩ : ∃ k : Nat, H = k := ⟨H.toNat, by omega⟩
        have hWH : (W : Int) * (H : Int) = ((H * W : Nat) : Int) := by rw [Int.mul_comm]; rfl
        have hHW : H * W ≤ 4096 := by rw [hWH] at h3; omega
        obtain ⟨x1, x2, x3, x4, val', rk', aR', ba', f1, hA⟩ := R_layAll P (iI (W : Int)) (iI x) (iI (H : Int)) vl val rk aR ba
        obtain ⟨r, y1, y2, y3, f2⟩ := R_mix_L P hA h1.1 h1.2 (W := W) (H := H) (by omega) hHW (H * W) FU 0 x1 x2 x3 (by omega) (by unfold FU; omega)
        have f3 := X4_mix_rows P h1.1 h1.2 (W := W) (H := H) (by omega) hHW H FU 0 (by omega) (by have : H ≤ H * W := Nat.le_mul_of_pos_right H (by omega); unfold FU; omega)
        rw [iI_n0] at f2
        rw [iI_n0, Nat.zero_mul] at f3
        have f2' : mX5_mixed_L10 th ti (iI n) (iI (W : Int)) (iI (H : Int)) aR' ba' FU 0 0 x1 x2 x3 = some (r, iI (cnt (mixF X D n W) (H * W) : Nat), y1, y2, y3) := f2
        have f3' : mX4_mixture_L66 (X 0).pr (X 0).ti (X 0).w (X 0).s (X 0).h (X 0).ra (X 1).pr (X 1).ti (X 1).w (X 1).s (X 1).h (X 1).ra (X 2).pr (X 2).ti (X 2).w (X 2).s (X 2).h (X 2).ra (iI n) (iI (W : Int)) (iI (H : Int)) FU 0 0 = some (iI (H : Int), iI (cnt (mixF X D n W) (H * W) : Nat)) := f3
        refine ⟨iI (cnt (mixF X D n W) (H * W) : Nat), iI (W : Int), iI x, iI (H : Int), y1, y2, y3, x4, val', rk', aR', ba', ?_, ?_⟩
        · rw [if_neg (fun z => h3 (hAr.mp z))]
          show bnd4 _ F = _
          have hM : mX4_mixture (X 0).pr (X 0).ti (X 0).w (X 0).s (X 0).h (X 0).ra (X 1).pr (X 1).ti (X 1).w (X 1).s (X 1).h (X 1).ra (X 2).pr (X 2).ti (X 2).w (X 2).s (X 2).h (X 2).ra (iI n) = some (iI (cnt (mixF X D n W) (H * W) : Nat), iI (W : Int), iI x, iI (H : Int)) := by
            unfold mX4_mixture
            rw [X4_08 n0 n9, if_pos h1]
            simp only [gz, if_neg d1]
            rw [X4_present P, bnd1_some]
            dsimp only [jB]
            rw [if_neg h2, if_neg d1, e1']
            unfold mX2_area
            simp only [bnd3, bnd1]
            rw [if_neg (fun z => h3 (hAr.mp z)), if_neg d1, f3']
            rfl
          rw [hM]
          rfl
        · rw [if_pos (hAr2.mpr h3)]
          have hM : mX5_mixed (iI (W : Int)) (iI x) (iI (H : Int)) vl th v so im ti val rk aR ba (iI n) (iI (W : Int)) (iI (H : Int)) = some (iI (cnt (mixF X D n W) (H * W) : Nat), y1, y2, y3, x4, val', rk', aR', ba') := by
            unfold mX5_mixed
            rw [f1]
            simp only [bnd8]
            rw [f2']
            rfl
          rw [hM]
          rfl
  · left
    exact ⟨1, fw, fs, fh, 0, 1, vw, vs, vh, vl, val, rk, aR, ba, by rw [if_neg h1]; rfl, by rw [if_neg h1], Or.inl ⟨rfl, rfl⟩⟩
end Mixture
