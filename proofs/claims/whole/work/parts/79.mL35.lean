set_option maxHeartbeats 4000000
-- ===== nearest, counts, input, gain =====
theorem X5_abs' (e : Int32) : mX5_abs e = some (if 0 ≤ e then e else 0 - e) := by
  unfold mX5_abs
  split
  · rfl
  · rw [Int32.zero_sub]
theorem near_eq (a b c d e f : Int32) : mX4_isNearer a b c d e f = mX5_isNearer a b c d e f := by
  unfold mX4_isNearer mX5_isNearer
  rw [X5_abs', X5_abs']
  simp only [bnd1, nmB]
  generalize lg_cmp _ _ = z
  generalize (a * a + b * b) = x3
  generalize (c * c + d * d) = x4
  by_cases h0 : z = 0
  · subst h0
    rw [if_pos rfl, if_neg (show ¬ (0 : Int32) < 0 by decide), if_pos rfl]
    by_cases h1 : x3 = x4
    · subst h1
      rw [if_pos rfl, if_neg (show ¬ x3 < x3 from Int32.lt_irrefl), if_pos rfl]
    · rw [if_neg h1]
      by_cases h2 : x4 ≤ x3
      · rw [if_pos h2, if_neg (Int32.not_lt.mpr h2), if_neg h1]
      · rw [if_neg h2, if_pos (Int32.not_le.mp h2)]
  · rw [if_neg h0]
    by_cases h1 : 0 ≤ z
    · rw [if_pos h1, if_neg (Int32.not_lt.mpr h1), if_neg h0]
    · rw [if_neg h1, if_pos (Int32.not_le.mp h1)]
theorem near_some (a b c d e f : Int32) : ∃ z, mX5_isNearer a b c d e f = some z := by
  rw [← near_eq]
  unfold mX4_isNearer
  simp only [nmB]
  repeat' split
  all_goals exact ⟨_, rfl⟩
theorem near_L (a0 a1 a2 v : Int32) : ∀ (fu : Nat) (a b c : Int32), mX4_nearest_L81 a0 a1 a2 v fu a b c = mX5_nearest_L80 a0 a1 a2 v fu a b c := by
  intro fu
  induction fu with
  | zero => intro a b c; rfl
  | succ fu ih =>
    intro a b c
    have n1 : ¬ (1 : Int32) = 0 := by decide
    rw [mX4_nearest_L81, mX5_nearest_L80]
    by_cases h1 : 8 < a
    · rw [if_pos h1, if_pos h1]
    · rw [if_neg h1, if_neg h1]
      dsimp only [jB, nmB]
      by_cases h2 : a2 < v * v + a * a
      · rw [if_pos h2, if_pos h2, if_pos rfl, if_pos rfl, ih]
      · rw [if_neg h2, if_neg h2, near_eq]
        obtain ⟨z, hz⟩ := near_some v a c b a0 a1
        rw [hz]
        dsimp only [bnd1]
        by_cases h3 : z = 0
        · rw [if_pos h3, if_pos h3, if_pos rfl, if_pos rfl, ih]
        · rw [if_neg h3, if_neg h3, if_neg n1, if_neg n1, ih]
theorem near_LL (a0 a1 a2 : Int32) : ∀ (fu : Nat) (a b c : Int32), mX4_nearest_L71 a0 a1 a2 fu a b c = mX5_nearest_L70 a0 a1 a2 fu a b c := by
  intro fu
  induction fu with
  | zero => intro a b c; rfl
  | succ fu ih =>
    intro a b c
    rw [mX4_nearest_L71, mX5_nearest_L70, near_L]
    simp only [nmB, ih]
theorem near_Ls (a0 a1 a2 v : Int32) (n : Nat) : ∀ (fu k : Nat) (b c : Int32), k + n = 9 → n < fu → ∃ r b' c', mX5_nearest_L80 a0 a1 a2 v fu (iI k) b c = some (r, b', c') := by
  induction n with
  | zero =>
    intro fu k b c hk hf
    obtain ⟨fu, rfl⟩ : ∃ j, fu = j + 1 := ⟨fu - 1, by omega⟩
    have e8 : (8 : Int32) = iI 8 := iI_lit 8
    exact ⟨_, _, _, by rw [mX5_nearest_L80, if_pos (by rw [e8, iI_lt (by omega) (by omega) (by omega) (by omega)]; omega)]⟩
  | succ n ih =>
    intro fu k b c hk hf
    obtain ⟨fu, rfl⟩ : ∃ j, fu = j + 1 := ⟨fu - 1, by omega⟩
    have e8 : (8 : Int32) = iI 8 := iI_lit 8
    have n1 : ¬ (1 : Int32) = 0 := by decide
    have ej : iI (k : Int) + 1 = iI ((k + 1 : Nat) : Int) := by rw [iI_1, iI_add]; rfl
    rw [mX5_nearest_L80, if_neg (by rw [e8, iI_lt (by omega) (by omega) (by omega) (by omega)]; omega)]
    dsimp only [jB, nmB]
    by_cases h2 : a2 < v * v + iI k * iI k
    · rw [if_pos h2, if_pos rfl, if_pos rfl, ej]
      exact ih fu (k + 1) b c (by omega) (by omega)
    · rw [if_neg h2]
      obtain ⟨z, hz⟩ := near_some v (iI k) c b a0 a1
      rw [hz]
      dsimp only [bnd1]
      by_cases h3 : z = 0
      · rw [if_pos h3, if_pos rfl, if_pos rfl, ej]
        exact ih fu (k + 1) b c (by omega) (by omega)
      · rw [if_neg h3, if_neg n1, if_neg n1, ej]
        exact ih fu (k + 1) (iI k) v (by omega) (by omega)
theorem near_LLs (a0 a1 a2 : Int32) (n : Nat) : ∀ (fu k : Nat) (b c : Int32), k + n = 9 → n < fu → ∃ r b' c', mX5_nearest_L70 a0 a1 a2 fu (iI k) b c = some (r, b', c') := by
  induction n with
  | zero =>
    intro fu k b c hk hf
    obtain ⟨fu, rfl⟩ : ∃ j, fu = j + 1 := ⟨fu - 1, by omega⟩
    have e8 : (8 : Int32) = iI 8 := iI_lit 8
    exact ⟨_, _, _, by rw [mX5_nearest_L70, if_pos (by rw [e8, iI_lt (by omega) (by omega) (by omega) (by omega)]; omega)]⟩
  | succ n ih =>
    intro fu k b c hk hf
    obtain ⟨fu, rfl⟩ : ∃ j, fu = j + 1 := ⟨fu - 1, by omega⟩
    have e8 : (8 : Int32) = iI 8 := iI_lit 8
    have ej : iI (k : Int) + 1 = iI ((k + 1 : Nat) : Int) := by rw [iI_1, iI_add]; rfl
    obtain ⟨r, b', c', e⟩ := near_Ls a0 a1 a2 (iI k) 9 FU 0 b c (by omega) (by unfold FU; omega)
    rw [iI_n0] at e
    rw [mX5_nearest_L70, if_neg (by rw [e8, iI_lt (by omega) (by omega) (by omega) (by omega)]; omega), e]
    simp only [bnd3, nmB]
    rw [ej]
    exact ih fu (k + 1) b' c' (by omega) (by omega)
theorem SX_nearest {β : Type} (a1 a2 a3 a4 : Int32) (Kf : Nat → Option β) (F : Int32 → Option β) :
    (∃ b : Int32, lq (mxX4_nearest a1 a2 a3 a4) Kf (bnd1 (mX4_nearest a1 a2 a3 a4) F) = Kf 1 ∧ mX5_nearest a1 a2 a3 a4 = some (b, 1)) ∨
    (∃ o : Int32, lq (mxX4_nearest a1 a2 a3 a4) Kf (bnd1 (mX4_nearest a1 a2 a3 a4) F) = F o ∧ mX5_nearest a1 a2 a3 a4 = some (o, 0)) := by
  have d1 : ¬ (1 : Int32) = 0 := by decide
  have l1 : ¬ (1 : Int32) ≤ 0 := by decide
  have l0 : (0 : Int32) ≤ 0 := by decide
  have hw : ∀ a lo hi : Int32, mX5_within a lo hi = some (if a < lo ∨ hi < a then 0 else 1) := by
    intro a lo hi
    unfold mX5_within
    by_cases h1 : a < lo
    · rw [if_pos h1, if_pos (Or.inl h1)]
    · rw [if_neg h1]
      by_cases h2 : hi < a
      · rw [if_pos h2, if_pos (Or.inr h2)]
      · rw [if_neg h2, if_neg (fun q => q.elim h1 h2)]
  unfold mX5_nearest
  rw [hw, hw, hw, hw]
  dsimp only [bnd1, jB]
  by_cases g1 : a1 < 0
  · left; exact ⟨0, by unfold mxX4_nearest; dsimp only [jB]; rw [if_pos g1, if_pos rfl]; rfl, by rw [if_pos (show a1 < 0 ∨ 1000 < a1 from Or.inl g1), if_pos rfl, if_neg l1]⟩
  by_cases g2 : 1000 < a1
  · left; exact ⟨0, by unfold mxX4_nearest; dsimp only [jB]; rw [if_neg g1, if_pos g2, if_pos rfl]; rfl, by rw [if_pos (show a1 < 0 ∨ 1000 < a1 from Or.inr g2), if_pos rfl, if_neg l1]⟩
  rw [if_neg (show ¬ (a1 < 0 ∨ 1000 < a1) from fun q => q.elim g1 g2), if_neg d1]
  by_cases g3 : a2 < 1
  · left; exact ⟨0, by unfold mxX4_nearest; dsimp only [jB]; rw [if_neg g1, if_neg g2, if_pos g3, if_pos rfl]; rfl, by rw [if_pos (show a2 < 1 ∨ 1000 < a2 from Or.inl g3), if_pos rfl, if_neg l1]⟩
  by_cases g4 : 1000 < a2
  · left; exact ⟨0, by unfold mxX4_nearest; dsimp only [jB]; rw [if_neg g1, if_neg g2, if_neg g3, if_pos g4, if_pos rfl]; rfl, by rw [if_pos (show a2 < 1 ∨ 1000 < a2 from Or.inr g4), if_pos rfl, if_neg l1]⟩
  rw [if_neg (show ¬ (a2 < 1 ∨ 1000 < a2) from fun q => q.elim g3 g4), if_neg d1]
  by_cases g5 : a3 < 1
  · left; exact ⟨0, by unfold mxX4_nearest; dsimp only [jB]; rw [if_neg g1, if_neg g2, if_neg g3, if_neg g4, if_neg d1, if_pos g5, if_pos rfl]; rfl, by rw [if_pos (show a3 < 1 ∨ 128 < a3 from Or.inl g5), if_pos rfl, if_neg l1]⟩
  by_cases g6 : 128 < a3
  · left; exact ⟨0, by unfold mxX4_nearest; dsimp only [jB]; rw [if_neg g1, if_neg g2, if_neg g3, if_neg g4, if_neg d1, if_neg g5, if_pos g6, if_pos rfl]; rfl, by rw [if_pos (show a3 < 1 ∨ 128 < a3 from Or.inr g6), if_pos rfl, if_neg l1]⟩
  rw [if_neg (show ¬ (a3 < 1 ∨ 128 < a3) from fun q => q.elim g5 g6), if_neg d1]
  by_cases g7 : a4 < 0
  · left; exact ⟨0, by unfold mxX4_nearest; dsimp only [jB]; rw [if_neg g1, if_neg g2, if_neg g3, if_neg g4, if_neg d1, if_neg g5, if_neg g6, if_pos g7, if_pos rfl]; rfl, by rw [if_pos (show a4 < 0 ∨ 2 < a4 from Or.inl g7), if_pos rfl, if_neg l1]⟩
  by_cases g8 : 2 < a4
  · left; exact ⟨0, by unfold mxX4_nearest; dsimp only [jB]; rw [if_neg g1, if_neg g2, if_neg g3, if_neg g4, if_neg d1, if_neg g5, if_neg g6, if_neg g7, if_pos g8, if_pos rfl]; rfl, by rw [if_pos (show a4 < 0 ∨ 2 < a4 from Or.inr g8), if_pos rfl, if_neg l1]⟩
  right
  rw [if_neg (show ¬ (a4 < 0 ∨ 2 < a4) from fun q => q.elim g7 g8), if_neg d1, if_pos l0]
  obtain ⟨r, b', c', e⟩ := near_LLs a1 a2 a3 8 FU 1 0 1 (by omega) (by unfold FU; omega)
  have e' : mX5_nearest_L70 a1 a2 a3 FU 1 0 1 = some (r, b', c') := by
    have e1 : iI ((1 : Nat) : Int) = 1 := by decide +kernel
    rw [e1] at e
    exact e
  rw [e']
  have hx : mxX4_nearest a1 a2 a3 a4 = none := by
    unfold mxX4_nearest; dsimp only [jB]; rw [if_neg g1, if_neg g2, if_neg g3, if_neg g4, if_neg d1, if_neg g5, if_neg g6, if_neg g7, if_neg g8, if_neg d1]
  have hm : mX4_nearest a1 a2 a3 a4 = if a4 = 2 then some (if 0 ≤ c' * a1 - b' * a2 then c' * a1 - b' * a2 else 0 - (c' * a1 - b' * a2)) else if a4 = 0 then some c' else some b' := by
    unfold mX4_nearest; dsimp only [jB]; rw [if_neg g1, if_neg g2, if_neg g3, if_neg g4]; simp only [gz, if_neg d1]; rw [if_neg g5, if_neg g6, if_neg g7, if_neg g8, near_LL, e']
    rfl
  rw [hx]
  simp only [lq, bnd3]
  rw [hm, X5_abs']
  dsimp only
  by_cases h0 : a4 = 0
  · subst h0
    exact ⟨c', by rw [if_neg (by decide), if_pos rfl], by rw [if_pos rfl]⟩
  · by_cases h1 : a4 = 1
    · subst h1
      exact ⟨b', by rw [if_neg (by decide), if_neg (by decide)], by rw [if_neg (by decide), if_pos rfl]⟩
    · have h2 : a4 = 2 := by
        obtain ⟨q, rfl, q0, q9⟩ := i32_of a4
        rw [iI_neg' q0 q9] at g7
        rw [iI_2, iI_lt (by omega) (by omega) q0 q9] at g8
        rw [iI_eq0 q0 q9] at h0
        rw [iI_1, iI_inj q0 q9 (by omega) (by omega)] at h1
        have : q = 2 := by omega
        rw [this, iI_2]
      subst h2
      exact ⟨_, by rw [if_pos rfl], by rw [if_neg (by decide), if_neg (by decide)]⟩
-- ===== counts, the input, gain =====
section Counts
variable {X : Nat → Scr} {th v so im ti : Nat → Int32} {D : Nat → TD} {β : Type}
def cA (X : Nat → Scr) (D : Nat → TD) (j : Nat) : Int32 := if prs X j = true then iI ((D j).N : Nat) else 0
def cT (X : Nat → Scr) (D : Nat → TD) (j : Nat) : Int32 := if prs X j = true then iI (D j).t else 0
def c1 (X : Nat → Scr) (j : Nat) : Int32 := if prs X j = true then 1 else 0
def cQ (X : Nat → Scr) (D : Nat → TD) (q : Int32) (j : Nat) : Int32 := if q = 0 then c1 X j else if q = 1 then cA X D j else cT X D j
theorem count_step (P : PD X th v so im ti D) {j : Nat} (hj : j < 3) (F : Int32 → Option β) (a0 acc : Int32) : jB F (fun K => if (X j).pr = 0 then K acc else (if a0 = 0 then (nmB (acc + 1) fun x => K x) else (if a0 = 1 then (bnd1 (mX3_area (X j).w (X j).h) fun r => nmB (acc + r) fun x => K x) else (nmB (acc + (X j).ti) fun x => K x)))) = F (acc + cQ X D a0 j) := by
  have n1 : ¬ (1 : Int32) = 0 := by decide
  dsimp only [jB, nmB]
  unfold cQ c1 cA cT
  rcases P j hj with ⟨hp, -⟩ | ⟨hp, -, S⟩
  · rw [if_pos hp, prs_no hp]
    simp only [Bool.false_eq_true, if_false, ite_self, Int32.add_zero]
  · have hA := S.areaC
    obtain ⟨-, -, -, -, ⟨-, -, -, -, -, -, f7, -⟩, -⟩ := id S
    rw [if_neg (show ¬ (X j).pr = 0 by rw [hp]; exact n1), prs_is hp]
    simp only [if_true]
    by_cases h0 : a0 = 0
    · rw [if_pos h0, if_pos h0]
    · rw [if_neg h0, if_neg h0]
      by_cases h1 : a0 = 1
      · rw [if_pos h1, if_pos h1, hA]
        rfl
      · rw [if_neg h1, if_neg h1, f7]
theorem count_step0 (P : PD X th v so im ti D) (F : Int32 → Option β) (a0 : Int32) : jB F (fun K => if (X 0).pr = 0 then K 0 else (if a0 = 0 then K 1 else (if a0 = 1 then (bnd1 (mX3_area (X 0).w (X 0).h) fun r => nmB (0 + r) fun x => K x) else (nmB (0 + (X 0).ti) fun x => K x)))) = F (0 + cQ X D a0 0) := count_step P (by omega) F a0 0
theorem counted_steps (P : PD X th v so im ti D) : mX5_counted_L7 th v ti FU 0 0 0 = some (iI 3, 0 + cT X D 0 + cT X D 1 + cT X D 2, 0 + cA X D 0 + cA X D 1 + cA X D 2) ∧ mX5_screens_L4 th FU 0 0 = some (iI 3, 0 + c1 X 0 + c1 X 1 + c1 X 2) := by
  have n1 : ¬ (1 : Int32) = 0 := by decide
  have step : ∀ (j : Nat) (hj : j < 3) (fu : Nat) (a b : Int32), mX5_counted_L7 th v ti (fu + 1) (iI j) a b = mX5_counted_L7 th v ti fu (iI ((j + 1 : Nat) : Int)) (a + cT X D j) (b + cA X D j) := by
    intro j hj fu a b
    have ej : iI (j : Int) + 1 = iI ((j + 1 : Nat) : Int) := by rw [iI_1, iI_add]; rfl
    rw [mX5_counted_L7, if_neg (by rw [iI_3, iI_le (by omega) (by omega) (by omega) (by omega)]; omega), gdk hj]
    dsimp only [jB, nmB]
    rw [clk (by omega), ej]
    unfold cT cA
    rcases P j hj with ⟨hp, ht⟩ | ⟨hp, ht, S⟩
    · rw [if_pos ht, gdk hj, if_pos ht, prs_no hp, if_neg (by decide), if_neg (by decide)]
    · have hA := SD.areaIn hj S
      obtain ⟨-, -, -, -, -, -, -, -, -, -, -, g12⟩ := id S
      rw [if_neg (by rw [ht]; exact n1), hA]
      simp only [bnd1]
      rw [gdk hj, if_neg (by rw [ht]; exact n1), gdk hj, prs_is hp, if_pos rfl, if_pos rfl, g12]
  have step2 : ∀ (j : Nat) (hj : j < 3) (fu : Nat) (a : Int32), mX5_screens_L4 th (fu + 1) (iI j) a = mX5_screens_L4 th fu (iI ((j + 1 : Nat) : Int)) (a + c1 X j) := by
    intro j hj fu a
    have ej : iI (j : Int) + 1 = iI ((j + 1 : Nat) : Int) := by rw [iI_1, iI_add]; rfl
    rw [mX5_screens_L4, if_neg (by rw [iI_3, iI_le (by omega) (by omega) (by omega) (by omega)]; omega), gdk hj]
    dsimp only [nmB]
    rw [clk (by omega), ej]
    unfold c1
    rcases P j hj with ⟨hp, ht⟩ | ⟨hp, ht, S⟩
    · rw [if_pos ht, prs_no hp, if_neg (by decide)]
    · rw [if_neg (by rw [ht]; exact n1), prs_is hp, if_pos rfl]
  constructor
  · have q1 := step 0 (by omega) 999999 0 0
    have q2 := step 1 (by omega) 999998 (0 + cT X D 0) (0 + cA X D 0)
    have q3 := step 2 (by omega) 999997 (0 + cT X D 0 + cT X D 1) (0 + cA X D 0 + cA X D 1)
    refine q1.trans (q2.trans (q3.trans ?_))
    rw [mX5_counted_L7, if_pos (by rw [iI_3, iI_le (by omega) (by omega) (by omega) (by omega)]; omega)]
    rfl
  · have q1 := step2 0 (by omega) 999999 0
    have q2 := step2 1 (by omega) 999998 (0 + c1 X 0)
    have q3 := step2 2 (by omega) 999997 (0 + c1 X 0 + c1 X 1)
    refine q1.trans (q2.trans (q3.trans ?_))
    rw [mX5_screens_L4, if_pos (by rw [iI_3, iI_le (by omega) (by omega) (by omega) (by omega)]; omega)]
    rfl
theorem R_screens (P : PD X th v so im ti D) : mX5_screens th = some (0 + c1 X 0 + c1 X 1 + c1 X 2) := by
  unfold mX5_screens
  rw [(counted_steps P).2]
  rfl
def cnt5 (X : Nat → Scr) (D : Nat → TD) (g sz q : Int32) : Int32 := if q = 3 then g else if q = 4 then sz else 0 + cQ X D q 0 + cQ X D q 1 + cQ X D q 2
theorem X4_cntg {q : Int} (h1 : -2147483648 ≤ q) (h2 : q < 2147483648) {α : Type} (G : Int32 → α) : jB G (fun K => if iI q < 0 then K 0 else if 4 < iI q then K 0 else K 1) = G (if 0 ≤ q ∧ q ≤ 4 then 1 else 0) := X4_07 (hi := 4) h1 h2 G (by omega)
theorem X4_count_ok (P : PD X th v so im ti D) (g sz : Int32) {q : Int} (q0 : 0 ≤ q) (q4 : q ≤ 4) : mX4_count g sz (X 0).pr (X 0).ti (X 0).w (X 0).h (X 1).pr (X 1).ti (X 1).w (X 1).h (X 2).pr (X 2).ti (X 2).w (X 2).h (iI q) = some (cnt5 X D g sz (iI q)) := by
  have d1 : ¬ (1 : Int32) = 0 := by decide
  unfold mX4_count
  rw [X4_cntg (by omega) (by omega), if_pos (show 0 ≤ q ∧ q ≤ 4 from ⟨q0, q4⟩)]
  simp only [gz, if_neg d1]
  unfold cnt5
  by_cases h3 : iI q = 3
  · rw [if_pos h3, if_pos h3]
  · rw [if_neg h3, if_neg h3]
    by_cases h4 : iI q = 4
    · rw [if_pos h4, if_pos h4]
    · rw [if_neg h4, if_neg h4, count_step0 P, count_step P (j := 1) (by omega), count_step P (j := 2) (by omega)]
theorem R_counted_ok (P : PD X th v so im ti D) (g sz : Int32) {q : Int} (q0 : 0 ≤ q) (q4 : q ≤ 4) : mX5_counted g sz th v ti (iI q) = some (cnt5 X D g sz (iI q)) := by
  unfold mX5_counted
  rw [(counted_steps P).1, R_screens P]
  simp only [bnd3, bnd1]
  obtain ⟨n, rfl⟩ : ∃ n : Nat, q = n := ⟨q.toNat, by omega⟩
  have hn : n < 5 := by omega
  unfold cnt5 cQ
  have : n = 0 ∨ n = 1 ∨ n = 2 ∨ n = 3 ∨ n = 4 := by omega
  have z0 : ∀ {a b : Int32} (P : a = b), P = P := fun _ => rfl
  rcases this with rfl | rfl | rfl | rfl | rfl
  · rw [if_pos (by decide +kernel), if_neg (by decide +kernel), if_neg (by decide +kernel), if_pos (by decide +kernel), if_pos (by decide +kernel), if_pos (by decide +kernel)]
  · rw [if_neg (by decide +kernel), if_pos (by decide +kernel), if_neg (by decide +kernel), if_neg (by decide +kernel), if_neg (by decide +kernel), if_pos (by decide +kernel), if_neg (by decide +kernel), if_pos (by decide +kernel), if_neg (by decide +kernel), if_pos (by decide +kernel)]
  · rw [if_neg (by decide +kernel), if_neg (by decide +kernel), if_pos (by decide +kernel), if_neg (by decide +kernel), if_neg (by decide +kernel), if_neg (by decide +kernel), if_neg (by decide +kernel), if_neg (by decide +kernel), if_neg (by decide +kernel), if_neg (by decide +kernel), if_neg (by decide +kernel)]
  · rw [if_neg (by decide +kernel), if_neg (by decide +kernel), if_neg (by decide +kernel), if_pos (by decide +kernel), if_pos (by decide +kernel)]
  · rw [if_neg (by decide +kernel), if_neg (by decide +kernel), if_neg (by decide +kernel), if_neg (by decide +kernel), if_neg (by decide +kernel), if_pos (by decide +kernel)]
theorem SX_count (P : PD X th v so im ti D) (g sz a1 : Int32) (Kf : Nat → Option β) (F : Int32 → Option β) :
    (∃ b : Int32, lq (mxX4_count a1) Kf (bnd1 (mX4_count g sz (X 0).pr (X 0).ti (X 0).w (X 0).h (X 1).pr (X 1).ti (X 1).w (X 1).h (X 2).pr (X 2).ti (X 2).w (X 2).h a1) F) = Kf 1 ∧ mX5_count g sz th v ti a1 = some (b, 1)) ∨
    (∃ o : Int32, lq (mxX4_count a1) Kf (bnd1 (mX4_count g sz (X 0).pr (X 0).ti (X 0).w (X 0).h (X 1).pr (X 1).ti (X 1).w (X 1).h (X 2).pr (X 2).ti (X 2).w (X 2).h a1) F) = F o ∧ mX5_count g sz th v ti a1 = some (o, 0)) := by
  obtain ⟨q, rfl, q0, q9⟩ := i32_of a1
  have d1 : ¬ (1 : Int32) = 0 := by decide
  have l1 : ¬ (1 : Int32) ≤ 0 := by decide
  have l0 : (0 : Int32) ≤ 0 := by decide
  have hw : mX5_within (iI q) 0 4 = some (if 0 ≤ q ∧ q ≤ 4 then 1 else 0) := by
    rw [iI_0, iI_4, X5_within q0 q9 (by omega) (by omega) (by omega) (by omega)]
    rw [← iI_0]
  unfold mxX4_count mX5_count
  rw [X4_cntg q0 q9, hw]
  dsimp only [bnd1, jB]
  by_cases h : 0 ≤ q ∧ q ≤ 4
  · right
    rw [if_pos h, if_neg d1, if_neg d1, X4_count_ok P g sz h.1 h.2, R_counted_ok P g sz h.1 h.2, if_pos l0]
    exact ⟨_, rfl, rfl⟩
  · left
    rw [if_neg h, if_pos rfl, if_pos rfl, if_neg l1]
    exact ⟨0, rfl, rfl⟩
/-- the present screens after one was removed -/
theorem count0 (P : PD X th v so im ti D) (g sz : Int32) : ∃ o, mX4_count g sz (X 0).pr (X 0).ti (X 0).w (X 0).h (X 1).pr (X 1).ti (X 1).w (X 1).h (X 2).pr (X 2).ti (X 2).w (X 2).h 0 = some o ∧ mX5_screens th = some o := by
  have e := X4_count_ok P g sz (q := 0) (by omega) (by omega)
  have e2 := R_counted_ok P g sz (q := 0) (by omega) (by omega)
  rw [← iI_0] at e e2
  refine ⟨_, e, ?_⟩
  unfold mX5_counted at e2
  rw [(counted_steps P).1, R_screens P] at e2
  simp only [bnd3, bnd1, if_true] at e2
  rw [R_screens P]
  exact e2
end Counts
theorem SX_setGain {β : Type} (g a1 : Int32) (Kf : Nat → Option β) (F : Int32 → Int32 → Option β) :
    (∃ b : Int32, lq (mxX4_setGain a1) Kf (bnd2 (mX4_setGain g a1) F) = Kf 1 ∧ mX5_setGain g a1 = some (b, 1, g)) ∨
    (∃ z : Int, 0 ≤ z ∧ z ≤ 100 ∧ a1 = iI z ∧ lq (mxX4_setGain a1) Kf (bnd2 (mX4_setGain g a1) F) = F g a1 ∧ mX5_setGain g a1 = some (g, 0, a1)) := by
  obtain ⟨q, rfl, q0, q9⟩ := i32_of a1
  have d1 : ¬ (1 : Int32) = 0 := by decide
  have l1 : ¬ (1 : Int32) ≤ 0 := by decide
  have l0 : (0 : Int32) ≤ 0 := by decide
  have e100 : (100 : Int32) = iI 100 := iI_lit 100
  have cs1 : (iI q < 0) ↔ q < 0 := iI_neg' q0 q9
  have cs2 : (100 < iI q) ↔ 100 < q := by rw [e100, iI_lt (by omega) (by omega) q0 q9]
  unfold mxX4_setGain mX4_setGain mX5_setGain mX5_within
  dsimp only [bnd1, jB]
  by_cases h1 : q < 0
  · left
    rw [if_pos (cs1.mpr h1), if_pos (cs1.mpr h1), if_pos (cs1.mpr h1)]
    exact ⟨0, rfl, by dsimp only; rw [if_pos rfl, if_neg l1]⟩
  · rw [if_neg (fun z => h1 (cs1.mp z)), if_neg (fun z => h1 (cs1.mp z)), if_neg (fun z => h1 (cs1.mp z))]
    by_cases h2 : 100 < q
    · left
      rw [if_pos (cs2.mpr h2), if_pos (cs2.mpr h2), if_pos (cs2.mpr h2)]
      exact ⟨0, rfl, by dsimp only; rw [if_pos rfl, if_neg l1]⟩
    · right
      rw [if_neg (fun z => h2 (cs2.mp z)), if_neg (fun z => h2 (cs2.mp z)), if_neg (fun z => h2 (cs2.mp z))]
      exact ⟨q, by omega, by omega, rfl, rfl, by dsimp only; rw [if_neg d1, if_pos l0]⟩
theorem SX_append {β : Type} {n : Nat} (hn : n ≤ 20) (codes buf : Nat → Int32) (hcb : ∀ i, i < n → codes i = buf i) (a1 : Int32) (Kf : Nat → Option β) (F : Int32 → Int32 → (Nat → Int32) → Option β) :
    (∃ (kk : Nat) (b t : Int32), lq (mxX4_append (iI (n : Int)) a1) Kf (bnd3 (mX4_append (iI (n : Int)) codes a1) F) = Kf kk ∧ mX5_append (iI (n : Int)) buf a1 = some (b, t, iI (n : Int), buf) ∧ ((kk = 1 ∧ t = 1) ∨ (kk = 2 ∧ t = 2))) ∨
    (n + 1 ≤ 20 ∧ lq (mxX4_append (iI (n : Int)) a1) Kf (bnd3 (mX4_append (iI (n : Int)) codes a1) F) = F (iI ((n + 1 : Nat) : Int)) (iI ((n + 1 : Nat) : Int)) (upd codes n a1) ∧ mX5_append (iI (n : Int)) buf a1 = some (iI ((n + 1 : Nat) : Int), 0, iI ((n + 1 : Nat) : Int), upd buf n a1)) := by
  have d1 : ¬ (1 : Int32) = 0 := by decide
  have l1 : ¬ (1 : Int32) ≤ 0 := by decide
  have l2 : ¬ (2 : Int32) ≤ 0 := by decide
  have l0 : (0 : Int32) ≤ 0 := by decide
  have e20 : (20 : Int32) = iI 20 := iI_lit 20
  have ej : iI (n : Int) + 1 = iI ((n + 1 : Nat) : Int) := by rw [iI_1, iI_add]; rfl
  have cs : (20 ≤ iI (n : Int)) ↔ n = 20 := by rw [e20, iI_le (by omega) (by omega) (by omega) (by omega)]; omega
  have cs' : (iI (n : Int) = 20) ↔ n = 20 := by rw [e20, iI_inj (by omega) (by omega) (by omega) (by omega)]; omega
  unfold mxX4_append mX5_append mX5_within
  dsimp only [bnd1, jB]
  by_cases h1 : a1 < 32
  · left
    rw [if_pos h1, if_pos h1]
    simp only [if_true]
    exact ⟨1, 0, 1, rfl, by rw [if_neg l1], Or.inl ⟨rfl, rfl⟩⟩
  · rw [if_neg h1, if_neg h1]
    by_cases h2 : 126 < a1
    · left
      rw [if_pos h2, if_pos h2]
      simp only [if_true]
      exact ⟨1, 0, 1, rfl, by rw [if_neg l1], Or.inl ⟨rfl, rfl⟩⟩
    · rw [if_neg h2, if_neg h2]
      simp only [if_neg d1]
      by_cases h3 : n = 20
      · left
        rw [if_pos (cs.mpr h3), if_pos (cs'.mpr h3), if_neg l2]
        exact ⟨2, 0, 2, rfl, rfl, Or.inr ⟨rfl, rfl⟩⟩
      · right
        rw [if_neg (fun z => h3 (cs.mp z)), if_neg (fun z => h3 (cs'.mp z)), if_pos l0]
        refine ⟨by omega, ?_, ?_⟩
        · have hM : mX4_append (iI (n : Int)) codes a1 = some (iI ((n + 1 : Nat) : Int), iI ((n + 1 : Nat) : Int), upd codes n a1) := by
            unfold mX4_append
            dsimp only [jB]
            rw [if_neg h1, if_neg h2]
            dsimp only [gz]
            rw [if_neg d1, if_neg (fun z => h3 (cs.mp z))]
            unfold mX1_add
            rw [iI_nat, X4_put (by omega) (by omega)]
            simp only [bnd1, nmB]
            rw [← iI_nat, ej]
            rfl
          rw [hM]
          rfl
        · rw [gdI (by omega) (by omega) (by omega), clk (by omega)]
          simp only [nmB]
          rw [ej]
theorem SX_firstError {n : Nat} (hn : n ≤ 20) {codes buf : Nat → Int32} (hcb : ∀ i, i < n → codes i = buf i) (pA qA : Nat → Int32) :
    ∃ (o r1 r2 r3 r4 r5 : Int32) (pA' : Nat → Int32) (s1 s2 s3 s4 s5 : Int32) (qA' : Nat → Int32), mX4_firstError (iI (n : Int)) codes pA = some (o, r1, r2, r3, r4, r5, pA') ∧ mX5_firstError (iI (n : Int)) buf qA = some (o, 0, s1, s2, s3, s4, s5, qA') := by
  obtain ⟨i, r1, r2, r3, r4, r5, pA', s1, s2, s3, s4, s5, qA', -, e1, e2, -⟩ := read_all hn hcb pA qA
  refine ⟨iI i, r1, r2, r3, r4, r5, pA', s1, s2, s3, s4, s5, qA', ?_, ?_⟩
  · unfold mX4_firstError
    rw [e1]
    rfl
  · unfold mX5_firstError
    rw [e2]
    rfl
