set_option maxHeartbeats 4000000
/-- a basis of a cell of any size that comes up -/
def BB (w s h : Int) : Prop := 0 < w ∧ w ≤ 4096 ∧ 0 ≤ s ∧ s < w ∧ 0 < h ∧ h ≤ 4096
theorem quot_facts {a b : Int} (ha : 0 < a) (hb : 0 < b) : 0 < a / (Int.gcd a b : Int) ∧ a / (Int.gcd a b : Int) ≤ a ∧ a / (Int.gcd a b : Int) * (Int.gcd a b : Int) = a := by
  have hg := gcd_pos' (b := b) ha
  have hd := Int.gcd_dvd_left a b
  refine ⟨Int.ediv_pos_of_pos_of_dvd ha (by omega) hd, ?_, Int.ediv_mul_cancel hd⟩
  have h1 := Int.ediv_mul_cancel hd
  have h2 : a / (Int.gcd a b : Int) * 1 ≤ a / (Int.gcd a b : Int) * (Int.gcd a b : Int) := Int.mul_le_mul_of_nonneg_left (by omega) (Int.ediv_nonneg (by omega) (by omega))
  omega
theorem mul_le' {a b A B : Int} (h1 : 0 ≤ a) (h2 : a ≤ A) (h3 : 0 ≤ b) (h4 : b ≤ B) : 0 ≤ a * b ∧ a * b ≤ A * B := ⟨Int.mul_nonneg h1 h3, Int.mul_le_mul h2 h4 h3 (by omega)⟩
/-- the numbers that both sides compute for what two lattices have in common -/
theorem meet_nums {w1 s1 h1 w2 s2 h2 X1 Y1 X2 Y2 : Int} (p1 : 0 < w1) (p2 : 0 < h1) (p3 : 0 < w2) (p4 : 0 < h2) (q1 : 0 ≤ s1) (q2 : s1 < w1) (q3 : 0 ≤ s2) (q4 : s2 < w2) (b1 : w1 ≤ X1) (b2 : h1 ≤ Y1) (b3 : w2 ≤ X2) (b4 : h2 ≤ Y2) :
    ∃ g k R d c T : Int, g = (Int.gcd w1 w2 : Int) ∧ k = (Int.gcd h1 h2 : Int) ∧ 0 < g ∧ g ≤ w1 ∧ g ≤ w2 ∧ 0 < k ∧ k ≤ h1 ∧ R = h1 / k * h2 ∧ R = h1 * d ∧ R = h2 * c ∧ 0 < d ∧ d ≤ h2 ∧ 0 < c ∧ c ≤ h1 ∧ R / h1 = d ∧ R / h2 = c ∧
      T = g / (Int.gcd g (d * s1 - c * s2) : Int) ∧ 0 < T ∧ T ≤ g ∧ 0 < (Int.gcd g (d * s1 - c * s2) : Int) ∧ w1 / g * w2 * (T * R) ≤ w1 * h1 * (w2 * h2) ∧ 0 < w1 / g * w2 := by
  have hg := gcd_pos' (b := w2) p1
  have hg1 := gcd_le' (b := w2) p1
  have hg2 : (Int.gcd w1 w2 : Int) ≤ w2 := Int.gcd_le_right w1 p3
  have hk := gcd_pos' (b := h2) p2
  have hk1 := gcd_le' (b := h2) p2
  have hk2 : (Int.gcd h1 h2 : Int) ≤ h2 := Int.gcd_le_right h1 p4
  obtain ⟨u1, u2, u3⟩ := quot_facts p2 p4
  obtain ⟨v1, v2, v3⟩ := quot_facts p1 p3
  obtain ⟨d, ed⟩ := Int.gcd_dvd_right h1 h2
  obtain ⟨c, ec⟩ := Int.gcd_dvd_left h1 h2
  have hc : h1 / (Int.gcd h1 h2 : Int) = c := Int.ediv_eq_of_eq_mul_right (by omega) ec
  have hd0 : 0 < d := Int.pos_of_mul_pos_left (by rw [Int.mul_comm]; omega : 0 < d * (Int.gcd h1 h2 : Int)) hk
  have hd1 : d ≤ h2 := by
    have : 1 * d ≤ (Int.gcd h1 h2 : Int) * d := Int.mul_le_mul_of_nonneg_right (by omega) (by omega)
    omega
  rw [hc] at u1 u2 u3
  have eR1 : c * h2 = h1 * d := by rw [ed]; conv => rhs; rw [ec]
                                   grind
  have eR2 : c * h2 = h2 * c := Int.mul_comm _ _
  have hT := gcd_pos' (a := (Int.gcd w1 w2 : Int)) (b := d * s1 - c * s2) hg
  have hT2 : 0 < (Int.gcd w1 w2 : Int) / (Int.gcd (Int.gcd w1 w2 : Int) (d * s1 - c * s2) : Int) := Int.ediv_pos_of_pos_of_dvd hg (by omega) (Int.gcd_dvd_left _ _)
  have hT3 := Int.ediv_mul_cancel (Int.gcd_dvd_left (Int.gcd w1 w2 : Int) (d * s1 - c * s2))
  have hT4 : (Int.gcd w1 w2 : Int) / (Int.gcd (Int.gcd w1 w2 : Int) (d * s1 - c * s2) : Int) ≤ (Int.gcd w1 w2 : Int) := by
    have : (Int.gcd w1 w2 : Int) / (Int.gcd (Int.gcd w1 w2 : Int) (d * s1 - c * s2) : Int) * 1 ≤ (Int.gcd w1 w2 : Int) / (Int.gcd (Int.gcd w1 w2 : Int) (d * s1 - c * s2) : Int) * (Int.gcd (Int.gcd w1 w2 : Int) (d * s1 - c * s2) : Int) := Int.mul_le_mul_of_nonneg_left (by omega) (by omega)
    omega
  refine ⟨(Int.gcd w1 w2 : Int), (Int.gcd h1 h2 : Int), c * h2, d, c, (Int.gcd w1 w2 : Int) / (Int.gcd (Int.gcd w1 w2 : Int) (d * s1 - c * s2) : Int), rfl, rfl, hg, hg1, hg2, hk, hk1, by rw [hc], eR1, eR2, hd0, hd1, u1, u2, by rw [eR1, Int.mul_ediv_cancel_left _ (by omega)], by rw [eR2, Int.mul_ediv_cancel_left _ (by omega)], rfl, hT2, hT4, hT, ?_, Int.mul_pos v1 p3⟩
  generalize (Int.gcd w1 w2 : Int) / (Int.gcd (Int.gcd w1 w2 : Int) (d * s1 - c * s2) : Int) = T at *
  generalize hA : w1 / (Int.gcd w1 w2 : Int) = A at *
  generalize (Int.gcd w1 w2 : Int) = g at *
  have r1 : T * (c * h2) ≤ g * (h1 * h2) := (mul_le' (by omega) hT4 (Int.mul_nonneg (by omega) (by omega)) (mul_le' (by omega) u2 (by omega) (Int.le_refl h2)).2).2
  have r2 : A * w2 * (T * (c * h2)) ≤ A * w2 * (g * (h1 * h2)) := Int.mul_le_mul_of_nonneg_left r1 (Int.mul_nonneg (by omega) (by omega))
  have r3 : A * w2 * (g * (h1 * h2)) = (A * g) * h1 * (w2 * h2) := by grind
  rw [r3, v3] at r2
  exact r2
theorem X2_keep_L {w ow its T x0 : Int} (hw : 0 < w) (hw' : w ≤ 4096) (ho : 0 < ow) (ho' : ow ≤ 64) (hi0 : 0 ≤ T * its) (hi1 : T * its ≤ 100000000) (hx0 : 0 ≤ x0) (hx1 : x0 ≤ 4096) (n : Nat) : ∀ (fu k : Nat), ((k + n : Nat) : Int) < ow → n < fu → ow ∣ ((k + n : Nat) : Int) * w - (T * its - x0) →
    ∃ (r : Int32) (j : Nat), mX2_keepCommon_L98 (iI w) (iI ow) (iI its) (iI T) fu (iI k) (iI (x0 + (k : Int) * w)) = some (r, iI (x0 + (j : Int) * w)) ∧ j ≤ k + n ∧ ow ∣ (j : Int) * w - (T * its - x0) := by
  induction n with
  | zero =>
    intro fu k hk hf hv
    obtain ⟨fu, rfl⟩ : ∃ k, fu = k + 1 := ⟨fu - 1, by omega⟩
    rw [Nat.add_zero] at hv hk
    have m := mul_le' (a := (k : Int)) (b := w) (A := 64) (B := 4096) (by omega) (by omega) (by omega) hw'
    refine ⟨iI k, k, ?_, by omega, hv⟩
    rw [mX2_keepCommon_L98, if_neg (by rw [iI_le (by omega) (by omega) (by omega) (by omega)]; omega), iI_mul, iI_sub, X4_mod (by omega) (by omega) ho (by omega)]
    simp only [bnd1]
    have e : x0 + (k : Int) * w - T * its = (k : Int) * w - (T * its - x0) := by omega
    rw [e, Int.emod_eq_zero_of_dvd hv, if_pos iI_0.symm]
  | succ n ih =>
    intro fu k hk hf hv
    obtain ⟨fu, rfl⟩ : ∃ k, fu = k + 1 := ⟨fu - 1, by omega⟩
    have m := mul_le' (a := (k : Int)) (b := w) (A := 64) (B := 4096) (by omega) (by omega) (by omega) hw'
    have e : x0 + (k : Int) * w - T * its = (k : Int) * w - (T * its - x0) := by omega
    by_cases hv0 : ow ∣ (k : Int) * w - (T * its - x0)
    · refine ⟨iI k, k, ?_, by omega, hv0⟩
      rw [mX2_keepCommon_L98, if_neg (by rw [iI_le (by omega) (by omega) (by omega) (by omega)]; omega), iI_mul, iI_sub, X4_mod (by omega) (by omega) ho (by omega)]
      simp only [bnd1]
      rw [e, Int.emod_eq_zero_of_dvd hv0, if_pos iI_0.symm]
    · obtain ⟨r, j, f1, f2, f3⟩ := ih fu (k + 1) (by omega) (by omega) (by rw [show k + 1 + n = k + (n + 1) by omega]; exact hv)
      refine ⟨r, j, ?_, by omega, f3⟩
      have hne : (x0 + (k : Int) * w - T * its) % ow ≠ 0 := fun q => hv0 (by rw [← e]; exact Int.dvd_of_emod_eq_zero q)
      have r0 := Int.emod_nonneg (x0 + (k : Int) * w - T * its) (show ow ≠ 0 by omega)
      have r1 := Int.emod_lt_of_pos (x0 + (k : Int) * w - T * its) ho
      rw [mX2_keepCommon_L98, if_neg (by rw [iI_le (by omega) (by omega) (by omega) (by omega)]; omega), iI_mul, iI_sub, X4_mod (by omega) (by omega) ho (by omega)]
      simp only [bnd1]
      rw [if_neg (by rw [iI_eq0 (by omega) (by omega)]; exact hne)]
      simp only [nmB]
      have e2 : x0 + (k : Int) * w + w = x0 + ((k + 1 : Nat) : Int) * w := by
        have : ((k + 1 : Nat) : Int) = (k : Int) + 1 := rfl
        rw [this, Int.add_mul]; omega
      rw [iI_add, iI_1, iI_add, e2, ← f1]
      rfl
theorem X2_keepCommon {w s h ow os oh : Int} (B : BB w s h) (O : SB ow os oh) :
    ∃ W x H, mX2_keepCommon (iI w) (iI s) (iI h) (iI ow) (iI os) (iI oh) = some (iI W, iI x, iI H) ∧ HB (fun X Y => InL w s h X Y ∧ InL ow os oh X Y) W x H ∧ W * H ≤ w * h * (ow * oh) := by
  obtain ⟨b1, b2, b3, b4, b5, b6⟩ := B
  obtain ⟨o1, o2, o3, o4, o5, o6⟩ := O
  obtain ⟨g, k, R, d, c, T, eg, ek, g0, g1, g2, k0, k1, eR, eR1, eR2, d0, d1, c0, c1, q1, q2, eT, T0, T1, D0, harea, W0⟩ := meet_nums b1 b5 o1 o5 b3 b4 o3 o4 (Int.le_refl w) (Int.le_refl h) (Int.le_refl ow) (Int.le_refl oh)
  have n1 := mul_le' (a := c) (b := oh) (A := 4096) (B := 64) (by omega) (by omega) (by omega) (by omega)
  have hR : R = c * oh := by rw [eR2, Int.mul_comm]
  have n2 := mul_le' (a := d) (b := s) (A := 64) (B := 4096) (by omega) (by omega) (by omega) (by omega)
  have n3 := mul_le' (a := c) (b := os) (A := 4096) (B := 64) (by omega) (by omega) (by omega) (by omega)
  have n4 := mul_le' (a := T) (b := d * s) (A := 64) (B := 64 * 4096) (by omega) (by omega) (by omega) (by omega)
  have n5 := mul_le' (a := T) (b := c * os) (A := 64) (B := 4096 * 64) (by omega) (by omega) (by omega) (by omega)
  have n6 := mul_le' (a := w / g) (b := ow) (A := 4096) (B := 64) (by have := Int.ediv_nonneg (show 0 ≤ w by omega) (show 0 ≤ g by omega); exact this) (Int.le_trans (Int.ediv_le_self _ (by omega)) b2) (by omega) (by omega)
  have hx0 := Int.emod_nonneg (T * (d * s)) (show w ≠ 0 by omega)
  have hx1 := Int.emod_lt_of_pos (T * (d * s)) b1
  have hxe := Int.mul_ediv_add_emod (T * (d * s)) w
  have hgc : (Int.gcd w ow : Int) ∣ T * (c * os) - T * (d * s) % w := by
    have h1 : T * (c * os) - T * (d * s) % w = w * (T * (d * s) / w) - T * (d * s - c * os) := by rw [Int.mul_sub]; omega
    rw [h1]
    refine Int.dvd_sub (Int.dvd_mul_of_dvd_left (Int.gcd_dvd_left _ _)) ?_
    rw [eT, eg]
    exact dvd_T b1
  obtain ⟨k0', kk1, kk2⟩ := crt b1 o1 hgc
  have hkk : (k0' : Int) < ow := Int.lt_of_lt_of_le kk1 (Int.ediv_le_self _ (by omega))
  obtain ⟨r, j, f1, f2, f3⟩ := X2_keep_L (its := c * os) (T := T) (x0 := T * (d * s) % w) b1 b2 o1 o2 n5.1 (by omega) hx0 (by omega) k0' FU 0 (by rw [Nat.zero_add]; exact hkk) (by unfold FU; omega) (by rw [Nat.zero_add]; exact kk2)
  have mj := mul_le' (a := (j : Int)) (b := w) (A := 64) (B := 4096) (by omega) (by omega) (by omega) b2
  have f1' : mX2_keepCommon_L98 (iI w) (iI ow) (iI (c * os)) (iI T) FU 0 (iI (T * (d * s) % w)) = some (r, iI (T * (d * s) % w + (j : Int) * w)) := by
    rw [iI_n0] at f1
    have : T * (d * s) % w + ((0 : Nat) : Int) * w = T * (d * s) % w := by omega
    rw [this] at f1
    exact f1
  refine ⟨w / g * ow, (T * (d * s) % w + (j : Int) * w) % (w / g * ow), T * R, ?_, ?_, harea⟩
  · unfold mX2_keepCommon
    rw [X4_gcd (by omega) (by omega) (by omega) (by omega) (by omega), X4_gcd (by omega) (by omega) (by omega) (by omega) (by omega)]
    simp only [bnd1]
    rw [← eg, ← ek, X4_div (by omega) (by omega) (by omega) (by omega) (by omega)]
    simp only [nmB, iI_mul]
    rw [Int.tdiv_eq_ediv_of_nonneg (by omega), ← eR, X4_div (by omega) (by omega) (by omega) (by omega) (by omega), X4_div (by omega) (by omega) (by omega) (by omega) (by omega)]
    rw [Int.tdiv_eq_ediv_of_nonneg (by omega), Int.tdiv_eq_ediv_of_nonneg (by omega), q1, q2]
    simp only [iI_mul, iI_sub]
    rw [X4_gcd (by omega) (by omega) (by omega) (by omega) (by omega)]
    simp only []
    have hgd := Int.gcd_le_left (d * s - c * os) g0
    rw [X4_div (by omega) (by omega) (by omega) (by omega) (by omega), Int.tdiv_eq_ediv_of_nonneg (by omega), ← eT]
    simp only [iI_mul]
    rw [X4_mod (by omega) (by omega) b1 (by omega)]
    simp only []
    rw [f1']
    simp only [bnd2]
    rw [X4_div (by omega) (by omega) (by omega) (by omega) (by omega), Int.tdiv_eq_ediv_of_nonneg (by omega)]
    simp only [iI_mul]
    rw [X4_mod (by omega) (by omega) W0 (by omega)]
  · refine meet_HB (A1 := d * s) (A2 := c * os) (T := T) (R := R) b1 b5 o1 o5 (by rw [eR, ek]) (by rw [q1]) (by rw [q2]) (by rw [eT, eg]) (by rw [eg]) rfl (Int.emod_nonneg _ (by omega)) (Int.emod_lt_of_pos _ W0) ?_ ?_
    · have h1 : w ∣ w / g * ow := by
        obtain ⟨b, eb⟩ := Int.gcd_dvd_right w ow
        refine ⟨b, ?_⟩
        have := Int.ediv_mul_cancel (Int.gcd_dvd_left w ow)
        rw [← eg] at this eb
        rw [eb]
        generalize w / g = z at *
        rw [← this]; grind
      have h2 := Int.mul_ediv_add_emod (T * (d * s) % w + (j : Int) * w) (w / g * ow)
      have h3 : (T * (d * s) % w + (j : Int) * w) % (w / g * ow) - T * (d * s) = (j : Int) * w - w * (T * (d * s) / w) - (w / g * ow) * ((T * (d * s) % w + (j : Int) * w) / (w / g * ow)) := by omega
      rw [h3]
      exact Int.dvd_sub (Int.dvd_sub (Int.dvd_mul_left (j : Int) w) (Int.dvd_mul_right w _)) (Int.dvd_mul_of_dvd_left h1)
    · have h2 := Int.mul_ediv_add_emod (T * (d * s) % w + (j : Int) * w) (w / g * ow)
      have h3 : (T * (d * s) % w + (j : Int) * w) % (w / g * ow) - T * (c * os) = ((j : Int) * w - (T * (c * os) - T * (d * s) % w)) - (w / g * ow) * ((T * (d * s) % w + (j : Int) * w) / (w / g * ow)) := by omega
      rw [h3]
      exact Int.dvd_sub f3 (Int.dvd_mul_of_dvd_left (Int.dvd_mul_left _ ow))
theorem X5_meet_L {w a0 c x0 : Int} (hw : 0 < w) (hw' : w ≤ 64) (ho : 0 < a0) (ho' : a0 ≤ 4096) (hx0 : 0 ≤ x0) (hx1 : x0 ≤ 4096) (n : Nat) : ∀ (fu k : Nat), ((k + n : Nat) : Int) < a0 → n < fu → a0 ∣ ((k + n : Nat) : Int) * w - (c - x0) →
    ∃ j : Nat, mX5_meetLattice_L112 (iI w) (iI a0) (iI (c % a0)) fu (iI (x0 + (k : Int) * w)) = some (iI (x0 + (j : Int) * w)) ∧ j ≤ k + n ∧ a0 ∣ (j : Int) * w - (c - x0) := by
  have c0 := Int.emod_nonneg c (show a0 ≠ 0 by omega)
  have c1 := Int.emod_lt_of_pos c ho
  have ha0 : ¬ iI a0 = 0 := by rw [iI_eq0 (by omega) (by omega)]; omega
  have step : ∀ (fu k : Nat), (k : Int) < a0 → mX5_meetLattice_L112 (iI w) (iI a0) (iI (c % a0)) (fu + 1) (iI (x0 + (k : Int) * w)) = if a0 ∣ (k : Int) * w - (c - x0) then some (iI (x0 + (k : Int) * w)) else mX5_meetLattice_L112 (iI w) (iI a0) (iI (c % a0)) fu (iI (x0 + ((k + 1 : Nat) : Int) * w)) := by
    intro fu k hk
    have m := mul_le' (a := (k : Int)) (b := w) (A := 4096) (B := 64) (by omega) (by omega) (by omega) hw'
    have r0 := Int.emod_nonneg (x0 + (k : Int) * w) (show a0 ≠ 0 by omega)
    have r1 := Int.emod_lt_of_pos (x0 + (k : Int) * w) ho
    have hiff : (x0 + (k : Int) * w) % a0 = c % a0 ↔ a0 ∣ (k : Int) * w - (c - x0) := by
      have e : (k : Int) * w - (c - x0) = x0 + (k : Int) * w - c := by omega
      rw [e]
      exact ⟨dvd_of_emod_eq, emod_eq_of_dvd⟩
    have e2 : x0 + (k : Int) * w + w = x0 + ((k + 1 : Nat) : Int) * w := by
      have : ((k + 1 : Nat) : Int) = (k : Int) + 1 := rfl
      rw [this, Int.add_mul]; omega
    rw [mX5_meetLattice_L112]
    simp only [gz, if_neg ha0, nmB]
    rw [iI_rem (by omega) (by omega) (by omega) (by omega) (by omega), Int.tmod_eq_emod_of_nonneg (by omega), iI_add, e2]
    simp only [iI_inj (x := (x0 + (k : Int) * w) % a0) (y := c % a0) (by omega) (by omega) (by omega) (by omega), hiff]
  induction n with
  | zero =>
    intro fu k hk hf hv
    obtain ⟨fu, rfl⟩ : ∃ k, fu = k + 1 := ⟨fu - 1, by omega⟩
    rw [Nat.add_zero] at hv hk
    exact ⟨k, by rw [step fu k hk, if_pos hv], by omega, hv⟩
  | succ n ih =>
    intro fu k hk hf hv
    obtain ⟨fu, rfl⟩ : ∃ k, fu = k + 1 := ⟨fu - 1, by omega⟩
    by_cases hv0 : a0 ∣ (k : Int) * w - (c - x0)
    · exact ⟨k, by rw [step fu k (by omega), if_pos hv0], by omega, hv0⟩
    · obtain ⟨j, f1, f2, f3⟩ := ih fu (k + 1) (by omega) (by omega) (by rw [show k + 1 + n = k + (n + 1) by omega]; exact hv)
      exact ⟨j, by rw [step fu k (by omega), if_neg hv0, f1], by omega, f3⟩
theorem X5_meetLattice {w s h w2 s2 h2 : Int} (O : SB w s h) (B : BB w2 s2 h2) :
    ∃ W x H, mX5_meetLattice (iI w) (iI s) (iI h) (iI w2) (iI s2) (iI h2) = some (iI W, iI x, iI H) ∧ HB (fun X Y => InL w s h X Y ∧ InL w2 s2 h2 X Y) W x H := by
  obtain ⟨b1, b2, b3, b4, b5, b6⟩ := B
  obtain ⟨o1, o2, o3, o4, o5, o6⟩ := O
  obtain ⟨g, k, R, d, c, T, eg, ek, g0, g1, g2, k0, k1, eR, eR1, eR2, d0, d1, c0, c1, q1, q2, eT, T0, T1, D0, harea, W0⟩ := meet_nums o1 o5 b1 b5 o3 o4 b3 b4 (Int.le_refl w) (Int.le_refl h) (Int.le_refl w2) (Int.le_refl h2)
  have n1 := mul_le' (a := h) (b := d) (A := 64) (B := 4096) (by omega) (by omega) (by omega) (by omega)
  have n2 := mul_le' (a := d) (b := s) (A := 4096) (B := 64) (by omega) (by omega) (by omega) (by omega)
  have n3 := mul_le' (a := c) (b := s2) (A := 64) (B := 4096) (by omega) (by omega) (by omega) (by omega)
  have n4 := mul_le' (a := T) (b := d * s) (A := 64) (B := 4096 * 64) (by omega) (by omega) (by omega) (by omega)
  have n5 := mul_le' (a := T) (b := c * s2) (A := 64) (B := 64 * 4096) (by omega) (by omega) (by omega) (by omega)
  have n7 := mul_le' (a := R) (b := T) (A := 64 * 4096) (B := 64) (by omega) (by omega) (by omega) (by omega)
  have n6 := mul_le' (a := w / g) (b := w2) (A := 64) (B := 4096) (by have := Int.ediv_nonneg (show 0 ≤ w by omega) (show 0 ≤ g by omega); exact this) (Int.le_trans (Int.ediv_le_self _ (by omega)) o2) (by omega) (by omega)
  have hx0 := Int.emod_nonneg (T * (d * s)) (show w ≠ 0 by omega)
  have hx1 := Int.emod_lt_of_pos (T * (d * s)) o1
  have hxe := Int.mul_ediv_add_emod (T * (d * s)) w
  have hgc : (Int.gcd w w2 : Int) ∣ T * (c * s2) - T * (d * s) % w := by
    have h1 : T * (c * s2) - T * (d * s) % w = w * (T * (d * s) / w) - T * (d * s - c * s2) := by rw [Int.mul_sub]; omega
    rw [h1]
    refine Int.dvd_sub (Int.dvd_mul_of_dvd_left (Int.gcd_dvd_left _ _)) ?_
    rw [eT, eg]
    exact dvd_T o1
  obtain ⟨k0', kk1, kk2⟩ := crt o1 b1 hgc
  have hkk : (k0' : Int) < w2 := Int.lt_of_lt_of_le kk1 (Int.ediv_le_self _ (by omega))
  obtain ⟨j, f1, f2, f3⟩ := X5_meet_L (c := T * (c * s2)) (x0 := T * (d * s) % w) o1 o2 b1 b2 hx0 (by omega) k0' FU 0 (by rw [Nat.zero_add]; exact hkk) (by unfold FU; omega) (by rw [Nat.zero_add]; exact kk2)
  have f1' : mX5_meetLattice_L112 (iI w) (iI w2) (iI (T * (c * s2) % w2)) FU (iI (T * (d * s) % w)) = some (iI (T * (d * s) % w + (j : Int) * w)) := by
    have : T * (d * s) % w + ((0 : Nat) : Int) * w = T * (d * s) % w := by omega
    rw [this] at f1
    exact f1
  have hWe : w / g * w2 = w * (w2 / g) := by
    have e1 := Int.ediv_mul_cancel (Int.gcd_dvd_left w w2)
    have e2 := Int.ediv_mul_cancel (Int.gcd_dvd_right w w2)
    rw [← eg] at e1 e2
    generalize w / g = y at *
    generalize w2 / g = z at *
    rw [← e1]; rw [← e2]; grind
  refine ⟨w / g * w2, T * (d * s) % w + (j : Int) * w, R * T, ?_, ?_⟩
  · have hgz : ¬ iI g = 0 := by rw [iI_eq0 (by omega) (by omega)]; omega
    have hkz : ¬ iI k = 0 := by rw [iI_eq0 (by omega) (by omega)]; omega
    have hhz : ¬ iI h = 0 := by rw [iI_eq0 (by omega) (by omega)]; omega
    have hh2z : ¬ iI h2 = 0 := by rw [iI_eq0 (by omega) (by omega)]; omega
    have hgd := Int.gcd_le_left (d * s - c * s2) g0
    have hdz : ¬ iI (Int.gcd g (d * s - c * s2) : Int) = 0 := by rw [iI_eq0 (by omega) (by omega)]; omega
    have ha0 := Int.emod_nonneg (d * s - c * s2) (show g ≠ 0 by omega)
    have ha1 := Int.emod_lt_of_pos (d * s - c * s2) g0
    have eRT1 : (R * T) / h = T * d := by rw [eR1]; have : h * d * T = h * (T * d) := by grind
                                          rw [this, Int.mul_ediv_cancel_left _ (by omega)]
    have eRT2 : (R * T) / h2 = T * c := by rw [eR2]; have : h2 * c * T = h2 * (T * c) := by grind
                                           rw [this, Int.mul_ediv_cancel_left _ (by omega)]
    unfold mX5_meetLattice
    rw [X5_gcd (by omega) (by omega) (by omega) (by omega), X5_gcd (by omega) (by omega) (by omega) (by omega)]
    simp only [bnd1]
    rw [← eg, ← ek]
    simp only [gz, if_neg hgz, if_neg hkz, if_neg hhz, if_neg hh2z, nmB]
    rw [iI_tdiv (by omega) (by omega) (by omega) (by omega), Int.tdiv_eq_ediv_of_nonneg (by omega), iI_mul, ← eR]
    rw [iI_tdiv (x := R) (y := h) (by omega) (by omega) (by omega) (by omega), iI_tdiv (x := R) (y := h2) (by omega) (by omega) (by omega) (by omega), Int.tdiv_eq_ediv_of_nonneg (by omega), Int.tdiv_eq_ediv_of_nonneg (by omega), q1, q2, iI_mul, iI_mul, iI_sub, X5_mod (by omega) (by omega) g0 (by omega)]
    simp only []
    rw [X5_gcd (by omega) (by omega) (by omega) (by omega), gcd_emod']
    simp only [if_neg hdz]
    rw [iI_tdiv (x := g) (by omega) (by omega) (by omega) (by omega), Int.tdiv_eq_ediv_of_nonneg (by omega), ← eT, iI_mul, iI_tdiv (x := w) (y := g) (by omega) (by omega) (by omega) (by omega), Int.tdiv_eq_ediv_of_nonneg (by omega), iI_mul]
    rw [iI_tdiv (x := R * T) (y := h) (by omega) (by omega) (by omega) (by omega), iI_tdiv (x := R * T) (y := h2) (by omega) (by omega) (by omega) (by omega), Int.tdiv_eq_ediv_of_nonneg (by omega), Int.tdiv_eq_ediv_of_nonneg (by omega), eRT1, eRT2, iI_mul, iI_mul]
    have a1 : T * d * s = T * (d * s) := Int.mul_assoc _ _ _
    have a2 : T * c * s2 = T * (c * s2) := Int.mul_assoc _ _ _
    rw [a1, a2, X5_mod (by omega) (by omega) o1 (by omega), X5_mod (by omega) (by omega) b1 (by omega)]
    simp only []
    rw [f1']
  · refine meet_HB (A1 := d * s) (A2 := c * s2) (T := T) (R := R) o1 o5 b1 b5 (by rw [eR, ek]) (by rw [q1]) (by rw [q2]) (by rw [eT, eg]) (by rw [eg]) (Int.mul_comm _ _) ?_ ?_ ?_ ?_
    · have := mul_le' (a := (j : Int)) (b := w) (A := (j : Int)) (B := w) (by omega) (by omega) (by omega) (by omega)
      omega
    · have hj : (j : Int) + 1 ≤ w2 / g := by rw [eg]; omega
      have : ((j : Int) + 1) * w ≤ w2 / g * w := Int.mul_le_mul_of_nonneg_right hj (by omega)
      rw [Int.add_mul] at this
      rw [hWe, Int.mul_comm w]
      omega
    · have h3 : T * (d * s) % w + (j : Int) * w - T * (d * s) = (j : Int) * w - w * (T * (d * s) / w) := by omega
      rw [h3]
      exact Int.dvd_sub (Int.dvd_mul_left (j : Int) w) (Int.dvd_mul_right w _)
    · have h3 : T * (d * s) % w + (j : Int) * w - T * (c * s2) = (j : Int) * w - (T * (c * s2) - T * (d * s) % w) := by omega
      rw [h3]
      exact f3
-- ===== beats: what two lattices generate =====
def SumL (w1 s1 h1 w2 s2 h2 X Y : Int) : Prop := ∃ i j k l, X = i * s1 + j * s2 + k * w1 + l * w2 ∧ Y = i * h1 + j * h2
theorem SumL_F {w1 s1 h1 w2 s2 h2 X Y : Int} : InF (Int.gcd w1 w2 : Int) s1 h1 s2 h2 X Y ↔ SumL w1 s1 h1 w2 s2 h2 X Y := by
  constructor
  · rintro ⟨i, j, k, e1, e2⟩
    obtain ⟨u, v, hu⟩ := bez w1 w2
    exact ⟨i, j, k * u, k * v, by rw [e1, hu]; grind, e2⟩
  · rintro ⟨i, j, k, l, e1, e2⟩
    obtain ⟨p, hp⟩ := Int.gcd_dvd_left w1 w2
    obtain ⟨q, hq⟩ := Int.gcd_dvd_right w1 w2
    exact ⟨i, j, k * p + l * q, by generalize (Int.gcd w1 w2 : Int) = g at *; rw [e1, hp, hq]; grind, e2⟩
theorem X2_addAll {w1 s1 h1 w2 s2 h2 : Int} (B1 : SB w1 s1 h1) (B2 : SB w2 s2 h2) : ∃ w s h, mX2_addAll (iI w1) (iI s1) (iI h1) (iI w2) (iI s2) (iI h2) = some (iI w, iI s, iI h) ∧ HB (SumL w1 s1 h1 w2 s2 h2) w s h := by
  obtain ⟨a1, a2, a3, a4, a5, a6⟩ := B1
  obtain ⟨b1, b2, b3, b4, b5, b6⟩ := B2
  have hg := gcd_pos' (b := w2) a1
  have hg1 := gcd_le' (b := w2) a1
  have m1 : s2.natAbs * h1.natAbs ≤ 64 * 64 := Nat.mul_le_mul (by omega) (by omega)
  have m2 := mul_bd2 (x := s1) (y := h2) (A := 64) (B := 64) (by omega) (by omega)
  have m3 := mul_bd2 (x := s2) (y := h1) (A := 64) (B := 64) (by omega) (by omega)
  obtain ⟨w, s, h, e, H⟩ := X2_span (f := (Int.gcd w1 w2 : Int)) (x1 := s1) (y1 := h1) (x2 := s2) (y2 := h2) (M := 10000) (by omega) (by omega) (by omega) (by omega) (by omega) (by omega) (by omega) (by omega) (by omega) (Or.inl hg) (Or.inl (by omega))
  refine ⟨w, s, h, ?_, H.congr (fun x y => SumL_F)⟩
  unfold mX2_addAll
  rw [X4_gcd (by omega) (by omega) (by omega) (by omega) (by omega)]
  simp only [bnd1]
  rw [e]
  rfl
theorem X5_beat_L_eq {a b c : Int32} : ∀ (fu : Nat) (k : Int32), mX5_layBeat_L41 a b c fu k = mX5_layBasis_L57 a b c fu k := by
  intro fu
  induction fu with
  | zero => intro k; rfl
  | succ fu ih => intro k; simp only [mX5_layBeat_L41, mX5_layBasis_L57, ih]
theorem sum_HB {w1 s1 h1 w2 s2 h2 H p q u v x0 W : Int} (hh1 : h1 = H * p) (hh2 : h2 = H * q) (hH : 0 < H) (huv : u * p + v * q = 1) (hx : x0 = u * s1 + v * s2) (hW : W = (Int.gcd (Int.gcd w1 w2 : Int) (Int.gcd (p * x0 - s1) (q * x0 - s2) : Int) : Int)) (hw1 : 0 < w1) : HB (SumL w1 s1 h1 w2 s2 h2) W (x0 % W) H := by
  have hg := gcd_pos' (b := w2) hw1
  have hW0 : 0 < W := by rw [hW]; exact gcd_pos' hg
  have d1 : W ∣ w1 := by rw [hW]; exact Int.dvd_trans (Int.gcd_dvd_left _ _) (Int.gcd_dvd_left _ _)
  have d2 : W ∣ w2 := by rw [hW]; exact Int.dvd_trans (Int.gcd_dvd_left _ _) (Int.gcd_dvd_right _ _)
  have d3 : W ∣ p * x0 - s1 := by rw [hW]; exact Int.dvd_trans (Int.gcd_dvd_right _ _) (Int.gcd_dvd_left _ _)
  have d4 : W ∣ q * x0 - s2 := by rw [hW]; exact Int.dvd_trans (Int.gcd_dvd_right _ _) (Int.gcd_dvd_right _ _)
  have dx : W ∣ x0 - x0 % W := Int.dvd_self_sub_emod
  refine ⟨hW0, Int.emod_nonneg _ (by omega), Int.emod_lt_of_pos _ hW0, hH, fun X Y => ⟨?_, ?_⟩⟩
  · rintro ⟨J, e1, e2⟩
    have e3 : W ∣ X - J * x0 := by
      have : X - J * x0 = (X - J * (x0 % W)) - J * (x0 - x0 % W) := by grind
      rw [this]; exact Int.dvd_sub e2 (Int.dvd_mul_of_dvd_right dx)
    obtain ⟨t, ht⟩ := e3
    obtain ⟨a, b, hab⟩ := bez (Int.gcd w1 w2 : Int) (Int.gcd (p * x0 - s1) (q * x0 - s2) : Int)
    obtain ⟨c, d, hcd⟩ := bez w1 w2
    obtain ⟨e, f, hef⟩ := bez (p * x0 - s1) (q * x0 - s2)
    rw [← hW, hcd, hef] at hab
    have hWe : W = a * c * w1 + a * d * w2 + (b * e * p + b * f * q) * x0 - b * e * s1 - b * f * s2 := by rw [hab]; grind
    refine ⟨J * u + t * ((b * e * p + b * f * q) * u - b * e), J * v + t * ((b * e * p + b * f * q) * v - b * f), t * (a * c), t * (a * d), ?_, ?_⟩
    · have hX : X = J * x0 + W * t := by omega
      rw [hX, hWe, hx]; grind
    · rw [e1, hh1, hh2]
      have z : (J * u + t * ((b * e * p + b * f * q) * u - b * e)) * (H * p) + (J * v + t * ((b * e * p + b * f * q) * v - b * f)) * (H * q) = H * (J * (u * p + v * q) + t * ((b * e * p + b * f * q) * (u * p + v * q) - (b * e * p + b * f * q))) := by grind
      rw [z, huv]; grind
  · rintro ⟨i, j, k, l, e1, e2⟩
    refine ⟨i * p + j * q, by rw [e2, hh1, hh2]; grind, ?_⟩
    have z : X - (i * p + j * q) * (x0 % W) = k * w1 + l * w2 - i * (p * x0 - s1) - j * (q * x0 - s2) + (i * p + j * q) * (x0 - x0 % W) := by rw [e1]; grind
    rw [z]
    exact Int.dvd_add (Int.dvd_sub (Int.dvd_sub (Int.dvd_add (Int.dvd_mul_of_dvd_right d1) (Int.dvd_mul_of_dvd_right d2)) (Int.dvd_mul_of_dvd_right d3)) (Int.dvd_mul_of_dvd_right d4)) (Int.dvd_mul_of_dvd_right dx)
theorem X5_layBeat {v : Nat → Int32} {k1 k2 : Nat} {a b c d a' b' c' d' : Int} (hk1 : k1 < 3) (hk2 : k2 < 3) (hv1 : SlotV v k1 a b c d) (hs1 : Scr0 a b c d) (hv2 : SlotV v k2 a' b' c' d') (hs2 : Scr0 a' b' c' d') {w1 s1 h1 w2 s2 h2 : Int} (G1 : HB (InG a b c d) w1 s1 h1) (G2 : HB (InG a' b' c' d') w2 s2 h2) :
    ∃ w s h, mX5_layBeat v (iI k1) (iI k2) = some (iI w, iI s, iI h) ∧ HB (SumL w1 s1 h1 w2 s2 h2) w s h := by
  obtain ⟨w1', s1', h1', f1, H1⟩ := X5_layScreen hk1 hv1 hs1
  obtain ⟨rfl, rfl, rfl⟩ := G1.uniq H1
  obtain ⟨w2', s2', h2', f2, H2⟩ := X5_layScreen hk2 hv2 hs2
  obtain ⟨rfl, rfl, rfl⟩ := G2.uniq H2
  obtain ⟨a1, a2, a3, a4, a5, a6⟩ := G1.SB hs1
  obtain ⟨b1, b2, b3, b4, b5, b6⟩ := G2.SB hs2
  have hg := gcd_pos' (b := h2) a5
  have hg1 := gcd_le' (b := h2) a5
  obtain ⟨u, w0, huv⟩ := bez h1 h2
  obtain ⟨p, hp⟩ := Int.gcd_dvd_left h1 h2
  obtain ⟨q, hq⟩ := Int.gcd_dvd_right h1 h2
  generalize hgg : (Int.gcd h1 h2 : Int) = H at *
  have hp1 : h1 / H = p := Int.ediv_eq_of_eq_mul_right (by omega) hp
  have hq1 : h2 / H = q := Int.ediv_eq_of_eq_mul_right (by omega) hq
  have hp0 : 0 < p := Int.pos_of_mul_pos_left (by rw [Int.mul_comm]; omega : 0 < p * H) hg
  have hq0 : 0 < q := Int.pos_of_mul_pos_left (by rw [Int.mul_comm]; omega : 0 < q * H) hg
  have hp2 : p ≤ h1 := by have : 1 * p ≤ H * p := Int.mul_le_mul_of_nonneg_right (by omega) (by omega)
                          omega
  have hq2 : q ≤ h2 := by have : 1 * q ≤ H * q := Int.mul_le_mul_of_nonneg_right (by omega) (by omega)
                          omega
  have hi0 := Int.emod_nonneg u (show h2 ≠ 0 by omega)
  have hi1 := Int.emod_lt_of_pos u b5
  have hdi : h2 ∣ H - ((0 + (u % h2).toNat : Nat) : Int) * h1 := by
    have e1 : ((0 + (u % h2).toNat : Nat) : Int) = u % h2 := by omega
    have e2 := Int.mul_ediv_add_emod u h2
    rw [e1, huv]
    exact ⟨w0 + u / h2 * h1, by grind⟩
  obtain ⟨i, l1, l2, l3⟩ := X5_layBasis_L (b := h1) (d := h2) (h := H) (by omega) (by omega) (by omega) (by omega) (u % h2).toNat FU 0 (by omega) (by unfold FU; omega) hdi
  rw [iI_n0] at l1
  obtain ⟨t, ht⟩ := l3
  have hih := mul_le' (a := (i : Int)) (b := h1) (A := h2 - 1) (B := h1) (by omega) (by omega) (by omega) (Int.le_refl _)
  have hih2 : (h2 - 1) * h1 = h2 * h1 - h1 := by rw [Int.sub_mul]; omega
  have ht1 : -h1 ≤ t ∧ t ≤ h1 := by
    constructor
    · have : h2 * (-h1) ≤ h2 * t := by rw [← ht, Int.mul_neg]; omega
      exact Int.le_of_mul_le_mul_left this b5
    · have hh : h2 * t ≤ h2 * h1 := by
        rw [← ht]
        have : 1 * h1 ≤ h2 * h1 := Int.mul_le_mul_of_nonneg_right (by omega) (by omega)
        omega
      exact Int.le_of_mul_le_mul_left hh b5
  have htd : (H - (i : Int) * h1).tdiv h2 = t := by rw [ht, Int.mul_tdiv_cancel_left _ (by omega)]
  have n1 := mul_bd2 (x := (i : Int)) (y := s1) (A := 63) (B := 63) (by omega) (by omega)
  have n2 := mul_bd2 (x := t) (y := s2) (A := 64) (B := 63) (by omega) (by omega)
  have n0 := mul_bd2 (x := (i : Int)) (y := h1) (A := 64) (B := 64) (by omega) (by omega)
  have n3 := mul_bd2 (x := (i : Int) * s1 + t * s2) (y := p) (A := 9000) (B := 64) (by omega) (by omega)
  have n4 := mul_bd2 (x := (i : Int) * s1 + t * s2) (y := q) (A := 9000) (B := 64) (by omega) (by omega)
  have n3' : p * ((i : Int) * s1 + t * s2) = ((i : Int) * s1 + t * s2) * p := Int.mul_comm _ _
  have n4' : q * ((i : Int) * s1 + t * s2) = ((i : Int) * s1 + t * s2) * q := Int.mul_comm _ _
  have huv2 : (i : Int) * p + t * q = 1 := by
    have : H * ((i : Int) * p + t * q - 1) = 0 := by grind
    rcases Int.mul_eq_zero.mp this with z | z <;> omega
  have hgw := gcd_pos' (b := w2) a1
  have hgw1 := gcd_le' (b := w2) a1
  have gnn : (Int.gcd (p * ((i : Int) * s1 + t * s2) - s1) (q * ((i : Int) * s1 + t * s2) - s2) : Int) ≤ 999999 := by
    by_cases z : p * ((i : Int) * s1 + t * s2) - s1 = 0
    · by_cases z2 : q * ((i : Int) * s1 + t * s2) - s2 = 0
      · rw [z, z2]; decide
      · have := Int.gcd_le_natAbs_right (p * ((i : Int) * s1 + t * s2) - s1) z2
        omega
    · have := Int.gcd_le_natAbs_left (q * ((i : Int) * s1 + t * s2) - s2) z
      omega
  have key := sum_HB (w1 := w1) (s1 := s1) (h1 := h1) (w2 := w2) (s2 := s2) (h2 := h2) hp hq hg huv2 rfl rfl a1
  have W0 := key.1
  have Wle : (Int.gcd (Int.gcd w1 w2 : Int) (Int.gcd (p * ((i : Int) * s1 + t * s2) - s1) (q * ((i : Int) * s1 + t * s2) - s2) : Int) : Int) ≤ 64 := by
    have := gcd_le' (a := (Int.gcd w1 w2 : Int)) (b := (Int.gcd (p * ((i : Int) * s1 + t * s2) - s1) (q * ((i : Int) * s1 + t * s2) - s2) : Int)) hgw
    omega
  refine ⟨_, _, _, ?_, key⟩
  have hHz : ¬ iI H = 0 := by rw [iI_eq0 (by omega) (by omega)]; omega
  have hh2z : ¬ iI h2 = 0 := by rw [iI_eq0 (by omega) (by omega)]; omega
  unfold mX5_layBeat
  rw [f1, f2]
  simp only [bnd3]
  rw [X5_gcd (by omega) (by omega) (by omega) (by omega), hgg]
  simp only [bnd1]
  rw [X5_beat_L_eq, l1]
  simp only [gz, if_neg hHz, if_neg hh2z, nmB, iI_mul, iI_sub]
  rw [iI_tdiv (x := H - (i : Int) * h1) (y := h2) (by omega) (by omega) (by omega) (by omega), htd, X5_gcd (a := w1) (b := w2) (by omega) (by omega) (by omega) (by omega)]
  simp only [iI_mul, iI_add]
  rw [iI_tdiv (x := h1) (y := H) (by omega) (by omega) (by omega) (by omega), iI_tdiv (x := h2) (y := H) (by omega) (by omega) (by omega) (by omega), Int.tdiv_eq_ediv_of_nonneg (by omega), Int.tdiv_eq_ediv_of_nonneg (by omega), hp1, hq1]
  simp only [iI_mul, iI_sub]
  rw [X5_gcd (by omega) (by omega) (by omega) (by omega)]
  simp only []
  rw [X5_gcd (by omega) (by omega) (by omega) (by omega)]
  simp only []
  rw [X5_mod (by omega) (by omega) W0 (by omega)]
