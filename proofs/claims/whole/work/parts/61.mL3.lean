set_option maxHeartbeats 4000000
-- ===== span and layBasis give the one basis =====
theorem bezN (m n : Nat) : ∃ u v : Int, (Nat.gcd m n : Int) = u * m + v * n := by
  induction m, n using Nat.gcd.induction with
  | H0 n => exact ⟨0, 1, by simp⟩
  | H1 m n hm ih =>
    obtain ⟨u, v, e⟩ := ih
    refine ⟨v - u * (n / m : Nat), u, ?_⟩
    rw [Nat.gcd_rec, e]
    have h : (n : Int) = (m : Int) * (n / m : Nat) + (n % m : Nat) := by exact_mod_cast (Nat.div_add_mod n m).symm
    grind
theorem bez (a b : Int) : ∃ u v : Int, (Int.gcd a b : Int) = u * a + v * b := by
  obtain ⟨u, v, e⟩ := bezN a.natAbs b.natAbs
  have ha : ∃ e, (a.natAbs : Int) = e * a := by
    by_cases h : 0 ≤ a
    · exact ⟨1, by omega⟩
    · exact ⟨-1, by omega⟩
  have hb : ∃ e, (b.natAbs : Int) = e * b := by
    by_cases h : 0 ≤ b
    · exact ⟨1, by omega⟩
    · exact ⟨-1, by omega⟩
  obtain ⟨p, hp⟩ := ha
  obtain ⟨q, hq⟩ := hb
  refine ⟨u * p, v * q, ?_⟩
  show (Nat.gcd a.natAbs b.natAbs : Int) = _
  rw [e, hp, hq]; grind
/-- what (x1, y1), (x2, y2) and (f, 0) generate -/
def InF (f x1 y1 x2 y2 x y : Int) : Prop := ∃ i j k, x = i * x1 + j * x2 + k * f ∧ y = i * y1 + j * y2
theorem iI_n0 : iI ((0 : Nat) : Int) = 0 := rfl
theorem InF.step {f x1 y1 x2 y2 t x y : Int} : InF f x1 y1 x2 y2 x y ↔ InF f x2 y2 (x1 - t * x2) (y1 - t * y2) x y := by
  constructor
  · rintro ⟨i, j, k, e1, e2⟩
    exact ⟨j + t * i, i, k, by grind, by grind⟩
  · rintro ⟨i, j, k, e1, e2⟩
    exact ⟨j, i - t * j, k, by grind, by grind⟩
theorem span_inv {x1 y1 x2 y2 : Int} {M : Nat} (hy : y2 ≠ 0) (hd : (x1 * y2 - x2 * y1).natAbs ≤ M) (h2 : x2.natAbs * y1.natAbs ≤ 2 * M) (h3 : x2.natAbs ≤ 2 * M) (h4 : y2.natAbs < y1.natAbs ∨ x2.natAbs * y1.natAbs ≤ M) :
    (x2 * (y1 - y1.tdiv y2 * y2) - (x1 - y1.tdiv y2 * x2) * y2).natAbs = (x1 * y2 - x2 * y1).natAbs ∧ (x1 - y1.tdiv y2 * x2).natAbs * y2.natAbs ≤ 2 * M ∧ (x1 - y1.tdiv y2 * x2).natAbs ≤ 2 * M ∧ (y1 - y1.tdiv y2 * y2).natAbs < y2.natAbs := by
  have e0 : x2 * (y1 - y1.tdiv y2 * y2) - (x1 - y1.tdiv y2 * x2) * y2 = -(x1 * y2 - x2 * y1) := by grind
  have e1 : y1 - y1.tdiv y2 * y2 = y1.tmod y2 := by have := Int.mul_tdiv_add_tmod y1 y2; rw [Int.mul_comm]; omega
  have e2 : (y1.tmod y2).natAbs = y1.natAbs % y2.natAbs := Int.natAbs_tmod y1 y2
  have hy' : 0 < y2.natAbs := by omega
  have l1 : y1.natAbs % y2.natAbs < y2.natAbs := Nat.mod_lt _ hy'
  have l2 : y1.natAbs % y2.natAbs ≤ y1.natAbs := Nat.mod_le _ _
  have c1 : x2.natAbs * (y1.natAbs % y2.natAbs) ≤ M := by
    rcases h4 with h4 | h4
    · have q : y2.natAbs * (y1.natAbs / y2.natAbs) + y1.natAbs % y2.natAbs = y1.natAbs := Nat.div_add_mod _ _
      have q1 : 0 < y1.natAbs / y2.natAbs := Nat.div_pos (by omega) hy'
      have q2 : y2.natAbs * 1 ≤ y2.natAbs * (y1.natAbs / y2.natAbs) := Nat.mul_le_mul_left _ q1
      have q3 : 2 * (y1.natAbs % y2.natAbs) ≤ y1.natAbs := by omega
      have q4 : x2.natAbs * (2 * (y1.natAbs % y2.natAbs)) ≤ x2.natAbs * y1.natAbs := Nat.mul_le_mul_left _ q3
      have q5 : x2.natAbs * (2 * (y1.natAbs % y2.natAbs)) = 2 * (x2.natAbs * (y1.natAbs % y2.natAbs)) := by grind
      omega
    · exact Nat.le_trans (Nat.mul_le_mul_left _ l2) h4
  have c2 : (x1 - y1.tdiv y2 * x2).natAbs * y2.natAbs ≤ 2 * M := by
    rw [← Int.natAbs_mul]
    have : (x1 - y1.tdiv y2 * x2) * y2 = x2 * (y1.tmod y2) + (x1 * y2 - x2 * y1) := by rw [← e1]; grind
    rw [this]
    have h := Int.natAbs_add_le (x2 * y1.tmod y2) (x1 * y2 - x2 * y1)
    rw [Int.natAbs_mul, e2] at h
    omega
  have c3 : (x1 - y1.tdiv y2 * x2).natAbs * 1 ≤ (x1 - y1.tdiv y2 * x2).natAbs * y2.natAbs := Nat.mul_le_mul_left _ hy'
  refine ⟨by rw [e0, Int.natAbs_neg], c2, by omega, by rw [e1, e2]; exact l1⟩
theorem X2_span_L {M : Nat} (n : Nat) : ∀ (fu k : Nat) (x1 y1 x2 y2 : Int), y2.natAbs ≤ n → n < fu → k + n < 1000 → y1.natAbs < 1000000 → y2.natAbs < 1000000 →
    (x1 * y2 - x2 * y1).natAbs ≤ M → x2.natAbs * y1.natAbs ≤ 2 * M → x1.natAbs ≤ 2 * M → x2.natAbs ≤ 2 * M → (y2.natAbs < y1.natAbs ∨ x2.natAbs * y1.natAbs ≤ M) →
    ∃ r x1' y1' x2', mX2_span_L3 fu (iI k) (iI x1) (iI y1) (iI x2) (iI y2) = some (r, iI x1', iI y1', iI x2', iI 0) ∧ (∀ f x y, InF f x1 y1 x2 y2 x y ↔ InF f x1' y1' x2' 0 x y) ∧ x1'.natAbs ≤ 2 * M ∧ x2'.natAbs ≤ 2 * M ∧ y1'.natAbs < 1000000 ∧ (x2' * y1').natAbs = (x1 * y2 - x2 * y1).natAbs := by
  induction n with
  | zero =>
    intro fu k x1 y1 x2 y2 hy hf hk hb1 hb2 hd h2 h3 h3' h4
    obtain ⟨fu, rfl⟩ : ∃ k, fu = k + 1 := ⟨fu - 1, by omega⟩
    have : y2 = 0 := by omega
    subst this
    refine ⟨iI k, x1, y1, x2, ?_, fun _ _ _ => Iff.rfl, h3, h3', hb1, by rw [Int.mul_zero, Int.zero_sub, Int.natAbs_neg]⟩
    rw [mX2_span_L3, if_neg (by rw [iI_lit 1000, iI_le (by omega) (by omega) (by omega) (by omega)]; omega), if_pos (by rw [iI_eq0 (by omega) (by omega)])]
  | succ n ih =>
    intro fu k x1 y1 x2 y2 hy hf hk hb1 hb2 hd h2 h3 h3' h4
    obtain ⟨fu, rfl⟩ : ∃ k, fu = k + 1 := ⟨fu - 1, by omega⟩
    by_cases hy0 : y2 = 0
    · subst hy0
      refine ⟨iI k, x1, y1, x2, ?_, fun _ _ _ => Iff.rfl, h3, h3', hb1, by rw [Int.mul_zero, Int.zero_sub, Int.natAbs_neg]⟩
      rw [mX2_span_L3, if_neg (by rw [iI_lit 1000, iI_le (by omega) (by omega) (by omega) (by omega)]; omega), if_pos (by rw [iI_eq0 (by omega) (by omega)])]
    · have q1 : -2147483648 ≤ y1 ∧ y1 < 2147483648 := by clear hd h2 h3 h3' h4; omega
      have q2 : -2147483648 ≤ y2 ∧ y2 < 2147483648 := by clear hd h2 h3 h3' h4; omega
      obtain ⟨g1, g2, g3, g4⟩ := span_inv hy0 hd h2 h3' h4
      obtain ⟨r, x1', y1', x2', e1, e2, e3, e4, e5, e6⟩ := ih fu (k + 1) x2 y2 (x1 - y1.tdiv y2 * x2) (y1 - y1.tdiv y2 * y2) (Nat.le_of_lt_succ (Nat.lt_of_lt_of_le g4 hy)) (by clear g1 g2 g3 g4; omega) (by clear g1 g2 g3 g4; omega) hb2 (Nat.lt_trans g4 hb2) (by rw [g1]; exact hd) g2 h3' g3 (Or.inl g4)
      have e1' := e1
      refine ⟨r, x1', y1', x2', ?_, fun f x y => (InF.step (t := y1.tdiv y2)).trans (e2 f x y), e3, e4, e5, e6.trans g1⟩
      clear g1 g2 g3 g4 e1' hd h2 h3 h3' h4
      rw [mX2_span_L3, if_neg (by rw [iI_lit 1000, iI_le (by omega) (by omega) (by omega) (by omega)]; omega), if_neg (by rw [iI_eq0 q2.1 q2.2]; exact hy0), X4_div q1.1 q1.2 hy0 q2.1 q2.2]
      simp only [bnd1, nmB, iI_mul, iI_sub]
      rw [← e1, iI_1, iI_add]
      rfl
theorem InF.toG {f x1 y1 x2 x y : Int} : InF f x1 y1 x2 0 x y ↔ InG x1 y1 (Int.gcd f x2 : Int) 0 x y := by
  constructor
  · rintro ⟨i, j, k, e1, e2⟩
    obtain ⟨p, hp⟩ := Int.gcd_dvd_left f x2
    obtain ⟨q, hq⟩ := Int.gcd_dvd_right f x2
    exact ⟨i, j * q + k * p, by grind, by grind⟩
  · rintro ⟨i, j, e1, e2⟩
    obtain ⟨u, v, hu⟩ := bez f x2
    exact ⟨i, j * v, j * u, by grind, by grind⟩
theorem X2_span {f x1 y1 x2 y2 : Int} {M : Nat} (hM : M ≤ 100000) (hf0 : 0 ≤ f) (hf1 : f ≤ 900) (hy1 : y1.natAbs ≤ 900) (hy2 : y2.natAbs ≤ 900)
    (hd : (x1 * y2 - x2 * y1).natAbs ≤ M) (h2 : x2.natAbs * y1.natAbs ≤ M) (h3 : x1.natAbs ≤ 2 * M) (h3' : x2.natAbs ≤ 2 * M) (hn : 0 < f ∨ x1 * y2 - x2 * y1 ≠ 0) (hy : y1 ≠ 0 ∨ y2 ≠ 0) :
    ∃ w s h, mX2_span (iI x1) (iI y1) (iI x2) (iI y2) (iI f) = some (iI w, iI s, iI h) ∧ HB (InF f x1 y1 x2 y2) w s h := by
  obtain ⟨r, x1', y1', x2', e1, e2, e3, e4, e5, e6⟩ := X2_span_L (M := M) 900 FU 0 x1 y1 x2 y2 hy2 (by unfold FU; omega) (by omega) (by omega) (by omega) hd (by omega) h3 h3' (Or.inr h2)
  have hy0 : y1' ≠ 0 := by
    intro h0
    subst h0
    have z : ∀ x y, InF f x1 y1 x2 y2 x y → y = 0 := by
      intro x y h
      obtain ⟨i, j, k, -, q⟩ := (e2 f x y).mp h
      simpa using q
    rcases hy with h | h
    · exact h (z x1 y1 ⟨1, 0, 0, by simp, by simp⟩)
    · exact h (z x2 y2 ⟨0, 1, 0, by simp, by simp⟩)
  have hg : 0 < Int.gcd f x2' := by
    rcases hn with h | h
    · exact Int.gcd_pos_of_ne_zero_left _ (by omega)
    · apply Int.gcd_pos_of_ne_zero_right
      intro h0
      rw [h0, Int.zero_mul] at e6
      omega
  have hgb : Int.gcd f x2' ≤ 200000 := by
    by_cases h0 : x2' = 0
    · have : f ≠ 0 := by
        intro hf; rw [hf, h0] at hg; simp at hg
      have := Int.gcd_le_natAbs_left x2' this
      omega
    · have := Int.gcd_le_natAbs_right f h0
      omega
  have key : ∀ sg : Int, (sg = 1 ∨ sg = -1) → (y1'.natAbs : Int) * sg = y1' → HB (InF f x1 y1 x2 y2) (Int.gcd f x2' : Int) ((sg * x1') % (Int.gcd f x2' : Int)) (y1'.natAbs : Int) := by
    intro sg hsg hs
    have hss : sg * sg = 1 := by rcases hsg with rfl | rfl <;> rfl
    refine HB.congr (P := InG x1' y1' (Int.gcd f x2' : Int) 0) ?_ (fun x y => ((e2 f x y).trans InF.toG).symm)
    refine HB.ofG (h := y1'.natAbs) (b' := sg) (d' := 0) (u := sg) (v := 0) hs.symm (by simp) (by omega) (by rw [hss]; simp) ?_ ?_ (by simp)
    · rcases hsg with rfl | rfl <;> omega
    · rcases hsg with rfl | rfl <;> omega
  rw [iI_n0] at e1
  unfold mX2_span
  rw [e1]
  simp only [bnd5]
  rw [X4_gcd (by omega) (by omega) (by omega) (by omega) (by omega)]
  simp only [bnd1, nmB]
  rw [iI_abs (by omega) (by omega)]
  by_cases hp : 0 ≤ y1'
  · rw [if_pos ((iI_nonneg (by omega) (by omega)).mpr hp), X4_mod (by omega) (by omega) (by omega) (by omega)]
    refine ⟨_, _, _, rfl, ?_⟩
    have := key 1 (Or.inl rfl) (by omega)
    rwa [Int.one_mul] at this
  · rw [if_neg (fun q => hp ((iI_nonneg (by omega) (by omega)).mp q)), iI_neg, X4_mod (by omega) (by omega) (by omega) (by omega)]
    refine ⟨_, _, _, rfl, ?_⟩
    have := key (-1) (Or.inr rfl) (by omega)
    rwa [Int.neg_one_mul] at this
theorem InF.zero {a b c d x y : Int} : InF 0 a b c d x y ↔ InG a b c d x y := by
  constructor
  · rintro ⟨i, j, k, e1, e2⟩
    exact ⟨i, j, by omega, e2⟩
  · rintro ⟨i, j, e1, e2⟩
    exact ⟨i, j, 0, by omega, e2⟩
theorem tmod_zero_iff {x y : Int} : x.tmod y = 0 ↔ y ∣ x := by
  constructor
  · exact Int.dvd_of_tmod_eq_zero
  · exact Int.tmod_eq_zero_of_dvd
theorem prod_bd {x y : Int} {A B : Nat} (hx : x.natAbs ≤ A) (hy : y.natAbs ≤ B) : (x * y).natAbs ≤ A * B := by
  rw [Int.natAbs_mul]; exact Nat.mul_le_mul hx hy
theorem X5_layBasis_L {b d h : Int} (hb : b.natAbs ≤ 1000) (hd : d.natAbs ≤ 1000) (hd0 : d ≠ 0) (hh : h.natAbs ≤ 1000) (n : Nat) : ∀ (fu k : Nat), k + n ≤ 1000 → n < fu → d ∣ h - ((k + n : Nat) : Int) * b → ∃ i : Nat, mX5_layBasis_L57 (iI b) (iI d) (iI h) fu (iI k) = some (iI i) ∧ i ≤ k + n ∧ d ∣ h - (i : Int) * b := by
  induction n with
  | zero =>
    intro fu k hk hf hv
    rw [Nat.add_zero] at hv
    obtain ⟨fu, rfl⟩ : ∃ k, fu = k + 1 := ⟨fu - 1, by omega⟩
    have m := prod_bd (x := (k : Int)) (A := 1000) (by omega) hb
    have hd0' : ¬ iI d = 0 := by rw [iI_eq0 (by omega) (by omega)]; exact hd0
    refine ⟨k, ?_, Nat.le_refl _, hv⟩
    rw [mX5_layBasis_L57]
    simp only [gz, if_neg hd0', iI_mul, iI_sub]
    rw [iI_rem (by omega) (by omega) hd0 (by omega) (by omega), tmod_zero_iff.mpr hv, if_pos iI_0.symm]
  | succ n ih =>
    intro fu k hk hf hv
    obtain ⟨fu, rfl⟩ : ∃ k, fu = k + 1 := ⟨fu - 1, by omega⟩
    have m := prod_bd (x := (k : Int)) (A := 1000) (by omega) hb
    have hd0' : ¬ iI d = 0 := by rw [iI_eq0 (by omega) (by omega)]; exact hd0
    by_cases hv0 : d ∣ h - (k : Int) * b
    · refine ⟨k, ?_, by omega, hv0⟩
      rw [mX5_layBasis_L57]
      simp only [gz, if_neg hd0', iI_mul, iI_sub]
      rw [iI_rem (by omega) (by omega) hd0 (by omega) (by omega), tmod_zero_iff.mpr hv0, if_pos iI_0.symm]
    · obtain ⟨i, e1, e2, e3⟩ := ih fu (k + 1) (by omega) (by omega) (by rw [show k + 1 + n = k + (n + 1) by omega]; exact hv)
      refine ⟨i, ?_, by omega, e3⟩
      have t : (h - (k : Int) * b).tmod d ≠ 0 := fun q => hv0 (tmod_zero_iff.mp q)
      have tb : ((h - (k : Int) * b).tmod d).natAbs < d.natAbs := by rw [Int.natAbs_tmod]; exact Nat.mod_lt _ (by omega)
      rw [mX5_layBasis_L57]
      simp only [gz, if_neg hd0', iI_mul, iI_sub, nmB]
      rw [iI_rem (by omega) (by omega) hd0 (by omega) (by omega), if_neg (by rw [iI_eq0 (by omega) (by omega)]; exact t), iI_1, iI_add, ← e1]
      rfl
theorem X5_layBasis {a b c d : Int} (ha : a.natAbs ≤ 1000) (hb : b.natAbs ≤ 1000) (hc : c.natAbs ≤ 1000) (hd : d.natAbs ≤ 1000) (h0 : a * d - b * c ≠ 0) :
    ∃ w s h, mX5_layBasis (iI a) (iI b) (iI c) (iI d) = some (iI w, iI s, iI h) ∧ HB (InG a b c d) w s h ∧ w * h = ((a * d - b * c).natAbs : Int) := by
  have hg0 : 0 < Int.gcd b d := by
    by_cases hb0 : b = 0
    · apply Int.gcd_pos_of_ne_zero_right
      intro hd0; apply h0; rw [hb0, hd0]; simp
    · exact Int.gcd_pos_of_ne_zero_left _ hb0
  have hgb : Int.gcd b d ≤ 1000 := by
    by_cases hb0 : b = 0
    · have : d ≠ 0 := by intro hd0; apply h0; rw [hb0, hd0]; simp
      have := Int.gcd_le_natAbs_right b this
      omega
    · have := Int.gcd_le_natAbs_left d hb0
      omega
  obtain ⟨b', eb⟩ := Int.gcd_dvd_left b d
  obtain ⟨d', ed⟩ := Int.gcd_dvd_right b d
  generalize hh : (Int.gcd b d : Int) = h at *
  have hpos : 0 < h := by omega
  have m1 := prod_bd ha hd
  have m2 := prod_bd hb hc
  have ear : a * d - b * c = h * (a * d' - b' * c) := by rw [eb, ed]; grind
  have ear2 : ((a * d - b * c).natAbs : Int) = h * ((a * d' - b' * c).natAbs : Int) := by
    rw [ear, Int.natAbs_mul]
    have : (h.natAbs : Int) = h := by omega
    rw [Int.natCast_mul, this]
  have hw0 : a * d' - b' * c ≠ 0 := by intro q; apply h0; rw [ear, q, Int.mul_zero]
  have hmb : ((a * d - b * c).natAbs : Int) ≤ 2000000 := by omega
  have hwb : ((a * d' - b' * c).natAbs : Int) ≤ 2000000 := by
    have : 1 * ((a * d' - b' * c).natAbs : Int) ≤ h * ((a * d' - b' * c).natAbs : Int) := Int.mul_le_mul_of_nonneg_right (by omega) (by omega)
    omega
  have hpos' : ¬ iI h = 0 := by rw [iI_eq0 (by omega) (by omega)]; omega
  have ediv : iI ((a * d - b * c).natAbs : Int) / iI h = iI ((a * d' - b' * c).natAbs : Int) := by
    rw [iI_tdiv (by omega) (by omega) (by omega) (by omega), ear2, Int.mul_tdiv_cancel_left _ (by omega)]
  have fin : ∀ s u v : Int, u * b' + v * d' = 1 → s = (u * a + v * c) % ((a * d' - b' * c).natAbs : Int) → HB (InG a b c d) ((a * d' - b' * c).natAbs : Int) s h := fun s u v huv es => HB.ofG eb ed hpos huv hw0 rfl es
  unfold mX5_layBasis
  rw [X5_gcd (by omega) (by omega) (by omega) (by omega), X5_areaOf (by omega) (by omega)]
  simp only [bnd1]
  rw [hh]
  simp only [gz, if_neg hpos', nmB]
  rw [ediv]
  by_cases hd0 : d = 0
  · rw [if_pos (by rw [iI_eq0 (by omega) (by omega)]; exact hd0)]
    have hd' : d' = 0 := by
      rw [hd0] at ed
      rcases Int.mul_eq_zero.mp ed.symm with q | q
      · omega
      · exact q
    have hbh : h = (b.natAbs : Int) := by rw [← hh, hd0, Int.gcd_zero_right]
    by_cases hbp : b ≤ 0
    · rw [if_pos (by rw [iI_0, iI_le (by omega) (by omega) (by omega) (by omega)]; exact hbp), iI_neg, X5_mod (by omega) (by omega) (by omega) (by omega)]
      have hb' : b' = -1 := by
        have : h * (b' + 1) = 0 := by rw [Int.mul_add]; omega
        rcases Int.mul_eq_zero.mp this with q | q <;> omega
      exact ⟨_, _, _, rfl, fin _ (-1) 0 (by rw [hb', hd']; rfl) (by congr 1; omega), by rw [Int.mul_comm, ear2]⟩
    · rw [if_neg (by rw [iI_0, iI_le (by omega) (by omega) (by omega) (by omega)]; exact hbp), X5_mod (by omega) (by omega) (by omega) (by omega)]
      have hb' : b' = 1 := by
        have : h * (b' - 1) = 0 := by rw [Int.mul_sub]; omega
        rcases Int.mul_eq_zero.mp this with q | q <;> omega
      exact ⟨_, _, _, rfl, fin _ 1 0 (by rw [hb', hd']; rfl) (by congr 1; omega), by rw [Int.mul_comm, ear2]⟩
  · rw [if_neg (by rw [iI_eq0 (by omega) (by omega)]; exact hd0)]
    have hd0' : ¬ iI d = 0 := by rw [iI_eq0 (by omega) (by omega)]; exact hd0
    obtain ⟨u, v, huv⟩ := bez b d
    rw [hh] at huv
    have hi0 := Int.emod_nonneg u hd0
    have hi1 := Int.emod_lt u hd0
    have hdi : d ∣ h - ((0 + (u % d).toNat : Nat) : Int) * b := by
      have e1 : ((0 + (u % d).toNat : Nat) : Int) = u % d := by omega
      have e2 := Int.mul_ediv_add_emod u d
      rw [e1, huv]
      exact ⟨v + u / d * b, by grind⟩
    obtain ⟨i, f1, f2, f3⟩ := X5_layBasis_L hb hd hd0 (h := h) (by omega) (u % d).toNat FU 0 (by omega) (by unfold FU; omega) hdi
    rw [iI_n0] at f1
    rw [f1]
    simp only [bnd1, if_neg hd0', iI_mul, iI_sub]
    have mi := prod_bd (x := (i : Int)) (A := 1000) (by omega) hb
    obtain ⟨q, eq⟩ := f3
    have et : (h - (i : Int) * b).tdiv d = q := by rw [eq, Int.mul_tdiv_cancel_left _ hd0]
    have hqb : q.natAbs ≤ 1001000 := by
      have z : (h - (i : Int) * b).natAbs = d.natAbs * q.natAbs := by rw [eq, Int.natAbs_mul]
      have : 1 * q.natAbs ≤ d.natAbs * q.natAbs := Nat.mul_le_mul_right _ (by omega)
      omega
    have mi2 := prod_bd (x := (i : Int)) (A := 1000) (by omega) ha
    have mi3 := prod_bd hqb hc
    rw [iI_tdiv (by omega) (by omega) (by omega) (by omega), et, iI_mul, iI_add, X5_mod (by omega) (by omega) (by omega) (by omega)]
    refine ⟨_, _, _, rfl, fin _ i q ?_ rfl, by rw [Int.mul_comm, ear2]⟩
    have : h * ((i : Int) * b' + q * d' - 1) = 0 := by
      have e3 : h * ((i : Int) * b' + q * d' - 1) = i * (h * b') + q * (h * d') - h := by grind
      rw [e3, ← eb, ← ed]
      have : q * d = d * q := Int.mul_comm _ _
      omega
    rcases Int.mul_eq_zero.mp this with z | z <;> omega
-- ===== the values =====
theorem iI_2 : (2 : Int32) = iI 2 := by decide +kernel
theorem iI_3 : (3 : Int32) = iI 3 := by decide +kernel
theorem iI_4 : (4 : Int32) = iI 4 := by decide +kernel
theorem iI_12 : (12 : Int32) = iI 12 := by decide +kernel
theorem iI_100 : (100 : Int32) = iI 100 := by decide +kernel
def MinOf (S : Int → Prop) (v : Int) : Prop := S v ∧ ∀ u, S u → v ≤ u
theorem MinOf.uniq {S : Int → Prop} {u v : Int} (hu : MinOf S u) (hv : MinOf S v) : u = v := Int.le_antisymm (hu.2 v hv.1) (hv.2 u hu.1)
def meas (what u v : Int) : Int := if what = 1 then u + v else if what = 2 then (if u < v then v else u) else u * u + v * v
theorem meas_mono {what u v u' v' : Int} (h0 : 0 ≤ u) (h1 : u ≤ u') (h2 : 0 ≤ v) (h3 : v ≤ v') : meas what u v ≤ meas what u' v' := by
  unfold meas
  split
  · omega
  · split
    · split <;> split <;> omega
    · have a1 : u * u ≤ u' * u' := Int.mul_le_mul h1 h1 h0 (by omega)
      have a2 : v * v ≤ v' * v' := Int.mul_le_mul h3 h3 h2 (by omega)
      omega
theorem meas_nn {what u v : Int} (h0 : 0 ≤ u) (h2 : 0 ≤ v) : 0 ≤ meas what u v := by
  unfold meas
  split
  · omega
  · split
    · split <;> omega
    · have a1 := Int.mul_nonneg h0 h0
      have a2 := Int.mul_nonneg h2 h2
      omega
/-- all that the pixels of one place measure from the middle (ox, oy), doubled -/
def Vals (w s h ox oy what x y : Int) (v : Int) : Prop := ∃ X Y, InL w s h (X - x) (Y - y) ∧ v = meas what ((2 * X - ox).natAbs : Int) ((2 * Y - oy).natAbs : Int)
def across (w s ox x j : Int) : Int := if (2 * x - ox - 2 * j * s) % (2 * w) < 2 * w - (2 * x - ox - 2 * j * s) % (2 * w) then (2 * x - ox - 2 * j * s) % (2 * w) else 2 * w - (2 * x - ox - 2 * j * s) % (2 * w)
def rowv (w s h ox oy what x y j : Int) : Int := meas what (across w s ox x j) ((2 * y - oy - 2 * j * h).natAbs : Int)
theorem across_bd {w s ox x j : Int} (hw : 0 < w) : 0 ≤ across w s ox x j ∧ across w s ox x j ≤ w := by
  have h1 := Int.emod_nonneg (2 * x - ox - 2 * j * s) (show 2 * w ≠ 0 by omega)
  have h2 := Int.emod_lt_of_pos (2 * x - ox - 2 * j * s) (show 0 < 2 * w by omega)
  unfold across
  split <;> omega
theorem across_at {w s ox x j : Int} (hw : 0 < w) : ∃ t, ((2 * (x - j * s - t * w) - ox).natAbs : Int) = across w s ox x j := by
  have h1 := Int.emod_nonneg (2 * x - ox - 2 * j * s) (show 2 * w ≠ 0 by omega)
  have h2 := Int.emod_lt_of_pos (2 * x - ox - 2 * j * s) (show 0 < 2 * w by omega)
  have h3 := Int.mul_ediv_add_emod (2 * x - ox - 2 * j * s) (2 * w)
  generalize (2 * x - ox - 2 * j * s) / (2 * w) = q at h3
  unfold across
  generalize hr : (2 * x - ox - 2 * j * s) % (2 * w) = r at *
  split
  · refine ⟨q, ?_⟩
    have : 2 * (x - j * s - q * w) - ox = r := by grind
    rw [this]; omega
  · refine ⟨q + 1, ?_⟩
    have : 2 * (x - j * s - (q + 1) * w) - ox = r - 2 * w := by grind
    rw [this]; omega
theorem across_le {w s ox x j X : Int} (hw : 0 < w) (hd : w ∣ X - x + j * s) : across w s ox x j ≤ ((2 * X - ox).natAbs : Int) := by
  have h1 := Int.emod_nonneg (2 * x - ox - 2 * j * s) (show 2 * w ≠ 0 by omega)
  have h2 := Int.emod_lt_of_pos (2 * x - ox - 2 * j * s) (show 0 < 2 * w by omega)
  have h3 : (2 * x - ox - 2 * j * s) % (2 * w) = (2 * X - ox) % (2 * w) := by
    apply emod_eq_of_dvd
    obtain ⟨t, ht⟩ := hd
    exact ⟨-t, by grind⟩
  have h4 := Int.mul_ediv_add_emod (2 * X - ox) (2 * w)
  unfold across
  rw [h3] at *
  generalize (2 * X - ox) % (2 * w) = r at *
  generalize (2 * X - ox) / (2 * w) = q at *
  rcases Int.lt_trichotomy q 0 with hq | hq | hq
  · have : 2 * w * q ≤ 2 * w * (-1) := Int.mul_le_mul_of_nonneg_left (by omega) (by omega)
    split <;> omega
  · rw [hq] at h4
    split <;> omega
  · have : 2 * w * 1 ≤ 2 * w * q := Int.mul_le_mul_of_nonneg_left (by omega) (by omega)
    split <;> omega
theorem rowv_in {w s h ox oy what x y j : Int} (hw : 0 < w) : Vals w s h ox oy what x y (rowv w s h ox oy what x y j) := by
  obtain ⟨t, ht⟩ := across_at (w := w) (s := s) (ox := ox) (x := x) (j := j) hw
  refine ⟨x - j * s - t * w, y - j * h, ⟨-j, by grind, ⟨-t, by grind⟩⟩, ?_⟩
  unfold rowv
  rw [ht]
  congr 3
  grind
theorem rowv_le {w s h ox oy what x y X Y : Int} (hw : 0 < w) (hin : InL w s h (X - x) (Y - y)) : ∃ j, Y = y - j * h ∧ rowv w s h ox oy what x y j ≤ meas what ((2 * X - ox).natAbs : Int) ((2 * Y - oy).natAbs : Int) := by
  obtain ⟨j, e1, e2⟩ := hin
  refine ⟨-j, by grind, ?_⟩
  unfold rowv
  have a := across_bd (w := w) (s := s) (ox := ox) (x := x) (j := -j) hw
  refine meas_mono a.1 (across_le hw ?_) (by omega) ?_
  · have : X - x + -j * s = X - x - j * s := by grind
    rw [this]; exact e2
  · have : 2 * y - oy - 2 * -j * h = 2 * Y - oy := by grind
    rw [this]; exact Int.le_refl _
/-- the rows that the reference looks at are enough -/
theorem rows_min {w s h ox oy what x y lo hi v : Int} (hw : 0 < w) (hh : 0 < h) (elo : lo = (2 * y - oy - w - h) / (2 * h)) (ehi : hi = (2 * y - oy + w + h) / (2 * h) + 1)
    (h1 : ∃ j, lo ≤ j ∧ j ≤ hi ∧ v = rowv w s h ox oy what x y j) (h2 : ∀ j, lo ≤ j → j ≤ hi → v ≤ rowv w s h ox oy what x y j) : MinOf (Vals w s h ox oy what x y) v := by
  have q1 := ediv_bounds (x := 2 * y - oy - w - h) (y := 2 * h) (by omega)
  have q2 := ediv_bounds (x := 2 * y - oy + w + h) (y := 2 * h) (by omega)
  have q3 := ediv_bounds (x := 2 * y - oy + h) (y := 2 * h) (by omega)
  generalize (2 * y - oy - w - h) / (2 * h) = p1 at *
  generalize (2 * y - oy + w + h) / (2 * h) = p2 at *
  generalize (2 * y - oy + h) / (2 * h) = p3 at *
  have s1 : p1 ≤ p3 := by
    have : 2 * h * p1 < 2 * h * (p3 + 1) := by rw [Int.mul_add]; omega
    have := Int.lt_of_mul_lt_mul_left this (by omega)
    omega
  have s2 : p3 ≤ p2 := by
    have : 2 * h * p3 < 2 * h * (p2 + 1) := by rw [Int.mul_add]; omega
    have := Int.lt_of_mul_lt_mul_left this (by omega)
    omega
  obtain ⟨j0, j1, j2, j3⟩ := h1
  refine ⟨by rw [j3]; exact rowv_in hw, ?_⟩
  rintro u ⟨X, Y, hin, rfl⟩
  obtain ⟨j, eY, hj⟩ := rowv_le (ox := ox) (oy := oy) (what := what) hw hin
  by_cases hr : lo ≤ j ∧ j ≤ hi
  · exact Int.le_trans (h2 j hr.1 hr.2) hj
  · have near := h2 p3 (by omega) (by omega)
    have a := across_bd (w := w) (s := s) (ox := ox) (x := x) (j := p3) hw
    have dn : ((2 * y - oy - 2 * p3 * h).natAbs : Int) ≤ h := by
      have : 2 * p3 * h = 2 * h * p3 := by grind
      rw [this]; omega
    have up : rowv w s h ox oy what x y p3 ≤ meas what w h := meas_mono a.1 a.2 (by omega) dn
    have far : w + h ≤ ((2 * Y - oy).natAbs : Int) := by
      have e : 2 * Y - oy = 2 * y - oy - 2 * h * j := by rw [eY]; grind
      rw [e]
      by_cases hl : j < lo
      · have : 2 * h * j ≤ 2 * h * (p1 - 1) := Int.mul_le_mul_of_nonneg_left (by omega) (by omega)
        rw [Int.mul_sub] at this
        omega
      · have : 2 * h * (p2 + 2) ≤ 2 * h * j := Int.mul_le_mul_of_nonneg_left (by omega) (by omega)
        rw [Int.mul_add] at this
        omega
    have big : meas what w h ≤ meas what 0 (w + h) := by
      unfold meas
      split
      · omega
      · split
        · split <;> split <;> omega
        · have : (w + h) * (w + h) = w * w + h * h + 2 * (w * h) := by grind
          have : 0 ≤ w * h := Int.mul_nonneg (by omega) (by omega)
          omega
    have last : meas what 0 (w + h) ≤ meas what ((2 * X - ox).natAbs : Int) ((2 * Y - oy).natAbs : Int) := meas_mono (by omega) (by omega) (by omega) far
    omega
