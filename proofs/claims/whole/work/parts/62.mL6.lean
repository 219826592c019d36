set_option maxHeartbeats 4000000
theorem measK {α : Type} {K : Int32 → α} {what u v : Int} (hw : what = 0 ∨ what = 1 ∨ what = 2) (hu0 : 0 ≤ u) (hu : u ≤ 10000) (hv0 : 0 ≤ v) (hv : v ≤ 10000) :
    (if iI what = 0 then K (iI u * iI u + iI v * iI v) else if iI what = 1 then K (iI u + iI v) else if iI u ≤ iI v then K (iI v) else K (iI u)) = K (iI (meas what u v)) := by
  rcases hw with rfl | rfl | rfl
  · rw [if_pos iI_0.symm, iI_mul, iI_mul, iI_add]
    rfl
  · rw [if_neg (by rw [iI_eq0 (by omega) (by omega)]; omega), if_pos iI_1.symm, iI_add]
    rfl
  · rw [if_neg (by rw [iI_eq0 (by omega) (by omega)]; omega), if_neg (by rw [iI_1, iI_inj (by omega) (by omega) (by omega) (by omega)]; omega)]
    have em : meas 2 u v = if u < v then v else u := by unfold meas; rw [if_neg (by decide), if_pos rfl]
    rw [em]
    by_cases h : u ≤ v
    · rw [if_pos ((iI_le (by omega) (by omega) (by omega) (by omega)).mpr h)]
      split
      · rfl
      · have : u = v := by omega
        rw [this]
    · rw [if_neg (fun q => h ((iI_le (by omega) (by omega) (by omega) (by omega)).mp q)), if_neg (by omega)]
theorem minK {α : Type} {K : Int32 → α} {u v : Int} (hu0 : -1000000000 ≤ u) (hu : u ≤ 1000000000) (hv0 : -1000000000 ≤ v) (hv : v ≤ 1000000000) :
    (if iI v ≤ iI u then K (iI v) else K (iI u)) = K (iI (if u < v then u else v)) := by
  by_cases h : v ≤ u
  · rw [if_pos ((iI_le (by omega) (by omega) (by omega) (by omega)).mpr h), if_neg (by omega)]
  · rw [if_neg (fun q => h ((iI_le (by omega) (by omega) (by omega) (by omega)).mp q)), if_pos (by omega)]
theorem across_def {w s ox x j : Int} : across w s ox x j = if (2 * x - ox - 2 * j * s) % (2 * w) < 2 * w - (2 * x - ox - 2 * j * s) % (2 * w) then (2 * x - ox - 2 * j * s) % (2 * w) else 2 * w - (2 * x - ox - 2 * j * s) % (2 * w) := rfl
theorem jB_min {α : Type} {F : Int32 → α} {u v : Int} (hu0 : -1000000000 ≤ u) (hu : u ≤ 1000000000) (hv0 : -1000000000 ≤ v) (hv : v ≤ 1000000000) :
    jB F (fun K => if iI v ≤ iI u then K (iI v) else K (iI u)) = F (iI (if u < v then u else v)) := minK hu0 hu hv0 hv
theorem jB_meas {α : Type} {F : Int32 → α} {what u v : Int} (hw : what = 0 ∨ what = 1 ∨ what = 2) (hu0 : 0 ≤ u) (hu : u ≤ 10000) (hv0 : 0 ≤ v) (hv : v ≤ 10000) :
    jB F (fun K => if iI what = 0 then K (iI u * iI u + iI v * iI v) else if iI what = 1 then K (iI u + iI v) else if iI u ≤ iI v then K (iI v) else K (iI u)) = F (iI (meas what u v)) := measK hw hu0 hu hv0 hv
theorem meas_bd {what u v : Int} (hu0 : 0 ≤ u) (hu : u ≤ 10000) (hv0 : 0 ≤ v) (hv : v ≤ 10000) : meas what u v ≤ 200000000 := by
  unfold meas
  split
  · omega
  · split
    · split <;> omega
    · have a1 : u * u ≤ 10000 * 10000 := Int.mul_le_mul hu hu hu0 (by omega)
      have a2 : v * v ≤ 10000 * 10000 := Int.mul_le_mul hv hv hv0 (by omega)
      omega
theorem X5_nearest_L {w s h x y ox oy what to : Int} (hwh : what = 0 ∨ what = 1 ∨ what = 2) (B : SB w s h) (hx0 : -200 ≤ x) (hx : x ≤ 200) (hy0 : -200 ≤ y) (hy : y ≤ 200) (hox : -200 ≤ ox) (hox' : ox ≤ 200) (hoy : -200 ≤ oy) (hoy' : oy ≤ 200) (hto : to ≤ 1000) {from' : Int} (hdn : ∀ j, from' ≤ j → j ≤ to → ((2 * y - oy - 2 * j * h).natAbs : Int) ≤ 10000) (hf : -1000 ≤ from') (n : Nat) :
    ∀ (fu : Nat) (j best : Int), (n : Int) = to + 1 - j → n < fu → from' ≤ j → (best = -1 ∧ j = from') ∨ (0 ≤ best ∧ best ≤ 200000000 ∧ (∃ i, from' ≤ i ∧ i < j ∧ best = rowv w s h ox oy what x y i) ∧ ∀ i, from' ≤ i → i < j → best ≤ rowv w s h ox oy what x y i) →
    ∃ r v, mX5_nearestValue_L63 (iI w) (iI s) (iI h) (iI x) (iI y) (iI ox) (iI oy) (iI what) (iI to) fu (iI j) (iI best) = some (r, iI v) ∧ ((v = -1 ∧ to + 1 = from') ∨ (0 ≤ v ∧ v ≤ 200000000 ∧ (∃ i, from' ≤ i ∧ i < to + 1 ∧ v = rowv w s h ox oy what x y i) ∧ ∀ i, from' ≤ i → i < to + 1 → v ≤ rowv w s h ox oy what x y i)) := by
  obtain ⟨b1, b2, b3, b4, b5, b6⟩ := B
  induction n with
  | zero =>
    intro fu j best hn hfu hj hb
    obtain ⟨fu, rfl⟩ : ∃ k, fu = k + 1 := ⟨fu - 1, by omega⟩
    have : j = to + 1 := by omega
    subst this
    refine ⟨iI (to + 1), best, ?_, ?_⟩
    · rw [mX5_nearestValue_L63, if_pos (by rw [iI_lt (by omega) (by omega) (by omega) (by omega)]; omega)]
    · exact hb
  | succ n ih =>
    intro fu j best hn hfu hj hb
    obtain ⟨fu, rfl⟩ : ∃ k, fu = k + 1 := ⟨fu - 1, by omega⟩
    have ms := mul_bd (x := j) (y := s) (A := 1000) (B := 64) (by omega) (by omega) b3 (by omega)
    have mh := mul_bd (x := j) (y := h) (A := 1000) (B := 64) (by omega) (by omega) (by omega) b6
    have e1 : 2 * j * s = 2 * (j * s) := by rw [Int.mul_assoc]
    have e2 : 2 * j * h = 2 * (j * h) := by rw [Int.mul_assoc]
    have a := across_bd (w := w) (s := s) (ox := ox) (x := x) (j := j) b1
    have dn := hdn j hj (by omega)
    have hr0 := Int.emod_nonneg (2 * x - ox - 2 * j * s) (show 2 * w ≠ 0 by omega)
    have hr1 := Int.emod_lt_of_pos (2 * x - ox - 2 * j * s) (show 0 < 2 * w by omega)
    have hrow : mX5_nearestValue_L63 (iI w) (iI s) (iI h) (iI x) (iI y) (iI ox) (iI oy) (iI what) (iI to) (fu + 1) (iI j) (iI best) =
        (if iI best = -1 then mX5_nearestValue_L63 (iI w) (iI s) (iI h) (iI x) (iI y) (iI ox) (iI oy) (iI what) (iI to) fu (iI (j + 1)) (iI (rowv w s h ox oy what x y j))
        else if iI best ≤ iI (rowv w s h ox oy what x y j) then mX5_nearestValue_L63 (iI w) (iI s) (iI h) (iI x) (iI y) (iI ox) (iI oy) (iI what) (iI to) fu (iI (j + 1)) (iI best)
        else mX5_nearestValue_L63 (iI w) (iI s) (iI h) (iI x) (iI y) (iI ox) (iI oy) (iI what) (iI to) fu (iI (j + 1)) (iI (rowv w s h ox oy what x y j))) := by
      rw [mX5_nearestValue_L63, if_neg (by rw [iI_lt (by omega) (by omega) (by omega) (by omega)]; omega)]
      simp only [iI_2, iI_mul, iI_sub]
      rw [X5_mod (by omega) (by omega) (by omega) (by omega)]
      simp only [bnd1, iI_sub]
      rw [jB_min (by omega) (by omega) (by omega) (by omega)]
      rw [X5_abs (by omega) (by omega)]
      simp only []
      rw [← across_def, jB_meas (u := across w s ox x j) (v := ((2 * y - oy - 2 * j * h).natAbs : Int)) hwh (by omega) (by omega) (by omega) (by omega)]
      simp only [nmB]
      rw [iI_1, iI_add]
      rfl
    have hv0 : 0 ≤ rowv w s h ox oy what x y j := meas_nn a.1 (by omega)
    have hv1 : rowv w s h ox oy what x y j ≤ 200000000 := meas_bd a.1 (by omega) (by omega) (by omega)
    rw [hrow]
    generalize hv : rowv w s h ox oy what x y j = v at *
    rcases hb with ⟨rfl, rfl⟩ | ⟨c1, c2, ⟨i0, c3, c4, c5⟩, c6⟩
    · rw [if_pos iI_m1.symm]
      exact ih fu (j + 1) v (by omega) (by omega) (by omega) (Or.inr ⟨hv0, hv1, ⟨j, by omega, by omega, hv.symm⟩, fun i h1 h2 => by
        have : i = j := by omega
        rw [this, hv]; exact Int.le_refl _⟩)
    · rw [if_neg (by rw [iI_m1, iI_inj (by omega) (by omega) (by omega) (by omega)]; omega)]
      by_cases hle : best ≤ v
      · rw [if_pos ((iI_le (by omega) (by omega) (by omega) (by omega)).mpr hle)]
        refine ih fu (j + 1) best (by omega) (by omega) (by omega) (Or.inr ⟨c1, c2, ⟨i0, c3, by omega, c5⟩, fun i h1 h2 => ?_⟩)
        by_cases hi : i = j
        · rw [hi, hv]; exact hle
        · exact c6 i h1 (by omega)
      · rw [if_neg (fun q => hle ((iI_le (by omega) (by omega) (by omega) (by omega)).mp q))]
        refine ih fu (j + 1) v (by omega) (by omega) (by omega) (Or.inr ⟨hv0, hv1, ⟨j, by omega, by omega, hv.symm⟩, fun i h1 h2 => ?_⟩)
        by_cases hi : i = j
        · rw [hi, hv]; exact Int.le_refl _
        · have := c6 i h1 (by omega)
          omega
theorem X5_nearestValue {w s h x y ox oy what : Int} (hwh : what = 0 ∨ what = 1 ∨ what = 2) (B : SB w s h) (hx0 : -200 ≤ x) (hx : x ≤ 200) (hy0 : -200 ≤ y) (hy : y ≤ 200) (hox : -200 ≤ ox) (hox' : ox ≤ 200) (hoy : -200 ≤ oy) (hoy' : oy ≤ 200) :
    ∃ v, mX5_nearestValue (iI w) (iI s) (iI h) (iI x) (iI y) (iI ox) (iI oy) (iI what) = some (iI v) ∧ 0 ≤ v ∧ v ≤ 200000000 ∧ MinOf (Vals w s h ox oy what x y) v := by
  have BB := B
  obtain ⟨b1, b2, b3, b4, b5, b6⟩ := B
  have f1 := div_bd (y := 2 * y - oy - w - h) (h := 2 * h) (A := 800) (by omega) (by omega) (by omega)
  have f2 := div_bd (y := 2 * y - oy + w + h) (h := 2 * h) (A := 800) (by omega) (by omega) (by omega)
  have q1 := ediv_bounds (x := 2 * y - oy - w - h) (y := 2 * h) (by omega)
  have q2 := ediv_bounds (x := 2 * y - oy + w + h) (y := 2 * h) (by omega)
  have hlt : (2 * y - oy - w - h) / (2 * h) ≤ (2 * y - oy + w + h) / (2 * h) := Int.ediv_le_ediv (by omega) (by omega)
  have hdn : ∀ j, (2 * y - oy - w - h) / (2 * h) ≤ j → j ≤ (2 * y - oy + w + h) / (2 * h) + 1 → ((2 * y - oy - 2 * j * h).natAbs : Int) ≤ 10000 := by
    intro j h1 h2
    have m1 : 2 * h * ((2 * y - oy - w - h) / (2 * h)) ≤ 2 * h * j := Int.mul_le_mul_of_nonneg_left h1 (by omega)
    have m2 : 2 * h * j ≤ 2 * h * ((2 * y - oy + w + h) / (2 * h) + 1) := Int.mul_le_mul_of_nonneg_left h2 (by omega)
    rw [Int.mul_add] at m2
    have e : 2 * j * h = 2 * h * j := by grind
    rw [e]
    omega
  obtain ⟨r, v, e, hv⟩ := X5_nearest_L (to := (2 * y - oy + w + h) / (2 * h) + 1) (from' := (2 * y - oy - w - h) / (2 * h)) hwh BB hx0 hx hy0 hy hox hox' hoy hoy' (by omega) hdn (by omega) ((2 * y - oy + w + h) / (2 * h) + 1 + 1 - (2 * y - oy - w - h) / (2 * h)).toNat FU ((2 * y - oy - w - h) / (2 * h)) (-1) (by omega) (by unfold FU; omega) (Int.le_refl _) (Or.inl ⟨rfl, rfl⟩)
  refine ⟨v, ?_, ?_⟩
  · unfold mX5_nearestValue
    simp only [iI_2, iI_mul, iI_sub, iI_add]
    rw [X5_floor (by omega) (by omega) (by omega) (by omega), X5_floor (by omega) (by omega) (by omega) (by omega), iI_m1]
    simp only [bnd1, nmB, iI_1, iI_add]
    rw [e]
    rfl
  · rcases hv with ⟨-, h2⟩ | ⟨h1, h2, ⟨i, i1, i2, i3⟩, h4⟩
    · omega
    · exact ⟨h1, h2, rows_min b1 b5 rfl rfl ⟨i, i1, by omega, i3⟩ (fun j j1 j2 => h4 j j1 (by omega))⟩
-- ===== a pixel of each place lies near the middle =====
theorem nearInt {D : Int} (hD : D ≠ 0) (t : Int) : ∃ n : Int, (t - 2 * n * D).natAbs ≤ D.natAbs := by
  have h1 := Int.emod_nonneg (t + D.natAbs) (show 2 * (D.natAbs : Int) ≠ 0 by omega)
  have h2 := Int.emod_lt_of_pos (t + D.natAbs) (show 0 < 2 * (D.natAbs : Int) by omega)
  have h3 := Int.mul_ediv_add_emod (t + D.natAbs) (2 * (D.natAbs : Int))
  generalize (t + (D.natAbs : Int)) / (2 * (D.natAbs : Int)) = q at h3
  by_cases hp : 0 ≤ D
  · refine ⟨q, ?_⟩
    have e0 : (D.natAbs : Int) = D := by omega
    have e : 2 * q * D = 2 * (D.natAbs : Int) * q := by rw [e0]; grind
    rw [e]; omega
  · refine ⟨-q, ?_⟩
    have e0 : (D.natAbs : Int) = -D := by omega
    have e : 2 * -q * D = 2 * (D.natAbs : Int) * q := by rw [e0]; grind
    rw [e]; omega
theorem sq_le_of {x y : Int} (h : x.natAbs ≤ y.natAbs) : x * x ≤ y * y := by
  have := Nat.mul_le_mul h h
  rw [← Int.natAbs_mul_self, ← Int.natAbs_mul_self (a := y)]
  exact_mod_cast this
theorem babai {a b c d tx ty : Int} (h0 : a * d - b * c ≠ 0) (h1 : a * a + b * b ≤ 128) (h2 : c * c + d * d ≤ 128) :
    ∃ m n : Int, (tx - 2 * (m * a + n * c)) * (tx - 2 * (m * a + n * c)) + (ty - 2 * (m * b + n * d)) * (ty - 2 * (m * b + n * d)) ≤ 256 := by
  have hN : 0 < a * a + b * b := by
    have p1 : 0 ≤ a * a := by have := Int.natAbs_mul_self (a := a); omega
    have p2 : 0 ≤ b * b := by have := Int.natAbs_mul_self (a := b); omega
    by_cases ha : a = 0
    · have hb : b ≠ 0 := by intro hb; apply h0; rw [ha, hb]; simp
      have : 0 < b * b := by
        rcases Int.lt_trichotomy b 0 with q | q | q
        · exact Int.mul_pos_of_neg_of_neg q q
        · exact absurd q hb
        · exact Int.mul_pos q q
      omega
    · have : 0 < a * a := by
        rcases Int.lt_trichotomy a 0 with q | q | q
        · exact Int.mul_pos_of_neg_of_neg q q
        · exact absurd q ha
        · exact Int.mul_pos q q
      omega
  obtain ⟨n, hn⟩ := nearInt (D := b * c - a * d) (by omega) (tx * b - ty * a)
  obtain ⟨m, hm⟩ := nearInt (D := a * a + b * b) (by omega) ((tx - 2 * n * c) * a + (ty - 2 * n * d) * b)
  refine ⟨m, n, ?_⟩
  generalize eX : tx - 2 * (m * a + n * c) = X
  generalize eY : ty - 2 * (m * b + n * d) = Y
  have c1 : X * b - Y * a = tx * b - ty * a - 2 * n * (b * c - a * d) := by rw [← eX, ← eY]; grind
  have c2 : X * a + Y * b = (tx - 2 * n * c) * a + (ty - 2 * n * d) * b - 2 * m * (a * a + b * b) := by rw [← eX, ← eY]; grind
  rw [← c1] at hn
  rw [← c2] at hm
  have s1 := sq_le_of hn
  have s2 := sq_le_of hm
  have l1 : (X * X + Y * Y) * (a * a + b * b) = (X * b - Y * a) * (X * b - Y * a) + (X * a + Y * b) * (X * a + Y * b) := by grind
  have l2 : (a * a + b * b) * (c * c + d * d) = (b * c - a * d) * (b * c - a * d) + (a * c + b * d) * (a * c + b * d) := by grind
  have p3 : 0 ≤ (a * c + b * d) * (a * c + b * d) := by have := Int.natAbs_mul_self (a := a * c + b * d); omega
  have l3 : (a * a + b * b) * (c * c + d * d) ≤ (a * a + b * b) * 128 := Int.mul_le_mul_of_nonneg_left h2 (by omega)
  have l4 : (a * a + b * b) * (a * a + b * b) ≤ (a * a + b * b) * 128 := Int.mul_le_mul_of_nonneg_left h1 (by omega)
  have l5 : (X * X + Y * Y) * (a * a + b * b) ≤ 256 * (a * a + b * b) := by omega
  exact Int.le_of_mul_le_mul_right l5 hN
theorem sq_small {x k : Int} (hk : 0 ≤ k) (h : x * x ≤ k * k + 2 * k) : (x.natAbs : Int) ≤ k := by
  apply Int.le_of_not_gt
  intro hg
  have : (k + 1) * (k + 1) ≤ (x.natAbs : Int) * x.natAbs := Int.mul_le_mul (by omega) (by omega) (by omega) (by omega)
  have e : (x.natAbs : Int) * x.natAbs = x * x := Int.natAbs_mul_self
  have e2 : (k + 1) * (k + 1) = k * k + 2 * k + 1 := by grind
  omega
/-- how much the nearest pixel measures at most -/
def mtop (what : Int) : Int := if what = 1 then 22 else if what = 2 then 16 else 256
theorem meas_near {what u v : Int} (h : u * u + v * v ≤ 256) : meas what (u.natAbs : Int) (v.natAbs : Int) ≤ mtop what := by
  have pu : 0 ≤ u * u := by have := Int.natAbs_mul_self (a := u); omega
  have pv : 0 ≤ v * v := by have := Int.natAbs_mul_self (a := v); omega
  have hu : (u.natAbs : Int) ≤ 16 := sq_small (by omega) (by omega)
  have hv : (v.natAbs : Int) ≤ 16 := sq_small (by omega) (by omega)
  have eu : (u.natAbs : Int) * u.natAbs = u * u := Int.natAbs_mul_self
  have ev : (v.natAbs : Int) * v.natAbs = v * v := Int.natAbs_mul_self
  unfold meas mtop
  split
  · generalize (u.natAbs : Int) = p at *
    generalize (v.natAbs : Int) = q at *
    have h3 : 0 ≤ (p - q) * (p - q) := by have := Int.natAbs_mul_self (a := p - q); omega
    have h4 : (p + q) * (p + q) + (p - q) * (p - q) = 2 * (p * p) + 2 * (q * q) := by grind
    have h5 : ((p + q).natAbs : Int) ≤ 22 := sq_small (by omega) (by omega)
    omega
  · split
    · split <;> omega
    · omega
theorem meas_far {what u v : Int} (h : 25 ≤ (u.natAbs : Int) ∨ 25 ≤ (v.natAbs : Int)) : mtop what < meas what (u.natAbs : Int) (v.natAbs : Int) := by
  unfold meas mtop
  split
  · omega
  · split
    · split <;> omega
    · have e1 : 0 ≤ (u.natAbs : Int) * u.natAbs := Int.mul_nonneg (by omega) (by omega)
      have e2 : 0 ≤ (v.natAbs : Int) * v.natAbs := Int.mul_nonneg (by omega) (by omega)
      rcases h with h | h
      · have : (25 : Int) * 25 ≤ (u.natAbs : Int) * u.natAbs := Int.mul_le_mul h h (by omega) (by omega)
        omega
      · have : (25 : Int) * 25 ≤ (v.natAbs : Int) * v.natAbs := Int.mul_le_mul h h (by omega) (by omega)
        omega
/-- the small screens: what every present screen keeps -/
def Scr0 (a b c d : Int) : Prop := a * a + b * b ≤ 128 ∧ c * c + d * d ≤ 128 ∧ a * d - b * c ≠ 0 ∧ ((a * d - b * c).natAbs : Int) ≤ 64
theorem Scr0.bd {a b c d : Int} (h : Scr0 a b c d) : (a.natAbs : Int) ≤ 11 ∧ (b.natAbs : Int) ≤ 11 ∧ (c.natAbs : Int) ≤ 11 ∧ (d.natAbs : Int) ≤ 11 := by
  obtain ⟨h1, h2, -, -⟩ := h
  have pa : 0 ≤ a * a := by have := Int.natAbs_mul_self (a := a); omega
  have pb : 0 ≤ b * b := by have := Int.natAbs_mul_self (a := b); omega
  have pc : 0 ≤ c * c := by have := Int.natAbs_mul_self (a := c); omega
  have pd : 0 ≤ d * d := by have := Int.natAbs_mul_self (a := d); omega
  exact ⟨sq_small (by omega) (by omega), sq_small (by omega) (by omega), sq_small (by omega) (by omega), sq_small (by omega) (by omega)⟩
theorem near_pixel {a b c d w s h ox oy x y : Int} (hs : Scr0 a b c d) (H : HB (InG a b c d) w s h) : ∃ X Y, InL w s h (X - x) (Y - y) ∧ (2 * X - ox) * (2 * X - ox) + (2 * Y - oy) * (2 * Y - oy) ≤ 256 := by
  obtain ⟨m, n, q⟩ := babai (tx := 2 * x - ox) (ty := 2 * y - oy) hs.2.2.1 hs.1 hs.2.1
  refine ⟨x - (m * a + n * c), y - (m * b + n * d), ?_, ?_⟩
  · obtain ⟨-, -, -, -, hq⟩ := H
    refine (hq _ _).mpr ⟨-m, -n, by grind, by grind⟩
  · have e1 : 2 * (x - (m * a + n * c)) - ox = 2 * x - ox - 2 * (m * a + n * c) := by grind
    have e2 : 2 * (y - (m * b + n * d)) - oy = 2 * y - oy - 2 * (m * b + n * d) := by grind
    rw [e1, e2]
    exact q
