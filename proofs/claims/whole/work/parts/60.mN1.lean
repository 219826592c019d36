set_option maxHeartbeats 4000000
-- ===== numbers: Int32 as Int within bounds =====
def iI (x : Int) : Int32 := Int32.ofInt x
theorem iI_add (x y : Int) : iI x + iI y = iI (x + y) := (Int32.ofInt_add x y).symm
theorem iI_sub (x y : Int) : iI x - iI y = iI (x - y) := (Int32.ofInt_sub x y).symm
theorem iI_mul (x y : Int) : iI x * iI y = iI (x * y) := (Int32.ofInt_mul x y).symm
theorem iI_neg (x : Int) : -iI x = iI (-x) := (Int32.ofInt_neg x).symm
theorem iI_toInt {x : Int} (h1 : -2147483648 ≤ x) (h2 : x < 2147483648) : (iI x).toInt = x := Int32.toInt_ofInt_of_le h1 h2
theorem iI_of (x : Int32) : iI x.toInt = x := Int32.ofInt_toInt x
theorem iI_nat (n : Nat) : iI (n : Int) = nI n := Int32.ofInt_eq_ofNat
theorem iI_inj {x y : Int} (h1 : -2147483648 ≤ x) (h2 : x < 2147483648) (h3 : -2147483648 ≤ y) (h4 : y < 2147483648) : iI x = iI y ↔ x = y := by
  refine ⟨fun h => ?_, fun h => by rw [h]⟩
  have := congrArg Int32.toInt h
  rwa [iI_toInt h1 h2, iI_toInt h3 h4] at this
theorem iI_le {x y : Int} (h1 : -2147483648 ≤ x) (h2 : x < 2147483648) (h3 : -2147483648 ≤ y) (h4 : y < 2147483648) : iI x ≤ iI y ↔ x ≤ y := by
  rw [Int32.le_iff_toInt_le, iI_toInt h1 h2, iI_toInt h3 h4]
theorem iI_lt {x y : Int} (h1 : -2147483648 ≤ x) (h2 : x < 2147483648) (h3 : -2147483648 ≤ y) (h4 : y < 2147483648) : iI x < iI y ↔ x < y := by
  rw [Int32.lt_iff_toInt_lt, iI_toInt h1 h2, iI_toInt h3 h4]
theorem iI_0 : (0 : Int32) = iI 0 := by decide +kernel
theorem iI_1 : (1 : Int32) = iI 1 := by decide +kernel
theorem iI_m1 : (-1 : Int32) = iI (-1) := by decide +kernel
theorem iI_tdiv {x y : Int} (h1 : -2147483648 ≤ x) (h2 : x < 2147483648) (h3 : -2147483648 ≤ y) (h4 : y < 2147483648) : iI x / iI y = iI (x.tdiv y) := by
  refine (Int32.ofInt_tdiv ?_ ?_ ?_ ?_).symm <;> simp [Int32.minValue, Int32.maxValue] <;> omega
theorem iI_clamp {x : Int} (h1 : 0 ≤ x) (h2 : x < 2147483648) : (iI x).toNatClampNeg = x.toNat := by
  have : (iI x).toNatClampNeg = (iI x).toInt.toNat := rfl
  rw [this, iI_toInt (by omega) h2]
-- ===== what the small models answer, over Int =====
theorem i32_nonneg_msb (z : Int32) : 0 ≤ z ↔ z.toBitVec.msb = false := by
  rw [Int32.le_iff_toInt_le, Int32.toInt_zero, BitVec.msb_eq_toInt]
  show 0 ≤ z.toBitVec.toInt ↔ _
  simp [Int.not_lt]
theorem xor_sign (x y : Int32) : (0 ≤ x ^^^ y) ↔ (0 ≤ x ↔ 0 ≤ y) := by
  rw [i32_nonneg_msb, i32_nonneg_msb, i32_nonneg_msb, Int32.toBitVec_xor, BitVec.msb_xor]
  cases x.toBitVec.msb <;> cases y.toBitVec.msb <;> simp
theorem iI_nonneg {x : Int} (h1 : -2147483648 ≤ x) (h2 : x < 2147483648) : 0 ≤ iI x ↔ 0 ≤ x := by
  rw [iI_0, iI_le (by omega) (by omega) h1 h2]
theorem iI_neg' {x : Int} (h1 : -2147483648 ≤ x) (h2 : x < 2147483648) : iI x < 0 ↔ x < 0 := by
  rw [iI_0, iI_lt h1 h2 (by omega) (by omega)]
theorem iI_eq0 {x : Int} (h1 : -2147483648 ≤ x) (h2 : x < 2147483648) : iI x = 0 ↔ x = 0 := by
  rw [iI_0, iI_inj h1 h2 (by omega) (by omega)]
theorem ediv_bounds {x y : Int} (hy : 0 < y) : y * (x / y) ≤ x ∧ x < y * (x / y) + y := by
  have h1 := Int.mul_ediv_add_emod x y
  have h2 := Int.emod_nonneg x (show y ≠ 0 by omega)
  have h3 := Int.emod_lt_of_pos x hy
  omega
theorem ediv_range {x y : Int} (hy : 0 < y) (h1 : -2147483648 ≤ x) (h2 : x < 2147483648) : -2147483648 ≤ x / y ∧ x / y < 2147483648 := by
  refine ⟨?_, ?_⟩
  · have : (-2147483648 : Int) ≤ x / y := by
      rw [Int.le_ediv_iff_mul_le hy]
      have : (2147483648 : Int) * 1 ≤ 2147483648 * y := Int.mul_le_mul_of_nonneg_left (by omega) (by omega)
      omega
    exact this
  · rw [Int.ediv_lt_iff_lt_mul hy]
    have : (2147483648 : Int) * 1 ≤ 2147483648 * y := Int.mul_le_mul_of_nonneg_left (by omega) (by omega)
    omega
theorem tdiv_neg {x y : Int} (hx : x < 0) (hy : 0 < y) : x.tdiv y = if x % y = 0 then x / y else x / y + 1 := by
  have hm := Int.mul_ediv_add_emod x y
  by_cases hd : x % y = 0
  · rw [if_pos hd, Int.tdiv_eq_ediv, if_pos (Or.inr (Int.dvd_of_emod_eq_zero hd)), Int.add_zero]
  · rw [if_neg hd, Int.tdiv_eq_ediv, if_neg, Int.sign_eq_one_of_pos hy]
    rintro (h | h)
    · omega
    · exact hd (Int.emod_eq_zero_of_dvd h)
theorem J_floorDiv {x y : Int} (h1 : -2147483648 ≤ x) (h2 : x < 2147483648) (hy : 0 < y) (h3 : y < 2147483648) : mJ9_floorDiv_7cf53 (iI x) (iI y) = some (iI (x / y)) := by
  have hy0 : ¬ iI y = 0 := by rw [iI_eq0 (by omega) h3]; omega
  have hyp : 0 ≤ iI y := (iI_nonneg (by omega) h3).mpr (by omega)
  have hr := ediv_range hy h1 h2
  have hb := ediv_bounds (x := x) hy
  have hm := Int.mul_ediv_add_emod x y
  have hm0 := Int.emod_nonneg x (show y ≠ 0 by omega)
  have hm1 := Int.emod_lt_of_pos x hy
  unfold mJ9_floorDiv_7cf53
  simp only [gz, nmB, if_neg hy0, xor_sign, hyp, iff_true, iI_nonneg h1 h2, iI_tdiv h1 h2 (show -2147483648 ≤ y by omega) h3]
  by_cases hx : 0 ≤ x
  · rw [if_pos hx, Int.tdiv_eq_ediv_of_nonneg hx]
  · rw [if_neg hx, tdiv_neg (by omega) hy, iI_mul]
    by_cases hd : x % y = 0
    · have e : x / y * y = x := by rw [Int.mul_comm]; omega
      rw [if_pos hd, e, if_pos rfl]
    · have e2 : (x / y + 1) * y = y * (x / y) + y := by rw [Int.add_mul, Int.one_mul, Int.mul_comm]
      rw [if_neg hd, e2, if_neg, iI_1, iI_sub, Int.add_sub_cancel]
      rw [iI_inj (by omega) (by omega) h1 h2]
      omega
theorem J_floorMod {x y : Int} (h1 : -2147483648 ≤ x) (h2 : x < 2147483648) (hy : 0 < y) (h3 : y < 2147483648) : mJ9_floorMod_7cf53 (iI x) (iI y) = some (iI (x % y)) := by
  have hy0 : ¬ iI y = 0 := by rw [iI_eq0 (by omega) h3]; omega
  have hyp : 0 ≤ iI y := (iI_nonneg (by omega) h3).mpr (by omega)
  have hr := ediv_range hy h1 h2
  have hb := ediv_bounds (x := x) hy
  have hm := Int.mul_ediv_add_emod x y
  have hm0 := Int.emod_nonneg x (show y ≠ 0 by omega)
  have hm1 := Int.emod_lt_of_pos x hy
  unfold mJ9_floorMod_7cf53
  simp only [gz, nmB, if_neg hy0, xor_sign, hyp, iff_true, iI_nonneg h1 h2, iI_tdiv h1 h2 (show -2147483648 ≤ y by omega) h3]
  by_cases hx : 0 ≤ x
  · rw [if_pos hx, Int.tdiv_eq_ediv_of_nonneg hx, iI_mul, iI_sub]
    have : x - x / y * y = x % y := by rw [Int.mul_comm]; omega
    rw [this]
  · rw [if_neg hx, tdiv_neg (by omega) hy, iI_mul, iI_sub]
    by_cases hd : x % y = 0
    · have e : x / y * y = x := by rw [Int.mul_comm]; omega
      rw [if_pos hd, e, Int.sub_self, hd, ← iI_0, if_pos rfl]
    · have e2 : (x / y + 1) * y = y * (x / y) + y := by rw [Int.add_mul, Int.one_mul, Int.mul_comm]
      rw [if_neg hd, e2, if_neg, iI_add]
      · congr 2
        omega
      · rw [iI_eq0 (by omega) (by omega)]
        omega
theorem X4_floorDiv {x y : Int} (h1 : -2147483648 ≤ x) (h2 : x < 2147483648) (hy : 0 < y) (h3 : y < 2147483648) : mX4_floorDiv (iI x) (iI y) = some (iI (x / y)) := by
  have hy0 : ¬ iI y = 0 := by rw [iI_eq0 (by omega) h3]; omega
  unfold mX4_floorDiv
  rw [if_neg hy0, J_floorDiv h1 h2 hy h3]
  rfl
theorem X4_mod {x y : Int} (h1 : -2147483648 ≤ x) (h2 : x < 2147483648) (hy : 0 < y) (h3 : y < 2147483648) : mX4_mod (iI x) (iI y) = some (iI (x % y)) := by
  have hy0 : ¬ iI y = 0 := by rw [iI_eq0 (by omega) h3]; omega
  unfold mX4_mod
  rw [if_neg hy0, J_floorMod h1 h2 hy h3]
  rfl
theorem X4_div {x y : Int} (h1 : -2147483648 ≤ x) (h2 : x < 2147483648) (hy : y ≠ 0) (h3 : -2147483648 ≤ y) (h4 : y < 2147483648) : mX4_div (iI x) (iI y) = some (iI (x.tdiv y)) := by
  have hy0 : ¬ iI y = 0 := by rw [iI_eq0 h3 h4]; omega
  unfold mX4_div
  simp only [gz, if_neg hy0, iI_tdiv h1 h2 h3 h4]
theorem X4_at {n : Nat} {f : Nat → Int32} {i : Nat} (h : i < n) (hn : n < 2147483648) : mX4_at n f (nI i) = some (f i) := by
  have h0 : ¬ nI i < 0 := nI_pos (by omega)
  have h1 : ¬ nI n ≤ nI i := nI_ge h hn
  have h2 : (nI i).toInt = (i : Int) := nI_toInt (by omega)
  have h3 : (nI i).toNatClampNeg = i := nI_clamp (by omega)
  unfold mX4_at
  rw [if_neg h0, if_neg h1, gd, if_pos (by rw [h2]; omega), h3]
theorem X4_put {n : Nat} {f : Nat → Int32} {i : Nat} {x : Int32} (h : i < n) (hn : n < 2147483648) : mX4_put n f (nI i) x = some (upd f i x) := by
  have h0 : ¬ nI i < 0 := nI_pos (by omega)
  have h1 : ¬ nI n ≤ nI i := nI_ge h hn
  have h2 : (nI i).toInt = (i : Int) := nI_toInt (by omega)
  have h3 : (nI i).toNatClampNeg = i := nI_clamp (by omega)
  unfold mX4_put
  rw [if_neg h0, if_neg h1, gd, if_pos (by rw [h2]; omega), h3]
theorem iI_abs {x : Int} (h1 : -2147483648 < x) (h2 : x < 2147483648) : (if 0 ≤ iI x then iI x else 0 - iI x) = iI (x.natAbs : Int) := by
  by_cases h : 0 ≤ x
  · rw [if_pos ((iI_nonneg (by omega) h2).mpr h)]
    congr 1; omega
  · rw [if_neg (fun q => h ((iI_nonneg (by omega) h2).mp q)), iI_0, iI_sub]
    congr 1; omega
theorem X5_abs {x : Int} (h1 : -2147483648 < x) (h2 : x < 2147483648) : mX5_abs (iI x) = some (iI (x.natAbs : Int)) := by
  unfold mX5_abs
  by_cases h : 0 ≤ x
  · rw [if_pos ((iI_nonneg (by omega) h2).mpr h)]
    have : (x.natAbs : Int) = x := by omega
    rw [this]
  · rw [if_neg (fun q => h ((iI_nonneg (by omega) h2).mp q)), iI_neg]
    have : (x.natAbs : Int) = -x := by omega
    rw [this]
-- ===== lattices over Int: the one basis, the numbers of places =====
def InL (w s h x y : Int) : Prop := ∃ j, y = j * h ∧ w ∣ x - j * s
def InG (a b c d x y : Int) : Prop := ∃ i j, x = i * a + j * c ∧ y = i * b + j * d
def HB (P : Int → Int → Prop) (w s h : Int) : Prop := 0 < w ∧ 0 ≤ s ∧ s < w ∧ 0 < h ∧ ∀ x y, InL w s h x y ↔ P x y
theorem dvd_pos_eq {a b : Int} (ha : 0 < a) (hb : 0 < b) (h1 : a ∣ b) (h2 : b ∣ a) : a = b := Int.dvd_antisymm (by omega) (by omega) h1 h2
theorem zero_of_small {w x : Int} (h : w ∣ x) (h1 : -w < x) (h2 : x < w) : x = 0 := by
  obtain ⟨k, rfl⟩ := h
  rcases Int.lt_trichotomy k 0 with hk | hk | hk
  · have : w * k ≤ w * (-1) := Int.mul_le_mul_of_nonneg_left (by omega) (by omega)
    omega
  · rw [hk, Int.mul_zero]
  · have : w * 1 ≤ w * k := Int.mul_le_mul_of_nonneg_left (by omega) (by omega)
    omega
theorem dvd_of_emod_eq {a b w : Int} (h : a % w = b % w) : w ∣ a - b := Int.dvd_of_emod_eq_zero (Int.emod_eq_emod_iff_emod_sub_eq_zero.mp h)
theorem emod_eq_of_dvd {a b w : Int} (h : w ∣ a - b) : a % w = b % w := Int.emod_eq_emod_iff_emod_sub_eq_zero.mpr (Int.emod_eq_zero_of_dvd h)
theorem HB.uniq {P : Int → Int → Prop} {w s h w' s' h' : Int} (A : HB P w s h) (B : HB P w' s' h') : w = w' ∧ s = s' ∧ h = h' := by
  obtain ⟨a1, a2, a3, a4, a5⟩ := A
  obtain ⟨b1, b2, b3, b4, b5⟩ := B
  have ab : ∀ x y, InL w s h x y ↔ InL w' s' h' x y := fun x y => (a5 x y).trans (b5 x y).symm
  have h1 : w' ∣ w := by
    obtain ⟨j, e1, e2⟩ := (ab w 0).mp ⟨0, by simp, by simp⟩
    have : j = 0 := by
      rcases Int.mul_eq_zero.mp e1.symm with h | h
      · exact h
      · omega
    subst this; simpa using e2
  have h2 : w ∣ w' := by
    obtain ⟨j, e1, e2⟩ := (ab w' 0).mpr ⟨0, by simp, by simp⟩
    have : j = 0 := by
      rcases Int.mul_eq_zero.mp e1.symm with h | h
      · exact h
      · omega
    subst this; simpa using e2
  have hw : w = w' := dvd_pos_eq a1 b1 h2 h1
  subst hw
  obtain ⟨j, e1, e2⟩ := (ab s h).mp ⟨1, by simp, by simp⟩
  obtain ⟨j', e1', e2'⟩ := (ab s' h').mpr ⟨1, by simp, by simp⟩
  have hh : h = h' := dvd_pos_eq a4 b4 ⟨j', by rw [e1', Int.mul_comm]⟩ ⟨j, by rw [e1, Int.mul_comm]⟩
  subst hh
  have hj : j = 1 := by
    have : (j - 1) * h = 0 := by rw [Int.sub_mul]; omega
    rcases Int.mul_eq_zero.mp this with h | h <;> omega
  subst hj
  rw [Int.one_mul] at e2
  have : s - s' = 0 := zero_of_small e2 (by omega) (by omega)
  exact ⟨rfl, by omega, rfl⟩
/-- the lattice of two vectors, from Bezout -/
theorem HB.ofG {a b c d h b' d' u v : Int} (hb : b = h * b') (hd : d = h * d') (hh : 0 < h) (huv : u * b' + v * d' = 1) (hw : a * d' - b' * c ≠ 0) {w s : Int} (ew : w = ((a * d' - b' * c).natAbs : Int)) (es : s = (u * a + v * c) % w) : HB (InG a b c d) w s h := by
  have w0 : 0 < w := by omega
  have hdv : w ∣ a * d' - b' * c := by rw [ew]; exact Int.natAbs_dvd.mpr (Int.dvd_refl _)
  have hdv2 : a * d' - b' * c ∣ w := by rw [ew]; exact Int.dvd_natAbs.mpr (Int.dvd_refl _)
  have hs : w ∣ u * a + v * c - s := by rw [es]; exact Int.dvd_self_sub_emod
  refine ⟨w0, by rw [es]; exact Int.emod_nonneg _ (by omega), by rw [es]; exact Int.emod_lt_of_pos _ w0, hh, fun x y => ⟨?_, ?_⟩⟩
  · rintro ⟨J, e1, e2⟩
    -- x = J (u a + v c) + t (a d' - b' c)
    have e3 : w ∣ x - J * (u * a + v * c) := by
      have : x - J * (u * a + v * c) = (x - J * s) - J * (u * a + v * c - s) := by grind
      rw [this]; exact Int.dvd_sub e2 (Int.dvd_mul_of_dvd_right hs)
    obtain ⟨t, ht⟩ := Int.dvd_trans hdv2 e3
    refine ⟨J * u + d' * t, J * v - b' * t, by grind, by grind⟩
  · rintro ⟨i, j, e1, e2⟩
    refine ⟨i * b' + j * d', by grind, ?_⟩
    have : x - (i * b' + j * d') * s = (i * v - j * u) * (a * d' - b' * c) + (i * b' + j * d') * (u * a + v * c - s) := by
      rw [e1]
      have h1 : u * b' = 1 - v * d' := by omega
      grind
    rw [this]
    exact Int.dvd_add (Int.dvd_mul_of_dvd_right hdv) (Int.dvd_mul_of_dvd_right hs)
theorem HB.congr {P Q : Int → Int → Prop} {w s h : Int} (A : HB P w s h) (hq : ∀ x y, P x y ↔ Q x y) : HB Q w s h := by
  obtain ⟨a1, a2, a3, a4, a5⟩ := A
  exact ⟨a1, a2, a3, a4, fun x y => (a5 x y).trans (hq x y)⟩
-- the number of a pixel's place
def num (w s h x y : Int) : Int := (y - y / h * h) * w + (x - y / h * s) % w
theorem num_range {w s h : Int} (hw : 0 < w) (hh : 0 < h) (x y : Int) : 0 ≤ num w s h x y ∧ num w s h x y < w * h := by
  have a1 := Int.emod_nonneg (x - y / h * s) (show w ≠ 0 by omega)
  have a2 := Int.emod_lt_of_pos (x - y / h * s) hw
  have a3 : y - y / h * h = y % h := by have := Int.mul_ediv_add_emod y h; rw [Int.mul_comm]; omega
  have a4 := Int.emod_nonneg y (show h ≠ 0 by omega)
  have a5 := Int.emod_lt_of_pos y hh
  unfold num
  rw [a3]
  have b1 : 0 ≤ y % h * w := Int.mul_nonneg a4 (by omega)
  have b2 : y % h * w ≤ (h - 1) * w := Int.mul_le_mul_of_nonneg_right (by omega) (by omega)
  have b3 : (h - 1) * w = w * h - w := by rw [Int.sub_mul, Int.mul_comm]; omega
  omega
theorem num_eq {w s h : Int} (hw : 0 < w) (hh : 0 < h) (x y x' y' : Int) : num w s h x y = num w s h x' y' ↔ InL w s h (x - x') (y - y') := by
  have a1 := Int.emod_nonneg (x - y / h * s) (show w ≠ 0 by omega)
  have a2 := Int.emod_lt_of_pos (x - y / h * s) hw
  have b1 := Int.emod_nonneg (x' - y' / h * s) (show w ≠ 0 by omega)
  have b2 := Int.emod_lt_of_pos (x' - y' / h * s) hw
  have a3 := Int.mul_ediv_add_emod y h
  have b3 := Int.mul_ediv_add_emod y' h
  have e1 : y - y / h * h = y % h := by rw [Int.mul_comm]; omega
  have e2 : y' - y' / h * h = y' % h := by rw [Int.mul_comm]; omega
  unfold num
  rw [e1, e2]
  constructor
  · intro e
    have q1 : y % h = y' % h := by
      have h1 : (y % h * w + (x - y / h * s) % w) / w = y % h := by
        rw [Int.add_comm, Int.add_mul_ediv_right _ _ (by omega), Int.ediv_eq_zero_of_lt a1 a2]; omega
      have h2 : (y' % h * w + (x' - y' / h * s) % w) / w = y' % h := by
        rw [Int.add_comm, Int.add_mul_ediv_right _ _ (by omega), Int.ediv_eq_zero_of_lt b1 b2]; omega
      rw [← h1, e, h2]
    have q2 : (x - y / h * s) % w = (x' - y' / h * s) % w := by rw [q1] at e; omega
    refine ⟨y / h - y' / h, ?_, ?_⟩
    · rw [Int.sub_mul, Int.mul_comm (y / h), Int.mul_comm (y' / h)]; omega
    · have := dvd_of_emod_eq q2
      have e3 : x - x' - (y / h - y' / h) * s = (x - y / h * s) - (x' - y' / h * s) := by grind
      rw [e3]
      exact this
  · rintro ⟨j, j1, j2⟩
    have ey : y = y' + j * h := by omega
    have q0 : y / h = y' / h + j := by rw [ey, Int.add_mul_ediv_right _ _ (by omega)]
    have q1 : y % h = y' % h := by rw [ey, Int.add_mul_emod_self_right]
    have q2 : (x - y / h * s) % w = (x' - y' / h * s) % w := by
      apply emod_eq_of_dvd
      have e3 : x - y / h * s - (x' - y' / h * s) = x - x' - j * s := by rw [q0]; grind
      rw [e3]; exact j2
    rw [q1, q2]
theorem num_self {w s h p : Int} (hw : 0 < w) (hh : 0 < h) (h0 : 0 ≤ p) (h1 : p < w * h) : num w s h (p % w) (p / w) = p := by
  have c1 : 0 ≤ p / w := Int.ediv_nonneg h0 (by omega)
  have c2 : p / w < h := Int.ediv_lt_of_lt_mul hw (by rw [Int.mul_comm]; exact h1)
  have c3 : p / w / h = 0 := Int.ediv_eq_zero_of_lt c1 c2
  unfold num
  rw [c3]
  have := Int.mul_ediv_add_emod p w
  rw [Int.zero_mul, Int.zero_mul, Int.sub_zero, Int.sub_zero, Int.emod_emod_of_dvd _ (Int.dvd_refl w), Int.mul_comm]
  exact this
-- ===== small models over Int =====
theorem mul_bd {x y A B : Int} (h1 : -A ≤ x) (h2 : x ≤ A) (h3 : 0 ≤ y) (h4 : y ≤ B) : -(A * B) ≤ x * y ∧ x * y ≤ A * B := by
  have hA : 0 ≤ A := by omega
  have a1 : x * y ≤ A * y := Int.mul_le_mul_of_nonneg_right h2 h3
  have a2 : A * y ≤ A * B := Int.mul_le_mul_of_nonneg_left h4 hA
  have a3 : -A * y ≤ x * y := Int.mul_le_mul_of_nonneg_right h1 h3
  have a4 : -A * y = -(A * y) := Int.neg_mul _ _
  omega
theorem iI_lit (n : Nat) : (OfNat.ofNat n : Int32) = iI ((n : Nat) : Int) := by
  show Int32.ofNat n = Int32.ofInt (n : Int)
  exact Int32.ofInt_eq_ofNat.symm
theorem iI_rem {x y : Int} (h1 : -2147483648 ≤ x) (h2 : x < 2147483648) (hy : y ≠ 0) (h3 : -2147483648 ≤ y) (h4 : y < 2147483648) : iI x - iI x / iI y * iI y = iI (x.tmod y) := by
  rw [iI_tdiv h1 h2 h3 h4, iI_mul, iI_sub]
  congr 1
  have := Int.mul_tdiv_add_tmod x y
  rw [Int.mul_comm]; omega
theorem tmod_fix {x y : Int} (hy : 0 < y) : (if 0 ≤ x.tmod y then x.tmod y else x.tmod y + y) = x % y := by
  have hm := Int.mul_ediv_add_emod x y
  have hm0 := Int.emod_nonneg x (show y ≠ 0 by omega)
  have hm1 := Int.emod_lt_of_pos x hy
  by_cases hx : 0 ≤ x
  · rw [Int.tmod_eq_emod_of_nonneg hx, if_pos hm0]
  · have ht := Int.mul_tdiv_add_tmod x y
    rw [tdiv_neg (by omega) hy] at ht
    split at ht
    · rw [if_pos (by omega)]; omega
    · rw [Int.mul_add, Int.mul_one] at ht
      rw [if_neg (by omega)]; omega
theorem X5_mod {x y : Int} (h1 : -2147483648 ≤ x) (h2 : x < 2147483648) (hy : 0 < y) (h3 : y < 2147483648) : mX5_mod (iI x) (iI y) = some (iI (x % y)) := by
  have hy0 : ¬ iI y = 0 := by rw [iI_eq0 (by omega) h3]; omega
  have ht := tmod_fix (x := x) hy
  have hb1 : -y ≤ x.tmod y := by
    have := Int.emod_nonneg x (show y ≠ 0 by omega)
    split at ht <;> omega
  have hb2 : x.tmod y < y := by
    have := Int.emod_lt_of_pos x hy
    split at ht <;> omega
  unfold mX5_mod
  simp only [gz, nmB, if_neg hy0]
  rw [iI_rem h1 h2 (by omega) (by omega) h3]
  simp only [iI_nonneg (x := x.tmod y) (by omega) (by omega), iI_add]
  rw [← ht]
  split <;> rfl
theorem X5_floor {x y : Int} (h1 : -1073741824 ≤ x) (h2 : x < 1073741824) (hy : 0 < y) (h3 : y < 1073741824) : mX5_floor (iI x) (iI y) = some (iI (x / y)) := by
  have hy0 : ¬ iI y = 0 := by rw [iI_eq0 (by omega) (by omega)]; omega
  have hm := Int.mul_ediv_add_emod x y
  have hm0 := Int.emod_nonneg x (show y ≠ 0 by omega)
  have hm1 := Int.emod_lt_of_pos x hy
  unfold mX5_floor
  rw [X5_mod (by omega) (by omega) hy (by omega)]
  simp only [bnd1, gz, if_neg hy0, iI_sub]
  have e : x - x % y = y * (x / y) := by omega
  rw [iI_tdiv (by omega) (by omega) (by omega) (by omega), e, Int.mul_tdiv_cancel_left _ (by omega)]
/-- a basis of a small cell -/
def SB (w s h : Int) : Prop := 0 < w ∧ w ≤ 64 ∧ 0 ≤ s ∧ s < w ∧ 0 < h ∧ h ≤ 64
theorem div_bd {y h A : Int} (hh : 0 < h) (h1 : -A ≤ y) (h2 : y ≤ A) : -A ≤ y / h ∧ y / h ≤ A := by
  have := ediv_bounds (x := y) hh
  constructor
  · rw [Int.le_ediv_iff_mul_le hh]
    have : A * 1 ≤ A * h := Int.mul_le_mul_of_nonneg_left (by omega) (by omega)
    have : -A * h = -(A * h) := Int.neg_mul _ _
    omega
  · have : y / h < A + 1 := by
      rw [Int.ediv_lt_iff_lt_mul hh]
      have : (A + 1) * 1 ≤ (A + 1) * h := Int.mul_le_mul_of_nonneg_left (by omega) (by omega)
      omega
    omega
theorem X2_numberOf {w s h x y : Int} (B : SB w s h) (hx1 : -100000 ≤ x) (hx2 : x ≤ 100000) (hy1 : -100000 ≤ y) (hy2 : y ≤ 100000) : mX2_numberOf (iI w) (iI s) (iI h) (iI x) (iI y) = some (iI (num w s h x y)) := by
  obtain ⟨b1, b2, b3, b4, b5, b6⟩ := B
  have d := div_bd b5 hy1 hy2
  have m := mul_bd d.1 d.2 b3 (show s ≤ 64 by omega)
  unfold mX2_numberOf
  rw [X4_floorDiv (by omega) (by omega) b5 (by omega)]
  simp only [bnd1, iI_mul, iI_sub]
  rw [X4_mod (by omega) (by omega) b1 (by omega)]
  simp only [bnd1, iI_mul, iI_sub, iI_add, num]
theorem X5_placeAt {w s h x y : Int} (B : SB w s h) (hx1 : -100000 ≤ x) (hx2 : x ≤ 100000) (hy1 : -100000 ≤ y) (hy2 : y ≤ 100000) : mX5_placeAt (iI w) (iI s) (iI h) (iI x) (iI y) = some (iI (num w s h x y)) := by
  obtain ⟨b1, b2, b3, b4, b5, b6⟩ := B
  have d := div_bd b5 hy1 hy2
  have m := mul_bd d.1 d.2 b3 (show s ≤ 64 by omega)
  unfold mX5_placeAt
  rw [X5_floor (by omega) (by omega) b5 (by omega)]
  simp only [bnd1, iI_mul, iI_sub]
  rw [X5_mod (by omega) (by omega) b1 (by omega)]
  simp only [bnd1, iI_mul, iI_sub, iI_add, num]
theorem X4_areaOf {a b c d : Int} (h1 : -2147483648 < a * d - b * c) (h2 : a * d - b * c < 2147483648) : mX4_areaOf (iI a) (iI b) (iI c) (iI d) = some (iI ((a * d - b * c).natAbs : Int)) := by
  unfold mX4_areaOf
  simp only [iI_mul, iI_sub]
  rw [iI_abs h1 h2]
theorem X5_areaOf {a b c d : Int} (h1 : -2147483648 < a * d - b * c) (h2 : a * d - b * c < 2147483648) : mX5_areaOf (iI a) (iI b) (iI c) (iI d) = some (iI ((a * d - b * c).natAbs : Int)) := by
  unfold mX5_areaOf
  simp only [iI_mul, iI_sub]
  rw [X5_abs h1 h2]
  rfl
-- gcd
theorem X5_gcd_L (n : Nat) : ∀ (fu x y : Nat), x ≤ n → n < fu → x < 2147483648 → y < 2147483648 → mX5_gcd_L10 fu (iI x) (iI y) = some (iI 0, iI (Nat.gcd x y)) := by
  induction n with
  | zero =>
    intro fu x y hx hf hxb hyb
    obtain ⟨fu, rfl⟩ : ∃ k, fu = k + 1 := ⟨fu - 1, by omega⟩
    have : x = 0 := by omega
    subst this
    rw [mX5_gcd_L10, if_pos (by rw [iI_0, iI_le (by omega) (by omega) (by omega) (by omega)]; omega), Nat.gcd_zero_left]
    rfl
  | succ n ih =>
    intro fu x y hx hf hxb hyb
    obtain ⟨fu, rfl⟩ : ∃ k, fu = k + 1 := ⟨fu - 1, by omega⟩
    by_cases h0 : x = 0
    · subst h0
      rw [mX5_gcd_L10, if_pos (by rw [iI_0, iI_le (by omega) (by omega) (by omega) (by omega)]; omega), Nat.gcd_zero_left]
      rfl
    · have hx0 : ¬ iI x = 0 := by rw [iI_eq0 (by omega) (by omega)]; omega
      rw [mX5_gcd_L10, if_neg (by rw [iI_0, iI_le (by omega) (by omega) (by omega) (by omega)]; omega)]
      simp only [gz, if_neg hx0, nmB]
      rw [iI_rem (by omega) (by omega) (by omega) (by omega) (by omega)]
      have e : ((y : Int)).tmod (x : Int) = ((y % x : Nat) : Int) := by rw [Int.tmod_eq_emod_of_nonneg (by omega)]; rfl
      have hl : y % x < x := Nat.mod_lt _ (by omega)
      rw [e, ih fu (y % x) x (by omega) (by omega) (by omega) (by omega), ← Nat.gcd_rec]
theorem X5_gcd {a b : Int} (h1 : -2147483648 < a) (h2 : a < 2147483648) (h3 : -999999 ≤ b) (h4 : b ≤ 999999) : mX5_gcd (iI a) (iI b) = some (iI (Int.gcd a b : Int)) := by
  unfold mX5_gcd
  rw [X5_abs h1 h2, X5_abs (by omega) (by omega)]
  simp only [bnd1]
  rw [X5_gcd_L b.natAbs FU _ _ (Nat.le_refl _) (by unfold FU; omega) (by omega) (by omega)]
  simp only [bnd2]
  rw [Nat.gcd_comm]
  rfl
theorem X4_gcd_L (n : Nat) : ∀ (fu x y k : Nat), x ≤ n → n < fu → k + n < 1000 → x < 2147483648 → y < 2147483648 → ∃ r, mX4_gcd_L13 fu (iI k) (iI x) (iI y) = some (r, iI 0, iI (Nat.gcd x y)) := by
  induction n with
  | zero =>
    intro fu x y k hx hf hk hxb hyb
    obtain ⟨fu, rfl⟩ : ∃ k, fu = k + 1 := ⟨fu - 1, by omega⟩
    have : x = 0 := by omega
    subst this
    refine ⟨iI k, ?_⟩
    rw [mX4_gcd_L13, if_neg (by rw [iI_lit 1000, iI_le (by omega) (by omega) (by omega) (by omega)]; omega), if_pos (by rw [iI_eq0 (by omega) (by omega)]; rfl), Nat.gcd_zero_left]
    rfl
  | succ n ih =>
    intro fu x y k hx hf hk hxb hyb
    obtain ⟨fu, rfl⟩ : ∃ k, fu = k + 1 := ⟨fu - 1, by omega⟩
    by_cases h0 : x = 0
    · subst h0
      refine ⟨iI k, ?_⟩
      rw [mX4_gcd_L13, if_neg (by rw [iI_lit 1000, iI_le (by omega) (by omega) (by omega) (by omega)]; omega), if_pos (by rw [iI_eq0 (by omega) (by omega)]; rfl), Nat.gcd_zero_left]
      rfl
    · have hx0 : ¬ iI x = 0 := by rw [iI_eq0 (by omega) (by omega)]; omega
      have e : ((y : Int)).tmod (x : Int) = ((y % x : Nat) : Int) := by rw [Int.tmod_eq_emod_of_nonneg (by omega)]; rfl
      have hl : y % x < x := Nat.mod_lt _ (by omega)
      obtain ⟨r, hr⟩ := ih fu (y % x) x (k + 1) (by omega) (by omega) (by omega) (by omega) (by omega)
      refine ⟨r, ?_⟩
      rw [mX4_gcd_L13, if_neg (by rw [iI_lit 1000, iI_le (by omega) (by omega) (by omega) (by omega)]; omega), if_neg hx0]
      simp only [gz, if_neg hx0, nmB]
      rw [iI_rem (by omega) (by omega) (by omega) (by omega) (by omega), e, iI_1, iI_add]
      rw [Nat.gcd_rec, ← hr]
      rfl
theorem X4_gcd {a b : Int} (h1 : -2147483648 < a) (h2 : a < 2147483648) (h3 : -2147483648 < b) (h4 : b < 2147483648) (h5 : a.natAbs ≤ 900 ∨ b.natAbs ≤ 900) : mX4_gcd (iI a) (iI b) = some (iI (Int.gcd a b : Int)) := by
  unfold mX4_gcd
  simp only [iI_abs h1 h2, iI_abs h3 h4, nmB]
  have H : ∃ r, mX4_gcd_L13 FU (iI 0) (iI b.natAbs) (iI a.natAbs) = some (r, iI 0, iI (Nat.gcd b.natAbs a.natAbs)) := by
    by_cases hb : b.natAbs ≤ 900
    · exact X4_gcd_L b.natAbs FU _ _ 0 (Nat.le_refl _) (by unfold FU; omega) (by omega) (by omega) (by omega)
    · have ha : a.natAbs ≤ 900 := by omega
      have hb0 : ¬ iI b.natAbs = 0 := by rw [iI_eq0 (by omega) (by omega)]; omega
      have e : ((a.natAbs : Int)).tmod (b.natAbs : Int) = ((a.natAbs % b.natAbs : Nat) : Int) := by rw [Int.tmod_eq_emod_of_nonneg (by omega)]; rfl
      have hl : a.natAbs % b.natAbs ≤ a.natAbs := Nat.mod_le _ _
      obtain ⟨r, hr⟩ := X4_gcd_L 900 999999 (a.natAbs % b.natAbs) b.natAbs 1 (by omega) (by omega) (by omega) (by omega) (by omega)
      refine ⟨r, ?_⟩
      show mX4_gcd_L13 (999999 + 1) _ _ _ = _
      rw [mX4_gcd_L13, if_neg (by rw [iI_lit 1000, iI_le (by omega) (by omega) (by omega) (by omega)]; omega), if_neg hb0]
      simp only [gz, if_neg hb0, nmB]
      rw [iI_rem (by omega) (by omega) (by omega) (by omega) (by omega), e, iI_1, iI_add, Nat.gcd_rec, ← hr]
      rfl
  obtain ⟨r, hr⟩ := H
  rw [iI_0, hr]
  simp only [bnd3]
  rw [Nat.gcd_comm]
  rfl
