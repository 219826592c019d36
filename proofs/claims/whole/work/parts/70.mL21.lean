set_option maxHeartbeats 4000000
-- ===== shorten, turn =====
def nr (x y : Int) : Int := if 0 ≤ x then (2 * (x.natAbs : Int) + y - 1) / (2 * y) else -((2 * (x.natAbs : Int) + y - 1) / (2 * y))
theorem nr_facts {x y : Int} (hy : 0 < y) : 0 ≤ (2 * (x.natAbs : Int) + y - 1) / (2 * y) ∧ 2 * y * ((2 * (x.natAbs : Int) + y - 1) / (2 * y)) ≤ 2 * (x.natAbs : Int) + y - 1 ∧ 2 * (x.natAbs : Int) + y - 1 < 2 * y * ((2 * (x.natAbs : Int) + y - 1) / (2 * y)) + 2 * y := by
  have := ediv_bounds (x := 2 * (x.natAbs : Int) + y - 1) (y := 2 * y) (by omega)
  exact ⟨Int.ediv_nonneg (by omega) (by omega), this⟩
theorem X3_nearestRatio {x y : Int} (hx : (x.natAbs : Int) ≤ 100000) (hy : 0 < y) (hy' : y ≤ 100000) : mX3_nearestRatio (iI x) (iI y) = some (iI (nr x y)) := by
  have f := nr_facts (x := x) hy
  unfold mX3_nearestRatio
  rw [iI_abs (by omega) (by omega)]
  simp only [iI_2, iI_1, iI_mul, iI_add, iI_sub]
  rw [X4_div (by omega) (by omega) (by omega) (by omega) (by omega), Int.tdiv_eq_ediv_of_nonneg (by omega)]
  simp only [bnd1, iI_nonneg (x := x) (by omega) (by omega), iI_neg]
  unfold nr
  split <;> rfl
theorem X5_rounded {x y : Int} (hx : (x.natAbs : Int) ≤ 100000) (hy : 0 < y) (hy' : y ≤ 100000) : mX5_rounded (iI x) (iI y) = some (iI (nr x y)) := by
  have f := nr_facts (x := x) hy
  have hyz : ¬ iI y = 0 := by rw [iI_eq0 (by omega) (by omega)]; omega
  have q := ediv_bounds (x := (x.natAbs : Int)) hy
  have q0 := Int.ediv_nonneg (show 0 ≤ (x.natAbs : Int) by omega) (show 0 ≤ y by omega)
  have q1 := Int.ediv_le_self y (show 0 ≤ (x.natAbs : Int) by omega)
  unfold mX5_rounded
  rw [X5_abs (by omega) (by omega)]
  simp only [bnd1, gz, if_neg hyz, nmB]
  rw [iI_tdiv (by omega) (by omega) (by omega) (by omega), Int.tdiv_eq_ediv_of_nonneg (by omega)]
  have em : (x.natAbs : Int) / y * y = y * ((x.natAbs : Int) / y) := Int.mul_comm _ _
  simp only [iI_2, iI_mul, iI_sub, iI_1, iI_add]
  rw [em]
  have key : (2 * (x.natAbs : Int) + y - 1) / (2 * y) = if 2 * ((x.natAbs : Int) - y * ((x.natAbs : Int) / y)) ≤ y then (x.natAbs : Int) / y else (x.natAbs : Int) / y + 1 := by
    have e1 : 2 * y * ((x.natAbs : Int) / y) = 2 * (y * ((x.natAbs : Int) / y)) := Int.mul_assoc _ _ _
    have e5 : (x.natAbs : Int) / y * (2 * y) = 2 * (y * ((x.natAbs : Int) / y)) := by grind
    have e6 : ((x.natAbs : Int) / y + 1) * (2 * y) = 2 * (y * ((x.natAbs : Int) / y)) + 2 * y := by grind
    split
    · rw [Int.ediv_eq_iff_of_pos (by omega), e5]
      constructor <;> omega
    · rw [Int.ediv_eq_iff_of_pos (by omega), e6]
      constructor <;> omega
  simp only [jB, iI_le (x := 2 * ((x.natAbs : Int) - y * ((x.natAbs : Int) / y))) (y := y) (by omega) (by omega) (by omega) (by omega), iI_nonneg (x := x) (by omega) (by omega), iI_neg]
  unfold nr
  rw [key]
  split <;> split <;> rfl
theorem nr_less {a b c d : Int} (hN : 0 < a * a + b * b) (hm : nr (a * c + b * d) (a * a + b * b) ≠ 0) : (c - nr (a * c + b * d) (a * a + b * b) * a) * (c - nr (a * c + b * d) (a * a + b * b) * a) + (d - nr (a * c + b * d) (a * a + b * b) * b) * (d - nr (a * c + b * d) (a * a + b * b) * b) < c * c + d * d := by
  have f := nr_facts (x := a * c + b * d) hN
  generalize hy : a * a + b * b = y at *
  generalize hx : a * c + b * d = x at *
  have e : (c - nr x y * a) * (c - nr x y * a) + (d - nr x y * b) * (d - nr x y * b) = c * c + d * d - 2 * (nr x y * x) + nr x y * nr x y * y := by rw [← hx, ← hy]; grind
  rw [e]
  generalize hk : (2 * (x.natAbs : Int) + y - 1) / (2 * y) = k at *
  have ek : nr x y = if 0 ≤ x then k else -k := by unfold nr; rw [hk]
  have hk0 : 0 < k := by
    rcases Int.lt_or_eq_of_le f.1 with h | h
    · exact h
    · exfalso; apply hm; rw [ek, ← h]; split <;> rfl
  have e2 : nr x y * x = k * (x.natAbs : Int) := by
    rw [ek]
    split
    · congr 1; omega
    · have : (x.natAbs : Int) = -x := by omega
      rw [this, Int.neg_mul, Int.mul_neg]
  have e3 : nr x y * nr x y = k * k := by
    rw [ek]
    split
    · rfl
    · rw [Int.neg_mul_neg]
  rw [e2, e3]
  have g1 : k * y < 2 * (x.natAbs : Int) := by
    have h1 : 2 * y * k = k * y + k * y := by grind
    have h2 : 1 * y ≤ k * y := Int.mul_le_mul_of_nonneg_right (by omega) (by omega)
    omega
  have g2 : k * (k * y) < k * (2 * (x.natAbs : Int)) := Int.mul_lt_mul_of_pos_left g1 hk0
  have g3 : k * k * y = k * (k * y) := Int.mul_assoc _ _ _
  have g4 : k * (2 * (x.natAbs : Int)) = 2 * (k * (x.natAbs : Int)) := by grind
  omega
theorem Scr0.pos {a b c d : Int} (h : Scr0 a b c d) : 0 < a * a + b * b ∧ 0 < c * c + d * d := by
  have pa : 0 ≤ a * a := by have := Int.natAbs_mul_self (a := a); omega
  have pb : 0 ≤ b * b := by have := Int.natAbs_mul_self (a := b); omega
  have pc : 0 ≤ c * c := by have := Int.natAbs_mul_self (a := c); omega
  have pd : 0 ≤ d * d := by have := Int.natAbs_mul_self (a := d); omega
  have z : ∀ t : Int, t * t = 0 → t = 0 := fun t ht => by rcases Int.mul_eq_zero.mp ht with q | q <;> exact q
  constructor
  · apply Classical.byContradiction
    intro hn
    have ha := z a (by omega)
    have hb := z b (by omega)
    apply h.2.2.1; rw [ha, hb]; simp
  · apply Classical.byContradiction
    intro hn
    have ha := z c (by omega)
    have hb := z d (by omega)
    apply h.2.2.1; rw [ha, hb]; simp
theorem Scr0.swap {a b c d : Int} (h : Scr0 a b c d) : Scr0 c d a b := by
  obtain ⟨h1, h2, h3, h4⟩ := h
  have e : c * b - d * a = -(a * d - b * c) := by grind
  exact ⟨h2, h1, by rw [e]; omega, by rw [e, Int.natAbs_neg]; exact h4⟩
theorem Scr0.shear {a b c d m : Int} (h : Scr0 a b c d) (hl : (c - m * a) * (c - m * a) + (d - m * b) * (d - m * b) ≤ c * c + d * d) : Scr0 a b (c - m * a) (d - m * b) := by
  obtain ⟨h1, h2, h3, h4⟩ := h
  have e : a * (d - m * b) - b * (c - m * a) = a * d - b * c := by grind
  exact ⟨h1, by omega, by rw [e]; exact h3, by rw [e]; exact h4⟩
theorem dot_bd {a b c d : Int} (h : Scr0 a b c d) : ((a * c + b * d).natAbs : Int) ≤ 242 := by
  obtain ⟨ba, bb, bc, bd⟩ := h.bd
  have m1 := mul_bd2 (x := a) (y := c) (A := 11) (B := 11) (by omega) (by omega)
  have m2 := mul_bd2 (x := b) (y := d) (A := 11) (B := 11) (by omega) (by omega)
  omega
theorem gI4 {β : Type} {k : Nat} {j : Int} {E : Option β} (hk : k < 3) (h0 : 0 ≤ j) (h1 : j < 4) : gd (iI (4 * (k : Int) + j)) 12 E = E := gdI (by omega) (by omega) (by omega)
theorem cI4 {k j : Nat} (hk : k < 3) (h1 : j < 4) : (iI (4 * (k : Int) + (j : Int))).toNatClampNeg = 4 * k + j := by rw [iI_clamp (by omega) (by omega)]; omega
theorem X5_product {v : Nat → Int32} {k : Nat} {a b c d : Int} (hk : k < 3) (hv : SlotV v k a b c d) : mX5_product v (iI (4 * k)) (iI (4 * k)) = some (iI (a * a + b * b)) ∧ mX5_product v (iI (4 * k) + 2) (iI (4 * k) + 2) = some (iI (c * c + d * d)) ∧ mX5_product v (iI (4 * k)) (iI (4 * k) + 2) = some (iI (a * c + b * d)) := by
  obtain ⟨v0, v1, v2, v3⟩ := hv
  have e0 : iI (4 * (k : Int)) = iI (4 * (k : Int) + (0 : Nat)) := by congr 1
  have e1 : iI (4 * (k : Int)) + 1 = iI (4 * (k : Int) + (1 : Nat)) := by rw [iI_1, iI_add]; rfl
  have e2 : iI (4 * (k : Int)) + 2 = iI (4 * (k : Int) + (2 : Nat)) := by rw [iI_2, iI_add]; rfl
  have e3 : iI (4 * (k : Int) + (2 : Nat)) + 1 = iI (4 * (k : Int) + (3 : Nat)) := by rw [iI_1, iI_add]; rfl
  have g : ∀ {β : Type} {j : Nat} {E : Option β}, j < 4 → gd (iI (4 * (k : Int) + (j : Int))) 12 E = E := fun hj => gI4 hk (by omega) (by omega)
  have c0 := cI4 (k := k) (j := 0) hk (by omega)
  have c1 := cI4 (k := k) (j := 1) hk (by omega)
  have c2 := cI4 (k := k) (j := 2) hk (by omega)
  have c3 := cI4 (k := k) (j := 3) hk (by omega)
  refine ⟨?_, ?_, ?_⟩
  · unfold mX5_product
    rw [e1, e0, g (by omega), g (by omega), g (by omega), g (by omega), c0, c1, Nat.add_zero, v0, v1, iI_mul, iI_mul, iI_add]
  · unfold mX5_product
    rw [e2, e3, g (by omega), g (by omega), g (by omega), g (by omega), c2, c3, v2, v3, iI_mul, iI_mul, iI_add]
  · unfold mX5_product
    rw [e2, e3, e1, e0, g (by omega), g (by omega), g (by omega), g (by omega), c0, c1, c2, c3, Nat.add_zero, v0, v1, v2, v3, iI_mul, iI_mul, iI_add]
theorem X5_exchange {v : Nat → Int32} {k : Nat} {a b c d : Int} (hk : k < 3) (hv : SlotV v k a b c d) : ∃ v', mX5_exchange v (iI (4 * k)) = some v' ∧ SlotV v' k c d a b ∧ ∀ j, (j < 4 * k ∨ 4 * k + 4 ≤ j) → v' j = v j := by
  obtain ⟨v0, v1, v2, v3⟩ := hv
  have e0 : iI (4 * (k : Int)) + 0 = iI (4 * (k : Int) + (0 : Nat)) := by rw [iI_0, iI_add]; rfl
  have e1 : iI (4 * (k : Int)) + 1 = iI (4 * (k : Int) + (1 : Nat)) := by rw [iI_1, iI_add]; rfl
  have e2 : iI (4 * (k : Int)) + 2 + 0 = iI (4 * (k : Int) + (2 : Nat)) := by rw [iI_2, iI_0, iI_add, iI_add]; congr 1
  have e3 : iI (4 * (k : Int)) + 2 + 1 = iI (4 * (k : Int) + (3 : Nat)) := by rw [iI_2, iI_1, iI_add, iI_add]; congr 1
  have g : ∀ {β : Type} {j : Nat} {E : Option β}, j < 4 → gd (iI (4 * (k : Int) + (j : Int))) 12 E = E := fun hj => gI4 hk (by omega) (by omega)
  have c0 := cI4 (k := k) (j := 0) hk (by omega)
  have c1 := cI4 (k := k) (j := 1) hk (by omega)
  have c2 := cI4 (k := k) (j := 2) hk (by omega)
  have c3 := cI4 (k := k) (j := 3) hk (by omega)
  have z1 : (0 : Int32) + 1 = 1 := by decide
  have z2 : (1 : Int32) + 1 = 2 := by decide
  have l0 : ¬ (2 : Int32) ≤ 0 := by decide
  have l1 : ¬ (2 : Int32) ≤ 1 := by decide
  have l2 : (2 : Int32) ≤ 2 := by decide
  have v0' : v (4 * k + 0) = iI a := v0
  have run : ∀ fu, mX5_exchange_L2 (iI (4 * (k : Int))) (fu + 3) 0 v = some (2, upd (upd (upd (upd v (4 * k + 0) (iI c)) (4 * k + 2) (iI a)) (4 * k + 1) (iI d)) (4 * k + 3) (iI b)) := by
    intro fu
    rw [mX5_exchange_L2, if_neg l0, e0, e2, g (by omega), c0, c2]
    simp only [nmB]
    rw [g (by omega), g (by omega), g (by omega), v0', v2, z1, mX5_exchange_L2, if_neg l1, e1, e3, g (by omega), c1, c3]
    simp only [nmB]
    rw [g (by omega), g (by omega), g (by omega), upd_ne (show 4 * k + 1 ≠ 4 * k + 2 by omega), upd_ne (show 4 * k + 1 ≠ 4 * k + 0 by omega), upd_ne (show 4 * k + 3 ≠ 4 * k + 2 by omega), upd_ne (show 4 * k + 3 ≠ 4 * k + 0 by omega), v1, v3, z2, mX5_exchange_L2, if_pos l2]
  refine ⟨upd (upd (upd (upd v (4 * k + 0) (iI c)) (4 * k + 2) (iI a)) (4 * k + 1) (iI d)) (4 * k + 3) (iI b), ?_, ⟨?_, ?_, ?_, ?_⟩, ?_⟩
  · unfold mX5_exchange
    have := run 999997
    show (bnd2 (mX5_exchange_L2 (iI (4 * (k : Int))) (999997 + 3) 0 v) fun u1_0 u1_1 => some u1_1) = _
    rw [this]
    rfl
  · rw [upd_ne (by omega), upd_ne (by omega), upd_ne (by omega)]; exact upd_same
  · rw [upd_ne (by omega)]; exact upd_same
  · rw [upd_ne (by omega), upd_ne (by omega)]; exact upd_same
  · exact upd_same
  · intro j hj
    rw [upd_ne (by omega), upd_ne (by omega), upd_ne (by omega), upd_ne (by omega)]
/-- one round of both: the same vectors, the same times -/
theorem shorten_both (n : Nat) : ∀ a b c d : Int, Scr0 a b c d → a * a + b * b + (c * c + d * d) ≤ n →
    ∃ (a' b' c' d' : Int) (t : Nat), Scr0 a' b' c' d' ∧ (a' * d' - b' * c').natAbs = (a * d - b * c).natAbs ∧ t ≤ n ∧
      (∀ (fu k tm : Nat), n < fu → k + n < 1000 → mX3_shortenVectors_L4 fu (iI k) (iI tm) (iI a) (iI b) (iI c) (iI d) = some (iI ((tm + t : Nat) : Int), iI a', iI b', iI c', iI d')) ∧
      (∀ (fu k tm : Nat) (v : Nat → Int32) (m : Int32), n + 1 < fu → k < 3 → ¬ m = 0 → SlotV v k a b c d → ∃ r v', mX5_shorten_L27 (iI (4 * k)) fu m (iI tm) v = some (r, iI ((tm + t : Nat) : Int), v') ∧ SlotV v' k a' b' c' d' ∧ ∀ j, (j < 4 * k ∨ 4 * k + 4 ≤ j) → v' j = v j) := by
  induction n with
  | zero =>
    intro a b c d hs hn
    have := hs.pos
    omega
  | succ n ih =>
    intro a b c d hs hn
    -- the exchanged vectors
    obtain ⟨a1, b1, c1, d1, hs1, hdet, hn1, hC, hR⟩ : ∃ a1 b1 c1 d1 : Int, Scr0 a1 b1 c1 d1 ∧ (a1 * d1 - b1 * c1).natAbs = (a * d - b * c).natAbs ∧ a1 * a1 + b1 * b1 + (c1 * c1 + d1 * d1) ≤ (n + 1 : Nat) ∧
        (∀ (F : Int32 → Int32 → Int32 → Int32 → Option (Int32 × Int32 × Int32 × Int32 × Int32)), (if (iI a * iI a + iI b * iI b) ≤ (iI c * iI c + iI d * iI d) then F (iI a) (iI b) (iI c) (iI d) else bnd4 (mX3_exchangeVectors (iI a) (iI b) (iI c) (iI d)) fun r5_0 r5_1 r5_2 r5_3 => F r5_0 r5_1 r5_2 r5_3) = F (iI a1) (iI b1) (iI c1) (iI d1)) ∧
        (∀ (k : Nat) (v : Nat → Int32) (F : (Nat → Int32) → Option (Int32 × Int32 × (Nat → Int32))), k < 3 → SlotV v k a b c d → ∃ v1, (if iI (a * a + b * b) ≤ iI (c * c + d * d) then F v else bnd1 (mX5_exchange v (iI (4 * k))) fun r10_0 => F r10_0) = F v1 ∧ SlotV v1 k a1 b1 c1 d1 ∧ ∀ j, (j < 4 * k ∨ 4 * k + 4 ≤ j) → v1 j = v j) := by
      have hp := hs.pos
      have h1 := hs.1
      have h2 := hs.2.1
      by_cases hle : a * a + b * b ≤ c * c + d * d
      · have hle' : iI (a * a + b * b) ≤ iI (c * c + d * d) := (iI_le (by omega) (by omega) (by omega) (by omega)).mpr hle
        refine ⟨a, b, c, d, hs, rfl, hn, fun F => ?_, fun k v F hk hv => ⟨v, if_pos hle', hv, fun _ _ => rfl⟩⟩
        rw [iI_mul, iI_mul, iI_mul, iI_mul, iI_add, iI_add, if_pos hle']
      · have hle' : ¬ iI (a * a + b * b) ≤ iI (c * c + d * d) := fun z => hle ((iI_le (by omega) (by omega) (by omega) (by omega)).mp z)
        have esw : c * b - d * a = -(a * d - b * c) := by grind
        refine ⟨c, d, a, b, hs.swap, by rw [esw, Int.natAbs_neg], by omega, fun F => ?_, fun k v F hk hv => ?_⟩
        · rw [iI_mul, iI_mul, iI_mul, iI_mul, iI_add, iI_add, if_neg hle']
          rfl
        · obtain ⟨v', q1, q2, q3⟩ := X5_exchange hk hv
          refine ⟨v', ?_, q2, q3⟩
          rw [if_neg hle', q1]
          rfl
    have hp := hs1.pos
    have h1 := hs1.1
    have h2 := hs1.2.1
    have hdot := dot_bd hs1
    have hRa := X3_nearestRatio (x := a1 * c1 + b1 * d1) (y := a1 * a1 + b1 * b1) (by omega) hp.1 (by omega)
    have hRo := X5_rounded (x := a1 * c1 + b1 * d1) (y := a1 * a1 + b1 * b1) (by omega) hp.1 (by omega)
    have f := nr_facts (x := a1 * c1 + b1 * d1) hp.1
    generalize hm : nr (a1 * c1 + b1 * d1) (a1 * a1 + b1 * b1) = m at *
    have hmb : -1000 ≤ m ∧ m ≤ 1000 := by
      have : (2 * ((a1 * c1 + b1 * d1).natAbs : Int) + (a1 * a1 + b1 * b1) - 1) / (2 * (a1 * a1 + b1 * b1)) ≤ 2 * ((a1 * c1 + b1 * d1).natAbs : Int) + (a1 * a1 + b1 * b1) - 1 := Int.ediv_le_self _ (by omega)
      rw [← hm]; unfold nr
      split <;> omega
    have hmz : (iI m = 0) ↔ m = 0 := iI_eq0 (by omega) (by omega)
    have e0 : ∀ k : Nat, iI (4 * (k : Int)) = iI (4 * (k : Int) + (0 : Nat)) := fun k => by congr 1
    have e1 : ∀ k : Nat, iI (4 * (k : Int)) + 1 = iI (4 * (k : Int) + (1 : Nat)) := fun k => by rw [iI_1, iI_add]; rfl
    have e2 : ∀ k : Nat, iI (4 * (k : Int)) + 2 = iI (4 * (k : Int) + (2 : Nat)) := fun k => by rw [iI_2, iI_add]; rfl
    have e3 : ∀ k : Nat, iI (4 * (k : Int)) + 3 = iI (4 * (k : Int) + (3 : Nat)) := fun k => by rw [iI_3, iI_add]; rfl
    -- the class's row
    have clsRow : ∀ (fu k tm : Nat), k < 1000 → mX3_shortenVectors_L4 (fu + 1) (iI k) (iI tm) (iI a) (iI b) (iI c) (iI d) = if m = 0 then some (iI tm, iI a1, iI b1, iI c1, iI d1) else mX3_shortenVectors_L4 fu (iI ((k + 1 : Nat) : Int)) (iI ((tm + 1 : Nat) : Int)) (iI a1) (iI b1) (iI (c1 - m * a1)) (iI (d1 - m * b1)) := by
      intro fu k tm hk
      rw [mX3_shortenVectors_L4, if_neg (by rw [iI_lit 1000, iI_le (by omega) (by omega) (by omega) (by omega)]; omega)]
      show (if (iI a * iI a + iI b * iI b) ≤ (iI c * iI c + iI d * iI d) then _ else _) = _
      rw [hC (fun j3_0 j3_1 j3_2 j3_3 => bnd1 (mX3_nearestRatio ((j3_0 * j3_2) + (j3_1 * j3_3)) ((j3_0 * j3_0) + (j3_1 * j3_1))) fun r6_0 =>
        if r6_0 = 0 then (some (iI tm, j3_0, j3_1, j3_2, j3_3))
        else (nmB ((j3_2 - (r6_0 * j3_0))) fun x8 => nmB ((j3_3 - (r6_0 * j3_1))) fun x9 => nmB (iI tm + 1) fun x10 => nmB (iI k + 1) fun x11 => mX3_shortenVectors_L4 fu x11 x10 j3_0 j3_1 x8 x9))]
      rw [iI_mul, iI_mul, iI_mul, iI_mul, iI_add, iI_add, hRa]
      simp only [bnd1, nmB, hmz, iI_mul, iI_sub, iI_1, iI_add]
      rfl
    have refRow : ∀ (fu k tm : Nat) (v : Nat → Int32) (mm : Int32), k < 3 → ¬ mm = 0 → SlotV v k a b c d → ∃ v1, SlotV v1 k a1 b1 (c1 - m * a1) (d1 - m * b1) ∧ (∀ j, (j < 4 * k ∨ 4 * k + 4 ≤ j) → v1 j = v j) ∧ mX5_shorten_L27 (iI (4 * k)) (fu + 1) mm (iI tm) v = if m = 0 then mX5_shorten_L27 (iI (4 * k)) fu (iI m) (iI tm) v1 else mX5_shorten_L27 (iI (4 * k)) fu (iI m) (iI ((tm + 1 : Nat) : Int)) v1 := by
      intro fu k tm v mm hk hmm hv
      obtain ⟨pr1, pr2, -⟩ := X5_product hk hv
      obtain ⟨v0, q1, q2, q3⟩ := hR k v (fun j8_0 => bnd1 (mX5_product j8_0 (iI (4 * k)) (iI (4 * k) + 2)) fun r11_0 => bnd1 (mX5_product j8_0 (iI (4 * k)) (iI (4 * k))) fun r12_0 => bnd1 (mX5_rounded r11_0 r12_0) fun r13_0 =>
        gd (iI (4 * k) + 2) 12 <| gd (iI (4 * k)) 12 <| nmB (((j8_0 (iI (4 * k) + 2).toNatClampNeg) - (r13_0 * (j8_0 (iI (4 * k)).toNatClampNeg)))) fun x16 =>
        gd (iI (4 * k) + 2) 12 <| gd (iI (4 * k) + 3) 12 <| gd (iI (4 * k) + 1) 12 <|
        nmB ((((upd j8_0 (iI (4 * k) + 2).toNatClampNeg x16) (iI (4 * k) + 3).toNatClampNeg) - (r13_0 * ((upd j8_0 (iI (4 * k) + 2).toNatClampNeg x16) (iI (4 * k) + 1).toNatClampNeg)))) fun x20 =>
        gd (iI (4 * k) + 3) 12 <|
        if r13_0 = 0 then (nmB ((iI tm + 0)) fun x24 => mX5_shorten_L27 (iI (4 * k)) fu r13_0 x24 (upd (upd j8_0 (iI (4 * k) + 2).toNatClampNeg x16) (iI (4 * k) + 3).toNatClampNeg x20))
        else (nmB ((iI tm + 1)) fun x23 => mX5_shorten_L27 (iI (4 * k)) fu r13_0 x23 (upd (upd j8_0 (iI (4 * k) + 2).toNatClampNeg x16) (iI (4 * k) + 3).toNatClampNeg x20))) hk hv
      obtain ⟨po1, -, po3⟩ := X5_product hk q2
      obtain ⟨u0, u1, u2, u3⟩ := q2
      have u0' : v0 (4 * k + 0) = iI a1 := u0
      have g : ∀ {β : Type} {j : Nat} {E : Option β}, j < 4 → gd (iI (4 * (k : Int) + (j : Int))) 12 E = E := fun hj => gI4 hk (by omega) (by omega)
      have cc0 := cI4 (k := k) (j := 0) hk (by omega)
      have cc1 := cI4 (k := k) (j := 1) hk (by omega)
      have cc2 := cI4 (k := k) (j := 2) hk (by omega)
      have cc3 := cI4 (k := k) (j := 3) hk (by omega)
      refine ⟨upd (upd v0 (4 * k + 2) (iI (c1 - m * a1))) (4 * k + 3) (iI (d1 - m * b1)), ⟨?_, ?_, ?_, ?_⟩, ?_, ?_⟩
      · rw [upd_ne (by omega), upd_ne (by omega)]; exact u0
      · rw [upd_ne (by omega), upd_ne (by omega)]; exact u1
      · rw [upd_ne (by omega)]; exact upd_same
      · exact upd_same
      · intro j hj
        rw [upd_ne (by omega), upd_ne (by omega)]; exact q3 j hj
      · rw [mX5_shorten_L27, if_neg hmm, pr2, pr1]
        show (if iI (a * a + b * b) ≤ iI (c * c + d * d) then _ else _) = _
        rw [q1]
        rw [po3, po1]
        simp only [bnd1]
        rw [hRo]
        simp only []
        rw [e3, e2, e1, e0, g (by omega), g (by omega), cc0, cc1, cc2, cc3, u0', u2, iI_mul, iI_sub]
        simp only [nmB]
        rw [g (by omega), g (by omega), g (by omega), g (by omega), upd_ne (show 4 * k + 3 ≠ 4 * k + 2 by omega), upd_ne (show 4 * k + 1 ≠ 4 * k + 2 by omega), u3, u1, iI_mul, iI_sub]
        simp only [hmz]
        rw [iI_0, iI_1, iI_add, iI_add, Int.add_zero]
        rfl
    by_cases hm0 : m = 0
    · refine ⟨a1, b1, c1, d1, 0, hs1, hdet, by omega, ?_, ?_⟩
      · intro fu k tm hf hk
        obtain ⟨fu, rfl⟩ : ∃ k, fu = k + 1 := ⟨fu - 1, by omega⟩
        rw [clsRow fu k tm (by omega), if_pos hm0]
        rfl
      · intro fu k tm v mm hf hk hmm hv
        obtain ⟨fu, rfl⟩ : ∃ k, fu = k + 2 := ⟨fu - 2, by omega⟩
        obtain ⟨v1, w1, w2, w3⟩ := refRow (fu + 1) k tm v mm hk hmm hv
        rw [hm0, Int.zero_mul, Int.zero_mul, Int.sub_zero, Int.sub_zero] at w1
        refine ⟨iI m, v1, ?_, w1, w2⟩
        rw [w3, if_pos hm0, mX5_shorten_L27, if_pos (hmz.mpr hm0)]
        rfl
    · have hless := nr_less (a := a1) (b := b1) (c := c1) (d := d1) hp.1 (by rw [hm]; exact hm0)
      rw [hm] at hless
      have hs2 := hs1.shear (m := m) (by omega)
      obtain ⟨a', b', c', d', t, z1, zd, z2, z3, z4⟩ := ih a1 b1 (c1 - m * a1) (d1 - m * b1) hs2 (by omega)
      refine ⟨a', b', c', d', t + 1, z1, by rw [zd, ← hdet]; congr 1; grind, by omega, ?_, ?_⟩
      · intro fu k tm hf hk
        obtain ⟨fu, rfl⟩ : ∃ k, fu = k + 1 := ⟨fu - 1, by omega⟩
        rw [clsRow fu k tm (by omega), if_neg hm0, z3 fu (k + 1) (tm + 1) (by omega) (by omega)]
        rw [show tm + 1 + t = tm + (t + 1) by omega]
      · intro fu k tm v mm hf hk hmm hv
        obtain ⟨fu, rfl⟩ : ∃ k, fu = k + 1 := ⟨fu - 1, by omega⟩
        obtain ⟨v1, w1, w2, w3⟩ := refRow fu k tm v mm hk hmm hv
        obtain ⟨r, v', y1, y2, y3⟩ := z4 fu k (tm + 1) v1 (iI m) (by omega) hk (fun z => hm0 (hmz.mp z)) w1
        refine ⟨r, v', ?_, y2, fun j hj => by rw [y3 j hj, w2 j hj]⟩
        rw [w3, if_neg hm0, y1, show tm + 1 + t = tm + (t + 1) by omega]
