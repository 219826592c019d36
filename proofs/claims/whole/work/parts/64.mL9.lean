set_option maxHeartbeats 4000000
-- ===== the value of a place, both sides =====
def mo (mid o : Int) : Int := if mid = 0 then 0 else o
def mo' (mid o : Int) : Int := if mid = 0 then o else 0
def lineV (a b c d mid x y : Int) : Int :=
  if 2 * ((a * d - b * c).natAbs : Int) - (2 * (x * b - y * a) + mo mid (a * d - b * c)) % (2 * ((a * d - b * c).natAbs : Int)) < (2 * (x * b - y * a) + mo mid (a * d - b * c)) % (2 * ((a * d - b * c).natAbs : Int))
  then 2 * ((a * d - b * c).natAbs : Int) - (2 * (x * b - y * a) + mo mid (a * d - b * c)) % (2 * ((a * d - b * c).natAbs : Int)) else (2 * (x * b - y * a) + mo mid (a * d - b * c)) % (2 * ((a * d - b * c).natAbs : Int))
def IsV (a b c d spot mid w s h x y v : Int) : Prop :=
  (spot = 3 → v = lineV a b c d mid x y) ∧
  (spot = 4 → ∃ v1 v2, MinOf (Vals w s h (mo mid (a + c)) (mo mid (b + d)) 0 x y) v1 ∧ MinOf (Vals w s h (mo' mid (a + c)) (mo' mid (b + d)) 0 x y) v2 ∧ v = v1 - v2) ∧
  (spot ≠ 3 → spot ≠ 4 → MinOf (Vals w s h (mo mid (a + c)) (mo mid (b + d)) spot x y) v)
theorem IsV.uniq {a b c d spot mid w s h x y u v : Int} (hu : IsV a b c d spot mid w s h x y u) (hv : IsV a b c d spot mid w s h x y v) : u = v := by
  obtain ⟨u1, u2, u3⟩ := hu
  obtain ⟨v1, v2, v3⟩ := hv
  by_cases h3 : spot = 3
  · rw [u1 h3, v1 h3]
  · by_cases h4 : spot = 4
    · obtain ⟨p1, p2, p3, p4, p5⟩ := u2 h4
      obtain ⟨q1, q2, q3, q4, q5⟩ := v2 h4
      rw [p5, q5, p3.uniq q3, p4.uniq q4]
    · exact (u3 h3 h4).uniq (v3 h3 h4)
theorem HB.area {a b c d w s h : Int} (hs : Scr0 a b c d) (H : HB (InG a b c d) w s h) : w * h = ((a * d - b * c).natAbs : Int) := by
  obtain ⟨ba, bb, bc, bd⟩ := hs.bd
  obtain ⟨w', s', h', -, H', e⟩ := X5_layBasis (a := a) (b := b) (c := c) (d := d) (by omega) (by omega) (by omega) (by omega) hs.2.2.1
  obtain ⟨rfl, rfl, rfl⟩ := H.uniq H'
  exact e
theorem HB.SB {a b c d w s h : Int} (hs : Scr0 a b c d) (H : HB (InG a b c d) w s h) : SB w s h := by
  have e := H.area hs
  have := hs.2.2.2
  obtain ⟨h1, h2, h3, h4, -⟩ := H
  refine ⟨h1, ?_, h2, h3, h4, ?_⟩
  · have : w * 1 ≤ w * h := Int.mul_le_mul_of_nonneg_left (by omega) (by omega)
    omega
  · have : 1 * h ≤ w * h := Int.mul_le_mul_of_nonneg_right (by omega) (by omega)
    omega
theorem Scr0.det {a b c d : Int} (hs : Scr0 a b c d) : -64 ≤ a * d - b * c ∧ a * d - b * c ≤ 64 := by
  have := hs.2.2.2
  omega
theorem mul_bd2 {x y : Int} {A B : Int} (hx : (x.natAbs : Int) ≤ A) (hy : (y.natAbs : Int) ≤ B) : -(A * B) ≤ x * y ∧ x * y ≤ A * B := by
  have h1 : (x.natAbs : Int) * y.natAbs ≤ A * B := Int.mul_le_mul hx hy (by omega) (by omega)
  have h2 : ((x * y).natAbs : Int) = (x.natAbs : Int) * y.natAbs := by rw [Int.natAbs_mul]; exact Int.natCast_mul _ _
  omega
theorem place_xy {w h : Int} {N p : Nat} (hw : 0 < w) (hh : 0 < h) (hN : w * h = N) (hp : p < N) : 0 ≤ (p : Int) % w ∧ (p : Int) % w < w ∧ 0 ≤ (p : Int) / w ∧ (p : Int) / w < h ∧ (p : Int) - (p : Int) / w * w = (p : Int) % w := by
  refine ⟨Int.emod_nonneg _ (by omega), Int.emod_lt_of_pos _ hw, Int.ediv_nonneg (by omega) (by omega), Int.ediv_lt_of_lt_mul hw (by rw [Int.mul_comm, hN]; omega), ?_⟩
  have := Int.mul_ediv_add_emod (p : Int) w
  rw [Int.mul_comm]; omega
theorem X3_line_L {a b c d mid w s h : Int} {N : Nat} (hs : Scr0 a b c d) (hm : mid = 0 ∨ mid = 1) (B : SB w s h) (hN : w * h = N) (hA : ((a * d - b * c).natAbs : Int) = N) (hN64 : N ≤ 64) (n : Nat) :
    ∀ (fu k : Nat) (row : Nat → Int32), k + n = N → n < fu →
    ∃ r row', mX3_findLineValues_L29 (iI a) (iI b) (iI mid) (iI w) (iI h) (iI (a * d - b * c)) (iI (2 * N)) fu (iI k) row = some (r, row') ∧ (∀ p : Nat, k ≤ p → p < N → row' p = iI (lineV a b c d mid ((p : Int) % w) ((p : Int) / w))) ∧ ∀ p, p < k → row' p = row p := by
  obtain ⟨ba, bb, bc, bd⟩ := hs.bd
  obtain ⟨b1, b2, b3, b4, b5, b6⟩ := B
  have dd := hs.det
  induction n with
  | zero =>
    intro fu k row hk hf
    obtain ⟨fu, rfl⟩ : ∃ k, fu = k + 1 := ⟨fu - 1, by omega⟩
    refine ⟨iI k, row, ?_, fun p h1 h2 => by omega, fun p _ => rfl⟩
    rw [mX3_findLineValues_L29, X3_area, hN]
    simp only [bnd1]
    rw [if_pos (by rw [iI_le (by omega) (by omega) (by omega) (by omega)]; omega)]
  | succ n ih =>
    intro fu k row hk hf
    obtain ⟨fu, rfl⟩ : ∃ k, fu = k + 1 := ⟨fu - 1, by omega⟩
    obtain ⟨p1, p2, p3, p4, p5⟩ := place_xy b1 b5 hN (show k < N by omega)
    have m1 := mul_bd2 (x := (k : Int) % w) (y := b) (A := 64) (B := 11) (by omega) (by omega)
    have m2 := mul_bd2 (x := (k : Int) / w) (y := a) (A := 64) (B := 11) (by omega) (by omega)
    have bmo : -64 ≤ mo mid (a * d - b * c) ∧ mo mid (a * d - b * c) ≤ 64 := by unfold mo; split <;> omega
    obtain ⟨r, row', e1, e2, e3⟩ := ih fu (k + 1) (upd row k (iI (lineV a b c d mid ((k : Int) % w) ((k : Int) / w)))) (by omega) (by omega)
    have r1 := Int.emod_nonneg (2 * ((k : Int) % w * b - (k : Int) / w * a) + mo mid (a * d - b * c)) (show 2 * (N : Int) ≠ 0 by omega)
    have r2 := Int.emod_lt_of_pos (2 * ((k : Int) % w * b - (k : Int) / w * a) + mo mid (a * d - b * c)) (show 0 < 2 * (N : Int) by omega)
    refine ⟨r, row', ?_, ?_, ?_⟩
    · rw [mX3_findLineValues_L29, X3_area, hN]
      simp only [bnd1]
      rw [if_neg (by rw [iI_le (by omega) (by omega) (by omega) (by omega)]; omega), X4_floorDiv (by omega) (by omega) b1 (by omega)]
      simp only [nmB]
      rw [jB_zK hm]
      have ez : (if mid = 0 then (0 : Int32) else iI (a * d - b * c)) = iI (mo mid (a * d - b * c)) := by
        unfold mo; split
        · exact iI_0
        · rfl
      rw [ez]
      simp only [iI_mul, iI_sub, iI_2, iI_add]
      rw [p5, X4_mod (by omega) (by omega) (by omega) (by omega)]
      simp only [iI_sub, iI_lt (x := 2 * (N : Int) - (2 * ((k : Int) % w * b - (k : Int) / w * a) + mo mid (a * d - b * c)) % (2 * (N : Int))) (y := (2 * ((k : Int) % w * b - (k : Int) / w * a) + mo mid (a * d - b * c)) % (2 * (N : Int))) (by omega) (by omega) (by omega) (by omega)]
      rw [X4_putI (by omega) (by omega) (by omega)]
      simp only []
      rw [iI_1, iI_add, ← e1]
      congr 1
      show upd row k _ = upd row k _
      congr 1
      unfold lineV
      rw [hA]
      split <;> rfl
    · intro p h1 h2
      by_cases hp : p = k
      · rw [e3 p (by omega), hp, upd_same]
      · exact e2 p (by omega) h2
    · intro p h1
      rw [e3 p (by omega), upd_ne (by omega)]
theorem X3_sub_L {w h : Int} {N : Nat} (hN : w * h = N) (hN64 : N ≤ 64) (oth : Nat → Int32) (n : Nat) :
    ∀ (fu k : Nat) (row : Nat → Int32), k + n = N → n < fu →
    ∃ r row', mX3_findValues_L74 (iI w) (iI h) oth fu (iI k) row = some (r, row') ∧ (∀ p : Nat, k ≤ p → p < N → row' p = row p - oth p) ∧ ∀ p, p < k → row' p = row p := by
  induction n with
  | zero =>
    intro fu k row hk hf
    obtain ⟨fu, rfl⟩ : ∃ k, fu = k + 1 := ⟨fu - 1, by omega⟩
    refine ⟨iI k, row, ?_, fun p h1 h2 => by omega, fun p _ => rfl⟩
    rw [mX3_findValues_L74, X3_area, hN]
    simp only [bnd1]
    rw [if_pos (by rw [iI_le (by omega) (by omega) (by omega) (by omega)]; omega)]
  | succ n ih =>
    intro fu k row hk hf
    obtain ⟨fu, rfl⟩ : ∃ k, fu = k + 1 := ⟨fu - 1, by omega⟩
    obtain ⟨r, row', e1, e2, e3⟩ := ih fu (k + 1) (upd row k (row k - oth k)) (by omega) (by omega)
    refine ⟨r, row', ?_, ?_, ?_⟩
    · rw [mX3_findValues_L74, X3_area, hN]
      simp only [bnd1]
      rw [if_neg (by rw [iI_le (by omega) (by omega) (by omega) (by omega)]; omega), X4_atI (by omega) (by omega) (by omega), X4_atI (by omega) (by omega) (by omega)]
      simp only []
      rw [X4_putI (by omega) (by omega) (by omega)]
      simp only [nmB]
      rw [iI_1, iI_add, ← e1]
      rfl
    · intro p h1 h2
      by_cases hp : p = k
      · rw [e3 p (by omega), hp, upd_same]
      · rw [e2 p (by omega) h2, upd_ne hp]
    · intro p h1
      rw [e3 p (by omega), upd_ne (by omega)]
theorem X3_findValues {a b c d spot mid w s h : Int} {N : Nat} (hsp : 0 ≤ spot ∧ spot ≤ 4) (hm : mid = 0 ∨ mid = 1) (hs : Scr0 a b c d) (H : HB (InG a b c d) w s h) (hN : w * h = N) (val oth : Nat → Int32) :
    ∃ val' oth', mX3_findValues (iI a) (iI b) (iI c) (iI d) (iI spot) (iI mid) (iI w) (iI s) (iI h) val oth = some (val', oth') ∧
      ∀ p : Nat, p < N → ∃ v : Int, val' p = iI v ∧ -200000000 ≤ v ∧ v ≤ 200000000 ∧ IsV a b c d spot mid w s h ((p : Int) % w) ((p : Int) / w) v := by
  have B := H.SB hs
  have hA := H.area hs
  have hN64 : N ≤ 64 := by have := hs.2.2.2; omega
  have e3 : (iI spot = 3) ↔ spot = 3 := by rw [iI_3, iI_inj (by omega) (by omega) (by omega) (by omega)]
  have e4 : (iI spot = 4) ↔ spot = 4 := by rw [iI_4, iI_inj (by omega) (by omega) (by omega) (by omega)]
  unfold mX3_findValues
  by_cases h3 : spot = 3
  · rw [if_pos (e3.mpr h3)]
    obtain ⟨r, row', g1, g2, -⟩ := X3_line_L hs hm B hN (by omega) hN64 N FU 0 val (by omega) (by unfold FU; omega)
    refine ⟨row', oth, ?_, ?_⟩
    · unfold mX3_findLineValues
      simp only [iI_mul, iI_sub, nmB]
      rw [X3_area, hN]
      simp only [bnd1, iI_2, iI_mul]
      rw [iI_n0] at g1
      rw [g1]
      rfl
    · intro p hp
      obtain ⟨b1, b2, b3, b4, b5, b6⟩ := B
      obtain ⟨ba, bb, bc, bd⟩ := hs.bd
      refine ⟨_, g2 p (by omega) hp, ?_, ?_, fun _ => rfl, fun q => by omega, fun q => absurd h3 q⟩
      · have r1 := Int.emod_nonneg (2 * ((p : Int) % w * b - (p : Int) / w * a) + mo mid (a * d - b * c)) (show 2 * ((a * d - b * c).natAbs : Int) ≠ 0 by omega)
        have r2 := Int.emod_lt_of_pos (2 * ((p : Int) % w * b - (p : Int) / w * a) + mo mid (a * d - b * c)) (show 0 < 2 * ((a * d - b * c).natAbs : Int) by omega)
        unfold lineV
        split <;> omega
      · have r1 := Int.emod_nonneg (2 * ((p : Int) % w * b - (p : Int) / w * a) + mo mid (a * d - b * c)) (show 2 * ((a * d - b * c).natAbs : Int) ≠ 0 by omega)
        have r2 := Int.emod_lt_of_pos (2 * ((p : Int) % w * b - (p : Int) / w * a) + mo mid (a * d - b * c)) (show 0 < 2 * ((a * d - b * c).natAbs : Int) by omega)
        unfold lineV
        split <;> omega
  · rw [if_neg (fun q => h3 (e3.mp q))]
    by_cases h4 : spot = 4
    · rw [if_pos (e4.mpr h4)]
      obtain ⟨row1, g1, g2⟩ := X3_findLeast (what := 0) (Or.inl rfl) hm hs H B hN hN64 val
      obtain ⟨row2, k1, k2⟩ := X3_findLeast (what := 0) (mid := 1 - mid) (Or.inl rfl) (by omega) hs H B hN hN64 oth
      obtain ⟨r, row', f1, f2, -⟩ := X3_sub_L hN hN64 row2 N FU 0 row1 (by omega) (by unfold FU; omega)
      refine ⟨row', row2, ?_, ?_⟩
      · rw [iI_0, g1]
        simp only [bnd1]
        rw [← iI_0, jB_zK hm]
        have ez : (if mid = 0 then (1 : Int32) else 0) = iI (1 - mid) := by
          rcases hm with rfl | rfl
          · rw [if_pos rfl]; exact iI_1
          · rw [if_neg (by omega)]; exact iI_0
        rw [ez, X3_findLeastb_eq, iI_0, k1]
        simp only []
        rw [iI_n0] at f1
        rw [← iI_0, f1]
        rfl
      · intro p hp
        obtain ⟨v1, a1, a2, a3, a4⟩ := g2 p hp
        obtain ⟨v2, c1, c2, c3, c4⟩ := k2 p hp
        refine ⟨v1 - v2, ?_, by omega, by omega, fun q => absurd q h3, fun _ => ⟨v1, v2, a4, ?_, rfl⟩, fun _ q => absurd h4 q⟩
        · rw [f2 p (by omega) hp, a1, c1, iI_sub]
        · have ex : ∀ o : Int, (if 1 - mid = 0 then (0 : Int) else o) = mo' mid o := fun o => by
            unfold mo'
            rcases hm with rfl | rfl
            · rw [if_neg (by omega), if_pos rfl]
            · rw [if_pos (by omega), if_neg (by omega)]
          rw [ex, ex] at c4
          exact c4
    · rw [if_neg (fun q => h4 (e4.mp q))]
      obtain ⟨row1, g1, g2⟩ := X3_findLeast (what := spot) (by omega) hm hs H B hN hN64 val
      refine ⟨row1, oth, by rw [g1]; rfl, ?_⟩
      intro p hp
      obtain ⟨v1, a1, a2, a3, a4⟩ := g2 p hp
      exact ⟨v1, a1, by omega, a3, fun q => absurd q h3, fun q => absurd q h4, fun _ _ => a4⟩
-- ===== the reference's slots and values =====
theorem gdI {β : Type} {i : Int} {n : Nat} {E : Option β} (h0 : 0 ≤ i) (h : i < n) (hn : n < 2147483648) : gd (iI i) n E = E := by
  unfold gd
  rw [iI_toInt (by omega) (by omega), if_pos ⟨h0, h⟩]
theorem gds0 {β : Type} {k : Nat} {E : Option β} (hk : k < 3) : gd (4 * iI k) 12 E = E := by rw [iI_4, iI_mul]; exact gdI (by omega) (by omega) (by omega)
theorem gds1 {β : Type} {k : Nat} {E : Option β} (hk : k < 3) : gd (4 * iI k + 1) 12 E = E := by rw [iI_4, iI_mul, iI_1, iI_add]; exact gdI (by omega) (by omega) (by omega)
theorem gds2 {β : Type} {k : Nat} {E : Option β} (hk : k < 3) : gd (4 * iI k + 2) 12 E = E := by rw [iI_4, iI_mul, iI_2, iI_add]; exact gdI (by omega) (by omega) (by omega)
theorem gds3 {β : Type} {k : Nat} {E : Option β} (hk : k < 3) : gd (4 * iI k + 3) 12 E = E := by rw [iI_4, iI_mul, iI_3, iI_add]; exact gdI (by omega) (by omega) (by omega)
theorem gdk {β : Type} {k : Nat} {E : Option β} (hk : k < 3) : gd (iI k) 3 E = E := gdI (by omega) (by omega) (by omega)
theorem cl0 {k : Nat} (hk : k < 3) : (4 * iI k).toNatClampNeg = 4 * k := by rw [iI_4, iI_mul, iI_clamp (by omega) (by omega)]; omega
theorem cl1 {k : Nat} (hk : k < 3) : (4 * iI k + 1).toNatClampNeg = 4 * k + 1 := by rw [iI_4, iI_mul, iI_1, iI_add, iI_clamp (by omega) (by omega)]; omega
theorem cl2 {k : Nat} (hk : k < 3) : (4 * iI k + 2).toNatClampNeg = 4 * k + 2 := by rw [iI_4, iI_mul, iI_2, iI_add, iI_clamp (by omega) (by omega)]; omega
theorem cl3 {k : Nat} (hk : k < 3) : (4 * iI k + 3).toNatClampNeg = 4 * k + 3 := by rw [iI_4, iI_mul, iI_3, iI_add, iI_clamp (by omega) (by omega)]; omega
theorem clk {k : Nat} (hk : k < 2147483648) : (iI k).toNatClampNeg = k := by rw [iI_clamp (by omega) (by omega)]; omega
def SlotV (v : Nat → Int32) (k : Nat) (a b c d : Int) : Prop := v (4 * k) = iI a ∧ v (4 * k + 1) = iI b ∧ v (4 * k + 2) = iI c ∧ v (4 * k + 3) = iI d
theorem X5_areaIn {v : Nat → Int32} {k : Nat} {a b c d : Int} (hk : k < 3) (hv : SlotV v k a b c d) (hs : Scr0 a b c d) : mX5_areaIn v (iI k) = some (iI ((a * d - b * c).natAbs : Int)) := by
  obtain ⟨v0, v1, v2, v3⟩ := hv
  have dd := hs.det
  unfold mX5_areaIn
  rw [gds0 hk, gds1 hk, gds2 hk, gds3 hk, cl0 hk, cl1 hk, cl2 hk, cl3 hk, v0, v1, v2, v3, X5_areaOf (by omega) (by omega)]
  rfl
theorem X5_layScreen {v : Nat → Int32} {k : Nat} {a b c d : Int} (hk : k < 3) (hv : SlotV v k a b c d) (hs : Scr0 a b c d) :
    ∃ w s h, mX5_layScreen v (iI k) = some (iI w, iI s, iI h) ∧ HB (InG a b c d) w s h := by
  obtain ⟨v0, v1, v2, v3⟩ := hv
  obtain ⟨ba, bb, bc, bd⟩ := hs.bd
  obtain ⟨w, s, h, e, H, -⟩ := X5_layBasis (a := a) (b := b) (c := c) (d := d) (by omega) (by omega) (by omega) (by omega) hs.2.2.1
  refine ⟨w, s, h, ?_, H⟩
  unfold mX5_layScreen
  simp only [nmB]
  rw [gds0 hk, gds1 hk, gds2 hk, gds3 hk, cl0 hk, cl1 hk, cl2 hk, cl3 hk, v0, v1, v2, v3, e]
  rfl
theorem X5_valueAt {v so im : Nat → Int32} {k : Nat} {a b c d spot mid w s h x y : Int} (hk : k < 3) (hv : SlotV v k a b c d) (hso : so k = iI spot) (him : im k = iI mid) (hsp : 0 ≤ spot ∧ spot ≤ 4) (hm : mid = 0 ∨ mid = 1) (hs : Scr0 a b c d) (H : HB (InG a b c d) w s h)
    (hx0 : 0 ≤ x) (hx : x ≤ 64) (hy0 : 0 ≤ y) (hy : y ≤ 64) : ∃ r, mX5_valueAt (iI w) (iI s) (iI h) v so im (iI k) (iI x) (iI y) = some (iI r) ∧ IsV a b c d spot mid w s h x y r := by
  obtain ⟨ba, bb, bc, bd⟩ := hs.bd
  have B := H.SB hs
  have dd := hs.det
  have hA := hs.2.2.2
  have hA0 : a * d - b * c ≠ 0 := hs.2.2.1
  have e3 : (iI spot = 3) ↔ spot = 3 := by rw [iI_3, iI_inj (by omega) (by omega) (by omega) (by omega)]
  have e4 : (iI spot = 4) ↔ spot = 4 := by rw [iI_4, iI_inj (by omega) (by omega) (by omega) (by omega)]
  have em : ∀ o : Int, (if mid = 0 then (0 : Int32) else iI o) = iI (mo mid o) := fun o => by
    unfold mo; split
    · exact iI_0
    · rfl
  have em' : ∀ o : Int, (if mid = 0 then iI o else (0 : Int32)) = iI (mo' mid o) := fun o => by
    unfold mo'; split
    · rfl
    · exact iI_0
  have bm : ∀ o : Int, -22 ≤ o → o ≤ 22 → -22 ≤ mo mid o ∧ mo mid o ≤ 22 := fun o h1 h2 => by unfold mo; split <;> omega
  have bm' : ∀ o : Int, -22 ≤ o → o ≤ 22 → -22 ≤ mo' mid o ∧ mo' mid o ≤ 22 := fun o h1 h2 => by unfold mo'; split <;> omega
  have b1 := bm (a + c) (by omega) (by omega)
  have b2 := bm (b + d) (by omega) (by omega)
  have b1' := bm' (a + c) (by omega) (by omega)
  have b2' := bm' (b + d) (by omega) (by omega)
  have har := X5_areaIn hk hv hs
  obtain ⟨v0, v1, v2, v3⟩ := hv
  unfold mX5_valueAt
  simp only [nmB]
  rw [gds0 hk, gds1 hk, gds2 hk, gds3 hk]
  simp only [cl0 hk, cl1 hk, cl2 hk, cl3 hk, clk (show k < 2147483648 by omega), v0, v1, v2, v3, iI_add, gdk hk, him, hso]
  rw [jB_zK hm, em, jB_zK hm, em]
  by_cases h3 : spot = 3
  · rw [if_pos (e3.mpr h3), har]
    have g0 : ∀ {β : Type} {E : Option β}, gd (4 * iI k) 12 E = E := gds0 hk
    simp only [bnd1, g0, iI_2, iI_mul, iI_sub]
    have m1 := mul_bd2 (x := 2 * x - mo mid (a + c)) (y := b) (A := 150) (B := 11) (by omega) (by omega)
    have m2 := mul_bd2 (x := 2 * y - mo mid (b + d)) (y := a) (A := 150) (B := 11) (by omega) (by omega)
    rw [gds1 hk, X5_mod (by omega) (by omega) (by omega) (by omega)]
    have eq : (2 * x - mo mid (a + c)) * b - (2 * y - mo mid (b + d)) * a = 2 * (x * b - y * a) + mo mid (a * d - b * c) := by
      unfold mo
      split <;> grind
    rw [eq]
    have r1 := Int.emod_nonneg (2 * (x * b - y * a) + mo mid (a * d - b * c)) (show 2 * ((a * d - b * c).natAbs : Int) ≠ 0 by omega)
    have r2 := Int.emod_lt_of_pos (2 * (x * b - y * a) + mo mid (a * d - b * c)) (show 0 < 2 * ((a * d - b * c).natAbs : Int) by omega)
    simp only [iI_sub]
    by_cases hle : 2 * ((a * d - b * c).natAbs : Int) - (2 * (x * b - y * a) + mo mid (a * d - b * c)) % (2 * ((a * d - b * c).natAbs : Int)) ≤ (2 * (x * b - y * a) + mo mid (a * d - b * c)) % (2 * ((a * d - b * c).natAbs : Int))
    · rw [if_pos ((iI_le (by omega) (by omega) (by omega) (by omega)).mpr hle)]
      refine ⟨_, rfl, fun _ => ?_, fun q => by omega, fun q => absurd h3 q⟩
      unfold lineV
      split <;> omega
    · rw [if_neg (fun q => hle ((iI_le (by omega) (by omega) (by omega) (by omega)).mp q))]
      refine ⟨_, rfl, fun _ => ?_, fun q => by omega, fun q => absurd h3 q⟩
      unfold lineV
      rw [if_neg (by omega)]
  · rw [if_neg (fun q => h3 (e3.mp q))]
    by_cases h4 : spot = 4
    · rw [if_pos (e4.mpr h4), iI_0]
      obtain ⟨r1, p1, -, -, p4⟩ := X5_nearestValue (what := 0) (x := x) (y := y) (ox := mo mid (a + c)) (oy := mo mid (b + d)) (Or.inl rfl) B (by omega) (by omega) (by omega) (by omega) (by omega) (by omega) (by omega) (by omega)
      obtain ⟨r2, q1, -, -, q4⟩ := X5_nearestValue (what := 0) (x := x) (y := y) (ox := mo' mid (a + c)) (oy := mo' mid (b + d)) (Or.inl rfl) B (by omega) (by omega) (by omega) (by omega) (by omega) (by omega) (by omega) (by omega)
      rw [p1]
      simp only [bnd1]
      refine ⟨r1 - r2, ?_, fun q => absurd q h3, fun _ => ⟨r1, r2, p4, q4, rfl⟩, fun _ q => absurd h4 q⟩
      rcases hm with rfl | rfl
      · have ea : mo' 0 (a + c) = a + c := rfl
        have eb : mo' 0 (b + d) = b + d := rfl
        rw [ea, eb] at q1
        simp only [jB, if_true, q1, iI_sub]
      · have ea : mo' 1 (a + c) = 0 := rfl
        have eb : mo' 1 (b + d) = 0 := rfl
        rw [ea, eb] at q1
        have ne : ¬ iI 1 = iI 0 := by rw [iI_inj (by omega) (by omega) (by omega) (by omega)]; omega
        simp only [jB, ne, if_false, q1, iI_sub]
    · rw [if_neg (fun q => h4 (e4.mp q))]
      obtain ⟨r1, p1, -, -, p4⟩ := X5_nearestValue (what := spot) (x := x) (y := y) (ox := mo mid (a + c)) (oy := mo mid (b + d)) (by omega) B (by omega) (by omega) (by omega) (by omega) (by omega) (by omega) (by omega) (by omega)
      rw [p1]
      exact ⟨r1, rfl, fun q => absurd q h3, fun q => absurd q h4, fun _ _ => p4⟩
