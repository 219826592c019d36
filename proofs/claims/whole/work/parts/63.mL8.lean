set_option maxHeartbeats 4000000
-- ===== the class's search of the least =====
theorem X4_atI {n : Nat} {f : Nat → Int32} {i : Int} (h0 : 0 ≤ i) (h : i < n) (hn : n < 2147483648) : mX4_at n f (iI i) = some (f i.toNat) := by
  have e : iI i = nI i.toNat := by rw [← iI_nat]; congr 1; omega
  rw [e, X4_at (by omega) hn]
theorem X4_putI {n : Nat} {f : Nat → Int32} {i : Int} {x : Int32} (h0 : 0 ≤ i) (h : i < n) (hn : n < 2147483648) : mX4_put n f (iI i) x = some (upd f i.toNat x) := by
  have e : iI i = nI i.toNat := by rw [← iI_nat]; congr 1; omega
  rw [e, X4_put (by omega) hn]
theorem X3_area {w h : Int} : mX3_area (iI w) (iI h) = some (iI (w * h)) := by
  unfold mX3_area mX2_area
  rw [iI_mul]
  rfl
theorem X3_measured {what u v : Int} (hw : what = 0 ∨ what = 1 ∨ what = 2) (hu0 : 0 ≤ u) (hu : u ≤ 10000) (hv0 : 0 ≤ v) (hv : v ≤ 10000) : mX3_measured (iI what) (iI u) (iI v) = some (iI (meas what u v)) := by
  have e1 : (iI what = 1) ↔ what = 1 := by rw [iI_1, iI_inj (by omega) (by omega) (by omega) (by omega)]
  have e2 : (iI what = 2) ↔ what = 2 := by rw [iI_2, iI_inj (by omega) (by omega) (by omega) (by omega)]
  have e3 : (iI u < iI v) ↔ u < v := iI_lt (by omega) (by omega) (by omega) (by omega)
  unfold mX3_measured meas
  simp only [e1, e2, e3, iI_mul, iI_add]
  split
  · rfl
  · split
    · split <;> rfl
    · rfl
theorem upd_same {f : Nat → Int32} {k : Nat} {x : Int32} : upd f k x k = x := if_pos rfl
theorem upd_ne {f : Nat → Int32} {k j : Nat} {x : Int32} (h : j ≠ k) : upd f k x j = f j := if_neg h
theorem X3_findLeast_L3 {w h : Int} {N : Nat} (hN : w * h = N) (hN64 : N ≤ 64) (n : Nat) : ∀ (fu k : Nat) (row : Nat → Int32), k + n = N → n < fu →
    ∃ r row', mX3_findLeast_L3 (iI w) (iI h) fu (iI k) row = some (r, row') ∧ (∀ p, k ≤ p → p < N → row' p = iI 1073741824) ∧ ∀ p, p < k → row' p = row p := by
  induction n with
  | zero =>
    intro fu k row hk hf
    obtain ⟨fu, rfl⟩ : ∃ k, fu = k + 1 := ⟨fu - 1, by omega⟩
    refine ⟨iI k, row, ?_, fun p h1 h2 => by omega, fun p _ => rfl⟩
    rw [mX3_findLeast_L3, X3_area, hN]
    simp only [bnd1]
    rw [if_pos (by rw [iI_le (by omega) (by omega) (by omega) (by omega)]; omega)]
  | succ n ih =>
    intro fu k row hk hf
    obtain ⟨fu, rfl⟩ : ∃ k, fu = k + 1 := ⟨fu - 1, by omega⟩
    obtain ⟨r, row', e1, e2, e3⟩ := ih fu (k + 1) (upd row k (iI 1073741824)) (by omega) (by omega)
    refine ⟨r, row', ?_, ?_, ?_⟩
    · rw [mX3_findLeast_L3, X3_area, hN]
      simp only [bnd1]
      rw [if_neg (by rw [iI_le (by omega) (by omega) (by omega) (by omega)]; omega), X4_putI (by omega) (by omega) (by omega)]
      simp only [nmB]
      rw [iI_1, iI_add, ← e1]
      rfl
    · intro p h1 h2
      by_cases hp : p = k
      · rw [e3 p (by omega), hp, upd_same]
      · exact e2 p (by omega) h2
    · intro p h1
      rw [e3 p (by omega), upd_ne (by omega)]
/-- the row so far: the least of the pixels D -/
def LInv (w s h ox oy what : Int) (N : Nat) (D : Int → Int → Prop) (row : Nat → Int32) : Prop :=
  ∀ p : Nat, p < N → ∃ m : Int, row p = iI m ∧ 0 ≤ m ∧ m ≤ 1073741824 ∧ (∀ X Y, D X Y → num w s h X Y = p → m ≤ meas what ((2 * X - ox).natAbs : Int) ((2 * Y - oy).natAbs : Int)) ∧
    (m = 1073741824 ∨ ∃ X Y, D X Y ∧ num w s h X Y = p ∧ m = meas what ((2 * X - ox).natAbs : Int) ((2 * Y - oy).natAbs : Int))
theorem LInv.congr {w s h ox oy what : Int} {N : Nat} {D D' : Int → Int → Prop} {row : Nat → Int32} (H : LInv w s h ox oy what N D row) (hd : ∀ X Y, D X Y ↔ D' X Y) : LInv w s h ox oy what N D' row := by
  intro p hp
  obtain ⟨m, e1, e2, e3, e4, e5⟩ := H p hp
  refine ⟨m, e1, e2, e3, fun X Y hX => e4 X Y ((hd X Y).mpr hX), ?_⟩
  rcases e5 with e5 | ⟨X, Y, h1, h2⟩
  · exact Or.inl e5
  · exact Or.inr ⟨X, Y, (hd X Y).mp h1, h2⟩
theorem LInv.add {w s h ox oy what X0 Y0 : Int} {N : Nat} {D : Int → Int → Prop} {row : Nat → Int32} (H : LInv w s h ox oy what N D row) {q : Nat} (hq : num w s h X0 Y0 = q) {m0 : Int} (hm : row q = iI m0)
    (h0 : 0 ≤ m0) (h1 : m0 ≤ 1073741824) (hz0 : 0 ≤ meas what ((2 * X0 - ox).natAbs : Int) ((2 * Y0 - oy).natAbs : Int)) (hz1 : meas what ((2 * X0 - ox).natAbs : Int) ((2 * Y0 - oy).natAbs : Int) ≤ 200000000) :
    LInv w s h ox oy what N (fun X Y => D X Y ∨ (X = X0 ∧ Y = Y0)) (upd row q (iI (if m0 < meas what ((2 * X0 - ox).natAbs : Int) ((2 * Y0 - oy).natAbs : Int) then m0 else meas what ((2 * X0 - ox).natAbs : Int) ((2 * Y0 - oy).natAbs : Int)))) := by
  intro p hp
  obtain ⟨m, e1, e2, e3, e4, e5⟩ := H p hp
  generalize hz : meas what ((2 * X0 - ox).natAbs : Int) ((2 * Y0 - oy).natAbs : Int) = z at *
  by_cases hpq : p = q
  · subst hpq
    have em : m = m0 := by
      rw [e1] at hm
      exact (iI_inj (by omega) (by omega) (by omega) (by omega)).mp hm
    subst em
    rw [upd_same]
    refine ⟨_, rfl, by split <;> omega, by split <;> omega, ?_, ?_⟩
    · rintro X Y (hX | ⟨rfl, rfl⟩) hn
      · have := e4 X Y hX hn
        split <;> omega
      · rw [hz]; split <;> omega
    · by_cases hl : m < z
      · rw [if_pos hl]
        rcases e5 with e5 | ⟨X, Y, g1, g2, g3⟩
        · exact Or.inl e5
        · exact Or.inr ⟨X, Y, Or.inl g1, g2, g3⟩
      · rw [if_neg hl]
        exact Or.inr ⟨X0, Y0, Or.inr ⟨rfl, rfl⟩, hq, hz.symm⟩
  · rw [upd_ne hpq]
    refine ⟨m, e1, e2, e3, ?_, ?_⟩
    · rintro X Y (hX | ⟨rfl, rfl⟩) hn
      · exact e4 X Y hX hn
      · rw [hq] at hn; omega
    · rcases e5 with e5 | ⟨X, Y, g1, g2, g3⟩
      · exact Or.inl e5
      · exact Or.inr ⟨X, Y, Or.inl g1, g2, g3⟩
theorem X3_findLeast_L104 {w s h ox oy what mx Y : Int} {N : Nat} (hwh : what = 0 ∨ what = 1 ∨ what = 2) (B : SB w s h) (hN : w * h = N) (hN64 : N ≤ 64) (hox : -200 ≤ ox) (hox' : ox ≤ 200) (hoy : -200 ≤ oy) (hoy' : oy ≤ 200) (hmx : -200 ≤ mx) (hmx' : mx ≤ 200) (hY : -300 ≤ Y) (hY' : Y ≤ 300) (n : Nat) :
    ∀ (fu : Nat) (x : Int) (row : Nat → Int32) (D : Int → Int → Prop), (n : Int) = mx + 13 - x → n < fu → -300 ≤ x → LInv w s h ox oy what N D row →
    ∃ r row', mX3_findLeast_L104 (iI w) (iI s) (iI h) (iI what) (iI ox) (iI oy) (iI mx) (iI Y) fu (iI x) row = some (r, row') ∧ LInv w s h ox oy what N (fun X' Y' => D X' Y' ∨ (Y' = Y ∧ x ≤ X' ∧ X' < mx + 13)) row' := by
  induction n with
  | zero =>
    intro fu x row D hn hf hx H
    obtain ⟨fu, rfl⟩ : ∃ k, fu = k + 1 := ⟨fu - 1, by omega⟩
    refine ⟨iI x, row, ?_, H.congr (fun X' Y' => ⟨Or.inl, fun q => by rcases q with q | q; exact q; omega⟩)⟩
    rw [mX3_findLeast_L104, iI_12, iI_add, if_pos (by rw [iI_lt (by omega) (by omega) (by omega) (by omega)]; omega)]
  | succ n ih =>
    intro fu x row D hn hf hx H
    obtain ⟨fu, rfl⟩ : ∃ k, fu = k + 1 := ⟨fu - 1, by omega⟩
    have BB := B
    obtain ⟨b1, b2, b3, b4, b5, b6⟩ := B
    have nr := num_range (s := s) b1 b5 x Y
    obtain ⟨m0, m1, m2, m3, -, -⟩ := H (num w s h x Y).toNat (by omega)
    have hz0 : 0 ≤ meas what ((2 * x - ox).natAbs : Int) ((2 * Y - oy).natAbs : Int) := meas_nn (by omega) (by omega)
    have hz1 : meas what ((2 * x - ox).natAbs : Int) ((2 * Y - oy).natAbs : Int) ≤ 200000000 := meas_bd (by omega) (by omega) (by omega) (by omega)
    have H2 := H.add (q := (num w s h x Y).toNat) (X0 := x) (Y0 := Y) (by omega) m1 m2 m3 hz0 hz1
    obtain ⟨r, row', e1, e2⟩ := ih fu (x + 1) _ _ (by omega) (by omega) (by omega) H2
    refine ⟨r, row', ?_, e2.congr (fun X' Y' => ?_)⟩
    · rw [mX3_findLeast_L104, iI_12, iI_add, if_neg (by rw [iI_lt (by omega) (by omega) (by omega) (by omega)]; omega), X2_numberOf BB (by omega) (by omega) (by omega) (by omega)]
      simp only [bnd1, iI_2, iI_mul, iI_sub]
      rw [iI_abs (by omega) (by omega), iI_abs (by omega) (by omega), X3_measured hwh (by omega) (by omega) (by omega) (by omega), X4_atI (by omega) (by omega) (by omega), m1]
      simp only []
      have ec : (if iI m0 < iI (meas what ((2 * x - ox).natAbs : Int) ((2 * Y - oy).natAbs : Int)) then iI m0 else iI (meas what ((2 * x - ox).natAbs : Int) ((2 * Y - oy).natAbs : Int))) = iI (if m0 < meas what ((2 * x - ox).natAbs : Int) ((2 * Y - oy).natAbs : Int) then m0 else meas what ((2 * x - ox).natAbs : Int) ((2 * Y - oy).natAbs : Int)) := by
        simp only [iI_lt (x := m0) (y := meas what ((2 * x - ox).natAbs : Int) ((2 * Y - oy).natAbs : Int)) (by omega) (by omega) (by omega) (by omega)]
        split <;> rfl
      rw [ec, X4_putI (by omega) (by omega) (by omega)]
      simp only [nmB]
      rw [iI_1, iI_add, ← e1]
    · constructor
      · rintro ((q | ⟨q1, q2⟩) | q)
        · exact Or.inl q
        · exact Or.inr ⟨q2, by omega, by omega⟩
        · exact Or.inr ⟨q.1, by omega, q.2.2⟩
      · rintro (q | ⟨q1, q2, q3⟩)
        · exact Or.inl (Or.inl q)
        · by_cases hx' : X' = x
          · exact Or.inl (Or.inr ⟨hx', q1⟩)
          · exact Or.inr ⟨q1, by omega, q3⟩
theorem X3_findLeast_L87 {w s h ox oy what mx my : Int} {N : Nat} (hwh : what = 0 ∨ what = 1 ∨ what = 2) (B : SB w s h) (hN : w * h = N) (hN64 : N ≤ 64) (hox : -200 ≤ ox) (hox' : ox ≤ 200) (hoy : -200 ≤ oy) (hoy' : oy ≤ 200) (hmx : -200 ≤ mx) (hmx' : mx ≤ 200) (hmy : -200 ≤ my) (hmy' : my ≤ 200) (n : Nat) :
    ∀ (fu : Nat) (y : Int) (row : Nat → Int32) (D : Int → Int → Prop), (n : Int) = my + 13 - y → n < fu → -300 ≤ y → LInv w s h ox oy what N D row →
    ∃ r row', mX3_findLeast_L87 (iI w) (iI s) (iI h) (iI what) (iI ox) (iI oy) (iI mx) (iI my) fu (iI y) row = some (r, row') ∧ LInv w s h ox oy what N (fun X' Y' => D X' Y' ∨ (mx - 12 ≤ X' ∧ X' < mx + 13 ∧ y ≤ Y' ∧ Y' < my + 13)) row' := by
  induction n with
  | zero =>
    intro fu y row D hn hf hy H
    obtain ⟨fu, rfl⟩ : ∃ k, fu = k + 1 := ⟨fu - 1, by omega⟩
    refine ⟨iI y, row, ?_, H.congr (fun X' Y' => ⟨Or.inl, fun q => by rcases q with q | q; exact q; omega⟩)⟩
    rw [mX3_findLeast_L87, iI_12, iI_add, if_pos (by rw [iI_lt (by omega) (by omega) (by omega) (by omega)]; omega)]
  | succ n ih =>
    intro fu y row D hn hf hy H
    obtain ⟨fu, rfl⟩ : ∃ k, fu = k + 1 := ⟨fu - 1, by omega⟩
    obtain ⟨r0, row0, g1, g2⟩ := X3_findLeast_L104 hwh B hN hN64 hox hox' hoy hoy' hmx hmx' hy (show y ≤ 300 by omega) 25 FU (mx - 12) row D (by omega) (by unfold FU; omega) (by omega) H
    obtain ⟨r, row', e1, e2⟩ := ih fu (y + 1) row0 _ (by omega) (by omega) (by omega) g2
    refine ⟨r, row', ?_, e2.congr (fun X' Y' => ?_)⟩
    · rw [mX3_findLeast_L87, iI_12, iI_add, if_neg (by rw [iI_lt (by omega) (by omega) (by omega) (by omega)]; omega)]
      simp only [nmB, iI_sub]
      rw [g1]
      simp only [bnd2]
      rw [iI_1, iI_add, ← e1]
    · constructor
      · rintro ((q | ⟨q1, q2⟩) | q)
        · exact Or.inl q
        · exact Or.inr (by omega)
        · exact Or.inr (by omega)
      · rintro (q | q)
        · exact Or.inl (Or.inl q)
        · by_cases hy' : Y' = y
          · exact Or.inl (Or.inr ⟨hy', by omega, by omega⟩)
          · exact Or.inr (by omega)
theorem jB_zK {α : Type} {F : Int32 → α} {m : Int} {x y : Int32} (h0 : m = 0 ∨ m = 1) : jB F (fun K => if iI m = 0 then K x else K y) = F (if m = 0 then x else y) := by
  rcases h0 with rfl | rfl
  · show (if iI 0 = 0 then F x else F y) = _
    rw [if_pos iI_0.symm, if_pos rfl]
  · show (if iI 1 = 0 then F x else F y) = _
    rw [if_neg (by rw [iI_eq0 (by omega) (by omega)]; omega), if_neg (by omega)]
theorem X3_findLeast {a b c d w s h what mid : Int} {N : Nat} (hwh : what = 0 ∨ what = 1 ∨ what = 2) (hm : mid = 0 ∨ mid = 1) (hs : Scr0 a b c d) (H : HB (InG a b c d) w s h) (B : SB w s h) (hN : w * h = N) (hN64 : N ≤ 64) (row : Nat → Int32) :
    ∃ row', mX3_findLeast (iI a) (iI b) (iI c) (iI d) (iI w) (iI s) (iI h) row (iI what) (iI mid) = some row' ∧
      ∀ p : Nat, p < N → ∃ v : Int, row' p = iI v ∧ 0 ≤ v ∧ v ≤ 200000000 ∧ MinOf (Vals w s h (if mid = 0 then 0 else a + c) (if mid = 0 then 0 else b + d) what ((p : Int) % w) ((p : Int) / w)) v := by
  obtain ⟨ba, bb, bc, bd⟩ := hs.bd
  obtain ⟨rr, row0, g1, g2, -⟩ := X3_findLeast_L3 hN hN64 N FU 0 row (by omega) (by unfold FU; omega)
  rw [iI_n0] at g1
  generalize hox : (if mid = 0 then (0 : Int) else a + c) = ox
  generalize hoy : (if mid = 0 then (0 : Int) else b + d) = oy
  have box : -30 ≤ ox ∧ ox ≤ 30 := by rw [← hox]; split <;> omega
  have boy : -30 ≤ oy ∧ oy ≤ 30 := by rw [← hoy]; split <;> omega
  have i0 : LInv w s h ox oy what N (fun _ _ => False) row0 := fun p hp => ⟨1073741824, g2 p (by omega) hp, by omega, by omega, fun _ _ q => q.elim, Or.inl rfl⟩
  obtain ⟨r, row', e1, e2⟩ := X3_findLeast_L87 (mx := ox / 2) (my := oy / 2) hwh B hN hN64 (show -200 ≤ ox by omega) (by omega) (show -200 ≤ oy by omega) (by omega) (by omega) (by omega) (by omega) (by omega) 25 FU (oy / 2 - 12) row0 _ (by omega) (by unfold FU; omega) (by omega) i0
  refine ⟨row', ?_, ?_⟩
  · have ex : (if mid = 0 then (0 : Int32) else iI a + iI c) = iI ox := by
      rw [← hox, iI_add]; split
      · exact iI_0
      · rfl
    have ey : (if mid = 0 then (0 : Int32) else iI b + iI d) = iI oy := by
      rw [← hoy, iI_add]; split
      · exact iI_0
      · rfl
    unfold mX3_findLeast
    rw [g1]
    simp only [bnd2]
    rw [jB_zK hm, ex, jB_zK hm, ey, iI_2, J_floorDiv (by omega) (by omega) (by omega) (by omega)]
    simp only [bnd1]
    rw [J_floorDiv (by omega) (by omega) (by omega) (by omega)]
    simp only [nmB, iI_12, iI_sub]
    rw [e1]
  · intro p hp
    have BB := B
    obtain ⟨b1, b2, b3, b4, b5, b6⟩ := B
    obtain ⟨v, f1, f2, f3, f4, f5⟩ := e2 p hp
    have hnp : num w s h ((p : Int) % w) ((p : Int) / w) = p := num_self b1 b5 (by omega) (by omega)
    have hin : ∀ X Y, num w s h X Y = p ↔ InL w s h (X - (p : Int) % w) (Y - (p : Int) / w) := fun X Y => by
      rw [← num_eq b1 b5, hnp]
    obtain ⟨X0, Y0, n1, n2⟩ := near_pixel (ox := ox) (oy := oy) (x := (p : Int) % w) (y := (p : Int) / w) hs H
    have n3 := meas_near (what := what) n2
    have win : ∀ X Y, meas what ((2 * X - ox).natAbs : Int) ((2 * Y - oy).natAbs : Int) ≤ mtop what → (False ∨ (ox / 2 - 12 ≤ X ∧ X < ox / 2 + 13 ∧ oy / 2 - 12 ≤ Y ∧ Y < oy / 2 + 13)) := by
      intro X Y hle
      right
      have hno : ¬ (25 ≤ ((2 * X - ox).natAbs : Int) ∨ 25 ≤ ((2 * Y - oy).natAbs : Int)) := fun q => by
        have := meas_far (what := what) q
        omega
      omega
    have top : mtop what ≤ 256 := by unfold mtop; split <;> (try split) <;> omega
    have l0 := f4 X0 Y0 (win X0 Y0 n3) ((hin X0 Y0).mpr n1)
    refine ⟨v, f1, f2, by omega, ?_, ?_⟩
    · rcases f5 with f5 | ⟨X, Y, -, q2, q3⟩
      · omega
      · exact ⟨X, Y, (hin X Y).mp q2, q3⟩
    · rintro u ⟨X, Y, q1, rfl⟩
      by_cases hle : meas what ((2 * X - ox).natAbs : Int) ((2 * Y - oy).natAbs : Int) ≤ mtop what
      · exact f4 X Y (win X Y hle) ((hin X Y).mpr q1)
      · omega
theorem X3_findLeastb_L3_eq {w h : Int32} : ∀ (fu : Nat) (k : Int32) (row : Nat → Int32), mX3_findLeastb_L3 w h fu k row = mX3_findLeast_L3 w h fu k row := by
  intro fu
  induction fu with
  | zero => intro k row; rfl
  | succ fu ih => intro k row; simp only [mX3_findLeastb_L3, mX3_findLeast_L3, ih]
theorem X3_findLeastb_L104_eq {w s h a j6 j8 r10 v13 : Int32} : ∀ (fu : Nat) (k : Int32) (row : Nat → Int32), mX3_findLeastb_L104 w s h a j6 j8 r10 v13 fu k row = mX3_findLeast_L104 w s h a j6 j8 r10 v13 fu k row := by
  intro fu
  induction fu with
  | zero => intro k row; rfl
  | succ fu ih => intro k row; simp only [mX3_findLeastb_L104, mX3_findLeast_L104, ih]
theorem X3_findLeastb_L87_eq {w s h a j6 j8 r10 r11 : Int32} : ∀ (fu : Nat) (k : Int32) (row : Nat → Int32), mX3_findLeastb_L87 w s h a j6 j8 r10 r11 fu k row = mX3_findLeast_L87 w s h a j6 j8 r10 r11 fu k row := by
  intro fu
  induction fu with
  | zero => intro k row; rfl
  | succ fu ih => intro k row; simp only [mX3_findLeastb_L87, mX3_findLeast_L87, X3_findLeastb_L104_eq, ih]
theorem X3_findLeastb_eq {a b c d w s h : Int32} {row : Nat → Int32} {x y : Int32} : mX3_findLeastb a b c d w s h row x y = mX3_findLeast a b c d w s h row x y := by
  unfold mX3_findLeastb mX3_findLeast
  simp only [X3_findLeastb_L3_eq, X3_findLeastb_L87_eq]
