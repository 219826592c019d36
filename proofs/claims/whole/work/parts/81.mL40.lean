set_option maxHeartbeats 4000000
-- ===== the law's relation of both sides; slots out of range =====
def XC (c : Cls) : Nat → Scr := fun j => if j = 0 then c.s0 else if j = 1 then c.s1 else c.s2
def INV (c : Cls) (th v so im ti buf : Nat → Int32) (gain size : Int32) : Prop :=
  AllSI (XC c) th v so im ti ∧ (∃ g : Int, 0 ≤ g ∧ g ≤ 100 ∧ c.gain = iI g ∧ gain = iI g) ∧ ∃ n : Nat, n ≤ 20 ∧ c.il = iI (n : Int) ∧ size = iI (n : Int) ∧ ∀ i, i < n → c.ic i = buf i
theorem INV_keep {c c' : Cls} {th v so im ti buf : Nat → Int32} {gain size : Int32} (H : INV c th v so im ti buf gain size) (h0 : c'.s0 = c.s0) (h1 : c'.s1 = c.s1) (h2 : c'.s2 = c.s2) (hg : c'.gain = c.gain) (hl : c'.il = c.il) (hi : c'.ic = c.ic) : INV c' th v so im ti buf gain size := by
  obtain ⟨A, ⟨g, g0, g1, e1, e2⟩, n, n0, e3, e4, e5⟩ := H
  refine ⟨?_, ⟨g, g0, g1, by rw [hg]; exact e1, e2⟩, n, n0, by rw [hl]; exact e3, e4, by rw [hi]; exact e5⟩
  have : XC c' = XC c := by unfold XC; rw [h0, h1, h2]
  rw [this]
  exact A
theorem INV_upd {c c' : Cls} {th v so im ti buf th' v' so' im' ti' : Nat → Int32} {gain size : Int32} (H : INV c th v so im ti buf gain size) (hg : c'.gain = c.gain) (hl : c'.il = c.il) (hi : c'.ic = c.ic) {k : Nat} (hx : ∀ j, j < 3 → j ≠ k → XC c' j = XC c j) (hS : SI (XC c' k) k th' v' so' im' ti') (h1 : ∀ i, i ≠ k → th' i = th i) (h2 : ∀ i, (i < 4 * k ∨ 4 * k + 4 ≤ i) → v' i = v i) (h3 : ∀ i, i ≠ k → so' i = so i) (h4 : ∀ i, i ≠ k → im' i = im i) (h5 : ∀ i, i ≠ k → ti' i = ti i) : INV c' th' v' so' im' ti' buf gain size := by
  obtain ⟨A, ⟨g, g0, g1, e1, e2⟩, n, n0, e3, e4, e5⟩ := H
  refine ⟨fun j hj => ?_, ⟨g, g0, g1, by rw [hg]; exact e1, e2⟩, n, n0, by rw [hl]; exact e3, e4, by rw [hi]; exact e5⟩
  by_cases hjk : j = k
  · subst hjk; exact hS
  · rw [hx j hj hjk]
    exact (A j hj).other hjk h1 h2 h3 h4 h5
theorem three {P : Nat → Prop} (h0 : P 0) (h1 : P 1) (h2 : P 2) : ∀ j, j < 3 → P j := by
  intro j hj
  have : j = 0 ∨ j = 1 ∨ j = 2 := by omega
  rcases this with rfl | rfl | rfl
  · exact h0
  · exact h1
  · exact h2
theorem upd0L (f : Nat → Int64) (x : Int64) : vp_updL f ((0 : Int32).toNatClampNeg) x 0 = x := by
  have e : (0 : Int32).toNatClampNeg = 0 := by decide
  rw [e]
  unfold vp_updL
  simp
theorem upd0D (f : Nat → UInt64) (x : UInt64) : vf_upd f ((0 : Int32).toNatClampNeg) x 0 = x := by
  have e : (0 : Int32).toNatClampNeg = 0 := by decide
  rw [e]
  unfold vf_upd
  simp
theorem s0_ : iI ((0 : Nat) : Int) = 0 := by decide +kernel
theorem s1_ : iI ((1 : Nat) : Int) = 1 := by decide +kernel
theorem s2_ : iI ((2 : Nat) : Int) = 2 := by decide +kernel
section Out
variable {th v so im ti : Nat → Int32} {a0 : Int32}
theorem OUT_setTint (h0 : ¬ a0 = 0) (h1 : ¬ a0 = 1) (h2 : ¬ a0 = 2) (a1 : Int32) : mX5_setTint th v ti a0 a1 = some (0, 1, ti) := by
  have n1 : ¬ (1 : Int32) = 0 := by decide
  have l1 : ¬ (1 : Int32) ≤ 0 := by decide
  unfold mX5_setTint
  rw [R_missing_out h0 h1 h2]
  dsimp only [bnd1, jB]
  rw [if_neg n1, if_neg l1]
theorem OUT_remove (h0 : ¬ a0 = 0) (h1 : ¬ a0 = 1) (h2 : ¬ a0 = 2) : mX5_remove th a0 = some (0, 1, th) := by
  have l1 : ¬ (1 : Int32) ≤ 0 := by decide
  unfold mX5_remove
  rw [R_missing_out h0 h1 h2]
  dsimp only [bnd1]
  rw [if_neg l1]
theorem OUT_shorten (h0 : ¬ a0 = 0) (h1 : ¬ a0 = 1) (h2 : ¬ a0 = 2) : mX5_shorten th v a0 = some (0, 1, v) := by
  have l1 : ¬ (1 : Int32) ≤ 0 := by decide
  unfold mX5_shorten
  rw [R_missing_out h0 h1 h2]
  dsimp only [bnd1]
  rw [if_neg l1]
theorem OUT_setCenter (h0 : ¬ a0 = 0) (h1 : ¬ a0 = 1) (h2 : ¬ a0 = 2) (vw vs vh vl : Int32) (val rk old : Nat → Int32) (a1 : Int32) : mX5_setCenter vw vs vh vl th v so im val rk old a0 a1 = some (0, 1, vw, vs, vh, vl, im, val, rk, old) := by
  have l1 : ¬ (1 : Int32) ≤ 0 := by decide
  unfold mX5_setCenter
  rw [R_missing_out h0 h1 h2]
  dsimp only [bnd1]
  rw [if_neg l1]
theorem OUT_meanStrength (h0 : ¬ a0 = 0) (h1 : ¬ a0 = 1) (h2 : ¬ a0 = 2) (gain vw vs vh vl : Int32) (val rk : Nat → Int32) : mX5_meanStrength gain vw vs vh vl th v so im ti val rk a0 = some (FP.dconst0, 1, vw, vs, vh, vl, val, rk) := by
  have l1 : ¬ (1 : Int32) ≤ 0 := by decide
  unfold mX5_meanStrength
  rw [R_missing_out h0 h1 h2]
  dsimp only [bnd1]
  rw [if_neg l1]
theorem OUT_placeOf (h0 : ¬ a0 = 0) (h1 : ¬ a0 = 1) (h2 : ¬ a0 = 2) (vw vs vh vl : Int32) (val rk : Nat → Int32) (a1 : Int32) : mX5_placeOf vw vs vh vl th v so im val rk a0 a1 = some (0, 1, vw, vs, vh, vl, val, rk) := by
  have n1 : ¬ (1 : Int32) = 0 := by decide
  have l1 : ¬ (1 : Int32) ≤ 0 := by decide
  unfold mX5_placeOf
  rw [R_missing_out h0 h1 h2]
  dsimp only [bnd1, jB]
  rw [if_neg n1, if_neg l1]
theorem OUT_turn (h0 : ¬ a0 = 0) (h1 : ¬ a0 = 1) (h2 : ¬ a0 = 2) (vw vs vh vl : Int32) (val rk old : Nat → Int32) (a1 : Int32) : mX5_turn vw vs vh vl th v so im val rk old a0 a1 = some (0, 1, vw, vs, vh, vl, v, val, rk, old) := by
  have l1 : ¬ (1 : Int32) ≤ 0 := by decide
  obtain ⟨z, hz⟩ := within_some a1 0 2
  unfold mX5_turn
  rw [hz]
  simp only [bnd1]
  rw [R_wrong_out h0 h1 h2]
  dsimp only
  rw [if_neg l1]
theorem OUT_screen (h0 : ¬ a0 = 0) (h1 : ¬ a0 = 1) (h2 : ¬ a0 = 2) (vw vs vh : Int32) (a1 : Int32) : mX5_screen vw vs vh th v so im ti a0 a1 = some (0, 1, vw, vs, vh) := by
  have l1 : ¬ (1 : Int32) ≤ 0 := by decide
  obtain ⟨z, hz⟩ := within_some a1 0 10
  unfold mX5_screen
  rw [hz]
  simp only [bnd1]
  rw [R_wrong_out h0 h1 h2]
  dsimp only
  rw [if_neg l1]
theorem pixel_some (a b : Int32) : ∃ z, mX5_isPixel a b = some z := by
  obtain ⟨a, rfl, a0, a9⟩ := i32_of a
  obtain ⟨b, rfl, b0, b9⟩ := i32_of b
  exact ⟨_, X5_isPixel a0 a9 b0 b9⟩
theorem OUT_place (h0 : ¬ a0 = 0) (h1 : ¬ a0 = 1) (h2 : ¬ a0 = 2) (vw vs vh : Int32) (a1 a2 : Int32) : mX5_place vw vs vh th v a0 a1 a2 = some (0, 1, vw, vs, vh) := by
  have l1 : ¬ (1 : Int32) ≤ 0 := by decide
  obtain ⟨z, hz⟩ := pixel_some a1 a2
  unfold mX5_place
  rw [hz]
  simp only [bnd1]
  rw [R_wrong_out h0 h1 h2]
  dsimp only
  rw [if_neg l1]
theorem OUT_growth (h0 : ¬ a0 = 0) (h1 : ¬ a0 = 1) (h2 : ¬ a0 = 2) (vw vs vh vl : Int32) (val rk : Nat → Int32) (a1 a2 : Int32) : mX5_growth vw vs vh vl th v so im val rk a0 a1 a2 = some (0, 1, vw, vs, vh, vl, val, rk) := by
  have n1 : ¬ (1 : Int32) = 0 := by decide
  have l1 : ¬ (1 : Int32) ≤ 0 := by decide
  obtain ⟨z, hz⟩ := within_some a2 0 1
  unfold mX5_growth
  rw [hz]
  simp only [bnd1]
  rw [R_wrong_out h0 h1 h2]
  dsimp only [jB]
  rw [if_neg n1, if_neg l1]
theorem OUT_inked (h0 : ¬ a0 = 0) (h1 : ¬ a0 = 1) (h2 : ¬ a0 = 2) (vw vs vh vl : Int32) (val rk aR ba : Nat → Int32) (a1 a2 a3 a4 : Int32) : mX5_inked vw vs vh vl th v so im ti val rk aR ba a0 a1 a2 a3 a4 = some (0, 1, vw, vs, vh, vl, val, rk, aR, ba) := by
  have l1 : ¬ (1 : Int32) ≤ 0 := by decide
  obtain ⟨z, hz⟩ := pixel_some a1 a2
  obtain ⟨z3, hz3⟩ := within_some a3 1 64
  obtain ⟨z4, hz4⟩ := within_some a4 1 64
  unfold mX5_inked
  rw [hz, hz3, hz4]
  dsimp only [bnd1, jB]
  simp only [R_wrong_out h0 h1 h2, if_neg l1, ite_self]
theorem OUT_compensated (h0 : ¬ a0 = 0) (h1 : ¬ a0 = 1) (h2 : ¬ a0 = 2) (gain vw vs vh vl : Int32) (val rk : Nat → Int32) (a1 : Int32) : mX5_compensated gain vw vs vh vl th v so im val rk a0 a1 = some (0, 1, vw, vs, vh, vl, val, rk) := by
  have l1 : ¬ (1 : Int32) ≤ 0 := by decide
  obtain ⟨z, hz⟩ := within_some a1 0 100
  unfold mX5_compensated
  rw [hz]
  simp only [bnd1]
  rw [R_wrong_out h0 h1 h2]
  dsimp only
  rw [if_neg l1]
theorem OUT_strength (h0 : ¬ a0 = 0) (h1 : ¬ a0 = 1) (h2 : ¬ a0 = 2) (gain vw vs vh vl : Int32) (val rk : Nat → Int32) (a1 : Int32) : mX5_strength gain vw vs vh vl th v so im val rk a0 a1 = some (0, 1, vw, vs, vh, vl, val, rk) := by
  have l1 : ¬ (1 : Int32) ≤ 0 := by decide
  unfold mX5_strength
  rw [R_stepped_out h0 h1 h2]
  dsimp only [bnd1]
  rw [if_neg l1]
theorem OUT_dots (h0 : ¬ a0 = 0) (h1 : ¬ a0 = 1) (h2 : ¬ a0 = 2) (vw vs vh vl u1 u2 u3 u4 u5 u6 : Int32) (val rk u7 u8 u9 u10 : Nat → Int32) (a1 : Int32) : mX5_dots vw vs vh vl u1 u2 u3 u4 u5 u6 th v so im val rk u7 u8 u9 u10 a0 a1 = some (0, 1, vw, vs, vh, vl, u1, u2, u3, u4, u5, u6, val, rk, u7, u8, u9, u10) := by
  have l1 : ¬ (1 : Int32) ≤ 0 := by decide
  unfold mX5_dots
  rw [R_stepped_out h0 h1 h2]
  dsimp only [bnd1]
  rw [if_neg l1]
theorem OUT_joined (h0 : ¬ a0 = 0) (h1 : ¬ a0 = 1) (h2 : ¬ a0 = 2) (vw vs vh vl u1 u2 u3 u4 u5 u6 : Int32) (val rk u7 u8 u9 u10 : Nat → Int32) (a1 : Int32) : mX5_joined vw vs vh vl u1 u2 u3 u4 u5 u6 th v so im val rk u7 u8 u9 u10 a0 a1 = some (0, 1, vw, vs, vh, vl, u1, u2, u3, u4, u5, u6, val, rk, u7, u8, u9, u10) := by
  have l1 : ¬ (1 : Int32) ≤ 0 := by decide
  unfold mX5_joined
  rw [R_stepped_out h0 h1 h2]
  dsimp only [bnd1]
  rw [if_neg l1]
theorem OUT_firstJoined (h0 : ¬ a0 = 0) (h1 : ¬ a0 = 1) (h2 : ¬ a0 = 2) (vw vs vh vl u1 u2 u3 u4 u5 u6 : Int32) (val rk u7 u8 u9 u10 : Nat → Int32) (a1 : Int32) : mX5_firstJoined vw vs vh vl u1 u2 u3 u4 u5 u6 th v so im val rk u7 u8 u9 u10 a0 a1 = some (0, 1, vw, vs, vh, vl, u1, u2, u3, u4, u5, u6, val, rk, u7, u8, u9, u10) := by
  have l1 : ¬ (1 : Int32) ≤ 0 := by decide
  obtain ⟨z, hz⟩ := within_some a1 1 2
  unfold mX5_firstJoined
  rw [hz]
  simp only [bnd1]
  rw [R_wrong_out h0 h1 h2]
  dsimp only
  rw [if_neg l1]
theorem OUT_setScreen (h0 : ¬ a0 = 0) (h1 : ¬ a0 = 1) (h2 : ¬ a0 = 2) (a1 a2 a3 a4 a5 : Int32) : mX5_setScreen th v so im ti a0 a1 a2 a3 a4 a5 = some (0, 1, th, v, so, im, ti) := by
  obtain ⟨a, rfl, p0, p9⟩ := i32_of a1
  obtain ⟨b, rfl, b0, b9⟩ := i32_of a2
  obtain ⟨c, rfl, c0, c9⟩ := i32_of a3
  obtain ⟨d, rfl, d0, d9⟩ := i32_of a4
  obtain ⟨sp, rfl, s0, s9⟩ := i32_of a5
  rw [setScreen_r p0 p9 b0 b9 c0 c9 d0 d9 s0 s9 th v so im ti a0, R_isSlot_out h0 h1 h2]
  dsimp only [bnd1]
  rw [if_pos rfl]
theorem OUT_load (h0 : ¬ a0 = 0) (h1 : ¬ a0 = 1) (h2 : ¬ a0 = 2) {n : Nat} {codes buf : Nat → Int32} (hn : n ≤ 20) (hcb : ∀ i, i < n → codes i = buf i) (part : Nat → Int32) : ∃ (s1 s2 s3 s4 s5 : Int32) (part' : Nat → Int32), mX5_load (iI (n : Int)) th v so im ti buf part a0 = some (0, 1, iI (n : Int), s1, s2, s3, s4, s5, th, v, so, im, ti, part') := by
  obtain ⟨i, r1, r2, r3, r4, r5, pA', s1, s2, s3, s4, s5, qA', -, -, e2, -⟩ := read_all hn hcb part part
  obtain ⟨A, f, z, -, -, ez, e⟩ := load_r (th := th) (v := v) (so := so) (im := im) (ti := ti) a0 e2
  rw [R_isSlot_out h0 h1 h2] at ez
  injection ez with ez
  rw [if_pos ez.symm] at e
  exact ⟨s1, s2, s3, s4, s5, qA', e⟩
theorem OUT_beat (h0 : ¬ a0 = 0) (h1 : ¬ a0 = 1) (h2 : ¬ a0 = 2) (vw vs vh : Int32) (a1 a2 : Int32) : mX5_beat vw vs vh th v a0 a1 a2 = some (0, 1, vw, vs, vh) := by
  have l1 : ¬ (1 : Int32) ≤ 0 := by decide
  unfold mX5_beat
  rw [R_isSlot_out h0 h1 h2]
  dsimp only [bnd1, jB]
  rw [if_pos rfl, if_pos rfl, if_neg l1]
theorem OUT_beat2 (h0 : ¬ a0 = 0) (h1 : ¬ a0 = 1) (h2 : ¬ a0 = 2) (vw vs vh : Int32) {k : Nat} (hk : k < 3) (a2 : Int32) : mX5_beat vw vs vh th v (iI k) a0 a2 = some (0, 1, vw, vs, vh) := by
  have n1 : ¬ (1 : Int32) = 0 := by decide
  have l1 : ¬ (1 : Int32) ≤ 0 := by decide
  unfold mX5_beat
  rw [R_isSlot_out h0 h1 h2, R_isSlot hk]
  dsimp only [bnd1, jB]
  rw [if_neg n1, if_pos rfl, if_pos rfl, if_neg l1]
end Out
