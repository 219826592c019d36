set_option maxHeartbeats 4000000
-- ===== more calls of one screen =====
theorem X4_isPosition {a : Int} (h1 : -2147483648 ≤ a) (h2 : a < 2147483648) : mX4_isPosition (iI a) = some (if -10000 ≤ a ∧ a ≤ 10000 then 1 else 0) := by
  have e1 : (-10000 : Int32) = iI (-10000) := by decide +kernel
  have e2 : (10000 : Int32) = iI 10000 := iI_lit 10000
  have c1 : (iI a < -10000) ↔ a < -10000 := by rw [e1, iI_lt h1 h2 (by omega) (by omega)]
  have c2 : (10000 < iI a) ↔ 10000 < a := by rw [e2, iI_lt (by omega) (by omega) h1 h2]
  unfold mX4_isPosition
  simp only [c1, c2]
  by_cases h : a < -10000
  · rw [if_pos h, if_neg (by omega)]
  · rw [if_neg h]
    by_cases h' : 10000 < a
    · rw [if_pos h', if_neg (by omega)]
    · rw [if_neg h', if_pos (by omega)]
theorem X5_isPixel {a b : Int} (h1 : -2147483648 ≤ a) (h2 : a < 2147483648) (h3 : -2147483648 ≤ b) (h4 : b < 2147483648) : mX5_isPixel (iI a) (iI b) = some (if (-10000 ≤ a ∧ a ≤ 10000) ∧ (-10000 ≤ b ∧ b ≤ 10000) then 1 else 0) := by
  have e1 : (-10000 : Int32) = iI (-10000) := by decide +kernel
  have e2 : (10000 : Int32) = iI 10000 := iI_lit 10000
  have d1 : ¬ (1 : Int32) = 0 := by decide
  unfold mX5_isPixel
  rw [e1, e2, X5_within h1 h2 (by omega) (by omega) (by omega) (by omega), X5_within h3 h4 (by omega) (by omega) (by omega) (by omega)]
  simp only [bnd1]
  by_cases ha : -10000 ≤ a ∧ a ≤ 10000
  · by_cases hb : -10000 ≤ b ∧ b ≤ 10000
    · simp only [if_pos ha, if_pos hb, if_neg d1, if_pos (And.intro ha hb)]
    · have : ¬ ((-10000 ≤ a ∧ a ≤ 10000) ∧ (-10000 ≤ b ∧ b ≤ 10000)) := fun q => hb q.2
      simp only [if_pos ha, if_neg hb, if_neg d1, if_neg this, if_true]
  · have : ¬ ((-10000 ≤ a ∧ a ≤ 10000) ∧ (-10000 ≤ b ∧ b ≤ 10000)) := fun q => ha q.1
    simp only [if_neg ha, if_neg this, if_true]
section SlotCalls2
variable {x : Scr} {k : Nat} {th v so im ti : Nat → Int32} {β : Type}
/-- the guard of an argument and a present screen -/
theorem wrong3 (hk : k < 3) (H : SI x k th v so im ti) (P : Prop) (z : Int32) (hz : z = 1 ∨ z = 0) (hP : z = 1 ↔ P) :
    (¬ P ∧ mX5_wrong th (iI k) z = some 2) ∨ (P ∧ x.pr = 0 ∧ mX5_wrong th (iI k) z = some 3) ∨
    (P ∧ x.pr = 1 ∧ th k = 1 ∧ mX5_wrong th (iI k) z = some 0 ∧ ∃ (a b c d spot mid t w s h : Int) (N : Nat) (V : Nat → Int), SD x k v so im ti a b c d spot mid t w s h N V) := by
  rcases hz with rfl | rfl
  · have p := hP.mp rfl
    right
    rcases H with ⟨hp, ht⟩ | ⟨hp, ht, hS⟩
    · exact Or.inl ⟨p, hp, R_wrong0 hk ht⟩
    · exact Or.inr ⟨p, hp, ht, R_wrong1 hk ht, hS⟩
  · left
    exact ⟨fun p => absurd (hP.mpr p) (by decide), R_wrong_bad hk⟩
theorem ite01 (P : Prop) [Decidable P] : ((if P then 1 else 0 : Int32) = 1 ∨ (if P then 1 else 0 : Int32) = 0) ∧ ((if P then 1 else 0 : Int32) = 1 ↔ P) := by
  by_cases h : P
  · rw [if_pos h]; exact ⟨Or.inl rfl, fun _ => h, fun _ => rfl⟩
  · rw [if_neg h]; exact ⟨Or.inr rfl, fun q => absurd q (by decide), fun q => absurd q h⟩
theorem SX_place (hk : k < 3) (H : SI x k th v so im ti) (a1 a2 : Int32) (vw vs vh : Int32) (Kf : Nat → Option β) (F : Int32 → Option β) :
    (∃ (kk : Nat) (b t : Int32), lq (mxX4_place x.pr a1 a2) Kf (bnd1 (mX4_place x.pr x.w x.s x.h a1 a2) F) = Kf kk ∧ mX5_place vw vs vh th v (iI k) a1 a2 = some (b, t, vw, vs, vh) ∧ ((kk = 1 ∧ t = 2) ∨ (kk = 2 ∧ t = 3))) ∨
    (∃ (o w' s' h' : Int32), lq (mxX4_place x.pr a1 a2) Kf (bnd1 (mX4_place x.pr x.w x.s x.h a1 a2) F) = F o ∧ mX5_place vw vs vh th v (iI k) a1 a2 = some (o, 0, w', s', h')) := by
  obtain ⟨a, rfl, a0, a9⟩ := i32_of a1
  obtain ⟨b, rfl, b0, b9⟩ := i32_of a2
  have d1 : ¬ (1 : Int32) = 0 := by decide
  have hcm : mxX4_place x.pr (iI a) (iI b) = if (-10000 ≤ a ∧ a ≤ 10000) ∧ (-10000 ≤ b ∧ b ≤ 10000) then (if x.pr = 0 then some 2 else none) else some 1 := by
    unfold mxX4_place
    rw [X4_isPosition a0 a9, X4_isPosition b0 b9]
    dsimp only [jB]
    simp only [bnd1]
    by_cases ha : -10000 ≤ a ∧ a ≤ 10000
    · by_cases hb : -10000 ≤ b ∧ b ≤ 10000
      · simp only [if_pos ha, if_pos hb, if_neg d1, if_pos (And.intro ha hb)]
      · have : ¬ ((-10000 ≤ a ∧ a ≤ 10000) ∧ (-10000 ≤ b ∧ b ≤ 10000)) := fun q => hb q.2
        simp only [if_pos ha, if_neg hb, if_neg d1, if_neg this, if_true]
    · have : ¬ ((-10000 ≤ a ∧ a ≤ 10000) ∧ (-10000 ≤ b ∧ b ≤ 10000)) := fun q => ha q.1
      simp only [if_neg ha, if_neg this, if_true]
  have hrm : ∀ q : Int32, mX5_wrong th (iI k) (if (-10000 ≤ a ∧ a ≤ 10000) ∧ (-10000 ≤ b ∧ b ≤ 10000) then 1 else 0) = some q → mX5_place vw vs vh th v (iI k) (iI a) (iI b) = if q ≤ 0 then bnd3 (mX5_layScreen v (iI k)) fun r4_0 r4_1 r4_2 => bnd1 (mX5_placeAt r4_0 r4_1 r4_2 (iI a) (iI b)) fun r5_0 => some (r5_0, q, r4_0, r4_1, r4_2) else some (0, q, vw, vs, vh) := by
    intro q hq
    unfold mX5_place
    rw [X5_isPixel a0 a9 b0 b9]
    simp only [bnd1]
    rw [hq]
  have i01 := ite01 ((-10000 ≤ a ∧ a ≤ 10000) ∧ (-10000 ≤ b ∧ b ≤ 10000))
  rcases wrong3 hk H _ _ i01.1 i01.2 with ⟨hn, e⟩ | ⟨hp, hpr, e⟩ | ⟨hp, hpr, ht, e, a', b', c, d, spot, mid, t, w, s, h, N, V, S⟩
  · left
    rw [if_neg hn] at hcm
    exact ⟨1, 0, 2, by rw [hcm]; rfl, by rw [hrm 2 e, if_neg (by decide)], Or.inl ⟨rfl, rfl⟩⟩
  · left
    rw [if_pos hp, if_pos hpr] at hcm
    exact ⟨2, 0, 3, by rw [hcm]; rfl, by rw [hrm 3 e, if_neg (by decide)], Or.inr ⟨rfl, rfl⟩⟩
  · right
    have hz : ¬ x.pr = 0 := by rw [hpr]; decide
    rw [if_pos hp, if_neg hz] at hcm
    have B := S.B
    obtain ⟨g1, g2, g3, g4, ⟨f1, f2, f3, f4, f5, f6, f7, f8, f9, f10⟩, G, g7, g8, g9, g10, g11, g12⟩ := id S
    obtain ⟨w', s', h', l1, l2⟩ := X5_layScreen hk g9 g1
    obtain ⟨rfl, rfl, rfl⟩ := G.1.uniq l2
    refine ⟨iI (num w s h a b), iI w, iI s, iI h, ?_, ?_⟩
    · rw [hcm]
      show bnd1 (mX4_place x.pr x.w x.s x.h (iI a) (iI b)) F = _
      unfold mX4_place
      rw [X4_isPosition a0 a9, X4_isPosition b0 b9]
      dsimp only [jB]
      simp only [bnd1, if_pos hp.1, if_pos hp.2, if_neg d1, gz, if_neg hz]
      rw [f8, f9, f10, X2_numberOf B (by omega) (by omega) (by omega) (by omega)]
    · rw [hrm 0 e, if_pos (by decide), l1]
      simp only [bnd3]
      rw [X5_placeAt B (by omega) (by omega) (by omega) (by omega)]
      rfl
theorem SX_growth (hk : k < 3) (H : SI x k th v so im ti) (a1 a2 : Int32) (vw vs vh vl : Int32) (val rk : Nat → Int32) (Kf : Nat → Option β) (F : Int32 → Option β) :
    (∃ (kk : Nat) (b t : Int32), lq (mxX4_growth x.pr x.w x.h a1 a2) Kf (bnd1 (mX4_growth x.pr x.w x.h x.va x.ra a1 a2) F) = Kf kk ∧ mX5_growth vw vs vh vl th v so im val rk (iI k) a1 a2 = some (b, t, vw, vs, vh, vl, val, rk) ∧ ((kk = 1 ∧ t = 2) ∨ (kk = 2 ∧ t = 3))) ∨
    (∃ (o w' s' h' l' : Int32) (val' rk' : Nat → Int32), lq (mxX4_growth x.pr x.w x.h a1 a2) Kf (bnd1 (mX4_growth x.pr x.w x.h x.va x.ra a1 a2) F) = F o ∧ mX5_growth vw vs vh vl th v so im val rk (iI k) a1 a2 = some (o, 0, w', s', h', l', val', rk')) := by
  obtain ⟨p, rfl, p0, p9⟩ := i32_of a1
  obtain ⟨q, rfl, q0, q9⟩ := i32_of a2
  have d1 : ¬ (1 : Int32) = 0 := by decide
  have c0 : (iI q = 0) ↔ q = 0 := iI_eq0 q0 q9
  have c1 : (iI q = 1) ↔ q = 1 := by rw [iI_1, iI_inj q0 q9 (by omega) (by omega)]
  have cp : (iI p < 0) ↔ p < 0 := iI_neg' p0 p9
  have hw : mX5_within (iI q) 0 1 = some (if 0 ≤ q ∧ q ≤ 1 then 1 else 0) := by rw [iI_0, iI_1, X5_within q0 q9 (by omega) (by omega) (by omega) (by omega)]; rw [← iI_0, ← iI_1]
  have i01 := ite01 (0 ≤ q ∧ q ≤ 1)
  have hcm : mxX4_growth x.pr x.w x.h (iI p) (iI q) = if 0 ≤ q ∧ q ≤ 1 then (bnd1 (mX3_hasPlace x.pr x.w x.h (iI p)) fun r5_0 => if r5_0 = 0 then some 2 else none) else some 1 := by
    unfold mxX4_growth
    dsimp only [jB]
    simp only [c0, c1, if_neg d1, if_true]
    by_cases h0 : q = 0
    · rw [if_pos h0, if_pos (show 0 ≤ q ∧ q ≤ 1 by omega)]
    · rw [if_neg h0]
      by_cases h1 : q = 1
      · rw [if_pos h1, if_pos (show 0 ≤ q ∧ q ≤ 1 by omega)]
      · rw [if_neg h1, if_neg (show ¬ (0 ≤ q ∧ q ≤ 1) by omega)]
  have hrm : ∀ z : Int32, mX5_wrong th (iI k) (if 0 ≤ q ∧ q ≤ 1 then 1 else 0) = some z → ¬ z = 0 → ¬ z ≤ 0 → mX5_growth vw vs vh vl th v so im val rk (iI k) (iI p) (iI q) = some (0, z, vw, vs, vh, vl, val, rk) := by
    intro z hz h0 h1
    unfold mX5_growth
    rw [hw]
    simp only [bnd1]
    rw [hz]
    dsimp only [jB]
    rw [if_neg h0, if_neg h1]
  rcases wrong3 hk H _ _ i01.1 i01.2 with ⟨hn, e⟩ | ⟨hq, hpr, e⟩ | ⟨hq, hpr, ht, e, a', b', c, d, spot, mid, t, w, s, h, N, V, S⟩
  · left
    rw [if_neg hn] at hcm
    exact ⟨1, 0, 2, by rw [hcm]; rfl, hrm 2 e (by decide) (by decide), Or.inl ⟨rfl, rfl⟩⟩
  · left
    rw [if_pos hq] at hcm
    refine ⟨2, 0, 3, ?_, hrm 3 e (by decide) (by decide), Or.inr ⟨rfl, rfl⟩⟩
    rw [hcm]
    unfold mX3_hasPlace
    rw [if_pos hpr]
    simp only [bnd1, if_true]
    rfl
  · have hz : ¬ x.pr = 0 := by rw [hpr]; decide
    have hN := S.N64
    rw [if_pos hq] at hcm
    have hP : mX3_hasPlace x.pr x.w x.h (iI p) = some (if 0 ≤ p ∧ p < N then 1 else 0) := by
      unfold mX3_hasPlace
      rw [if_neg hz, S.areaC]
      simp only [bnd1, cp, iI_le (x := (N : Int)) (y := p) (by omega) (by omega) p0 p9]
      by_cases h1 : p < 0
      · rw [if_pos h1, if_neg (by omega)]
      · rw [if_neg h1]
        by_cases h2 : (N : Int) ≤ p
        · rw [if_pos h2, if_neg (by omega)]
        · rw [if_neg h2, if_pos (by omega)]
    have hrg : mX5_growth vw vs vh vl th v so im val rk (iI k) (iI p) (iI q) = if 0 ≤ p ∧ p < N then (bnd6 (mX5_layGrowth v so im val rk (iI k)) fun r9_0 r9_1 r9_2 r9_3 r9_4 r9_5 => if iI q = 0 then (gd (iI p) 64 <| some ((r9_4 (iI p).toNatClampNeg), 0, r9_0, r9_1, r9_2, r9_3, r9_4, r9_5)) else (gd (iI p) 64 <| some ((r9_5 (iI p).toNatClampNeg), 0, r9_0, r9_1, r9_2, r9_3, r9_4, r9_5))) else some (0, 3, vw, vs, vh, vl, val, rk) := by
      unfold mX5_growth
      rw [hw]
      simp only [bnd1]
      rw [e]
      simp only [if_true]
      rw [S.areaIn hk]
      simp only []
      rw [iI_1, iI_sub]
      have hw2 : mX5_within (iI p) 0 (iI ((N : Int) - 1)) = some (if 0 ≤ p ∧ p ≤ (N : Int) - 1 then 1 else 0) := by
        rw [iI_0, X5_within p0 p9 (by omega) (by omega) (by omega) (by omega)]; rw [← iI_0]
      rw [hw2]
      simp only []
      dsimp only [jB]
      by_cases hp : 0 ≤ p ∧ p < N
      · rw [if_pos (show 0 ≤ p ∧ p ≤ (N : Int) - 1 by omega), if_pos hp, if_neg d1, if_pos (by decide)]
      · rw [if_neg (show ¬ (0 ≤ p ∧ p ≤ (N : Int) - 1) by omega), if_neg hp]
        simp only [if_true]
        rw [if_neg (by decide)]
    by_cases hp : 0 ≤ p ∧ p < N
    · right
      rw [if_pos hp] at hP hrg
      obtain ⟨val', rk', y1, y2⟩ := S.grow hk val rk
      obtain ⟨-, -, -, yv, -⟩ := S.rk
      have yr := S.rk.1
      have pN : p.toNat < N := by omega
      obtain ⟨z1, z2⟩ := y2 p.toNat pN
      have hcg : mX4_growth x.pr x.w x.h x.va x.ra (iI p) (iI q) = if q = 0 then some (iI (V p.toNat)) else some (iI (Rk V N p.toNat : Nat)) := by
        unfold mX4_growth
        dsimp only [jB]
        rw [hP]
        simp only [c0, c1, gz, if_neg d1, bnd1]
        rw [X4_atI (by omega) (by omega) (by omega), X4_atI (by omega) (by omega) (by omega), yv _ pN, yr _ pN]
        simp only []
        by_cases h0 : q = 0
        · rw [if_pos h0, if_pos h0]
        · rw [if_neg h0, if_pos (show q = 1 by omega), if_neg h0]
      rw [hcm, hP]
      simp only [bnd1, if_neg d1]
      rw [hcg, hrg, y1]
      simp only [bnd6, c0]
      rw [gdI (by omega) (by omega) (by omega), gdI (by omega) (by omega) (by omega), iI_clamp (by omega) (by omega), z1, z2]
      by_cases h0 : q = 0
      · rw [if_pos h0, if_pos h0]
        exact ⟨_, _, _, _, _, _, _, rfl, rfl⟩
      · rw [if_neg h0, if_neg h0]
        exact ⟨_, _, _, _, _, _, _, rfl, rfl⟩
    · left
      rw [if_neg hp] at hP hrg
      refine ⟨2, 0, 3, ?_, hrg, Or.inr ⟨rfl, rfl⟩⟩
      rw [hcm, hP]
      simp only [bnd1, if_true]
      rfl
theorem R_placeOf_L {V : Nat → Int} {N : Nat} {rk : Nat → Int32} (hN64 : N ≤ 64) (hr : ∀ p, p < N → rk p = iI (Rk V N p : Nat)) {p0 : Nat} (hp0 : p0 < N) (n : Nat) : ∀ (fu j : Nat), j + n = p0 → n < fu → mX5_placeOf_L59 (iI (Rk V N p0 : Nat)) rk fu (iI j) = some (iI p0) := by
  induction n with
  | zero =>
    intro fu j hj hf
    obtain ⟨fu, rfl⟩ : ∃ k, fu = k + 1 := ⟨fu - 1, by omega⟩
    have : j = p0 := by omega
    subst this
    rw [mX5_placeOf_L59, gdI (by omega) (by omega) (by omega), clk (by omega), hr _ hp0, if_pos rfl]
  | succ n ih =>
    intro fu j hj hf
    obtain ⟨fu, rfl⟩ : ∃ k, fu = k + 1 := ⟨fu - 1, by omega⟩
    have h1 := Rk_lt (V := V) hp0
    have h2 := Rk_lt (V := V) (show j < N by omega)
    have hne : Rk V N j ≠ Rk V N p0 := fun q => by
      have := Rk_inj (show j < N by omega) hp0 q
      omega
    rw [mX5_placeOf_L59, gdI (by omega) (by omega) (by omega), clk (by omega), hr _ (by omega), if_neg (by rw [iI_inj (by omega) (by omega) (by omega) (by omega)]; omega)]
    simp only [nmB]
    rw [iI_1, iI_add, ← ih fu (j + 1) (by omega) (by omega)]
    rfl
theorem SX_placeOf (hk : k < 3) (H : SI x k th v so im ti) (a1 : Int32) (vw vs vh vl : Int32) (val rk : Nat → Int32) (Kf : Nat → Option β) (F : Int32 → Option β) :
    (∃ (kk : Nat) (b t : Int32), lq (mxX4_placeOf x.pr x.w x.h a1) Kf (bnd1 (mX4_placeOf x.pr x.w x.h x.od a1) F) = Kf kk ∧ mX5_placeOf vw vs vh vl th v so im val rk (iI k) a1 = some (b, t, vw, vs, vh, vl, val, rk) ∧ (kk = 2 ∧ t = 2)) ∨
    (∃ (o w' s' h' l' : Int32) (val' rk' : Nat → Int32), lq (mxX4_placeOf x.pr x.w x.h a1) Kf (bnd1 (mX4_placeOf x.pr x.w x.h x.od a1) F) = F o ∧ mX5_placeOf vw vs vh vl th v so im val rk (iI k) a1 = some (o, 0, w', s', h', l', val', rk')) := by
  obtain ⟨p, rfl, p0, p9⟩ := i32_of a1
  have d1 : ¬ (1 : Int32) = 0 := by decide
  have cp : (iI p < 0) ↔ p < 0 := iI_neg' p0 p9
  rcases H with ⟨hpr, ht⟩ | ⟨hpr, ht, a', b', c, d, spot, mid, t, w, s, h, N, V, S⟩
  · left
    refine ⟨2, 0, 2, ?_, ?_, rfl, rfl⟩
    · unfold mxX4_placeOf mX3_hasPlace
      rw [if_pos hpr]
      simp only [bnd1, if_true]
      rfl
    · unfold mX5_placeOf
      rw [R_missing0 hk ht]
      dsimp only [jB, bnd1]
      rw [if_neg (by decide), if_neg (by decide)]
  · have hz : ¬ x.pr = 0 := by rw [hpr]; decide
    have hN := S.N64
    have hP : mX3_hasPlace x.pr x.w x.h (iI p) = some (if 0 ≤ p ∧ p < N then 1 else 0) := by
      unfold mX3_hasPlace
      rw [if_neg hz, S.areaC]
      simp only [bnd1, cp, iI_le (x := (N : Int)) (y := p) (by omega) (by omega) p0 p9]
      by_cases h1 : p < 0
      · rw [if_pos h1, if_neg (by omega)]
      · rw [if_neg h1]
        by_cases h2 : (N : Int) ≤ p
        · rw [if_pos h2, if_neg (by omega)]
        · rw [if_neg h2, if_pos (by omega)]
    have hrg : mX5_placeOf vw vs vh vl th v so im val rk (iI k) (iI p) = if 0 ≤ p ∧ p < N then (bnd6 (mX5_layGrowth v so im val rk (iI k)) fun r8_0 r8_1 r8_2 r8_3 r8_4 r8_5 => bnd1 (mX5_placeOf_L59 (iI p) r8_5 FU 0) fun u9_0 => some (u9_0, 0, r8_0, r8_1, r8_2, r8_3, r8_4, r8_5)) else some (0, 2, vw, vs, vh, vl, val, rk) := by
      unfold mX5_placeOf
      rw [R_missing1 hk ht]
      simp only [bnd1, if_true]
      rw [S.areaIn hk]
      simp only []
      rw [iI_1, iI_sub]
      have hw2 : mX5_within (iI p) 0 (iI ((N : Int) - 1)) = some (if 0 ≤ p ∧ p ≤ (N : Int) - 1 then 1 else 0) := by
        rw [iI_0, X5_within p0 p9 (by omega) (by omega) (by omega) (by omega)]; rw [← iI_0]
      rw [hw2]
      simp only []
      dsimp only [jB]
      by_cases hp : 0 ≤ p ∧ p < N
      · rw [if_pos (show 0 ≤ p ∧ p ≤ (N : Int) - 1 by omega), if_pos hp, if_neg d1, if_pos (by decide)]
      · rw [if_neg (show ¬ (0 ≤ p ∧ p ≤ (N : Int) - 1) by omega), if_neg hp]
        simp only [if_true]
        rw [if_neg (by decide)]
    by_cases hp : 0 ≤ p ∧ p < N
    · right
      rw [if_pos hp] at hP hrg
      obtain ⟨val', rk', y1, y2⟩ := S.grow hk val rk
      obtain ⟨-, -, -, -, yo⟩ := S.rk
      obtain ⟨q, q1, q2⟩ := Rk_surj (V := V) (N := N) (r := p.toNat) (by omega)
      have ep : p = ((Rk V N q : Nat) : Int) := by omega
      have hl := R_placeOf_L (V := V) hN (fun r hr => (y2 r hr).2) q1 q FU 0 (by omega) (by unfold FU; omega)
      rw [iI_n0, ← ep] at hl
      refine ⟨iI q, iI w, iI s, iI h, iI N, val', rk', ?_, ?_⟩
      · unfold mxX4_placeOf mX4_placeOf
        rw [hP]
        simp only [bnd1, if_neg d1, gz, lq]
        rw [X4_atI (by omega) (by omega) (by omega), ← q2, yo _ q1]
      · rw [hrg, y1]
        simp only [bnd6]
        rw [hl]
        rfl
    · left
      rw [if_neg hp] at hP hrg
      refine ⟨2, 0, 2, ?_, hrg, rfl, rfl⟩
      unfold mxX4_placeOf
      rw [hP]
      simp only [bnd1, if_true]
      rfl
theorem SX_strength (hk : k < 3) (H : SI x k th v so im ti) {g : Int} (hg0 : 0 ≤ g) (hg1 : g ≤ 100) (a1 : Int32) (vw vs vh vl : Int32) (val rk : Nat → Int32) (Kf : Nat → Option β) (F : Int32 → Option β) :
    (∃ (kk : Nat) (b t : Int32), lq (mxX4_strength x.pr x.w x.h a1) Kf (bnd1 (mX4_strength (iI g) x.pr x.w x.h x.ra x.ne a1) F) = Kf kk ∧ mX5_strength (iI g) vw vs vh vl th v so im val rk (iI k) a1 = some (b, t, vw, vs, vh, vl, val, rk) ∧ ((kk = 1 ∧ t = 3) ∨ (kk = 2 ∧ t = 2))) ∨
    (∃ (o w' s' h' l' : Int32) (val' rk' : Nat → Int32), lq (mxX4_strength x.pr x.w x.h a1) Kf (bnd1 (mX4_strength (iI g) x.pr x.w x.h x.ra x.ne a1) F) = F o ∧ mX5_strength (iI g) vw vs vh vl th v so im val rk (iI k) a1 = some (o, 0, w', s', h', l', val', rk')) := by
  unfold mxX4_strength mX4_strength mX5_strength
  rcases stepped_both hk H a1 with ⟨e1, e2⟩ | ⟨e1, e2⟩ | ⟨e1, e2, e3, st, a, b, c, d, spot, mid, t, w, s, h, N, V, rfl, s0, s1, hp, ht, S⟩
  · left
    refine ⟨2, 0, 2, by rw [e1]; rfl, ?_, Or.inr ⟨rfl, rfl⟩⟩
    rw [e2]
    simp only [bnd1]
    rw [if_neg (by decide)]
  · left
    refine ⟨1, 0, 3, by rw [e1]; rfl, ?_, Or.inl ⟨rfl, rfl⟩⟩
    rw [e2]
    simp only [bnd1]
    rw [if_neg (by decide)]
  · right
    have hN := S.N64
    obtain ⟨val', rk', y1, y2⟩ := S.grow hk val rk
    obtain ⟨r1, r2, r3, -⟩ := S.rk
    obtain ⟨-, -, -, -, ⟨-, -, -, -, -, -, -, f8, f9, f10⟩, -⟩ := id S
    have hc := X3_strengthOf (st := st) (g := g) (nb := x.ne) S.B S.area.1 hN r1 r2 r3 (by omega) (by omega) hg0 hg1
    have hr := X5_strengthOf (st := st) (g := g) (rk := rk') S.B S.area.1 hN (fun p hp => (y2 p hp).2) r2 (by omega) (by omega) hg0 hg1
    refine ⟨iI (Str (Ink (Rk V N) st) (NBN w s h) g N), iI w, iI s, iI h, iI N, val', rk', ?_, ?_⟩
    · rw [e1, e2]
      simp only [bnd1, lq]
      rw [f8, f10, hc]
    · rw [e3]
      simp only [bnd1]
      rw [if_pos (by decide), y1]
      simp only [bnd6]
      rw [hr]
theorem SX_mean (hk : k < 3) (H : SI x k th v so im ti) {g : Int} (hg0 : 0 ≤ g) (hg1 : g ≤ 100) (vw vs vh vl : Int32) (val rk : Nat → Int32) (Kf : Nat → Option β) (F : UInt64 → Option β) :
    (∃ (kk : Nat) (b : UInt64) (t : Int32), lq (mxX4_meanStrength x.pr) Kf (bnd1 (mX4_meanStrength (iI g) x.pr x.ti x.w x.h x.ra x.ne) F) = Kf kk ∧ mX5_meanStrength (iI g) vw vs vh vl th v so im ti val rk (iI k) = some (b, t, vw, vs, vh, vl, val, rk) ∧ (kk = 2 ∧ t = 2)) ∨
    (∃ (o : UInt64) (y z w' s' h' l' : Int32) (val' rk' : Nat → Int32), lq (mxX4_meanStrength x.pr) Kf (bnd1 (mX4_meanStrength (iI g) x.pr x.ti x.w x.h x.ra x.ne) F) = F o ∧ mX5_meanStrength (iI g) vw vs vh vl th v so im ti val rk (iI k) = some (o, 0, w', s', h', l', val', rk') ∧ o = FP.ddiv (FP.i2d y) (FP.i2d z) ∧ ¬ z = 0) := by
  unfold mxX4_meanStrength mX4_meanStrength mX5_meanStrength
  rcases H with ⟨hp, ht⟩ | ⟨hp, ht, a, b, c, d, spot, mid, t, w, s, h, N, V, S⟩
  · left
    refine ⟨2, FP.dconst0, 2, by rw [if_pos hp]; rfl, ?_, rfl, rfl⟩
    rw [R_missing0 hk ht]
    simp only [bnd1]
    rw [if_neg (by decide)]
  · right
    have hz : ¬ x.pr = 0 := by rw [hp]; decide
    have hN := S.N64
    have hN0 : 0 < N := by
      have h1 := S.area.2
      have h2 := S.1.2.2.1
      omega
    obtain ⟨val', rk', y1, y2⟩ := S.grow hk val rk
    obtain ⟨r1, r2, r3, -⟩ := S.rk
    obtain ⟨-, -, -, ⟨t0, t1⟩, ⟨-, -, -, -, -, -, f7, f8, f9, f10⟩, -, -, -, -, -, -, g12⟩ := id S
    have hc := X3_strengthOf (st := t) (g := g) (nb := x.ne) S.B S.area.1 hN r1 r2 r3 (by omega) (by omega) hg0 hg1
    have hr := X5_strengthOf (st := t) (g := g) (rk := rk') S.B S.area.1 hN (fun p hp => (y2 p hp).2) r2 (by omega) (by omega) hg0 hg1
    have hNz : ¬ iI (N : Int) = 0 := by rw [iI_eq0 (by omega) (by omega)]; omega
    refine ⟨_, iI (Str (Ink (Rk V N) t) (NBN w s h) g N), iI N, iI w, iI s, iI h, iI N, val', rk', ?_, ?_, rfl, hNz⟩
    · rw [if_neg hz]
      simp only [lq, gz, if_neg hz]
      rw [S.areaC]
      simp only [bnd1]
      rw [if_neg (by rw [iI_0, iI_le (by omega) (by omega) (by omega) (by omega)]; omega), f7, f8, f10, hc]
      simp only [if_neg hNz]
    · rw [R_missing1 hk ht]
      simp only [bnd1]
      rw [if_pos (by decide), y1]
      simp only [bnd6]
      rw [gdk hk, clk (by omega), g12, hr]
      simp only [gz, if_neg hNz]
theorem SX_dots (hk : k < 3) (H : SI x k th v so im ti) (a1 : Int32) (q1 q2 q3 q4 : Int32) (q5 q6 q7 q8 : Nat → Int32) (vw vs vh vl u1 u2 u3 u4 u5 u6 : Int32) (val rk u7 u8 u9 u10 : Nat → Int32) (Kf : Nat → Option β) (F : Int32 → Int32 → Int32 → Int32 → Int32 → Int32 → Int32 → (Nat → Int32) → (Nat → Int32) → (Nat → Int32) → (Nat → Int32) → Option β) :
    (∃ (kk : Nat) (b t : Int32), lq (mxX4_dots x.pr x.w x.h a1) Kf (bnd11 (mX4_dots q1 q2 q3 q4 q5 q6 q7 q8 x.pr x.w x.h x.ra x.ne a1) F) = Kf kk ∧ mX5_dots vw vs vh vl u1 u2 u3 u4 u5 u6 th v so im val rk u7 u8 u9 u10 (iI k) a1 = some (b, t, vw, vs, vh, vl, u1, u2, u3, u4, u5, u6, val, rk, u7, u8, u9, u10) ∧ ((kk = 1 ∧ t = 3) ∨ (kk = 2 ∧ t = 2))) ∨
    (∃ (o o1 o2 o3 o4 o5 o6 : Int32) (o7 o8 o9 o10 : Nat → Int32) (w1 w2 w3 w4 w5 w6 w7 w8 w9 w10 : Int32) (z1 z2 z3 z4 z5 z6 : Nat → Int32), lq (mxX4_dots x.pr x.w x.h a1) Kf (bnd11 (mX4_dots q1 q2 q3 q4 q5 q6 q7 q8 x.pr x.w x.h x.ra x.ne a1) F) = F o o1 o2 o3 o4 o5 o6 o7 o8 o9 o10 ∧ mX5_dots vw vs vh vl u1 u2 u3 u4 u5 u6 th v so im val rk u7 u8 u9 u10 (iI k) a1 = some (o, 0, w1, w2, w3, w4, w5, w6, w7, w8, w9, w10, z1, z2, z3, z4, z5, z6)) := by
  unfold mxX4_dots mX4_dots mX5_dots
  rcases stepped_both hk H a1 with ⟨e1, e2⟩ | ⟨e1, e2⟩ | ⟨e1, e2, e3, st, a, b, c, d, spot, mid, t, w, s, h, N, V, rfl, s0, s1, hp, ht, S⟩
  · left
    refine ⟨2, 0, 2, by rw [e1]; rfl, ?_, Or.inr ⟨rfl, rfl⟩⟩
    rw [e2]
    simp only [bnd1]
    rw [if_neg (by decide)]
  · left
    refine ⟨1, 0, 3, by rw [e1]; rfl, ?_, Or.inl ⟨rfl, rfl⟩⟩
    rw [e2]
    simp only [bnd1]
    rw [if_neg (by decide)]
  · right
    have hN := S.N64
    obtain ⟨val', rk', y1, y2⟩ := S.grow hk val rk
    obtain ⟨r1, r2, r3, -⟩ := S.rk
    obtain ⟨-, -, -, -, ⟨-, -, -, -, -, -, -, f8, f9, f10⟩, -⟩ := id S
    obtain ⟨c1, c2, c3, c4, c5, c6, c7, c8, hc⟩ := X0_examine (st := st) (nb := x.ne) S.B S.area.1 hN r1 r2 r3 (by omega) (by omega) q1 q2 q3 q4 q5 q6 q7 q8
    obtain ⟨p1, p2, p3, p4, p5, p6, p7, p8, hr⟩ := X5_layDots (st := st) (rk := rk') S.B S.area.1 hN (fun p hp => (y2 p hp).2) r2 (by omega) (by omega) u1 u2 u3 u4 u7 u8 u9 u10
    have hrE : (bnd1 (mX5_steppedWrong th v (iI k) (iI st)) fun r1_0 => if r1_0 ≤ 0 then (bnd6 (mX5_layGrowth v so im val rk (iI k)) fun r3_0 r3_1 r3_2 r3_3 r3_4 r3_5 => bnd10 (mX5_layDots r3_0 r3_1 r3_2 r3_3 u1 u2 u3 u4 r3_5 u7 u8 u9 u10 (iI st)) fun r4_0 r4_1 r4_2 r4_3 r4_4 r4_5 r4_6 r4_7 r4_8 r4_9 => some (r4_4, r1_0, r3_0, r3_1, r3_2, r3_3, r4_0, r4_1, r4_2, r4_3, r4_4, r4_5, r3_4, r3_5, r4_6, r4_7, r4_8, r4_9)) else (some (0, r1_0, vw, vs, vh, vl, u1, u2, u3, u4, u5, u6, val, rk, u7, u8, u9, u10))) = some (iI (cnt (stt (Ink (Rk V N) st) (NBN w s h)) N), 0, iI w, iI s, iI h, iI N, p1, p2, p3, p4, iI (cnt (stt (Ink (Rk V N) st) (NBN w s h)) N), iI (mjo (Ink (Rk V N) st) (NBN w s h) N), val', rk', p5, p6, p7, p8) := by
      rw [e3]
      simp only [bnd1]
      rw [if_pos (by decide), y1]
      simp only [bnd6]
      rw [hr]
      rfl
    refine ⟨iI (cnt (stt (Ink (Rk V N) st) (NBN w s h)) N), c1, iI (cnt (stt (Ink (Rk V N) st) (NBN w s h)) N), iI (mjo (Ink (Rk V N) st) (NBN w s h) N), c2, c3, c4, c5, c6, c7, c8, _, _, _, _, _, _, _, _, _, _, _, _, _, _, _, _, ?_, hrE⟩
    rw [e1, e2]
    simp only [bnd1, lq]
    rw [f8, f10, hc]
    rfl
theorem SX_joined (hk : k < 3) (H : SI x k th v so im ti) (a1 : Int32) (q1 q2 q3 q4 : Int32) (q5 q6 q7 q8 : Nat → Int32) (vw vs vh vl u1 u2 u3 u4 u5 u6 : Int32) (val rk u7 u8 u9 u10 : Nat → Int32) (Kf : Nat → Option β) (F : Int32 → Int32 → Int32 → Int32 → Int32 → Int32 → Int32 → (Nat → Int32) → (Nat → Int32) → (Nat → Int32) → (Nat → Int32) → Option β) :
    (∃ (kk : Nat) (b t : Int32), lq (mxX4_joined x.pr x.w x.h a1) Kf (bnd11 (mX4_joined q1 q2 q3 q4 q5 q6 q7 q8 x.pr x.w x.h x.ra x.ne a1) F) = Kf kk ∧ mX5_joined vw vs vh vl u1 u2 u3 u4 u5 u6 th v so im val rk u7 u8 u9 u10 (iI k) a1 = some (b, t, vw, vs, vh, vl, u1, u2, u3, u4, u5, u6, val, rk, u7, u8, u9, u10) ∧ ((kk = 1 ∧ t = 3) ∨ (kk = 2 ∧ t = 2))) ∨
    (∃ (o o1 o2 o3 o4 o5 o6 : Int32) (o7 o8 o9 o10 : Nat → Int32) (w1 w2 w3 w4 w5 w6 w7 w8 w9 w10 : Int32) (z1 z2 z3 z4 z5 z6 : Nat → Int32), lq (mxX4_joined x.pr x.w x.h a1) Kf (bnd11 (mX4_joined q1 q2 q3 q4 q5 q6 q7 q8 x.pr x.w x.h x.ra x.ne a1) F) = F o o1 o2 o3 o4 o5 o6 o7 o8 o9 o10 ∧ mX5_joined vw vs vh vl u1 u2 u3 u4 u5 u6 th v so im val rk u7 u8 u9 u10 (iI k) a1 = some (o, 0, w1, w2, w3, w4, w5, w6, w7, w8, w9, w10, z1, z2, z3, z4, z5, z6)) := by
  unfold mxX4_joined mX4_joined mX5_joined
  rcases stepped_both hk H a1 with ⟨e1, e2⟩ | ⟨e1, e2⟩ | ⟨e1, e2, e3, st, a, b, c, d, spot, mid, t, w, s, h, N, V, rfl, s0, s1, hp, ht, S⟩
  · left
    refine ⟨2, 0, 2, by rw [e1]; rfl, ?_, Or.inr ⟨rfl, rfl⟩⟩
    rw [e2]
    simp only [bnd1]
    rw [if_neg (by decide)]
  · left
    refine ⟨1, 0, 3, by rw [e1]; rfl, ?_, Or.inl ⟨rfl, rfl⟩⟩
    rw [e2]
    simp only [bnd1]
    rw [if_neg (by decide)]
  · right
    have hN := S.N64
    obtain ⟨val', rk', y1, y2⟩ := S.grow hk val rk
    obtain ⟨r1, r2, r3, -⟩ := S.rk
    obtain ⟨-, -, -, -, ⟨-, -, -, -, -, -, -, f8, f9, f10⟩, -⟩ := id S
    obtain ⟨c1, c2, c3, c4, c5, c6, c7, c8, hc⟩ := X0_examine (st := st) (nb := x.ne) S.B S.area.1 hN r1 r2 r3 (by omega) (by omega) q1 q2 q3 q4 q5 q6 q7 q8
    obtain ⟨p1, p2, p3, p4, p5, p6, p7, p8, hr⟩ := X5_layDots (st := st) (rk := rk') S.B S.area.1 hN (fun p hp => (y2 p hp).2) r2 (by omega) (by omega) u1 u2 u3 u4 u7 u8 u9 u10
    have hrE : (bnd1 (mX5_steppedWrong th v (iI k) (iI st)) fun r1_0 => if r1_0 ≤ 0 then (bnd6 (mX5_layGrowth v so im val rk (iI k)) fun r3_0 r3_1 r3_2 r3_3 r3_4 r3_5 => bnd10 (mX5_layDots r3_0 r3_1 r3_2 r3_3 u1 u2 u3 u4 r3_5 u7 u8 u9 u10 (iI st)) fun r4_0 r4_1 r4_2 r4_3 r4_4 r4_5 r4_6 r4_7 r4_8 r4_9 => some (r4_5, r1_0, r3_0, r3_1, r3_2, r3_3, r4_0, r4_1, r4_2, r4_3, r4_4, r4_5, r3_4, r3_5, r4_6, r4_7, r4_8, r4_9)) else (some (0, r1_0, vw, vs, vh, vl, u1, u2, u3, u4, u5, u6, val, rk, u7, u8, u9, u10))) = some (iI (mjo (Ink (Rk V N) st) (NBN w s h) N), 0, iI w, iI s, iI h, iI N, p1, p2, p3, p4, iI (cnt (stt (Ink (Rk V N) st) (NBN w s h)) N), iI (mjo (Ink (Rk V N) st) (NBN w s h) N), val', rk', p5, p6, p7, p8) := by
      rw [e3]
      simp only [bnd1]
      rw [if_pos (by decide), y1]
      simp only [bnd6]
      rw [hr]
      rfl
    refine ⟨iI (mjo (Ink (Rk V N) st) (NBN w s h) N), c1, iI (cnt (stt (Ink (Rk V N) st) (NBN w s h)) N), iI (mjo (Ink (Rk V N) st) (NBN w s h) N), c2, c3, c4, c5, c6, c7, c8, _, _, _, _, _, _, _, _, _, _, _, _, _, _, _, _, ?_, hrE⟩
    rw [e1, e2]
    simp only [bnd1, lq]
    rw [f8, f10, hc]
    rfl
end SlotCalls2
