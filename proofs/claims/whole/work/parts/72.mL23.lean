set_option maxHeartbeats 4000000
-- ===== the screens of both sides, and what a call needs =====
def SD (x : Scr) (k : Nat) (v so im ti : Nat → Int32) (a b c d spot mid t w s h : Int) (N : Nat) (V : Nat → Int) : Prop :=
  Scr0 a b c d ∧ (0 ≤ spot ∧ spot ≤ 4) ∧ (mid = 0 ∨ mid = 1) ∧ (0 ≤ t ∧ t ≤ N) ∧
  (x.a = iI a ∧ x.b = iI b ∧ x.c = iI c ∧ x.d = iI d ∧ x.sp = iI spot ∧ x.mi = iI mid ∧ x.ti = iI t ∧ x.w = iI w ∧ x.s = iI s ∧ x.h = iI h) ∧
  Gr a b c d spot mid w s h N V ∧ ArrV N V x.va x.ra ∧ ArrO w s h N V x.od x.ne ∧ SlotV v k a b c d ∧ so k = iI spot ∧ im k = iI mid ∧ ti k = iI t
def SI (x : Scr) (k : Nat) (th v so im ti : Nat → Int32) : Prop :=
  (x.pr = 0 ∧ th k = 0) ∨ (x.pr = 1 ∧ th k = 1 ∧ ∃ (a b c d spot mid t w s h : Int) (N : Nat) (V : Nat → Int), SD x k v so im ti a b c d spot mid t w s h N V)
theorem SI.other {x : Scr} {k j : Nat} {th v so im ti th' v' so' im' ti' : Nat → Int32} (H : SI x k th v so im ti) (hkj : k ≠ j) (h1 : ∀ i, i ≠ j → th' i = th i) (h2 : ∀ i, (i < 4 * j ∨ 4 * j + 4 ≤ i) → v' i = v i) (h3 : ∀ i, i ≠ j → so' i = so i) (h4 : ∀ i, i ≠ j → im' i = im i) (h5 : ∀ i, i ≠ j → ti' i = ti i) : SI x k th' v' so' im' ti' := by
  rcases H with ⟨a, b⟩ | ⟨a, b, a', b', c', d', spot, mid, t, w, s, h, N, V, g1, g2, g3, g4, g5, g6, g7, g8, ⟨s0, s1, s2, s3⟩, g10, g11, g12⟩
  · exact Or.inl ⟨a, by rw [h1 k hkj]; exact b⟩
  · exact Or.inr ⟨a, by rw [h1 k hkj]; exact b, a', b', c', d', spot, mid, t, w, s, h, N, V, g1, g2, g3, g4, g5, g6, g7, g8, ⟨by rw [h2 _ (by omega)]; exact s0, by rw [h2 _ (by omega)]; exact s1, by rw [h2 _ (by omega)]; exact s2, by rw [h2 _ (by omega)]; exact s3⟩, by rw [h3 k hkj]; exact g10, by rw [h4 k hkj]; exact g11, by rw [h5 k hkj]; exact g12⟩
theorem X5_within {x lo hi : Int} (h1 : -2147483648 ≤ x) (h2 : x < 2147483648) (h3 : -2147483648 ≤ lo) (h4 : lo < 2147483648) (h5 : -2147483648 ≤ hi) (h6 : hi < 2147483648) : mX5_within (iI x) (iI lo) (iI hi) = some (if lo ≤ x ∧ x ≤ hi then 1 else 0) := by
  unfold mX5_within
  simp only [iI_lt h1 h2 h3 h4, iI_lt h5 h6 h1 h2]
  by_cases h : x < lo
  · rw [if_pos h, if_neg (by omega)]
  · rw [if_neg h]
    by_cases h' : hi < x
    · rw [if_pos h', if_neg (by omega)]
    · rw [if_neg h', if_pos (by omega)]
theorem R_isSlot {k : Nat} (hk : k < 3) : mX5_isSlot (iI k) = some 1 := by
  unfold mX5_isSlot
  rw [iI_0, iI_2, X5_within (by omega) (by omega) (by omega) (by omega) (by omega) (by omega), if_pos (by omega)]
  rfl
theorem R_isSlot_out {a : Int32} (h0 : ¬ a = 0) (h1 : ¬ a = 1) (h2 : ¬ a = 2) : mX5_isSlot a = some 0 := by
  unfold mX5_isSlot mX5_within
  rcases slot_out h0 h1 h2 with h | h
  · rw [if_pos h]; rfl
  · split
    · rfl
    · have : (2 : Int32) < a := by
        rw [Int32.lt_iff_toInt_lt]; rw [Int32.le_iff_toInt_le] at h
        have e1 : (3 : Int32).toInt = 3 := by decide
        have e2 : (2 : Int32).toInt = 2 := by decide
        omega
      rw [if_pos this]; rfl
section Guards
variable {x : Scr} {k : Nat} {th v so im ti : Nat → Int32} {a : Int32}
theorem R_missing_out (h0 : ¬ a = 0) (h1 : ¬ a = 1) (h2 : ¬ a = 2) : mX5_missing th a = some 1 := by
  unfold mX5_missing
  rw [R_isSlot_out h0 h1 h2]
  simp only [bnd1, if_true]
theorem R_missing0 (hk : k < 3) (h : th k = 0) : mX5_missing th (iI k) = some 2 := by
  unfold mX5_missing
  rw [R_isSlot hk]
  simp only [bnd1]
  rw [if_neg (by decide), gdk hk, clk (by omega), if_pos h]
theorem R_missing1 (hk : k < 3) (h : th k = 1) : mX5_missing th (iI k) = some 0 := by
  unfold mX5_missing
  rw [R_isSlot hk]
  simp only [bnd1]
  rw [if_neg (by decide), gdk hk, clk (by omega), h, if_neg (by decide)]
theorem R_wrong_out (h0 : ¬ a = 0) (h1 : ¬ a = 1) (h2 : ¬ a = 2) (z : Int32) : mX5_wrong th a z = some 1 := by
  unfold mX5_wrong
  rw [R_isSlot_out h0 h1 h2]
  simp only [bnd1, if_true]
theorem R_wrong_bad (hk : k < 3) : mX5_wrong th (iI k) 0 = some 2 := by
  unfold mX5_wrong
  rw [R_isSlot hk]
  simp only [bnd1, if_true]
  rw [if_neg (by decide)]
theorem R_wrong0 (hk : k < 3) (h : th k = 0) : mX5_wrong th (iI k) 1 = some 3 := by
  unfold mX5_wrong
  rw [R_isSlot hk]
  simp only [bnd1]
  rw [if_neg (by decide), if_neg (by decide), gdk hk, clk (by omega), if_pos h]
theorem R_wrong1 (hk : k < 3) (h : th k = 1) : mX5_wrong th (iI k) 1 = some 0 := by
  unfold mX5_wrong
  rw [R_isSlot hk]
  simp only [bnd1]
  rw [if_neg (by decide), if_neg (by decide), gdk hk, clk (by omega), h, if_neg (by decide)]
theorem R_stepped_out (h0 : ¬ a = 0) (h1 : ¬ a = 1) (h2 : ¬ a = 2) (z : Int32) : mX5_steppedWrong th v a z = some 1 := by
  unfold mX5_steppedWrong
  rw [R_missing_out h0 h1 h2]
  simp only [bnd1]
  rw [if_neg (by decide)]
theorem SD.N64 {a b c d spot mid t w s h : Int} {N : Nat} {V : Nat → Int} (S : SD x k v so im ti a b c d spot mid t w s h N V) : N ≤ 64 := S.2.2.2.2.2.1.N64 S.1
theorem SD.area {a b c d spot mid t w s h : Int} {N : Nat} {V : Nat → Int} (S : SD x k v so im ti a b c d spot mid t w s h N V) : w * h = N ∧ ((a * d - b * c).natAbs : Int) = N := by
  have h1 := S.2.2.2.2.2.1.2.1
  have h2 := S.2.2.2.2.2.1.1.area S.1
  omega
theorem SD.B {a b c d spot mid t w s h : Int} {N : Nat} {V : Nat → Int} (S : SD x k v so im ti a b c d spot mid t w s h N V) : SB w s h := S.2.2.2.2.2.1.1.SB S.1
theorem SD.areaIn {a b c d spot mid t w s h : Int} {N : Nat} {V : Nat → Int} (hk : k < 3) (S : SD x k v so im ti a b c d spot mid t w s h N V) : mX5_areaIn v (iI k) = some (iI N) := by
  rw [X5_areaIn hk S.2.2.2.2.2.2.2.2.1 S.1, S.area.2]
theorem SD.areaC {a b c d spot mid t w s h : Int} {N : Nat} {V : Nat → Int} (S : SD x k v so im ti a b c d spot mid t w s h N V) : mX3_area x.w x.h = some (iI N) := by
  obtain ⟨-, -, -, -, ⟨-, -, -, -, -, -, -, e8, -, e10⟩, -⟩ := id S
  rw [e8, e10, X3_area, S.area.1]
/-- the steps of a call, both sides -/
theorem stepped_both (hk : k < 3) (H : SI x k th v so im ti) (a1 : Int32) :
    (mxX4_inSlotWithSteps x.pr x.w x.h a1 = some 2 ∧ mX5_steppedWrong th v (iI k) a1 = some 2) ∨ (mxX4_inSlotWithSteps x.pr x.w x.h a1 = some 1 ∧ mX5_steppedWrong th v (iI k) a1 = some 3) ∨
    (mxX4_inSlotWithSteps x.pr x.w x.h a1 = none ∧ mX4_inSlotWithSteps x.pr x.w x.h a1 = some () ∧ mX5_steppedWrong th v (iI k) a1 = some 0 ∧ ∃ (st : Int) (a b c d spot mid t w s h : Int) (N : Nat) (V : Nat → Int), a1 = iI st ∧ 0 ≤ st ∧ st ≤ N ∧ x.pr = 1 ∧ th k = 1 ∧ SD x k v so im ti a b c d spot mid t w s h N V) := by
  rcases H with ⟨hp, ht⟩ | ⟨hp, ht, a, b, c, d, spot, mid, t, w, s, h, N, V, S⟩
  · left
    unfold mxX4_inSlotWithSteps mX5_steppedWrong
    rw [if_pos hp, R_missing0 hk ht]
    simp only [bnd1]
    rw [if_neg (by decide)]
    exact ⟨trivial, rfl⟩
  · right
    have hN := S.N64
    obtain ⟨st, rfl, st0, st1⟩ := i32_of a1
    have hz : ¬ x.pr = 0 := by rw [hp]; decide
    have hR : mX5_steppedWrong th v (iI k) (iI st) = if 0 ≤ st ∧ st ≤ N then some 0 else some 3 := by
      unfold mX5_steppedWrong
      rw [R_missing1 hk ht]
      simp only [bnd1]
      rw [if_pos (by decide), S.areaIn hk]
      simp only []
      rw [iI_0, X5_within st0 st1 (by omega) (by omega) (by omega) (by omega)]
      simp only []
      split
      · rw [if_neg (by rw [← iI_0]; decide)]
      · rw [if_pos iI_0]
    have c1 : (iI st < 0) ↔ st < 0 := iI_neg' st0 st1
    have c2 : (iI (N : Int) < iI st) ↔ (N : Int) < st := iI_lt (by omega) (by omega) st0 st1
    have hC : mxX4_inSlotWithSteps x.pr x.w x.h (iI st) = if 0 ≤ st ∧ st ≤ N then none else some 1 := by
      unfold mxX4_inSlotWithSteps
      rw [if_neg hz, S.areaC]
      simp only [bnd1, c1, c2]
      by_cases h1 : st < 0
      · rw [if_pos h1, if_neg (by omega)]
      · rw [if_neg h1]
        by_cases h2 : (N : Int) < st
        · rw [if_pos h2, if_neg (by omega)]
        · rw [if_neg h2, if_pos (by omega)]
    by_cases hs : 0 ≤ st ∧ st ≤ N
    · right
      rw [hR, hC, if_pos hs, if_pos hs]
      refine ⟨rfl, ?_, rfl, st, a, b, c, d, spot, mid, t, w, s, h, N, V, rfl, hs.1, hs.2, hp, ht, S⟩
      unfold mX4_inSlotWithSteps
      rw [S.areaC]
      simp only [gz, if_neg hz, bnd1, c1, c2]
      rw [if_neg (by omega), if_neg (by omega)]
    · left
      rw [hR, hC, if_neg hs, if_neg hs]
      exact ⟨rfl, rfl⟩
end Guards
-- ===== the calls of one screen, both sides: A, what is thrown; B, what is answered =====
section SlotCalls
variable {x : Scr} {k : Nat} {th v so im ti : Nat → Int32} {β : Type}
theorem SD.rk {a b c d spot mid t w s h : Int} {N : Nat} {V : Nat → Int} (S : SD x k v so im ti a b c d spot mid t w s h N V) : (∀ p, p < N → x.ra p = iI (Rk V N p : Nat)) ∧ (∀ p, p < N → Rk V N p < N) ∧ (∀ p e, p < N → e < 4 → x.ne (4 * p + e) = iI (nbr w s h p e)) ∧ (∀ p, p < N → x.va p = iI (V p)) ∧ (∀ p, p < N → x.od (Rk V N p) = iI p) := by
  obtain ⟨-, -, -, -, -, G, A, O, -⟩ := S
  exact ⟨fun p hp => (A p hp).2, fun p hp => Rk_lt hp, fun p e hp he => (O p hp).2 e he, fun p hp => (A p hp).1, fun p hp => (O p hp).1⟩
theorem SD.grow {a b c d spot mid t w s h : Int} {N : Nat} {V : Nat → Int} (hk : k < 3) (S : SD x k v so im ti a b c d spot mid t w s h N V) (val rk : Nat → Int32) : ∃ val' rk', mX5_layGrowth v so im val rk (iI k) = some (iI w, iI s, iI h, iI N, val', rk') ∧ ArrV N V val' rk' := by
  obtain ⟨g1, g2, g3, g4, g5, G, A, O, g9, g10, g11, g12⟩ := S
  exact X5_layGrowth hk g9 g10 g11 g2 g3 g1 G val rk
theorem SX_setTint (hk : k < 3) (H : SI x k th v so im ti) (a1 : Int32) (Kf : Nat → Option β) (F : Int32 → Int32 → Option β) :
    (∃ (kk : Nat) (b t : Int32), lq (mxX4_setTint x.pr x.w x.h a1) Kf (bnd2 (mX4_setTint x.pr x.ti x.w x.h a1) F) = Kf kk ∧ mX5_setTint th v ti (iI k) a1 = some (b, t, ti) ∧ ((kk = 1 ∧ t = 3) ∨ (kk = 2 ∧ t = 2))) ∨
    (∃ (o0 o1 : Int32) (ti' : Nat → Int32), lq (mxX4_setTint x.pr x.w x.h a1) Kf (bnd2 (mX4_setTint x.pr x.ti x.w x.h a1) F) = F o0 o1 ∧ mX5_setTint th v ti (iI k) a1 = some (o0, 0, ti') ∧ SI (mkS x.pr x.a x.b x.c x.d x.sp x.mi o1 x.w x.s x.h x.va x.ov x.ra x.ol x.od x.ne) k th v so im ti' ∧ ∀ i, i ≠ k → ti' i = ti i) := by
  have ref : ∀ r : Int32, mX5_steppedWrong th v (iI k) a1 = some r → mX5_setTint th v ti (iI k) a1 = if r ≤ 0 then some (ti k, r, upd ti k a1) else some (0, r, ti) := by
    intro r hr
    unfold mX5_steppedWrong at hr
    unfold mX5_setTint
    rcases H with ⟨hp, ht⟩ | ⟨hp, ht, a, b, c, d, spot, mid, t, w, s, h, N, V, S⟩
    · rw [R_missing0 hk ht] at hr ⊢
      simp only [bnd1] at hr ⊢
      rw [if_neg (by decide)] at hr
      have : r = 2 := (Option.some.inj hr).symm
      subst this
      rw [if_neg (by decide)]
      dsimp only [jB]
      rw [if_neg (by decide)]
      rw [if_neg (by decide)]
    · rw [R_missing1 hk ht] at hr ⊢
      simp only [bnd1, if_true] at hr ⊢
      rw [S.areaIn hk] at hr ⊢
      simp only [] at hr ⊢
      cases hw : mX5_within a1 0 (iI N) with
      | none => rw [hw] at hr; rw [if_pos (by decide)] at hr; cases hr
      | some z =>
        rw [hw] at hr
        rw [if_pos (by decide)] at hr
        simp only [] at hr ⊢
        dsimp only [jB]
        have gkk : ∀ {β : Type} {E : Option β}, gd (iI k) 3 E = E := gdk hk
        simp only [gkk, nmB]
        rw [clk (by omega)]
        by_cases hz : z = 0
        · rw [if_pos hz] at hr ⊢
          have : r = 3 := (Option.some.inj hr).symm
          subst this
          rw [if_neg (by decide)]
        · rw [if_neg hz] at hr ⊢
          have : r = 0 := (Option.some.inj hr).symm
          subst this
          rw [if_pos (by decide)]
  unfold mxX4_setTint mX4_setTint
  rcases stepped_both hk H a1 with ⟨e1, e2⟩ | ⟨e1, e2⟩ | ⟨e1, e2, e3, st, a, b, c, d, spot, mid, t, w, s, h, N, V, ea, s0, s1, hp, ht, S⟩
  · left
    refine ⟨2, 0, 2, ?_, ?_, Or.inr ⟨rfl, rfl⟩⟩
    · rw [e1]; rfl
    · rw [ref 2 e2, if_neg (by decide)]
  · left
    refine ⟨1, 0, 3, ?_, ?_, Or.inl ⟨rfl, rfl⟩⟩
    · rw [e1]; rfl
    · rw [ref 3 e2, if_neg (by decide)]
  · right
    refine ⟨x.ti, a1, upd ti k a1, ?_, ?_, ?_, fun i hi => upd_ne hi⟩
    · rw [e1, e2]; rfl
    · rw [ref 0 e3, if_pos (by decide)]
      obtain ⟨-, -, -, -, ⟨-, -, -, -, -, -, e7, -⟩, -, -, -, -, -, -, h12⟩ := S
      rw [h12, e7]
    · right
      refine ⟨hp, ht, a, b, c, d, spot, mid, st, w, s, h, N, V, ?_⟩
      obtain ⟨g1, g2, g3, g4, ⟨f1, f2, f3, f4, f5, f6, f7, f8, f9, f10⟩, g6, g7, g8, g9, g10, g11, g12⟩ := S
      exact ⟨g1, g2, g3, ⟨s0, s1⟩, ⟨f1, f2, f3, f4, f5, f6, ea, f8, f9, f10⟩, g6, g7, g8, g9, g10, g11, by rw [upd_same]; exact ea⟩
theorem SX_remove (hk : k < 3) (H : SI x k th v so im ti) : (x.pr = 0 ∧ mX5_remove th (iI k) = some (0, 2, th)) ∨ (x.pr = 1 ∧ mX5_remove th (iI k) = bnd1 (mX5_screens (upd th k 0)) fun r => some (r, 0, upd th k 0)) := by
  rcases H with ⟨hp, ht⟩ | ⟨hp, ht, -⟩
  · left
    refine ⟨hp, ?_⟩
    unfold mX5_remove
    rw [R_missing0 hk ht]
    simp only [bnd1]
    rw [if_neg (by decide)]
  · right
    refine ⟨hp, ?_⟩
    unfold mX5_remove
    rw [R_missing1 hk ht]
    simp only [bnd1]
    rw [if_pos (by decide), gdk hk, clk (by omega)]
    have : vp_nar .boolean 0 = 0 := by decide +kernel
    rw [this]
/-- a class method that wants an argument's range and a present screen -/
theorem rng2 {lo hi : Int} {a1 : Int32} (h1 : -2147483648 ≤ lo) (h2 : lo < 2147483648) (h3 : -2147483648 ≤ hi) (h4 : hi < 2147483648) : ∃ a : Int, a1 = iI a ∧ -2147483648 ≤ a ∧ a < 2147483648 ∧ (a1 < iI lo ↔ a < lo) ∧ (iI hi < a1 ↔ hi < a) ∧ mX5_within a1 (iI lo) (iI hi) = some (if lo ≤ a ∧ a ≤ hi then 1 else 0) := by
  obtain ⟨a, rfl, p, q⟩ := i32_of a1
  exact ⟨a, rfl, p, q, iI_lt p q h1 h2, iI_lt h3 h4 p q, X5_within p q h1 h2 h3 h4⟩
/-- a property of a screen, both sides -/
theorem SD.prop {a' b c d spot mid t w s h : Int} {N : Nat} {V : Nat → Int} (hk : k < 3) (S : SD x k v so im ti a' b c d spot mid t w s h N V) {a : Int} (hr : 0 ≤ a ∧ a ≤ 10) {a1 : Int32} (ea : a1 = iI a) : ∃ o, mX3_property x.a x.b x.c x.d x.sp x.mi x.ti x.w x.s x.h a1 = some o ∧ mX5_propertyOf v so im ti (iI k) a1 = some (o, iI w, iI s, iI h) := by
  have hN := S.N64
  obtain ⟨g1, g2, g3, g4, ⟨f1, f2, f3, f4, f5, f6, f7, f8, f9, f10⟩, G, g7, g8, g9, g10, g11, g12⟩ := id S
  obtain ⟨w', s', h', l1, l2⟩ := X5_layScreen hk g9 g1
  obtain ⟨rfl, rfl, rfl⟩ := G.1.uniq l2
  have har := S.areaIn hk
  have hwh : iI w * iI h = iI N := by rw [iI_mul, S.area.1]
  obtain ⟨v0, v1, v2, v3⟩ := g9
  have hc : a = 0 ∨ a = 1 ∨ a = 2 ∨ a = 3 ∨ a = 4 ∨ a = 5 ∨ a = 6 ∨ a = 7 ∨ a = 8 ∨ a = 9 ∨ a = 10 := by omega
  have t4 : iI (4 * (k : Int)) = 4 * iI k := by rw [iI_4, iI_mul]
  have gg : ∀ {β : Type} {j : Nat} {E : Option β}, j < 4 → gd (4 * iI k + iI j) 12 E = E := fun {β j E} hj => by
    rw [iI_4, iI_mul, iI_add]; exact gI4 hk (by omega) (by omega)
  have gc : ∀ {j : Nat}, j < 4 → (4 * iI k + iI j).toNatClampNeg = 4 * k + j := fun {j} hj => by
    rw [iI_4, iI_mul, iI_add]; exact cI4 hk hj
  have gkk : ∀ {β : Type} {E : Option β}, gd (iI k) 3 E = E := gdk hk
  have ck : (iI (k : Int)).toNatClampNeg = k := clk (by omega)
  have v0' : v (4 * k + 0) = iI a' := v0
  unfold mX3_property mX5_propertyOf
  rw [l1]
  simp only [bnd3]
  subst ea
  rcases hc with rfl | rfl | rfl | rfl | rfl | rfl | rfl | rfl | rfl | rfl | rfl
  · rw [if_pos iI_0.symm, if_pos iI_0.symm]
    have e := gg (β := Int32 × Int32 × Int32 × Int32) (j := 0) (E := some (v (4 * iI k + iI 0).toNatClampNeg, iI w, iI s, iI h)) (by omega)
    have e' := gc (j := 0) (by omega)
    exact ⟨x.a, rfl, e.trans (by show some (v (4 * iI (k : Int) + iI ((0 : Nat) : Int)).toNatClampNeg, _, _, _) = _; rw [e', v0', f1])⟩
  · have n0 : ¬ iI 1 = 0 := by rw [iI_eq0 (by omega) (by omega)]; omega
    rw [if_neg n0, if_pos iI_1.symm, if_neg n0, if_pos iI_1.symm]
    have e := gg (β := Int32 × Int32 × Int32 × Int32) (j := 1) (E := some (v (4 * iI k + iI 1).toNatClampNeg, iI w, iI s, iI h)) (by omega)
    have e' := gc (j := 1) (by omega)
    exact ⟨x.b, rfl, e.trans (by show some (v (4 * iI (k : Int) + iI ((1 : Nat) : Int)).toNatClampNeg, _, _, _) = _; rw [e', v1, f2])⟩
  · have n0 : ¬ iI 2 = 0 := by rw [iI_eq0 (by omega) (by omega)]; omega
    have n1 : ¬ iI 2 = 1 := by rw [iI_1, iI_inj (by omega) (by omega) (by omega) (by omega)]; omega
    rw [if_neg n0, if_neg n1, if_pos iI_2.symm, if_neg n0, if_neg n1, if_pos iI_2.symm]
    have e := gg (β := Int32 × Int32 × Int32 × Int32) (j := 2) (E := some (v (4 * iI k + iI 2).toNatClampNeg, iI w, iI s, iI h)) (by omega)
    have e' := gc (j := 2) (by omega)
    exact ⟨x.c, rfl, e.trans (by show some (v (4 * iI (k : Int) + iI ((2 : Nat) : Int)).toNatClampNeg, _, _, _) = _; rw [e', v2, f3])⟩
  · have n0 : ¬ iI 3 = 0 := by decide +kernel
    have n1 : ¬ iI 3 = 1 := by decide +kernel
    have n2 : ¬ iI 3 = 2 := by decide +kernel
    rw [if_neg n0, if_neg n1, if_neg n2, if_pos iI_3.symm, if_neg n0, if_neg n1, if_neg n2, if_pos iI_3.symm]
    have e := gg (β := Int32 × Int32 × Int32 × Int32) (j := 3) (E := some (v (4 * iI k + iI 3).toNatClampNeg, iI w, iI s, iI h)) (by omega)
    have e' := gc (j := 3) (by omega)
    exact ⟨x.d, rfl, e.trans (by show some (v (4 * iI (k : Int) + iI ((3 : Nat) : Int)).toNatClampNeg, _, _, _) = _; rw [e', v3, f4])⟩
  · have n0 : ¬ iI 4 = 0 := by decide +kernel
    have n1 : ¬ iI 4 = 1 := by decide +kernel
    have n2 : ¬ iI 4 = 2 := by decide +kernel
    have n3 : ¬ iI 4 = 3 := by decide +kernel
    have z : iI 4 - 4 = 0 := by decide +kernel
    rw [if_neg n0, if_neg n1, if_neg n2, if_neg n3, if_pos iI_4.symm, if_neg n0, if_neg n1, if_neg n2, if_neg n3, if_pos iI_4.symm, har, z]
    refine ⟨iI N, ?_, rfl⟩
    unfold mX2_property mX2_area
    simp only [bnd1, if_true]
    rw [f8, f10, hwh]
  · have n0 : ¬ iI 5 = 0 := by decide +kernel
    have n1 : ¬ iI 5 = 1 := by decide +kernel
    have n2 : ¬ iI 5 = 2 := by decide +kernel
    have n3 : ¬ iI 5 = 3 := by decide +kernel
    have n4 : ¬ iI 5 = 4 := by decide +kernel
    have y5 : iI 5 = 5 := by decide +kernel
    have z : iI 5 - 4 = 1 := by decide +kernel
    rw [if_neg n0, if_neg n1, if_neg n2, if_neg n3, if_neg n4, if_pos y5, if_neg n0, if_neg n1, if_neg n2, if_neg n3, if_neg n4, if_pos y5, z]
    refine ⟨iI w, ?_, rfl⟩
    unfold mX2_property
    rw [if_neg (by decide), if_pos rfl, f8]
    rfl
  · have n0 : ¬ iI 6 = 0 := by decide +kernel
    have n1 : ¬ iI 6 = 1 := by decide +kernel
    have n2 : ¬ iI 6 = 2 := by decide +kernel
    have n3 : ¬ iI 6 = 3 := by decide +kernel
    have n4 : ¬ iI 6 = 4 := by decide +kernel
    have n5 : ¬ iI 6 = 5 := by decide +kernel
    have y6 : iI 6 = 6 := by decide +kernel
    have z : iI 6 - 4 = 2 := by decide +kernel
    rw [if_neg n0, if_neg n1, if_neg n2, if_neg n3, if_neg n4, if_neg n5, if_pos y6, if_neg n0, if_neg n1, if_neg n2, if_neg n3, if_neg n4, if_neg n5, if_pos y6, z]
    refine ⟨iI s, ?_, rfl⟩
    unfold mX2_property
    rw [if_neg (by decide), if_neg (by decide), if_pos rfl, f9]
    rfl
  · have n0 : ¬ iI 7 = 0 := by decide +kernel
    have n1 : ¬ iI 7 = 1 := by decide +kernel
    have n2 : ¬ iI 7 = 2 := by decide +kernel
    have n3 : ¬ iI 7 = 3 := by decide +kernel
    have n4 : ¬ iI 7 = 4 := by decide +kernel
    have n5 : ¬ iI 7 = 5 := by decide +kernel
    have n6 : ¬ iI 7 = 6 := by decide +kernel
    have y7 : iI 7 = 7 := by decide +kernel
    have z : iI 7 - 4 = 3 := by decide +kernel
    rw [if_neg n0, if_neg n1, if_neg n2, if_neg n3, if_neg n4, if_neg n5, if_neg n6, if_pos y7, if_neg n0, if_neg n1, if_neg n2, if_neg n3, if_neg n4, if_neg n5, if_neg n6, if_pos y7, z]
    refine ⟨iI h, ?_, rfl⟩
    unfold mX2_property
    rw [if_neg (by decide), if_neg (by decide), if_neg (by decide), f10]
    rfl
  · have n0 : ¬ iI 8 = 0 := by decide +kernel
    have n1 : ¬ iI 8 = 1 := by decide +kernel
    have n2 : ¬ iI 8 = 2 := by decide +kernel
    have n3 : ¬ iI 8 = 3 := by decide +kernel
    have n4 : ¬ iI 8 = 4 := by decide +kernel
    have n5 : ¬ iI 8 = 5 := by decide +kernel
    have n6 : ¬ iI 8 = 6 := by decide +kernel
    have n7 : ¬ iI 8 = 7 := by decide +kernel
    have y8 : iI 8 = 8 := by decide +kernel
    rw [if_neg n0, if_neg n1, if_neg n2, if_neg n3, if_neg n4, if_neg n5, if_neg n6, if_neg n7, if_pos y8, if_neg n0, if_neg n1, if_neg n2, if_neg n3, if_neg n4, if_neg n5, if_neg n6, if_neg n7, if_pos y8, gkk, ck, g10]
    exact ⟨x.sp, rfl, by rw [f5]⟩
  · have n0 : ¬ iI 9 = 0 := by decide +kernel
    have n1 : ¬ iI 9 = 1 := by decide +kernel
    have n2 : ¬ iI 9 = 2 := by decide +kernel
    have n3 : ¬ iI 9 = 3 := by decide +kernel
    have n4 : ¬ iI 9 = 4 := by decide +kernel
    have n5 : ¬ iI 9 = 5 := by decide +kernel
    have n6 : ¬ iI 9 = 6 := by decide +kernel
    have n7 : ¬ iI 9 = 7 := by decide +kernel
    have n8 : ¬ iI 9 = 8 := by decide +kernel
    have y9 : iI 9 = 9 := by decide +kernel
    rw [if_neg n0, if_neg n1, if_neg n2, if_neg n3, if_neg n4, if_neg n5, if_neg n6, if_neg n7, if_neg n8, if_pos y9, if_neg n0, if_neg n1, if_neg n2, if_neg n3, if_neg n4, if_neg n5, if_neg n6, if_neg n7, if_neg n8, if_pos y9, gkk, ck, g11, f6]
    by_cases hm : iI mid = 0
    · rw [if_pos hm, if_pos hm]; exact ⟨0, rfl, rfl⟩
    · rw [if_neg hm, if_neg hm]; exact ⟨1, rfl, rfl⟩
  · have n0 : ¬ iI 10 = 0 := by decide +kernel
    have n1 : ¬ iI 10 = 1 := by decide +kernel
    have n2 : ¬ iI 10 = 2 := by decide +kernel
    have n3 : ¬ iI 10 = 3 := by decide +kernel
    have n4 : ¬ iI 10 = 4 := by decide +kernel
    have n5 : ¬ iI 10 = 5 := by decide +kernel
    have n6 : ¬ iI 10 = 6 := by decide +kernel
    have n7 : ¬ iI 10 = 7 := by decide +kernel
    have n8 : ¬ iI 10 = 8 := by decide +kernel
    have n9 : ¬ iI 10 = 9 := by decide +kernel
    have y10 : iI 10 = 10 := by decide +kernel
    rw [if_neg n0, if_neg n1, if_neg n2, if_neg n3, if_neg n4, if_neg n5, if_neg n6, if_neg n7, if_neg n8, if_neg n9, if_pos y10, if_neg n0, if_neg n1, if_neg n2, if_neg n3, if_neg n4, if_neg n5, if_neg n6, if_neg n7, if_neg n8, if_neg n9, gkk, ck, g12]
    exact ⟨x.ti, rfl, by rw [f7]⟩
theorem SX_screen (hk : k < 3) (H : SI x k th v so im ti) (a1 : Int32) (vw vs vh : Int32) (Kf : Nat → Option β) (F : Int32 → Option β) :
    (∃ (kk : Nat) (b t : Int32), lq (mxX4_screen x.pr a1) Kf (bnd1 (mX4_screen x.pr x.a x.b x.c x.d x.sp x.mi x.ti x.w x.s x.h a1) F) = Kf kk ∧ mX5_screen vw vs vh th v so im ti (iI k) a1 = some (b, t, vw, vs, vh) ∧ ((kk = 1 ∧ t = 2) ∨ (kk = 2 ∧ t = 3))) ∨
    (∃ (o w' s' h' : Int32), lq (mxX4_screen x.pr a1) Kf (bnd1 (mX4_screen x.pr x.a x.b x.c x.d x.sp x.mi x.ti x.w x.s x.h a1) F) = F o ∧ mX5_screen vw vs vh th v so im ti (iI k) a1 = some (o, 0, w', s', h')) := by
  obtain ⟨a, ea, a0, a9, c1, c2, c3⟩ := rng2 (lo := 0) (hi := 10) (a1 := a1) (by omega) (by omega) (by omega) (by omega)
  have e10 : (10 : Int32) = iI 10 := iI_lit 10
  rw [← iI_0] at c1 c3
  rw [← e10] at c2 c3
  have hcm : mxX4_screen x.pr a1 = if 0 ≤ a ∧ a ≤ 10 then (if x.pr = 0 then some 2 else none) else some 1 := by
    have d1 : ¬ (1 : Int32) = 0 := by decide
    unfold mxX4_screen
    dsimp only [jB]
    simp only [c1, c2, if_true, if_neg d1]
    by_cases h1 : a < 0
    · rw [if_pos h1, if_neg (show ¬ (0 ≤ a ∧ a ≤ 10) by omega)]
    · rw [if_neg h1]
      by_cases h2 : 10 < a
      · rw [if_pos h2, if_neg (show ¬ (0 ≤ a ∧ a ≤ 10) by omega)]
      · rw [if_neg h2, if_pos (show 0 ≤ a ∧ a ≤ 10 by omega)]
  have hrm : ∀ q : Int32, mX5_wrong th (iI k) (if 0 ≤ a ∧ a ≤ 10 then 1 else 0) = some q → mX5_screen vw vs vh th v so im ti (iI k) a1 = if q ≤ 0 then bnd4 (mX5_propertyOf v so im ti (iI k) a1) fun r4_0 r4_1 r4_2 r4_3 => some (r4_0, q, r4_1, r4_2, r4_3) else some (0, q, vw, vs, vh) := by
    intro q hq
    unfold mX5_screen
    rw [c3]
    simp only [bnd1]
    rw [hq]
  by_cases hr : 0 ≤ a ∧ a ≤ 10
  · rw [if_pos hr] at hcm hrm
    rcases H with ⟨hp, ht⟩ | ⟨hp, ht, a', b, c, d, spot, mid, t, w, s, h, N, V, S⟩
    · left
      refine ⟨2, 0, 3, ?_, ?_, Or.inr ⟨rfl, rfl⟩⟩
      · rw [hcm, if_pos hp]; rfl
      · rw [hrm 3 (R_wrong0 hk ht), if_neg (by decide)]
    · right
      have hz : ¬ x.pr = 0 := by rw [hp]; decide
      have hN := S.N64
      have hcl : mX4_screen x.pr x.a x.b x.c x.d x.sp x.mi x.ti x.w x.s x.h a1 = bnd1 (mX3_property x.a x.b x.c x.d x.sp x.mi x.ti x.w x.s x.h a1) fun r6_0 => some r6_0 := by
        unfold mX4_screen
        dsimp only [jB]
        simp only [c1, c2]
        rw [if_neg (by omega), if_neg (by omega)]
        simp only [gz, if_neg hz]
        rw [if_neg (by decide)]
      obtain ⟨o, k1, k2⟩ := S.prop hk hr ea
      refine ⟨o, iI w, iI s, iI h, ?_, ?_⟩
      · rw [hcm, if_neg hz, hcl, k1]
        rfl
      · rw [hrm 0 (R_wrong1 hk ht), if_pos (by decide), k2]
        rfl
  · rw [if_neg hr] at hcm hrm
    left
    refine ⟨1, 0, 2, ?_, ?_, Or.inl ⟨rfl, rfl⟩⟩
    · rw [hcm]; rfl
    · rw [hrm 2 (R_wrong_bad hk), if_neg (by decide)]
end SlotCalls
