set_option maxHeartbeats 4000000
-- ===== calls that lay a screen anew =====
section SlotCalls4
variable {x : Scr} {k : Nat} {th v so im ti : Nat → Int32} {β : Type}
theorem R_keep_L {N : Nat} {rk : Nat → Int32} (hN64 : N ≤ 64) (n : Nat) : ∀ (fu j : Nat) (old : Nat → Int32), j + n = N → n < fu → (∀ p, p < j → old p = rk p) → ∃ r old', mX5_keepRanks_L7 (iI N) rk fu (iI j) old = some (r, old') ∧ ∀ p, p < N → old' p = rk p := by
  induction n with
  | zero =>
    intro fu j old hj hf hI
    obtain ⟨fu, rfl⟩ : ∃ k, fu = k + 1 := ⟨fu - 1, by omega⟩
    exact ⟨iI j, old, by rw [mX5_keepRanks_L7, if_pos (by rw [iI_le (by omega) (by omega) (by omega) (by omega)]; omega)], fun p hp => hI p (by omega)⟩
  | succ n ih =>
    intro fu j old hj hf hI
    obtain ⟨fu, rfl⟩ : ∃ k, fu = k + 1 := ⟨fu - 1, by omega⟩
    obtain ⟨r, old', e1, e2⟩ := ih fu (j + 1) (upd old j (rk j)) (by omega) (by omega) (fun p hp => by
      by_cases hpj : p = j
      · rw [hpj, upd_same]
      · rw [upd_ne hpj]; exact hI p (by omega))
    refine ⟨r, old', ?_, e2⟩
    have g1 : ∀ {β : Type} {E : Option β}, gd (iI j) 64 E = E := gdI (by omega) (by omega) (by omega)
    rw [mX5_keepRanks_L7, if_neg (by rw [iI_le (by omega) (by omega) (by omega) (by omega)]; omega), clk (by omega)]
    simp only [g1, nmB]
    rw [iI_1, iI_add, ← e1]
    rfl
theorem R_other_L {N : Nat} {V : Nat → Int} {rk old : Nat → Int32} (hN64 : N ≤ 64) (hr : ∀ p, p < N → rk p = iI (Rk V N p : Nat)) (n : Nat) : ∀ (fu j : Nat), j + n = N → n < fu → ∃ r, mX5_otherRanks_L9 old (iI N) rk fu (iI j) (iI (cnt (chg V N old) j)) = some (r, iI (cnt (chg V N old) N)) := by
  induction n with
  | zero =>
    intro fu j hj hf
    obtain ⟨fu, rfl⟩ : ∃ k, fu = k + 1 := ⟨fu - 1, by omega⟩
    have : j = N := by omega
    subst this
    exact ⟨iI j, by rw [mX5_otherRanks_L9, if_pos (by rw [iI_le (by omega) (by omega) (by omega) (by omega)]; omega)]⟩
  | succ n ih =>
    intro fu j hj hf
    obtain ⟨fu, rfl⟩ : ∃ k, fu = k + 1 := ⟨fu - 1, by omega⟩
    obtain ⟨r, e⟩ := ih fu (j + 1) (by omega) (by omega)
    refine ⟨r, ?_⟩
    have g1 : ∀ {β : Type} {E : Option β}, gd (iI j) 64 E = E := gdI (by omega) (by omega) (by omega)
    rw [mX5_otherRanks_L9, if_neg (by rw [iI_le (by omega) (by omega) (by omega) (by omega)]; omega), clk (by omega), hr j (by omega)]
    simp only [g1, nmB]
    rw [← e]
    by_cases hb : iI (Rk V N j : Nat) = old j
    · rw [if_pos hb, cnt_f (by unfold chg; simp [hb]), iI_1, iI_0, iI_add, iI_add, Int.add_zero]
      rfl
    · rw [if_neg hb, cnt_t (by unfold chg; simp [hb]), iI_1, iI_add, iI_add]
      rfl
theorem SD.keep {a b c d spot mid t w s h : Int} {N : Nat} {V : Nat → Int} (hk : k < 3) (S : SD x k v so im ti a b c d spot mid t w s h N V) (val rk old : Nat → Int32) : ∃ val' rk' old', mX5_keepRanks v so im val rk old (iI k) = some (iI w, iI s, iI h, iI N, val', rk', old') ∧ ∀ p, p < N → old' p = iI (Rk V N p : Nat) := by
  have hN := S.N64
  obtain ⟨val', rk', y1, y2⟩ := S.grow hk val rk
  obtain ⟨r, old', e1, e2⟩ := R_keep_L (rk := rk') S.N64 N FU 0 old (by omega) (by unfold FU; omega) (fun p hp => by omega)
  rw [iI_n0] at e1
  refine ⟨val', rk', old', ?_, fun p hp => by rw [e2 p hp]; exact (y2 p hp).2⟩
  unfold mX5_keepRanks
  rw [y1]
  simp only [bnd6]
  rw [e1]
  rfl
/-- the ranks that a new screen changes, both sides -/
theorem regrow_both {a b c d spot mid : Int} (hk : k < 3) (hs : Scr0 a b c d) (hsp : 0 ≤ spot ∧ spot ≤ 4) (hm : mid = 0 ∨ mid = 1) (va ov ra ol od ne : Nat → Int32) :
    ∃ (w s h : Int) (N : Nat) (V : Nat → Int) (va' ov' ra' od' ne' : Nat → Int32), mX3_regrow (iI a) (iI b) (iI c) (iI d) (iI spot) (iI mid) va ov ra ol od ne = some (iI (cnt (chg V N ra) N), iI w, iI s, iI h, va', ov', ra', va_cpy ra ol 0 0 64, od', ne') ∧
      Gr a b c d spot mid w s h N V ∧ ArrV N V va' ra' ∧ ArrO w s h N V od' ne' ∧
      ∀ (v so im : Nat → Int32) (val rk old : Nat → Int32), SlotV v k a b c d → so k = iI spot → im k = iI mid → (∀ p, p < N → old p = ra p) → ∃ val' rk', mX5_otherRanks v so im val rk old (iI k) = some (iI (cnt (chg V N ra) N), iI w, iI s, iI h, iI N, val', rk') := by
  obtain ⟨w, s, h, N, V, va', ov', ra', od', ne', e, G, A, O⟩ := X3_regrow hsp hm hs va ov ra ol od ne
  refine ⟨w, s, h, N, V, va', ov', ra', od', ne', e, G, A, O, ?_⟩
  intro v so im val rk old hv hso him hold
  have hN := G.N64 hs
  obtain ⟨val', rk', y1, y2⟩ := X5_layGrowth hk hv hso him hsp hm hs G val rk
  obtain ⟨r, f⟩ := R_other_L (V := V) (old := old) (rk := rk') (G.N64 hs) (fun p hp => (y2 p hp).2) N FU 0 (by omega) (by unfold FU; omega)
  have ec : cnt (chg V N old) N = cnt (chg V N ra) N := cnt_congr (fun q hq => by unfold chg; rw [hold q hq])
  refine ⟨val', rk', ?_⟩
  have f' : mX5_otherRanks_L9 old (iI N) rk' FU 0 0 = some (r, iI (cnt (chg V N old) N)) := f
  unfold mX5_otherRanks
  rw [y1]
  simp only [bnd6]
  rw [f', ec]
  rfl
theorem SX_setCenter (hk : k < 3) (H : SI x k th v so im ti) {m : Int} (hm : m = 0 ∨ m = 1) (vw vs vh vl : Int32) (val rk old : Nat → Int32) (Kf : Nat → Option β) (F : Int32 → Int32 → Int32 → Int32 → Int32 → (Nat → Int32) → (Nat → Int32) → (Nat → Int32) → (Nat → Int32) → (Nat → Int32) → (Nat → Int32) → Option β) :
    (∃ (b t : Int32), lq (mxX4_setCenter x.pr) Kf (bnd11 (mX4_setCenter x.pr x.a x.b x.c x.d x.sp x.va x.ov x.ra x.ol x.od x.ne (iI m)) F) = Kf 2 ∧ mX5_setCenter vw vs vh vl th v so im val rk old (iI k) (iI m) = some (b, t, vw, vs, vh, vl, im, val, rk, old) ∧ t = 2) ∨
    (∃ (o o1 o2 o3 o4 : Int32) (o5 o6 o7 o8 o9 o10 : Nat → Int32) (w1 w2 w3 w4 : Int32) (im' z1 z2 z3 : Nat → Int32), lq (mxX4_setCenter x.pr) Kf (bnd11 (mX4_setCenter x.pr x.a x.b x.c x.d x.sp x.va x.ov x.ra x.ol x.od x.ne (iI m)) F) = F o o1 o2 o3 o4 o5 o6 o7 o8 o9 o10 ∧ mX5_setCenter vw vs vh vl th v so im val rk old (iI k) (iI m) = some (o, 0, w1, w2, w3, w4, im', z1, z2, z3) ∧
      SI (mkS x.pr x.a x.b x.c x.d x.sp o1 x.ti o2 o3 o4 o5 o6 o7 o8 o9 o10) k th v so im' ti ∧ ∀ i, i ≠ k → im' i = im i) := by
  unfold mxX4_setCenter mX4_setCenter mX5_setCenter
  rcases H with ⟨hp, ht⟩ | ⟨hp, ht, a, b, c, d, spot, mid, t, w, s, h, N, V, S⟩
  · left
    refine ⟨0, 2, by rw [if_pos hp]; rfl, ?_, rfl⟩
    rw [R_missing0 hk ht]
    simp only [bnd1]
    rw [if_neg (by decide)]
  · right
    have hz : ¬ x.pr = 0 := by rw [hp]; decide
    have hN := S.N64
    obtain ⟨val', rk', old', y1, y2⟩ := S.keep hk val rk old
    obtain ⟨r1, r2, r3, -⟩ := S.rk
    obtain ⟨g1, g2, g3, g4, ⟨f1, f2, f3, f4, f5, f6, f7, f8, f9, f10⟩, G, g7, g8, g9, g10, g11, g12⟩ := id S
    obtain ⟨w', s', h', N', V', va', ov', ra', od', ne', c1, c2, c3, c4, c5⟩ := regrow_both hk g1 g2 hm x.va x.ov x.ra x.ol x.od x.ne
    have eN : N' = N := by
      have h1 := c2.2.1; have h2 := c2.1.area g1; have h3 := S.area.2
      omega
    subst eN
    have hnar : vp_nar .boolean (iI m) = iI m := by
      rcases hm with rfl | rfl
      · rw [← iI_0]; exact nar_b0.trans iI_0.symm
      · rw [← iI_1]; exact nar_b1.trans iI_1.symm
    obtain ⟨val2, rk2, c6⟩ := c5 v so (upd im k (iI m)) val' rk' old' g9 g10 upd_same (fun p hp => by rw [y2 p hp, r1 p hp])
    refine ⟨iI (cnt (chg V' N' x.ra) N'), iI m, iI w', iI s', iI h', va', ov', ra', va_cpy x.ra x.ol 0 0 64, od', ne', iI w', iI s', iI h', iI N', upd im k (iI m), val2, rk2, old', ?_, ?_, ?_, fun i hi => upd_ne hi⟩
    · rw [if_neg hz]
      simp only [lq, gz, if_neg hz]
      rw [f1, f2, f3, f4, f5, c1]
      rfl
    · rw [R_missing1 hk ht]
      simp only [bnd1]
      rw [if_pos (by decide), y1]
      simp only [bnd7]
      rw [gdk hk, clk (by omega), hnar, c6]
    · right
      refine ⟨hp, ht, a, b, c, d, spot, m, t, w', s', h', N', V', g1, g2, hm, g4, ⟨f1, f2, f3, f4, f5, rfl, f7, rfl, rfl, rfl⟩, c2, c3, c4, g9, g10, upd_same, g12⟩
theorem Scr0.rot {a b c d : Int} (h : Scr0 a b c d) : Scr0 (-b) a (-d) c ∧ Scr0 (-a) b (-c) d ∧ Scr0 b a d c := by
  obtain ⟨h1, h2, h3, h4⟩ := h
  have e1 : -b * -b + a * a = a * a + b * b := by grind
  have e2 : -d * -d + c * c = c * c + d * d := by grind
  have e3 : -b * c - a * -d = a * d - b * c := by grind
  have e4 : -a * -a + b * b = a * a + b * b := by grind
  have e5 : -c * -c + d * d = c * c + d * d := by grind
  have e6 : -a * d - b * -c = -(a * d - b * c) := by grind
  have e7 : b * b + a * a = a * a + b * b := by grind
  have e8 : d * d + c * c = c * c + d * d := by grind
  have e9 : b * c - a * d = -(a * d - b * c) := by grind
  refine ⟨⟨by rw [e1]; exact h1, by rw [e2]; exact h2, by rw [e3]; exact h3, by rw [e3]; exact h4⟩, ⟨by rw [e4]; exact h1, by rw [e5]; exact h2, by rw [e6]; omega, by rw [e6, Int.natAbs_neg]; exact h4⟩, ⟨by rw [e7]; exact h1, by rw [e8]; exact h2, by rw [e9]; omega, by rw [e9, Int.natAbs_neg]; exact h4⟩⟩
theorem R_turnV {v : Nat → Int32} {j : Nat} {p q how : Int} (hj : j + 1 < 12) (h0 : v j = iI p) (h1 : v (j + 1) = iI q) (hh : how = 0 ∨ how = 1 ∨ how = 2) : mX5_turnVector v (iI j) (iI how) = some (upd (upd v j (iI (if how = 1 then -p else if how = 0 then -q else q))) (j + 1) (iI (if how = 1 then q else p))) := by
  have g1 : ∀ {β : Type} {E : Option β}, gd (iI j) 12 E = E := gdI (by omega) (by omega) (by omega)
  have g2 : ∀ {β : Type} {E : Option β}, gd (iI j + 1) 12 E = E := fun {β E} => by rw [iI_1, iI_add]; exact gdI (by omega) (by omega) (by omega)
  have k1 : (iI (j : Int)).toNatClampNeg = j := clk (by omega)
  have k2 : (iI (j : Int) + 1).toNatClampNeg = j + 1 := by rw [iI_1, iI_add, iI_clamp (by omega) (by omega)]; omega
  unfold mX5_turnVector
  simp only [g1, g2, nmB]
  rw [k1, k2, h0, h1]
  dsimp only [jB]
  rcases hh with rfl | rfl | rfl
  · have n01 : ¬ iI 0 = 1 := by decide +kernel
    rw [if_neg n01, if_pos iI_0.symm, if_neg n01, iI_neg]
    rfl
  · rw [if_pos iI_1.symm, if_pos iI_1.symm, iI_neg]
    rfl
  · have n21 : ¬ iI 2 = 1 := by decide +kernel
    have n20 : ¬ iI 2 = 0 := by decide +kernel
    rw [if_neg n21, if_neg n20, if_neg n21]
    rfl
theorem SX_turn (hk : k < 3) (H : SI x k th v so im ti) (a1 : Int32) (vw vs vh vl : Int32) (val rk old : Nat → Int32) (Kf : Nat → Option β) (F : Int32 → Int32 → Int32 → Int32 → Int32 → Int32 → Int32 → Int32 → (Nat → Int32) → (Nat → Int32) → (Nat → Int32) → (Nat → Int32) → (Nat → Int32) → (Nat → Int32) → Option β) :
    (∃ (kk : Nat) (b t : Int32), lq (mxX4_turn x.pr a1) Kf (bnd14 (mX4_turn x.pr x.a x.b x.c x.d x.sp x.mi x.va x.ov x.ra x.ol x.od x.ne a1) F) = Kf kk ∧ mX5_turn vw vs vh vl th v so im val rk old (iI k) a1 = some (b, t, vw, vs, vh, vl, v, val, rk, old) ∧ ((kk = 1 ∧ t = 2) ∨ (kk = 2 ∧ t = 3))) ∨
    (∃ (o o1 o2 o3 o4 o5 o6 o7 : Int32) (o8 o9 o10 o11 o12 o13 : Nat → Int32) (w1 w2 w3 w4 : Int32) (v' z1 z2 z3 : Nat → Int32), lq (mxX4_turn x.pr a1) Kf (bnd14 (mX4_turn x.pr x.a x.b x.c x.d x.sp x.mi x.va x.ov x.ra x.ol x.od x.ne a1) F) = F o o1 o2 o3 o4 o5 o6 o7 o8 o9 o10 o11 o12 o13 ∧ mX5_turn vw vs vh vl th v so im val rk old (iI k) a1 = some (o, 0, w1, w2, w3, w4, v', z1, z2, z3) ∧
      SI (mkS x.pr o1 o2 o3 o4 x.sp x.mi x.ti o5 o6 o7 o8 o9 o10 o11 o12 o13) k th v' so im ti ∧ ∀ i, (i < 4 * k ∨ 4 * k + 4 ≤ i) → v' i = v i) := by
  obtain ⟨a, ea, a0, a9, c1, c2, c3⟩ := rng2 (lo := 0) (hi := 2) (a1 := a1) (by omega) (by omega) (by omega) (by omega)
  rw [← iI_0] at c1 c3
  rw [← iI_2] at c2 c3
  have d1 : ¬ (1 : Int32) = 0 := by decide
  have i01 := ite01 (0 ≤ a ∧ a ≤ 2)
  have hcm : mxX4_turn x.pr a1 = if 0 ≤ a ∧ a ≤ 2 then (if x.pr = 0 then some 2 else none) else some 1 := by
    unfold mxX4_turn
    dsimp only [jB]
    simp only [c1, c2, if_true, if_neg d1]
    by_cases h1 : a < 0
    · rw [if_pos h1, if_neg (show ¬ (0 ≤ a ∧ a ≤ 2) by omega)]
    · rw [if_neg h1]
      by_cases h2 : 2 < a
      · rw [if_pos h2, if_neg (show ¬ (0 ≤ a ∧ a ≤ 2) by omega)]
      · rw [if_neg h2, if_pos (show 0 ≤ a ∧ a ≤ 2 by omega)]
  have hrm : ∀ z : Int32, mX5_wrong th (iI k) (if 0 ≤ a ∧ a ≤ 2 then 1 else 0) = some z → ¬ z ≤ 0 → mX5_turn vw vs vh vl th v so im val rk old (iI k) a1 = some (0, z, vw, vs, vh, vl, v, val, rk, old) := by
    intro z hz h1
    unfold mX5_turn
    rw [c3]
    simp only [bnd1]
    rw [hz]
    simp only []
    rw [if_neg h1]
  rcases wrong3 hk H _ _ i01.1 i01.2 with ⟨hn, e⟩ | ⟨hq, hpr, e⟩ | ⟨hq, hpr, ht, e, a', b', c, d, spot, mid, t, w, s, h, N, V, S⟩
  · left
    rw [if_neg hn] at hcm
    exact ⟨1, 0, 2, by rw [hcm]; rfl, hrm 2 e (by decide), Or.inl ⟨rfl, rfl⟩⟩
  · left
    rw [if_pos hq, if_pos hpr] at hcm
    exact ⟨2, 0, 3, by rw [hcm]; rfl, hrm 3 e (by decide), Or.inr ⟨rfl, rfl⟩⟩
  · right
    have hz : ¬ x.pr = 0 := by rw [hpr]; decide
    have hN := S.N64
    rw [if_pos hq, if_neg hz] at hcm
    obtain ⟨val', rk', old', y1, y2⟩ := S.keep hk val rk old
    obtain ⟨r1, r2, r3, -⟩ := S.rk
    obtain ⟨g1, g2, g3, g4, ⟨f1, f2, f3, f4, f5, f6, f7, f8, f9, f10⟩, G, g7, g8, g9, g10, g11, g12⟩ := id S
    have hha : a = 0 ∨ a = 1 ∨ a = 2 := by omega
    -- the turned vectors
    obtain ⟨p1, p2, p3, p4, hp, hcl, hrf⟩ : ∃ p1 p2 p3 p4 : Int, Scr0 p1 p2 p3 p4 ∧ mX3_turnVectors (iI a') (iI b') (iI c) (iI d) (iI a) = some (iI p1, iI p2, iI p3, iI p4) ∧ (p1 = (if a = 1 then -a' else if a = 0 then -b' else b') ∧ p2 = (if a = 1 then b' else a') ∧ p3 = (if a = 1 then -c else if a = 0 then -d else d) ∧ p4 = (if a = 1 then d else c)) := by
      have rot := g1.rot
      unfold mX3_turnVectors
      rcases hha with rfl | rfl | rfl
      · exact ⟨_, _, _, _, rot.1, by rw [if_pos iI_0.symm, iI_neg, iI_neg]; rfl, rfl, rfl, rfl, rfl⟩
      · have n0 : ¬ iI 1 = 0 := by decide +kernel
        exact ⟨_, _, _, _, rot.2.1, by rw [if_neg n0, if_pos iI_1.symm, iI_neg, iI_neg]; rfl, rfl, rfl, rfl, rfl⟩
      · have n0 : ¬ iI 2 = 0 := by decide +kernel
        have n1 : ¬ iI 2 = 1 := by decide +kernel
        exact ⟨_, _, _, _, rot.2.2, by rw [if_neg n0, if_neg n1], rfl, rfl, rfl, rfl⟩
    obtain ⟨v0, v1, v2, v3⟩ := g9
    obtain ⟨hr1, hr2, hr3, hr4⟩ := hrf
    have t1 := R_turnV (j := 4 * k) (how := a) (by omega) v0 v1 hha
    rw [← hr1, ← hr2] at t1
    generalize hvA : upd (upd v (4 * k) (iI p1)) (4 * k + 1) (iI p2) = vA at t1
    have vA2 : vA (4 * k + 2) = iI c := by rw [← hvA, upd_ne (by omega), upd_ne (by omega)]; exact v2
    have vA3 : vA (4 * k + 2 + 1) = iI d := by rw [← hvA, upd_ne (by omega), upd_ne (by omega)]; exact v3
    have t2 := R_turnV (j := 4 * k + 2) (how := a) (by omega) vA2 vA3 hha
    rw [← hr3, ← hr4] at t2
    generalize hvB : upd (upd vA (4 * k + 2) (iI p3)) (4 * k + 2 + 1) (iI p4) = vB at t2
    have sv : SlotV vB k p1 p2 p3 p4 := by
      refine ⟨?_, ?_, ?_, ?_⟩
      · rw [← hvB, upd_ne (by omega), upd_ne (by omega), ← hvA, upd_ne (by omega)]; exact upd_same
      · rw [← hvB, upd_ne (by omega), upd_ne (by omega), ← hvA]; exact upd_same
      · rw [← hvB, upd_ne (by omega)]; exact upd_same
      · rw [← hvB]; exact upd_same
    obtain ⟨w', s', h', N', V', va', ov', ra', od', ne', k1, k2, k3, k4, k5⟩ := regrow_both hk hp g2 g3 x.va x.ov x.ra x.ol x.od x.ne
    have eN : N' = N := by
      have h1 := k2.2.1; have h2 := k2.1.area hp; have h3 := S.area.2
      have h4 : (p1 * p4 - p2 * p3).natAbs = (a' * d - b' * c).natAbs := by
        rw [hr1, hr2, hr3, hr4]
        rcases hha with rfl | rfl | rfl
        · show (-b' * c - a' * -d).natAbs = _
          have : -b' * c - a' * -d = a' * d - b' * c := by grind
          rw [this]
        · show (-a' * d - b' * -c).natAbs = _
          have : -a' * d - b' * -c = -(a' * d - b' * c) := by grind
          rw [this, Int.natAbs_neg]
        · show (b' * c - a' * d).natAbs = _
          have : b' * c - a' * d = -(a' * d - b' * c) := by grind
          rw [this, Int.natAbs_neg]
      omega
    subst eN
    obtain ⟨val2, rk2, k6⟩ := k5 vB so im val' rk' old' sv g10 g11 (fun p hp => by rw [y2 p hp, r1 p hp])
    refine ⟨iI (cnt (chg V' N' x.ra) N'), iI p1, iI p2, iI p3, iI p4, iI w', iI s', iI h', va', ov', ra', va_cpy x.ra x.ol 0 0 64, od', ne', iI w', iI s', iI h', iI N', vB, val2, rk2, old', ?_, ?_, ?_, ?_⟩
    · rw [hcm]
      simp only [lq]
      unfold mX4_turn
      dsimp only [jB]
      simp only [c1, c2]
      rw [if_neg (by omega), if_neg (by omega)]
      simp only [gz, if_neg hz, if_neg d1]
      rw [ea, f1, f2, f3, f4, f5, f6, hcl]
      simp only [bnd4]
      rw [k1]
      rfl
    · unfold mX5_turn
      rw [c3]
      simp only [bnd1]
      rw [e]
      simp only []
      rw [if_pos (by decide), y1]
      simp only [bnd7]
      have e4 : (4 : Int32) * iI k = iI ((4 * k : Nat) : Int) := by rw [iI_4, iI_mul]; congr 1
      have e42 : (4 : Int32) * iI k + 2 = iI ((4 * k + 2 : Nat) : Int) := by rw [iI_4, iI_mul, iI_2, iI_add]; congr 1
      rw [e42, e4, ea, t1]
      simp only []
      rw [t2]
      simp only []
      rw [k6]
    · right
      exact ⟨hpr, ht, p1, p2, p3, p4, spot, mid, t, w', s', h', N', V', hp, g2, g3, g4, ⟨rfl, rfl, rfl, rfl, f5, f6, f7, rfl, rfl, rfl⟩, k2, k3, k4, sv, g10, g11, g12⟩
    · intro i hi
      rw [← hvB, upd_ne (by omega), upd_ne (by omega), ← hvA, upd_ne (by omega), upd_ne (by omega)]
theorem SX_shorten (hk : k < 3) (H : SI x k th v so im ti) (Kf : Nat → Option β) (F : Int32 → Int32 → Int32 → Int32 → Int32 → Int32 → Int32 → Int32 → (Nat → Int32) → (Nat → Int32) → (Nat → Int32) → (Nat → Int32) → (Nat → Int32) → (Nat → Int32) → Option β) :
    (∃ (b t : Int32), lq (mxX4_shorten x.pr) Kf (bnd14 (mX4_shorten x.pr x.a x.b x.c x.d x.sp x.mi x.va x.ov x.ra x.ol x.od x.ne) F) = Kf 2 ∧ mX5_shorten th v (iI k) = some (b, t, v) ∧ t = 2) ∨
    (∃ (o o1 o2 o3 o4 o5 o6 o7 : Int32) (o8 o9 o10 o11 o12 o13 : Nat → Int32) (v' : Nat → Int32), lq (mxX4_shorten x.pr) Kf (bnd14 (mX4_shorten x.pr x.a x.b x.c x.d x.sp x.mi x.va x.ov x.ra x.ol x.od x.ne) F) = F o o1 o2 o3 o4 o5 o6 o7 o8 o9 o10 o11 o12 o13 ∧ mX5_shorten th v (iI k) = some (o, 0, v') ∧
      SI (mkS x.pr o1 o2 o3 o4 x.sp x.mi x.ti o5 o6 o7 o8 o9 o10 o11 o12 o13) k th v' so im ti ∧ ∀ i, (i < 4 * k ∨ 4 * k + 4 ≤ i) → v' i = v i) := by
  unfold mxX4_shorten mX4_shorten mX5_shorten
  rcases H with ⟨hp, ht⟩ | ⟨hp, ht, a, b, c, d, spot, mid, t, w, s, h, N, V, S⟩
  · left
    refine ⟨0, 2, by rw [if_pos hp]; rfl, ?_, rfl⟩
    rw [R_missing0 hk ht]
    simp only [bnd1]
    rw [if_neg (by decide)]
  · right
    have hz : ¬ x.pr = 0 := by rw [hp]; decide
    have hN := S.N64
    obtain ⟨g1, g2, g3, g4, ⟨f1, f2, f3, f4, f5, f6, f7, f8, f9, f10⟩, G, g7, g8, g9, g10, g11, g12⟩ := id S
    have n1 := g1.1
    have n2 := g1.2.1
    obtain ⟨p1, p2, p3, p4, tm, hs', h5, htm, hC, hR⟩ := shorten_both 256 a b c d g1 (by omega)
    obtain ⟨r, v', R1, R2, R3⟩ := hR FU k 0 v 1 (by unfold FU; omega) hk (by decide) g9
    have C1 := hC FU 0 0 (by unfold FU; omega) (by omega)
    obtain ⟨w', s', h', N', V', va', ov', ra', od', ne', k1, k2, k3, k4, -⟩ := regrow_both hk hs' g2 g3 x.va x.ov x.ra x.ol x.od x.ne
    rw [Nat.zero_add, iI_n0] at R1 C1
    have tN : t ≤ N' := by
      have h1 := k2.2.1; have h2 := k2.1.area hs'; have h3 := S.area.2
      omega
    refine ⟨iI tm, iI p1, iI p2, iI p3, iI p4, iI w', iI s', iI h', va', ov', ra', va_cpy x.ra x.ol 0 0 64, od', ne', v', ?_, ?_, ?_, R3⟩
    · rw [if_neg hz]
      simp only [lq, gz, if_neg hz]
      unfold mX3_shortenVectors
      rw [f1, f2, f3, f4, f5, f6, C1]
      simp only [bnd5]
      rw [k1]
      rfl
    · rw [R_missing1 hk ht]
      simp only [bnd1, nmB]
      have e4 : (4 : Int32) * iI k = iI (4 * (k : Int)) := by rw [iI_4, iI_mul]
      rw [if_pos (by decide), e4, R1]
      rfl
    · right
      exact ⟨hp, ht, p1, p2, p3, p4, spot, mid, t, w', s', h', N', V', hs', g2, g3, ⟨g4.1, tN⟩, ⟨rfl, rfl, rfl, rfl, f5, f6, f7, rfl, rfl, rfl⟩, k2, k3, k4, R2, g10, g11, g12⟩
end SlotCalls4
-- ===== setScreen, load =====
theorem X4_isComponent {a : Int} (h1 : -2147483648 ≤ a) (h2 : a < 2147483648) : mX4_isComponent (iI a) = some (if -8 ≤ a ∧ a ≤ 8 then 1 else 0) := by
  have e1 : (-8 : Int32) = iI (-8) := by decide +kernel
  have e2 : (8 : Int32) = iI 8 := iI_lit 8
  have c1 : (iI a < -8) ↔ a < -8 := by rw [e1, iI_lt h1 h2 (by omega) (by omega)]
  have c2 : (8 < iI a) ↔ 8 < a := by rw [e2, iI_lt (by omega) (by omega) h1 h2]
  unfold mX4_isComponent
  simp only [c1, c2]
  by_cases h : a < -8
  · rw [if_pos h, if_neg (by omega)]
  · rw [if_neg h]
    by_cases h' : 8 < a
    · rw [if_pos h', if_neg (by omega)]
    · rw [if_neg h', if_pos (by omega)]
theorem X5_isPart {a : Int} (h1 : -2147483648 ≤ a) (h2 : a < 2147483648) : mX5_isPart (iI a) = some (if -8 ≤ a ∧ a ≤ 8 then 1 else 0) := by
  have e1 : (-8 : Int32) = iI (-8) := by decide +kernel
  have e2 : (8 : Int32) = iI 8 := iI_lit 8
  unfold mX5_isPart
  rw [e1, e2, X5_within h1 h2 (by omega) (by omega) (by omega) (by omega)]
  rfl
theorem X4_isArea {a : Int} (h1 : -2147483648 ≤ a) (h2 : a < 2147483648) : mX4_isArea (iI a) = some (if 1 ≤ a ∧ a ≤ 64 then 1 else 0) := by
  have e2 : (64 : Int32) = iI 64 := iI_lit 64
  have c1 : (iI a < 1) ↔ a < 1 := by rw [iI_1, iI_lt h1 h2 (by omega) (by omega)]
  have c2 : (64 < iI a) ↔ 64 < a := by rw [e2, iI_lt (by omega) (by omega) h1 h2]
  unfold mX4_isArea
  simp only [c1, c2]
  by_cases h : a < 1
  · rw [if_pos h, if_neg (by omega)]
  · rw [if_neg h]
    by_cases h' : 64 < a
    · rw [if_pos h', if_neg (by omega)]
    · rw [if_neg h', if_pos (by omega)]
abbrev PC (a : Int) : Prop := -8 ≤ a ∧ a ≤ 8
abbrev PA (a b c d : Int) : Prop := 1 ≤ ((a * d - b * c).natAbs : Int) ∧ ((a * d - b * c).natAbs : Int) ≤ 64
abbrev PS (a b c d sp : Int) : Prop := (PC a ∧ PC b ∧ PC c ∧ PC d) ∧ (0 ≤ sp ∧ sp ≤ 4) ∧ PA a b c d
theorem PC.bd {a b c d : Int} (ha : PC a) (hb : PC b) (hc : PC c) (hd : PC d) : -128 ≤ a * d - b * c ∧ a * d - b * c ≤ 128 := by
  have m1 := mul_bd2 (x := a) (y := d) (A := 8) (B := 8) (by omega) (by omega)
  have m2 := mul_bd2 (x := b) (y := c) (A := 8) (B := 8) (by omega) (by omega)
  omega
theorem PS.scr {a b c d : Int} (ha : PC a) (hb : PC b) (hc : PC c) (hd : PC d) (hA : PA a b c d) : Scr0 a b c d := by
  have m1 := mul_bd2 (x := a) (y := a) (A := 8) (B := 8) (by omega) (by omega)
  have m2 := mul_bd2 (x := b) (y := b) (A := 8) (B := 8) (by omega) (by omega)
  have m3 := mul_bd2 (x := c) (y := c) (A := 8) (B := 8) (by omega) (by omega)
  have m4 := mul_bd2 (x := d) (y := d) (A := 8) (B := 8) (by omega) (by omega)
  exact ⟨by omega, by omega, by omega, hA.2⟩
section SetScreen
variable {a b c d sp : Int}
theorem setScreen_c (a0 : -2147483648 ≤ a) (a1 : a < 2147483648) (b0 : -2147483648 ≤ b) (b1 : b < 2147483648) (c0 : -2147483648 ≤ c) (c1 : c < 2147483648) (d0 : -2147483648 ≤ d) (d1 : d < 2147483648) (s0 : -2147483648 ≤ sp) (s1 : sp < 2147483648) : mxX4_setScreen (iI a) (iI b) (iI c) (iI d) (iI sp) = if PS a b c d sp then none else some 1 := by
  have n1 : ¬ (1 : Int32) = 0 := by decide
  have cs1 : (iI sp < 0) ↔ sp < 0 := iI_neg' s0 s1
  have cs2 : (4 < iI sp) ↔ 4 < sp := by rw [iI_4, iI_lt (by omega) (by omega) s0 s1]
  unfold mxX4_setScreen
  rw [X4_isComponent a0 a1, X4_isComponent b0 b1, X4_isComponent c0 c1, X4_isComponent d0 d1]
  dsimp only [bnd1, jB]
  by_cases ha : PC a
  · rw [if_pos ha, if_neg n1]
    by_cases hb : PC b
    · rw [if_pos hb, if_neg n1]
      by_cases hc : PC c
      · rw [if_pos hc, if_neg n1]
        by_cases hd : PC d
        · rw [if_pos hd, if_neg n1, if_neg n1]
          have hbd := PC.bd ha hb hc hd
          simp only [cs1, cs2, if_true, if_neg n1]
          rw [X4_areaOf (by omega) (by omega)]
          dsimp only
          rw [X4_isArea (by omega) (by omega)]
          dsimp only
          by_cases h1 : sp < 0
          · rw [if_pos h1, if_neg (show ¬ PS a b c d sp from fun q => by have := q.2.1; omega)]
          · rw [if_neg h1]
            by_cases h2 : 4 < sp
            · rw [if_pos h2, if_neg (show ¬ PS a b c d sp from fun q => by have := q.2.1; omega)]
            · rw [if_neg h2]
              by_cases h3 : PA a b c d
              · rw [if_pos h3, if_neg n1, if_pos (show PS a b c d sp from ⟨⟨ha, hb, hc, hd⟩, by omega, h3⟩)]
              · rw [if_neg h3, if_pos rfl, if_neg (show ¬ PS a b c d sp from fun q => h3 q.2.2)]
        · rw [if_neg hd, if_pos rfl, if_pos rfl, if_neg (show ¬ PS a b c d sp from fun q => hd q.1.2.2.2)]
      · rw [if_neg hc, if_pos rfl, if_pos rfl, if_neg (show ¬ PS a b c d sp from fun q => hc q.1.2.2.1)]
    · rw [if_neg hb, if_pos rfl, if_pos rfl, if_neg (show ¬ PS a b c d sp from fun q => hb q.1.2.1)]
  · rw [if_neg ha, if_pos rfl, if_pos rfl, if_neg (show ¬ PS a b c d sp from fun q => ha q.1.1)]
theorem setScreen_r (a0 : -2147483648 ≤ a) (a1 : a < 2147483648) (b0 : -2147483648 ≤ b) (b1 : b < 2147483648) (c0 : -2147483648 ≤ c) (c1 : c < 2147483648) (d0 : -2147483648 ≤ d) (d1 : d < 2147483648) (s0 : -2147483648 ≤ sp) (s1 : sp < 2147483648) (th v so im ti : Nat → Int32) (q : Int32) :
    mX5_setScreen th v so im ti q (iI a) (iI b) (iI c) (iI d) (iI sp) = bnd1 (mX5_isSlot q) fun r17_0 => if r17_0 = 0 then some (0, 1, th, v, so, im, ti) else if PS a b c d sp then (bnd5 (mX5_put th v so im ti q (iI a) (iI b) (iI c) (iI d) (iI sp)) fun r22_0 r22_1 r22_2 r22_3 r22_4 => bnd1 (mX5_areaIn r22_1 q) fun r23_0 => some (r23_0, 0, r22_0, r22_1, r22_2, r22_3, r22_4)) else some (0, 2, th, v, so, im, ti) := by
  have n1 : ¬ (1 : Int32) = 0 := by decide
  have l1 : ¬ (1 : Int32) ≤ 0 := by decide
  have l2 : ¬ (2 : Int32) ≤ 0 := by decide
  have l0 : (0 : Int32) ≤ 0 := by decide
  have hws : mX5_within (iI sp) 0 4 = some (if 0 ≤ sp ∧ sp ≤ 4 then 1 else 0) := by rw [iI_0, iI_4, X5_within s0 s1 (by omega) (by omega) (by omega) (by omega)]; rw [← iI_0]
  unfold mX5_setScreen
  rw [X5_isPart a0 a1, X5_isPart b0 b1, X5_isPart c0 c1, X5_isPart d0 d1, hws]
  dsimp only [bnd1, jB]
  by_cases ha : PC a
  · rw [if_pos ha, if_neg n1]
    by_cases hb : PC b
    · rw [if_pos hb, if_neg n1]
      by_cases hc : PC c
      · rw [if_pos hc, if_neg n1]
        by_cases hd : PC d
        · rw [if_pos hd, if_neg n1, if_neg n1]
          have hbd := PC.bd ha hb hc hd
          by_cases h1 : 0 ≤ sp ∧ sp ≤ 4
          · rw [if_pos h1, if_neg n1, X5_areaOf (by omega) (by omega)]
            dsimp only
            have hwa : mX5_within (iI ((a * d - b * c).natAbs : Int)) 1 64 = some (if 1 ≤ ((a * d - b * c).natAbs : Int) ∧ ((a * d - b * c).natAbs : Int) ≤ 64 then 1 else 0) := by
              have e64 : (64 : Int32) = iI 64 := iI_lit 64
              rw [iI_1, e64, X5_within (by omega) (by omega) (by omega) (by omega) (by omega) (by omega)]; rw [← iI_1]
            rw [hwa]
            dsimp only
            by_cases h3 : PA a b c d
            · rw [if_pos h3, if_neg n1]
              cases mX5_isSlot q with
              | none => rfl
              | some z =>
                dsimp only
                rw [if_neg l1, if_neg n1, if_pos l0, if_pos (show PS a b c d sp from ⟨⟨ha, hb, hc, hd⟩, h1, h3⟩)]
            · rw [if_neg h3, if_pos rfl]
              have hn : ¬ PS a b c d sp := fun q => h3 q.2.2
              cases mX5_isSlot q with
              | none => rfl
              | some z => simp only [if_neg l1, if_neg l2, if_true, if_neg hn]
          · rw [if_neg h1, if_pos rfl]
            have hn : ¬ PS a b c d sp := fun q => h1 q.2.1
            cases mX5_isSlot q with
            | none => rfl
            | some z => simp only [if_neg l1, if_neg l2, if_true, if_neg hn]
        · rw [if_neg hd, if_pos rfl, if_pos rfl]
          have hn : ¬ PS a b c d sp := fun q => hd q.1.2.2.2
          cases mX5_isSlot q with
          | none => rfl
          | some z => simp only [if_neg l1, if_neg l2, if_true, if_neg hn]
      · rw [if_neg hc, if_pos rfl, if_pos rfl]
        have hn : ¬ PS a b c d sp := fun q => hc q.1.2.2.1
        cases mX5_isSlot q with
        | none => rfl
        | some z => simp only [if_neg l1, if_neg l2, if_true, if_neg hn]
    · rw [if_neg hb, if_pos rfl, if_pos rfl]
      have hn : ¬ PS a b c d sp := fun q => hb q.1.2.1
      cases mX5_isSlot q with
      | none => rfl
      | some z => simp only [if_neg l1, if_neg l2, if_true, if_neg hn]
  · rw [if_neg ha, if_pos rfl, if_pos rfl]
    have hn : ¬ PS a b c d sp := fun q => ha q.1.1
    cases mX5_isSlot q with
    | none => rfl
    | some z => simp only [if_neg l1, if_neg l2, if_true, if_neg hn]
end SetScreen
section SlotCalls5
variable {k : Nat} {th v so im ti : Nat → Int32} {β : Type}
theorem R_put (hk : k < 3) (A B C D S : Int32) : ∃ v', mX5_put th v so im ti (iI k) A B C D S = some (upd th k 1, v', upd so k S, upd im k 0, upd ti k 0) ∧ v' (4 * k) = A ∧ v' (4 * k + 1) = B ∧ v' (4 * k + 2) = C ∧ v' (4 * k + 3) = D ∧ ∀ i, (i < 4 * k ∨ 4 * k + 4 ≤ i) → v' i = v i := by
  have b1 : vp_nar .boolean 1 = 1 := by decide +kernel
  have b0 : vp_nar .boolean 0 = 0 := by decide +kernel
  refine ⟨upd (upd (upd (upd v (4 * k) A) (4 * k + 1) B) (4 * k + 2) C) (4 * k + 3) D, ?_, ?_, ?_, ?_, ?_, ?_⟩
  · unfold mX5_put
    rw [gds0 hk, gds1 hk, gds2 hk, gds3 hk, gdk hk, gdk hk, gdk hk, gdk hk, cl0 hk, cl1 hk, cl2 hk, cl3 hk, clk (by omega), b1, b0]
  · rw [upd_ne (by omega), upd_ne (by omega), upd_ne (by omega)]; exact upd_same
  · rw [upd_ne (by omega), upd_ne (by omega)]; exact upd_same
  · rw [upd_ne (by omega)]; exact upd_same
  · exact upd_same
  · intro i hi
    rw [upd_ne (by omega), upd_ne (by omega), upd_ne (by omega), upd_ne (by omega)]
/-- a screen laid anew, both sides -/
theorem lay_both (hk : k < 3) {a b c d spot mid : Int} (hs : Scr0 a b c d) (hsp : 0 ≤ spot ∧ spot ≤ 4) (hm : mid = 0 ∨ mid = 1) (va ov ra ol od ne : Nat → Int32) :
    ∃ (w s h : Int) (N : Nat) (r0 : Int32) (va' ov' ra' od' ne' : Nat → Int32), mX3_regrow (iI a) (iI b) (iI c) (iI d) (iI spot) (iI mid) va ov ra ol od ne = some (r0, iI w, iI s, iI h, va', ov', ra', va_cpy ra ol 0 0 64, od', ne') ∧ mX3_area (iI w) (iI h) = some (iI N) ∧ ((a * d - b * c).natAbs : Int) = N ∧
      ∀ (th' v' so' im' ti' : Nat → Int32), th' k = 1 → SlotV v' k a b c d → so' k = iI spot → im' k = iI mid → ti' k = 0 → SI (mkS 1 (iI a) (iI b) (iI c) (iI d) (iI spot) (iI mid) 0 (iI w) (iI s) (iI h) va' ov' ra' (va_cpy ra ol 0 0 64) od' ne') k th' v' so' im' ti' := by
  obtain ⟨w, s, h, N, V, va', ov', ra', od', ne', e, G, A, O, -⟩ := regrow_both hk hs hsp hm va ov ra ol od ne
  have eN : w * h = N := G.2.1
  have eA := G.1.area hs
  refine ⟨w, s, h, N, _, va', ov', ra', od', ne', e, by rw [X3_area, eN], by omega, ?_⟩
  intro th' v' so' im' ti' h1 h2 h3 h4 h5
  exact Or.inr ⟨rfl, h1, a, b, c, d, spot, mid, 0, w, s, h, N, V, hs, hsp, hm, ⟨by omega, by omega⟩, ⟨rfl, rfl, rfl, rfl, rfl, rfl, iI_0, rfl, rfl, rfl⟩, G, A, O, h2, h3, h4, by rw [h5]; exact iI_0⟩
theorem SX_setScreen (hk : k < 3) (va ov ra ol od ne : Nat → Int32) (a1 a2 a3 a4 a5 : Int32) (Kf : Nat → Option β) (F : Int32 → Int32 → Int32 → Int32 → Int32 → Int32 → Int32 → Int32 → Int32 → Int32 → Int32 → Int32 → (Nat → Int32) → (Nat → Int32) → (Nat → Int32) → (Nat → Int32) → (Nat → Int32) → (Nat → Int32) → Option β) :
    (∃ (b t : Int32), lq (mxX4_setScreen a1 a2 a3 a4 a5) Kf (bnd18 (mX4_setScreen va ov ra ol od ne a1 a2 a3 a4 a5) F) = Kf 1 ∧ mX5_setScreen th v so im ti (iI k) a1 a2 a3 a4 a5 = some (b, t, th, v, so, im, ti) ∧ t = 2) ∨
    (∃ (o o1 o2 o3 o4 o5 o6 o7 o8 o9 o10 o11 : Int32) (o12 o13 o14 o15 o16 o17 th' v' so' im' ti' : Nat → Int32), lq (mxX4_setScreen a1 a2 a3 a4 a5) Kf (bnd18 (mX4_setScreen va ov ra ol od ne a1 a2 a3 a4 a5) F) = F o o1 o2 o3 o4 o5 o6 o7 o8 o9 o10 o11 o12 o13 o14 o15 o16 o17 ∧ mX5_setScreen th v so im ti (iI k) a1 a2 a3 a4 a5 = some (o, 0, th', v', so', im', ti') ∧
      SI (mkS o1 o2 o3 o4 o5 o6 o7 o8 o9 o10 o11 o12 o13 o14 o15 o16 o17) k th' v' so' im' ti' ∧ (∀ i, i ≠ k → th' i = th i) ∧ (∀ i, (i < 4 * k ∨ 4 * k + 4 ≤ i) → v' i = v i) ∧ (∀ i, i ≠ k → so' i = so i) ∧ (∀ i, i ≠ k → im' i = im i) ∧ (∀ i, i ≠ k → ti' i = ti i)) := by
  obtain ⟨a, rfl, a0, a9⟩ := i32_of a1
  obtain ⟨b, rfl, b0, b9⟩ := i32_of a2
  obtain ⟨c, rfl, c0, c9⟩ := i32_of a3
  obtain ⟨d, rfl, d0, d9⟩ := i32_of a4
  obtain ⟨sp, rfl, s0, s9⟩ := i32_of a5
  have n1 : ¬ (1 : Int32) = 0 := by decide
  have hc := setScreen_c a0 a9 b0 b9 c0 c9 d0 d9 s0 s9
  have hr := setScreen_r a0 a9 b0 b9 c0 c9 d0 d9 s0 s9 th v so im ti (iI k)
  rw [R_isSlot hk] at hr
  dsimp only [bnd1] at hr
  rw [if_neg n1] at hr
  by_cases hP : PS a b c d sp
  · right
    rw [if_pos hP] at hc hr
    have hs := PS.scr hP.1.1 hP.1.2.1 hP.1.2.2.1 hP.1.2.2.2 hP.2.2
    have hbd := PC.bd hP.1.1 hP.1.2.1 hP.1.2.2.1 hP.1.2.2.2
    obtain ⟨w, s, h, N, r0, va', ov', ra', od', ne', e1, e2, e3, e4⟩ := lay_both hk hs hP.2.1 (mid := 0) (Or.inl rfl) va ov ra ol od ne
    obtain ⟨v', p1, p2, p3, p4, p5, p6⟩ := R_put (th := th) (v := v) (so := so) (im := im) (ti := ti) hk (iI a) (iI b) (iI c) (iI d) (iI sp)
    have sv : SlotV v' k a b c d := ⟨p2, p3, p4, p5⟩
    refine ⟨iI N, 1, iI a, iI b, iI c, iI d, iI sp, iI 0, 0, iI w, iI s, iI h, va', ov', ra', va_cpy ra ol 0 0 64, od', ne', upd th k 1, v', upd so k (iI sp), upd im k 0, upd ti k 0, ?_, ?_, e4 _ _ _ _ _ upd_same sv upd_same (by rw [upd_same]; exact iI_0) upd_same, fun i hi => upd_ne hi, p6, fun i hi => upd_ne hi, fun i hi => upd_ne hi, fun i hi => upd_ne hi⟩
    · rw [hc]
      simp only [lq]
      have cs1 : (iI sp < 0) ↔ sp < 0 := iI_neg' s0 s9
      have cs2 : (4 < iI sp) ↔ 4 < sp := by rw [iI_4, iI_lt (by omega) (by omega) s0 s9]
      unfold mX4_setScreen
      rw [X4_isComponent a0 a9, X4_isComponent b0 b9, X4_isComponent c0 c9, X4_isComponent d0 d9]
      dsimp only [bnd1, jB]
      rw [if_pos hP.1.1, if_neg n1, if_pos hP.1.2.1, if_neg n1, if_pos hP.1.2.2.1, if_neg n1, if_pos hP.1.2.2.2, if_neg n1]
      simp only [cs1, cs2, gz, if_neg n1]
      rw [if_neg (by have := hP.2.1; omega), if_neg (by have := hP.2.1; omega), X4_areaOf (by omega) (by omega)]
      dsimp only
      rw [X4_isArea (by omega) (by omega)]
      dsimp only
      rw [if_pos hP.2.2, if_neg n1]
      unfold mX3_become
      simp only [bnd8]
      rw [iI_0, e1]
      simp only [bnd10]
      rw [e2]
      rfl
    · rw [hr, p1]
      simp only [bnd5]
      rw [X5_areaIn hk sv hs, e3]
  · left
    rw [if_neg hP] at hc hr
    exact ⟨0, 2, by rw [hc]; rfl, hr, rfl⟩
end SlotCalls5
