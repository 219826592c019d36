set_option maxHeartbeats 4000000
-- ===== the input, read by both =====
def PN (ps : Int) (pA qA : Nat → Int32) : Prop := ∀ i : Nat, (i : Int) < ps → pA i = qA i ∧ ∃ x : Int, -8 ≤ x ∧ x ≤ 8 ∧ pA i = iI x
def PR (ph pt ng sp mi : Int) (pA : Nat → Int32) (ps im rs st wn : Int) (qA : Nat → Int32) : Prop :=
  PN ps pA qA ∧ 0 ≤ pt ∧ pt ≤ 3 ∧
  ((ph = 0 ∧ ng = 0 ∧ wn = 1 ∧ im = 0 ∧ ps = pt ∧ rs = -1 ∧ st = 0 ∧ mi = 0) ∨ (ph = 1 ∧ ng = 1 ∧ wn = 1 ∧ im = 1 ∧ ps = pt ∧ rs = -1 ∧ st = 0 ∧ mi = 0) ∨
   (ph = 2 ∧ wn = 0 ∧ im = 0 ∧ ps = pt + 1 ∧ rs = -1 ∧ st = 0 ∧ mi = 0) ∨ (ph = 3 ∧ wn = 0 ∧ ps = 4 ∧ pt = 3 ∧ rs = sp ∧ 0 ≤ sp ∧ sp ≤ 4 ∧ st = 0 ∧ mi = 0) ∨ (ph = 4 ∧ wn = 0 ∧ ps = 4 ∧ pt = 3 ∧ rs = sp ∧ 0 ≤ sp ∧ sp ≤ 4 ∧ st = 1 ∧ mi = 1))
theorem PN.put {ps : Int} {pA qA : Nat → Int32} {x : Int} (h : PN ps pA qA) (h0 : 0 ≤ ps) (h1 : -8 ≤ x) (h2 : x ≤ 8) : PN (ps + 1) (upd pA ps.toNat (iI x)) (upd qA ps.toNat (iI x)) := by
  intro i hi
  by_cases hip : i = ps.toNat
  · subst hip; rw [upd_same, upd_same]; exact ⟨rfl, x, h1, h2, rfl⟩
  · rw [upd_ne hip, upd_ne hip]; exact h i (by omega)
theorem i32_of (c : Int32) : ∃ x : Int, c = iI x ∧ -2147483648 ≤ x ∧ x < 2147483648 := ⟨c.toInt, (iI_of c).symm, Int32.le_toInt c, Int32.toInt_lt c⟩
theorem lit_n (n : Nat) : (OfNat.ofNat n : Int32) = iI (n : Int) := iI_lit n
/-- a digit, both -/
theorem digit_both {pt ng ph : Int} {pA qA : Nat → Int32} {x : Int} (hp0 : 0 ≤ pt) (hp1 : pt ≤ 3) (hng : ng = 0 ∨ ng = 1) (hN : PN pt pA qA) (hx : -2147483648 ≤ x) (hx' : x < 2147483648) (h45 : x ≠ 45 ∨ ng = 1) :
    (∃ r1 r2, mX1_takeDigit (iI ph) (iI pt) (iI ng) pA (iI x) = some (0, r1, r2) ∧ r1 = iI ph ∧ r2 = pA ∧ mX5_takesNumber (iI pt) (iI ng) (iI 1) qA (iI x) = some (0, iI pt, iI ng, iI 1, qA)) ∨
    (∃ pA' qA', mX1_takeDigit (iI ph) (iI pt) (iI ng) pA (iI x) = some (1, iI 2, pA') ∧ mX5_takesNumber (iI pt) (iI ng) (iI 1) qA (iI x) = some (1, iI (pt + 1), iI 0, iI 0, qA') ∧ PN (pt + 1) pA' qA') := by
  have c1 : (iI x < 48) ↔ x < 48 := by rw [iI_lit 48, iI_lt (by omega) (by omega) (by omega) (by omega)]; omega
  have c2 : (iI x ≤ 56) ↔ x ≤ 56 := by rw [iI_lit 56, iI_le (by omega) (by omega) (by omega) (by omega)]; omega
  have c3 : (56 < iI x) ↔ 56 < x := by rw [iI_lit 56, iI_lt (by omega) (by omega) (by omega) (by omega)]; omega
  have c4 : (iI x = 45) ↔ x = 45 := by rw [iI_lit 45, iI_inj (by omega) (by omega) (by omega) (by omega)]; omega
  have cn : (iI ng = 0) ↔ ng = 0 := iI_eq0 (by omega) (by omega)
  have hK : ∀ F : Unit → Option (Int32 × Int32 × Int32 × Int32 × (Nat → Int32)), jB F (fun K => if iI x = 45 then (if iI ng = 0 then some (1, iI pt, 1, iI 1, qA) else K ()) else K ()) = F () := by
    intro F
    dsimp only [jB]
    rcases h45 with h | h
    · rw [if_neg (fun z => h (c4.mp z))]
    · have : ¬ iI ng = 0 := fun z => by have := cn.mp z; omega
      rw [if_neg this]
      split <;> rfl
  have hrf : mX5_takesNumber (iI pt) (iI ng) (iI 1) qA (iI x) = if 48 ≤ x ∧ x ≤ 56 then some (1, iI (pt + 1), iI 0, iI 0, upd qA pt.toNat (if ng = 0 then iI (x - 48) else iI (48 - x))) else some (0, iI pt, iI ng, iI 1, qA) := by
    have g : ∀ {β : Type} {E : Option β}, gd (iI pt) 4 E = E := gdI (by omega) (by omega) (by omega)
    have cl : (iI pt).toNatClampNeg = pt.toNat := iI_clamp (by omega) (by omega)
    have e48 : (48 : Int32) = iI 48 := iI_lit 48
    have d10 : ¬ (1 : Int32) = 0 := by decide
    unfold mX5_takesNumber mX5_within
    rw [hK]
    simp only [c1, c3]
    by_cases h1 : x < 48
    · rw [if_pos h1, if_neg (by omega)]
      simp only [bnd1, if_true]
    · rw [if_neg h1]
      by_cases h2 : 56 < x
      · rw [if_pos h2, if_neg (by omega)]
        simp only [bnd1, if_true]
      · rw [if_neg h2, if_pos (by omega)]
        simp only [bnd1, if_neg d10]
        dsimp only [jB]
        simp only [g, nmB, cl, cn, e48, iI_sub]
        rw [iI_1, iI_add, iI_0]
        split <;> rfl
  have hcl : mX1_takeDigit (iI ph) (iI pt) (iI ng) pA (iI x) = if 48 ≤ x ∧ x ≤ 56 then some (1, iI 2, upd pA pt.toNat (if ng = 0 then iI (x - 48) else iI (48 - x))) else some (0, iI ph, pA) := by
    have e48 : (48 : Int32) = iI 48 := iI_lit 48
    unfold mX1_takeDigit
    simp only [c1, c2, cn]
    by_cases h1 : x < 48
    · rw [if_pos h1, if_neg (by omega)]
    · rw [if_neg h1]
      by_cases h2 : x ≤ 56
      · rw [if_pos h2, if_pos (show 48 ≤ x ∧ x ≤ 56 by omega), e48, iI_sub, iI_sub, X4_putI (by omega) (by omega) (by omega), X4_putI (by omega) (by omega) (by omega)]
        simp only [bnd1]
        rw [iI_2]
        split <;> rfl
      · rw [if_neg h2, if_neg (by omega)]
  by_cases hd : 48 ≤ x ∧ x ≤ 56
  · right
    rw [if_pos hd] at hrf hcl
    refine ⟨_, _, hcl, hrf, ?_⟩
    split
    · exact hN.put hp0 (by omega) (by omega)
    · exact hN.put hp0 (by omega) (by omega)
  · left
    rw [if_neg hd] at hrf hcl
    exact ⟨_, _, hcl, rfl, rfl, hrf⟩
theorem num_step {ph pt ng sp mi : Int} {pA qA : Nat → Int32} {ps im rs st wn : Int} (H : PR ph pt ng sp mi pA ps im rs st wn qA) (c : Int32) (hw : ¬ wn = 0) :
    (∃ r1 r2 r3 r4 r5 r6 s1 s2 s3 s4, mX1_take (iI ph) (iI pt) (iI ng) (iI sp) (iI mi) pA c = some (0, r1, r2, r3, r4, r5, r6) ∧ mX5_takesNumber (iI ps) (iI im) (iI wn) qA c = some (0, s1, s2, s3, s4)) ∨
    (∃ ph' pt' ng' pA' ps' im' wn' qA', mX1_take (iI ph) (iI pt) (iI ng) (iI sp) (iI mi) pA c = some (1, iI ph', iI pt', iI ng', iI sp, iI mi, pA') ∧ mX5_takesNumber (iI ps) (iI im) (iI wn) qA c = some (1, iI ps', iI im', iI wn', qA') ∧ PR ph' pt' ng' sp mi pA' ps' im' rs st wn' qA') := by
  obtain ⟨x, rfl, hx, hx'⟩ := i32_of c
  obtain ⟨hN, hp0, hp1, hc⟩ := H
  have c4 : (iI x = 45) ↔ x = 45 := by rw [iI_lit 45, iI_inj (by omega) (by omega) (by omega) (by omega)]; omega
  rcases hc with ⟨rfl, rfl, rfl, rfl, rfl, rfl, rfl, rfl⟩ | ⟨rfl, rfl, rfl, rfl, rfl, rfl, rfl, rfl⟩ | ⟨rfl, rfl, -⟩ | ⟨rfl, rfl, -⟩ | ⟨rfl, rfl, -⟩
  · by_cases h45 : x = 45
    · right
      refine ⟨1, ps, 1, pA, ps, 1, 1, qA, ?_, ?_, hN, hp0, hp1, Or.inr (Or.inl ⟨rfl, rfl, rfl, rfl, rfl, rfl, rfl, rfl⟩)⟩
      · unfold mX1_take mX1_takeMinus
        rw [if_pos iI_0.symm, if_pos (c4.mpr h45)]
        simp only [bnd3]
        rw [if_neg (by decide), iI_1]
      · unfold mX5_takesNumber
        dsimp only [jB]
        rw [if_pos (c4.mpr h45), if_pos iI_0.symm, iI_1]
    · rcases digit_both (ng := 0) (ph := 0) hp0 hp1 (Or.inl rfl) hN hx hx' (Or.inl h45) with ⟨r1, r2, e1, e2, e3, e4⟩ | ⟨pA', qA', e1, e2, e3⟩
      · left
        have ee : mX1_take (iI 0) (iI ps) (iI 0) (iI sp) (iI 0) pA (iI x) = some (0, r1, iI ps, iI 0, iI sp, iI 0, r2) := by
          unfold mX1_take mX1_takeMinus
          rw [if_pos iI_0.symm, if_neg (fun z => h45 (c4.mp z))]
          simp only [bnd3, if_true, e1]
        exact ⟨_, _, _, _, _, _, _, _, _, _, ee, e4⟩
      · right
        refine ⟨2, ps, 0, pA', ps + 1, 0, 0, qA', ?_, e2, e3, hp0, hp1, Or.inr (Or.inr (Or.inl ⟨rfl, rfl, rfl, rfl, rfl, rfl, rfl⟩))⟩
        unfold mX1_take mX1_takeMinus
        rw [if_pos iI_0.symm, if_neg (fun z => h45 (c4.mp z))]
        simp only [bnd3, if_true, e1]
        rw [if_neg (by decide)]
  · have n10 : ¬ iI 1 = 0 := by rw [iI_eq0 (by omega) (by omega)]; omega
    rcases digit_both (ng := 1) (ph := 1) hp0 hp1 (Or.inr rfl) hN hx hx' (Or.inr rfl) with ⟨r1, r2, e1, e2, e3, e4⟩ | ⟨pA', qA', e1, e2, e3⟩
    · left
      have ee : mX1_take (iI 1) (iI ps) (iI 1) (iI sp) (iI 0) pA (iI x) = some (0, r1, iI ps, iI 1, iI sp, iI 0, r2) := by
        unfold mX1_take
        rw [if_neg n10, if_pos iI_1.symm, e1]
        rfl
      exact ⟨_, _, _, _, _, _, _, _, _, _, ee, e4⟩
    · right
      refine ⟨2, ps, 1, pA', ps + 1, 0, 0, qA', ?_, e2, e3, hp0, hp1, Or.inr (Or.inr (Or.inl ⟨rfl, rfl, rfl, rfl, rfl, rfl, rfl⟩))⟩
      unfold mX1_take
      rw [if_neg n10, if_pos iI_1.symm, e1]
      rfl
  · exact absurd rfl hw
  · exact absurd rfl hw
  · exact absurd rfl hw
theorem spot_both {x : Int} (hx : -2147483648 ≤ x) (hx' : x < 2147483648) (ph sp : Int32) :
    (mX1_takeLetter ph sp (iI x) = some (0, ph, sp) ∧ mX5_spotBy (iI x) = some (iI (-1))) ∨ (∃ k : Int, 0 ≤ k ∧ k ≤ 4 ∧ mX1_takeLetter ph sp (iI x) = some (1, iI 3, iI k) ∧ mX5_spotBy (iI x) = some (iI k)) := by
  have c1 : (iI x = 98) ↔ x = 98 := by rw [iI_lit 98, iI_inj (by omega) (by omega) (by omega) (by omega)]; omega
  have c2 : (iI x = 100) ↔ x = 100 := by rw [iI_lit 100, iI_inj (by omega) (by omega) (by omega) (by omega)]; omega
  have c3 : (iI x = 108) ↔ x = 108 := by rw [iI_lit 108, iI_inj (by omega) (by omega) (by omega) (by omega)]; omega
  have c4 : (iI x = 114) ↔ x = 114 := by rw [iI_lit 114, iI_inj (by omega) (by omega) (by omega) (by omega)]; omega
  have c5 : (iI x = 115) ↔ x = 115 := by rw [iI_lit 115, iI_inj (by omega) (by omega) (by omega) (by omega)]; omega
  unfold mX1_takeLetter mX5_spotBy
  simp only [c1, c2, c3, c4, c5]
  by_cases h1 : x = 98
  · right; refine ⟨4, by omega, by omega, ?_, ?_⟩
    · rw [if_pos h1, iI_3, iI_4]
    · rw [if_neg (by omega), if_neg (by omega), if_neg (by omega), if_neg (by omega), if_pos h1, iI_4]
  · by_cases h2 : x = 100
    · right; refine ⟨1, by omega, by omega, ?_, ?_⟩
      · rw [if_neg h1, if_pos h2, iI_3, iI_1]
      · rw [if_neg (by omega), if_pos h2, iI_1]
    · by_cases h3 : x = 108
      · right; refine ⟨3, by omega, by omega, ?_, ?_⟩
        · rw [if_neg h1, if_neg h2, if_pos h3, iI_3]
        · rw [if_neg (by omega), if_neg (by omega), if_neg (by omega), if_pos h3, iI_3]
      · by_cases h4 : x = 114
        · right; refine ⟨0, by omega, by omega, ?_, ?_⟩
          · rw [if_neg h1, if_neg h2, if_neg h3, if_pos h4, iI_3, iI_0]
          · rw [if_pos h4, iI_0]
        · by_cases h5 : x = 115
          · right; refine ⟨2, by omega, by omega, ?_, ?_⟩
            · rw [if_neg h1, if_neg h2, if_neg h3, if_neg h4, if_pos h5, iI_3, iI_2]
            · rw [if_neg (by omega), if_neg (by omega), if_pos h5, iI_2]
          · left
            rw [if_neg h1, if_neg h2, if_neg h3, if_neg h4, if_neg h5, if_neg h4, if_neg h2, if_neg h5, if_neg h3, if_neg h1, iI_m1]
            exact ⟨rfl, rfl⟩
theorem beh_step {ph pt ng sp mi : Int} {pA qA : Nat → Int32} {ps im rs st wn : Int} (H : PR ph pt ng sp mi pA ps im rs st wn qA) (c : Int32) (hw : wn = 0) :
    (∃ r1 r2 r3 r4 r5 r6 s1 s2 s3, mX1_take (iI ph) (iI pt) (iI ng) (iI sp) (iI mi) pA c = some (0, r1, r2, r3, r4, r5, r6) ∧ mX5_takesBehind (iI ps) (iI rs) (iI st) (iI wn) c = some (0, s1, s2, s3)) ∨
    (∃ ph' pt' ng' sp' mi' rs' st' wn', mX1_take (iI ph) (iI pt) (iI ng) (iI sp) (iI mi) pA c = some (1, iI ph', iI pt', iI ng', iI sp', iI mi', pA) ∧ mX5_takesBehind (iI ps) (iI rs) (iI st) (iI wn) c = some (1, iI rs', iI st', iI wn') ∧ PR ph' pt' ng' sp' mi' pA ps im rs' st' wn' qA) := by
  obtain ⟨x, rfl, hx, hx'⟩ := i32_of c
  obtain ⟨hN, hp0, hp1, hc⟩ := H
  subst hw
  have c42 : (iI x = 42) ↔ x = 42 := by rw [iI_lit 42, iI_inj (by omega) (by omega) (by omega) (by omega)]; omega
  have c44 : (iI x = 44) ↔ x = 44 := by rw [iI_lit 44, iI_inj (by omega) (by omega) (by omega) (by omega)]; omega
  have c59 : (iI x = 59) ↔ x = 59 := by rw [iI_lit 59, iI_inj (by omega) (by omega) (by omega) (by omega)]; omega
  have n20 : ¬ iI 2 = 0 := by rw [iI_eq0 (by omega) (by omega)]; omega
  have n21 : ¬ iI 2 = 1 := by rw [iI_1, iI_inj (by omega) (by omega) (by omega) (by omega)]; omega
  have n30 : ¬ iI 3 = 0 := by rw [iI_eq0 (by omega) (by omega)]; omega
  have n31 : ¬ iI 3 = 1 := by rw [iI_1, iI_inj (by omega) (by omega) (by omega) (by omega)]; omega
  have n32 : ¬ iI 3 = 2 := by rw [iI_2, iI_inj (by omega) (by omega) (by omega) (by omega)]; omega
  have n40 : ¬ iI 4 = 0 := by rw [iI_eq0 (by omega) (by omega)]; omega
  have n41 : ¬ iI 4 = 1 := by rw [iI_1, iI_inj (by omega) (by omega) (by omega) (by omega)]; omega
  have n42 : ¬ iI 4 = 2 := by rw [iI_2, iI_inj (by omega) (by omega) (by omega) (by omega)]; omega
  have n43 : ¬ iI 4 = 3 := by rw [iI_3, iI_inj (by omega) (by omega) (by omega) (by omega)]; omega
  rcases hc with ⟨-, -, h, -⟩ | ⟨-, -, h, -⟩ | ⟨rfl, -, rfl, rfl, rfl, rfl, rfl⟩ | ⟨rfl, -, rfl, rfl, rfl, hs0, hs1, rfl, rfl⟩ | ⟨rfl, -, rfl, rfl, rfl, hs0, hs1, rfl, rfl⟩
  · omega
  · omega
  · by_cases h3 : 3 ≤ pt
    · have hpt : pt = 3 := by omega
      subst hpt
      have hcl : mX1_take (iI 2) (iI 3) (iI ng) (iI sp) (iI 0) pA (iI x) = bnd3 (mX1_takeLetter (iI 2) (iI sp) (iI x)) fun r10_0 r10_1 r10_2 => some (r10_0, r10_1, iI 3, iI ng, r10_2, iI 0, pA) := by
        unfold mX1_take
        rw [if_neg n20, if_neg n21, if_pos iI_2.symm, if_pos (by rw [iI_3]; exact Int32.le_refl _)]
      have hrf : mX5_takesBehind (iI (3 + 1)) (iI (-1)) (iI 0) (iI 0) (iI x) = bnd1 (mX5_spotBy (iI x)) fun r8_0 => if r8_0 = (-1) then (some (0, r8_0, iI 0, iI 0)) else (some (1, r8_0, iI 0, iI 0)) := by
        unfold mX5_takesBehind
        rw [if_pos (by rw [iI_4, iI_le (by omega) (by omega) (by omega) (by omega)]; omega), if_pos iI_m1.symm]
      rw [hcl, hrf]
      rcases spot_both hx hx' (iI 2) (iI sp) with ⟨e1, e2⟩ | ⟨k, k0, k1, e1, e2⟩
      · left
        rw [e1, e2]
        refine ⟨iI 2, iI 3, iI ng, iI sp, iI 0, pA, iI (-1), iI 0, iI 0, rfl, ?_⟩
        simp only [bnd1]
        rw [if_pos iI_m1.symm]
      · right
        rw [e1, e2]
        refine ⟨3, 3, ng, k, 0, k, 0, 0, rfl, ?_, ?_⟩
        · simp only [bnd1]
          rw [if_neg (by rw [iI_m1, iI_inj (by omega) (by omega) (by omega) (by omega)]; omega)]
        · exact ⟨hN, hp0, hp1, Or.inr (Or.inr (Or.inr (Or.inl ⟨rfl, rfl, rfl, rfl, rfl, k0, k1, rfl, rfl⟩)))⟩
    · have hcl : mX1_take (iI 2) (iI pt) (iI ng) (iI sp) (iI 0) pA (iI x) = bnd4 (mX1_takeSeparator (iI 2) (iI pt) (iI ng) (iI x)) fun r11_0 r11_1 r11_2 r11_3 => some (r11_0, r11_1, r11_2, r11_3, iI sp, iI 0, pA) := by
        unfold mX1_take
        rw [if_neg n20, if_neg n21, if_pos iI_2.symm, if_neg (by rw [iI_3, iI_le (by omega) (by omega) (by omega) (by omega)]; exact h3)]
      have hsep : mX1_takeSeparator (iI 2) (iI pt) (iI ng) (iI x) = if x = (if pt = 1 then 59 else 44) then some (1, iI 0, iI (pt + 1), iI 0) else some (0, iI 2, iI pt, iI ng) := by
        have cp : (iI pt = 1) ↔ pt = 1 := by rw [iI_1, iI_inj (by omega) (by omega) (by omega) (by omega)]
        unfold mX1_takeSeparator
        dsimp only [jB]
        simp only [cp, c44, c59, nmB]
        rw [iI_1, iI_add, iI_0]
        split <;> rfl
      have hrf : mX5_takesBehind (iI (pt + 1)) (iI (-1)) (iI 0) (iI 0) (iI x) = if x = (if pt = 1 then 59 else 44) then some (1, iI (-1), iI 0, iI 1) else some (0, iI (-1), iI 0, iI 0) := by
        have cp : (iI (pt + 1) = 2) ↔ pt = 1 := by rw [iI_2, iI_inj (by omega) (by omega) (by omega) (by omega)]; omega
        unfold mX5_takesBehind
        rw [if_neg (by rw [iI_4, iI_le (by omega) (by omega) (by omega) (by omega)]; omega)]
        dsimp only [jB]
        simp only [cp, c44, c59]
        rw [iI_1, iI_0]
        split <;> rfl
      rw [hcl, hsep, hrf]
      by_cases hq : x = (if pt = 1 then 59 else 44)
      · right
        rw [if_pos hq, if_pos hq]
        refine ⟨0, pt + 1, 0, sp, 0, -1, 0, 1, rfl, rfl, hN, by omega, by omega, Or.inl ⟨rfl, rfl, rfl, rfl, rfl, rfl, rfl, rfl⟩⟩
      · left
        rw [if_neg hq, if_neg hq]
        exact ⟨_, _, _, _, _, _, _, _, _, rfl, rfl⟩
  · have hcl : mX1_take (iI 3) (iI 3) (iI ng) (iI rs) (iI 0) pA (iI x) = bnd3 (mX1_takeStar (iI 3) (iI 0) (iI x)) fun r13_0 r13_1 r13_2 => some (r13_0, r13_1, iI 3, iI ng, iI rs, r13_2, pA) := by
      unfold mX1_take
      rw [if_neg n30, if_neg n31, if_neg n32, if_pos iI_3.symm]
    have nsp : ¬ iI rs = -1 := by rw [iI_m1, iI_inj (by omega) (by omega) (by omega) (by omega)]; omega
    have hrf : mX5_takesBehind (iI 4) (iI rs) (iI 0) (iI 0) (iI x) = if x = 42 then some (1, iI rs, iI 1, iI 0) else some (0, iI rs, iI 0, iI 0) := by
      have d1 : ¬ (1 : Int32) = 0 := by decide
      unfold mX5_takesBehind
      rw [if_pos (by rw [iI_4, iI_le (by omega) (by omega) (by omega) (by omega)]; omega), if_neg nsp]
      dsimp only [jB]
      simp only [c42, if_pos iI_0.symm, if_neg d1]
      rw [iI_1]
      split
      · rfl
      · rw [iI_0]; rfl
    rw [hcl, hrf]
    unfold mX1_takeStar
    by_cases hq : x = 42
    · right
      rw [if_pos (c42.mpr hq), if_pos hq]
      refine ⟨4, 3, ng, rs, 1, rs, 1, 0, ?_, rfl, hN, hp0, hp1, Or.inr (Or.inr (Or.inr (Or.inr ⟨rfl, rfl, rfl, rfl, rfl, hs0, hs1, rfl, rfl⟩)))⟩
      rw [iI_4, iI_1]
      rfl
    · left
      rw [if_neg (fun z => hq (c42.mp z)), if_neg hq]
      exact ⟨_, _, _, _, _, _, _, _, _, rfl, rfl⟩
  · have nsp : ¬ iI rs = -1 := by rw [iI_m1, iI_inj (by omega) (by omega) (by omega) (by omega)]; omega
    have n10 : ¬ iI 1 = 0 := by rw [iI_eq0 (by omega) (by omega)]; omega
    left
    refine ⟨iI 4, iI 3, iI ng, iI rs, iI 1, pA, iI rs, 1, iI 0, ?_, ?_⟩
    · unfold mX1_take
      rw [if_neg n40, if_neg n41, if_neg n42, if_neg n43]
    · unfold mX5_takesBehind
      rw [if_pos (by rw [iI_4, iI_le (by omega) (by omega) (by omega) (by omega)]; omega), if_neg nsp]
      dsimp only [jB]
      simp only [if_neg n10]
      split <;> rfl
theorem read_both {N : Nat} {codes buf : Nat → Int32} (hN20 : N ≤ 20) (hcb : ∀ i, i < N → codes i = buf i) (n : Nat) : ∀ (fu k : Nat) (ph pt ng sp mi : Int) (pA qA : Nat → Int32) (ps im rs st wn : Int), k + n = N → n < fu → PR ph pt ng sp mi pA ps im rs st wn qA → (wn = 0 ∨ wn = 1) →
    ∃ (i : Nat) (r1 r2 r3 r4 r5 : Int32) (pA' : Nat → Int32) (s1 s2 s3 s4 s5 : Int32) (qA' : Nat → Int32), i ≤ N ∧ mX1_read_L27 (iI N) codes fu (iI k) (iI ph) (iI pt) (iI ng) (iI sp) (iI mi) pA = some (iI i, r1, r2, r3, r4, r5, pA') ∧
      mX5_rightLength_L27 (iI N) buf fu (iI k) (iI ps) (iI im) (iI rs) (iI st) (iI wn) qA = some (iI i, s1, s2, s3, s4, s5, qA') ∧
      (i = N → ∃ (ph' pt' ng' sp' mi' ps' im' rs' st' wn' : Int), r1 = iI ph' ∧ r4 = iI sp' ∧ r5 = iI mi' ∧ s3 = iI rs' ∧ s4 = iI st' ∧ PR ph' pt' ng' sp' mi' pA' ps' im' rs' st' wn' qA') := by
  induction n with
  | zero =>
    intro fu k ph pt ng sp mi pA qA ps im rs st wn hk hf H hw
    obtain ⟨fu, rfl⟩ : ∃ k, fu = k + 1 := ⟨fu - 1, by omega⟩
    have : k = N := by omega
    subst this
    refine ⟨k, iI ph, iI pt, iI ng, iI sp, iI mi, pA, iI ps, iI im, iI rs, iI st, iI wn, qA, Nat.le_refl _, ?_, ?_, fun _ => ⟨ph, pt, ng, sp, mi, ps, im, rs, st, wn, rfl, rfl, rfl, rfl, rfl, H⟩⟩
    · rw [mX1_read_L27, if_pos (by rw [iI_le (by omega) (by omega) (by omega) (by omega)]; omega)]
    · rw [mX5_rightLength_L27, if_pos (by rw [iI_le (by omega) (by omega) (by omega) (by omega)]; omega)]
  | succ n ih =>
    intro fu k ph pt ng sp mi pA qA ps im rs st wn hk hf H hw
    obtain ⟨fu, rfl⟩ : ∃ k, fu = k + 1 := ⟨fu - 1, by omega⟩
    have g : ∀ {β : Type} {E : Option β}, gd (iI k) 20 E = E := gdI (by omega) (by omega) (by omega)
    have ek : iI (k : Int) + 1 = iI ((k + 1 : Nat) : Int) := by rw [iI_1, iI_add]; rfl
    rw [mX1_read_L27, if_neg (by rw [iI_le (by omega) (by omega) (by omega) (by omega)]; omega), X4_atI (by omega) (by omega) (by omega), Int.toNat_natCast]
    rw [mX5_rightLength_L27, if_neg (by rw [iI_le (by omega) (by omega) (by omega) (by omega)]; omega)]
    simp only [bnd1, g, nmB]
    rw [clk (show k < 2147483648 by omega), ← hcb k (by omega), ek]
    have cw : (iI wn = 0) ↔ wn = 0 := iI_eq0 (by omega) (by omega)
    by_cases h0 : wn = 0
    · rw [if_pos (cw.mpr h0)]
      rcases beh_step H (codes k) h0 with ⟨r1, r2, r3, r4, r5, r6, s1, s2, s3, e1, e2⟩ | ⟨ph', pt', ng', sp', mi', rs', st', wn', e1, e2, e3⟩
      · rw [e1, e2]
        simp only [bnd7, bnd4, if_true]
        exact ⟨k, _, _, _, _, _, _, _, _, _, _, _, _, by omega, rfl, rfl, fun z => by omega⟩
      · rw [e1, e2]
        simp only [bnd7, bnd4]
        rw [if_neg (by decide), if_neg (by decide)]
        exact ih fu (k + 1) ph' pt' ng' sp' mi' pA qA ps im rs' st' wn' (by omega) (by omega) e3 (by
          obtain ⟨-, -, -, q⟩ := e3
          rcases q with q | q | q | q | q <;> omega)
    · rw [if_neg (fun z => h0 (cw.mp z))]
      rcases num_step H (codes k) h0 with ⟨r1, r2, r3, r4, r5, r6, s1, s2, s3, s4, e1, e2⟩ | ⟨ph', pt', ng', pA', ps', im', wn', qA', e1, e2, e3⟩
      · rw [e1, e2]
        simp only [bnd7, bnd5, if_true]
        exact ⟨k, _, _, _, _, _, _, _, _, _, _, _, _, by omega, rfl, rfl, fun z => by omega⟩
      · rw [e1, e2]
        simp only [bnd7, bnd5]
        rw [if_neg (by decide), if_neg (by decide)]
        exact ih fu (k + 1) ph' pt' ng' sp mi pA' qA' ps' im' rs st wn' (by omega) (by omega) e3 (by
          obtain ⟨-, -, -, q⟩ := e3
          rcases q with q | q | q | q | q <;> omega)
theorem read_all {N : Nat} {codes buf : Nat → Int32} (hN20 : N ≤ 20) (hcb : ∀ i, i < N → codes i = buf i) (pA qA : Nat → Int32) :
    ∃ (i : Nat) (r1 r2 r3 r4 r5 : Int32) (pA' : Nat → Int32) (s1 s2 s3 s4 s5 : Int32) (qA' : Nat → Int32), i ≤ N ∧ mX1_read (iI N) codes pA = some (iI i, r1, r2, r3, r4, r5, pA') ∧ mX5_rightLength (iI N) buf qA = some (iI i, s1, s2, s3, s4, s5, qA') ∧
      (i = N → ∃ (ph' pt' ng' sp' mi' ps' im' rs' st' wn' : Int), r1 = iI ph' ∧ r4 = iI sp' ∧ r5 = iI mi' ∧ s3 = iI rs' ∧ s4 = iI st' ∧ PR ph' pt' ng' sp' mi' pA' ps' im' rs' st' wn' qA') := by
  obtain ⟨i, r1, r2, r3, r4, r5, pA', s1, s2, s3, s4, s5, qA', h1, h2, h3, h4⟩ := read_both hN20 hcb N FU 0 0 0 0 0 0 pA qA 0 0 (-1) 0 1 (by omega) (by unfold FU; omega) ⟨fun i hi => by omega, by omega, by omega, Or.inl ⟨rfl, rfl, rfl, rfl, rfl, rfl, rfl, rfl⟩⟩ (Or.inr rfl)
  refine ⟨i, r1, r2, r3, r4, r5, pA', s1, s2, s3, s4, s5, qA', h1, ?_, ?_, h4⟩
  · unfold mX1_read
    rw [iI_n0, ← iI_0] at h2
    exact h2
  · unfold mX5_rightLength
    rw [iI_n0, ← iI_0, ← iI_1, ← iI_m1] at h3
    rw [h3]
    rfl
