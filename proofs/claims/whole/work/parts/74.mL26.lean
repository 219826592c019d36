set_option maxHeartbeats 4000000
-- ===== when all is inked the plane is joined twice; firstJoined; compensated =====
theorem WK_all {w s h : Int} {N : Nat} {I : Nat → Bool} (B : SB w s h) (hN : w * h = N) (hI : ∀ p, I p = true) (l : List Nat) : (∀ e, e ∈ l → e < 4) → ∀ (p : Nat) (x y : Int), p < N → num w s h x y = p → WK I (NBN w s h) p l (num w s h (x + DX l) (y + DY l)).toNat := by
  induction l with
  | nil =>
    intro _ p x y hp hxy
    show p = (num w s h (x + 0) (y + 0)).toNat
    rw [Int.add_zero, Int.add_zero, hxy]
    omega
  | cons e l ih =>
    intro he p x y hp hxy
    have h1 := nbr_at (e := e) B hN hp hxy
    have h2 := NBN_eq B hN p e
    have h3 := (NBN_NB B hN p e hp (he e (List.mem_cons_self))).1
    have h4 := ih (fun e' h => he e' (List.mem_cons_of_mem _ h)) (NBN w s h p e) (x + dx e) (y + dy e) h3 (by rw [h1, h2])
    refine ⟨he e (List.mem_cons_self), hI _, ?_⟩
    have e1 : x + DX (e :: l) = x + dx e + DX l := by show x + (dx e + DX l) = _; omega
    have e2 : y + DY (e :: l) = y + dy e + DY l := by show y + (dy e + DY l) = _; omega
    rw [e1, e2]
    exact h4
theorem DX_rep (e n : Nat) : DX (List.replicate n e) = n * dx e ∧ DY (List.replicate n e) = n * dy e := by
  induction n with
  | zero => exact ⟨by show (0 : Int) = _; simp, by show (0 : Int) = _; simp⟩
  | succ n ih =>
    rw [List.replicate_succ]
    constructor
    · show dx e + DX (List.replicate n e) = _
      have : ((n + 1 : Nat) : Int) = (n : Int) + 1 := rfl
      rw [ih.1, this, Int.add_mul]; omega
    · show dy e + DY (List.replicate n e) = _
      have : ((n + 1 : Nat) : Int) = (n : Int) + 1 := rfl
      rw [ih.2, this, Int.add_mul]; omega
theorem mjo_mono {I : Nat → Bool} {nb : Nat → Nat → Nat} (p n : Nat) : mjo I nb p ≤ mjo I nb (p + n) := by
  induction n with
  | zero => exact Int.le_refl _
  | succ n ih =>
    show _ ≤ (if stt I nb (p + n) = true then (if mjo I nb (p + n) < Jt I nb (p + n) then Jt I nb (p + n) else mjo I nb (p + n)) else mjo I nb (p + n))
    split
    · split <;> omega
    · exact ih
theorem mjo_full {w s h : Int} {N : Nat} {I : Nat → Bool} (B : SB w s h) (hN : w * h = N) (hN0 : 0 < N) (hI : ∀ p, I p = true) : mjo I (NBN w s h) N = 2 := by
  have hw := B.1
  have hh := B.2.2.2.2.1
  have n0 : num w s h 0 0 = ((0 : Nat) : Int) := by
    have := num_self (s := s) hw hh (p := 0) (by omega) (by omega)
    rw [Int.zero_emod, Int.zero_ediv] at this
    exact this
  have c1 : num w s h (0 + w) (0 + 0) = 0 := by
    have := (num_eq hw hh (0 + w) (0 + 0) 0 0 (s := s)).mpr ⟨0, by simp, ⟨1, by simp⟩⟩
    rw [this]; exact n0
  have c2 : num w s h (0 + s) (0 + h) = 0 := by
    have := (num_eq hw hh (0 + s) (0 + h) 0 0 (s := s)).mpr ⟨1, by simp, ⟨0, by simp⟩⟩
    rw [this]; exact n0
  have d1 := DX_rep 0 w.toNat
  have d2 := DX_rep 0 s.toNat
  have d3 := DX_rep 1 h.toNat
  have x0 : dx 0 = 1 := rfl
  have y0 : dy 0 = 0 := rfl
  have x1 : dx 1 = 0 := rfl
  have y1 : dy 1 = 1 := rfl
  rw [x0, y0, Int.mul_one, Int.mul_zero] at d1 d2
  rw [x1, y1, Int.mul_one, Int.mul_zero] at d3
  have ew : (w.toNat : Int) = w := by omega
  have es : (s.toNat : Int) = s := by have := B.2.2.1; omega
  have eh : (h.toNat : Int) = h := by omega
  rw [ew] at d1
  rw [es] at d2
  rw [eh] at d3
  have l1 := WK_all B hN hI (List.replicate w.toNat 0) (fun e he => by rw [(List.mem_replicate.mp he).2]; omega) 0 0 0 hN0 n0
  have l2 := WK_all B hN hI (List.replicate s.toNat 0 ++ List.replicate h.toNat 1) (fun e he => by
    rcases List.mem_append.mp he with q | q
    · rw [(List.mem_replicate.mp q).2]; omega
    · rw [(List.mem_replicate.mp q).2]; omega) 0 0 0 hN0 n0
  rw [DX_app, DY_app, d2.1, d2.2, d3.1, d3.2, Int.add_zero, Int.zero_add h, c2] at l2
  rw [d1.1, d1.2, c1] at l1
  have hR : ¬ RK1 I (NBN w s h) 0 := by
    intro hr
    have := hr _ _ l1 l2
    rw [d1.1, d1.2, DX_app, DY_app, d2.1, d2.2, d3.1, d3.2] at this
    have h1 : w * h = N := hN
    rw [Int.zero_add, Int.add_zero, Int.zero_mul] at this
    omega
  have hJ : Jt I (NBN w s h) 0 = 2 := by
    rcases @Jt_spec I (NBN w s h) 0 with ⟨-, q⟩ | ⟨-, -, q⟩ | ⟨q, -⟩
    · exact absurd q.to1 hR
    · exact absurd q hR
    · exact q
  have hst : stt I (NBN w s h) 0 = true := stt_iff.mpr ⟨hI 0, fun ⟨q, q1, _⟩ => by omega⟩
  have h1 : mjo I (NBN w s h) 1 = 2 := by
    show (if stt I (NBN w s h) 0 = true then (if mjo I (NBN w s h) 0 < Jt I (NBN w s h) 0 then Jt I (NBN w s h) 0 else mjo I (NBN w s h) 0) else mjo I (NBN w s h) 0) = 2
    rw [if_pos hst, hJ]
    show (if (0 : Int) < 2 then (2 : Int) else 0) = 2
    rw [if_pos (by omega)]
  have h2 := mjo_mono (I := I) (nb := NBN w s h) 1 (N - 1)
  have h3 := @mjo_bd I (NBN w s h) N
  rw [h1, show 1 + (N - 1) = N by omega] at h2
  omega
theorem mjo_none {I : Nat → Bool} {nb : Nat → Nat → Nat} (hI : ∀ p, ¬ I p = true) (n : Nat) : mjo I nb n = 0 := by
  induction n with
  | zero => rfl
  | succ n ih =>
    show (if stt I nb n = true then (if mjo I nb n < Jt I nb n then Jt I nb n else mjo I nb n) else mjo I nb n) = 0
    rw [if_neg (fun q => hI n (stt_iff.mp q).1), ih]
theorem least_ex {P : Nat → Prop} {N : Nat} (h : P N) : ∃ m, m ≤ N ∧ P m ∧ ∀ j, j < m → ¬ P j := by
  induction N using Nat.strongRecOn with
  | ind N ih =>
    by_cases hex : ∃ j, j < N ∧ P j
    · obtain ⟨j, hj, hp⟩ := hex
      obtain ⟨m, m1, m2, m3⟩ := ih j hj hp
      exact ⟨m, by omega, m2, m3⟩
    · exact ⟨N, Nat.le_refl _, h, fun j hj hp => hex ⟨j, hj, hp⟩⟩
section SlotCalls3
variable {x : Scr} {k : Nat} {th v so im ti : Nat → Int32} {β : Type}
theorem X4_first_L {w s h : Int} {N : Nat} {R : Nat → Nat} {rk nb : Nat → Int32} (B : SB w s h) (hN : w * h = N) (hN64 : N ≤ 64) (hr : ∀ p, p < N → rk p = iI (R p)) (hR : ∀ p, p < N → R p < N) (hnb : ∀ p e, p < N → e < 4 → nb (4 * p + e) = iI (nbr w s h p e)) {tm : Int} (ht : tm = 1 ∨ tm = 2) {m : Nat} (hm1 : 1 ≤ m) (hmN : m ≤ N) (hm2 : tm ≤ mjo (Ink R m) (NBN w s h) N) (hm3 : ∀ j : Nat, j < m → ¬ tm ≤ mjo (Ink R j) (NBN w s h) N) (n : Nat) :
    ∀ (fu j : Nat) (q1 q2 q3 q4 q5 q6 : Int32) (q7 q8 q9 q10 : Nat → Int32), 1 ≤ j → j + n = m → n < fu → ∃ (o1 o2 o3 o4 o5 o6 : Int32) (o7 o8 o9 o10 : Nat → Int32), mX4_firstJoined_L40 (iI w) (iI h) rk nb (iI tm) (iI N) fu (iI j) q1 q2 q3 q4 q5 q6 q7 q8 q9 q10 = some (iI m, o1, o2, o3, o4, o5, o6, o7, o8, o9, o10) := by
  induction n with
  | zero =>
    intro fu j q1 q2 q3 q4 q5 q6 q7 q8 q9 q10 hj0 hj hf
    obtain ⟨fu, rfl⟩ : ∃ k, fu = k + 1 := ⟨fu - 1, by omega⟩
    have : j = m := by omega
    subst this
    by_cases hjN : j = N
    · subst hjN
      exact ⟨q1, q2, q3, q4, q5, q6, q7, q8, q9, q10, by rw [mX4_firstJoined_L40, if_pos (Int32.le_refl _)]⟩
    · obtain ⟨c1, c2, c3, c4, c5, c6, c7, c8, hc⟩ := X0_examine (st := (j : Int)) (nb := nb) B hN hN64 hr hR hnb (by omega) (by omega) q1 q4 q5 q6 q7 q8 q9 q10
      have mb := @mjo_bd (Ink R j) (NBN w s h) N
      refine ⟨c1, iI (cnt (stt (Ink R j) (NBN w s h)) N), iI (mjo (Ink R j) (NBN w s h) N), c2, c3, c4, c5, c6, c7, c8, ?_⟩
      rw [mX4_firstJoined_L40, if_neg (by rw [iI_le (by omega) (by omega) (by omega) (by omega)]; omega), hc]
      simp only [bnd10]
      rw [if_neg (by rw [iI_lt (by omega) (by omega) (by omega) (by omega)]; omega)]
  | succ n ih =>
    intro fu j q1 q2 q3 q4 q5 q6 q7 q8 q9 q10 hj0 hj hf
    obtain ⟨fu, rfl⟩ : ∃ k, fu = k + 1 := ⟨fu - 1, by omega⟩
    obtain ⟨c1, c2, c3, c4, c5, c6, c7, c8, hc⟩ := X0_examine (st := (j : Int)) (nb := nb) B hN hN64 hr hR hnb (by omega) (by omega) q1 q4 q5 q6 q7 q8 q9 q10
    have mb := @mjo_bd (Ink R j) (NBN w s h) N
    have hlt := hm3 j (by omega)
    obtain ⟨o1, o2, o3, o4, o5, o6, o7, o8, o9, o10, e⟩ := ih fu (j + 1) c1 (iI (cnt (stt (Ink R j) (NBN w s h)) N)) (iI (mjo (Ink R j) (NBN w s h) N)) c2 c3 c4 c5 c6 c7 c8 (by omega) (by omega) (by omega)
    refine ⟨o1, o2, o3, o4, o5, o6, o7, o8, o9, o10, ?_⟩
    rw [mX4_firstJoined_L40, if_neg (by rw [iI_le (by omega) (by omega) (by omega) (by omega)]; omega), hc]
    simp only [bnd10]
    rw [if_pos (by rw [iI_lt (by omega) (by omega) (by omega) (by omega)]; omega)]
    simp only [nmB]
    rw [iI_1, iI_add, ← e]
    rfl
theorem X5_first_L {w s h : Int} {N : Nat} {R : Nat → Nat} {rk : Nat → Int32} (B : SB w s h) (hN : w * h = N) (hN64 : N ≤ 64) (hr : ∀ p, p < N → rk p = iI (R p)) (hR : ∀ p, p < N → R p < N) {tm : Int} (ht : tm = 1 ∨ tm = 2) {m : Nat} (hmN : m ≤ N) (hm2 : tm ≤ mjo (Ink R m) (NBN w s h) N) (hm3 : ∀ j : Nat, j < m → ¬ tm ≤ mjo (Ink R j) (NBN w s h) N) (n : Nat) :
    ∀ (fu j : Nat) (q1 q2 q3 q4 q5 : Int32) (q7 q8 q9 q10 : Nat → Int32), j + n = m → n < fu → ∃ (o1 o2 o3 o4 o5 o6 : Int32) (o7 o8 o9 o10 : Nat → Int32), mX5_firstJoined_L36 (iI tm) (iI w) (iI s) (iI h) (iI N) rk fu (iI j) q1 q2 q3 q4 q5 (iI (mjo (Ink R j) (NBN w s h) N)) q7 q8 q9 q10 = some (iI m, o1, o2, o3, o4, o5, o6, o7, o8, o9, o10) := by
  induction n with
  | zero =>
    intro fu j q1 q2 q3 q4 q5 q7 q8 q9 q10 hj hf
    obtain ⟨fu, rfl⟩ : ∃ k, fu = k + 1 := ⟨fu - 1, by omega⟩
    have : j = m := by omega
    subst this
    have mb := @mjo_bd (Ink R j) (NBN w s h) N
    exact ⟨q1, q2, q3, q4, q5, iI (mjo (Ink R j) (NBN w s h) N), q7, q8, q9, q10, by rw [mX5_firstJoined_L36, if_pos ((iI_le (by omega) (by omega) (by omega) (by omega)).mpr hm2)]⟩
  | succ n ih =>
    intro fu j q1 q2 q3 q4 q5 q7 q8 q9 q10 hj hf
    obtain ⟨fu, rfl⟩ : ∃ k, fu = k + 1 := ⟨fu - 1, by omega⟩
    have mb := @mjo_bd (Ink R j) (NBN w s h) N
    have hlt := hm3 j (by omega)
    obtain ⟨p1, p2, p3, p4, p5, p6, p7, p8, e⟩ := X5_layDots (st := ((j + 1 : Nat) : Int)) (rk := rk) B hN hN64 hr hR (by omega) (by omega) q1 q2 q3 q4 q7 q8 q9 q10
    obtain ⟨o1, o2, o3, o4, o5, o6, o7, o8, o9, o10, e2⟩ := ih fu (j + 1) p1 p2 p3 p4 (iI (cnt (stt (Ink R ((j + 1 : Nat) : Int)) (NBN w s h)) N)) p5 p6 p7 p8 (by omega) (by omega)
    refine ⟨o1, o2, o3, o4, o5, o6, o7, o8, o9, o10, ?_⟩
    have ej : iI (j : Int) + 1 = iI ((j + 1 : Nat) : Int) := by rw [iI_1, iI_add]; rfl
    rw [mX5_firstJoined_L36, if_neg (by rw [iI_le (by omega) (by omega) (by omega) (by omega)]; exact hlt)]
    simp only [nmB]
    rw [ej, e]
    simp only [bnd10]
    exact e2
theorem SX_first (hk : k < 3) (H : SI x k th v so im ti) (a1 : Int32) (q1 q2 q3 q4 q5 q6 : Int32) (q7 q8 q9 q10 : Nat → Int32) (vw vs vh vl u1 u2 u3 u4 u5 u6 : Int32) (val rk u7 u8 u9 u10 : Nat → Int32) (Kf : Nat → Option β) (F : Int32 → Int32 → Int32 → Int32 → Int32 → Int32 → Int32 → (Nat → Int32) → (Nat → Int32) → (Nat → Int32) → (Nat → Int32) → Option β) :
    (∃ (kk : Nat) (b t : Int32), lq (mxX4_firstJoined x.pr a1) Kf (bnd11 (mX4_firstJoined q1 q2 q3 q4 q5 q6 q7 q8 q9 q10 x.pr x.w x.h x.ra x.ne a1) F) = Kf kk ∧ mX5_firstJoined vw vs vh vl u1 u2 u3 u4 u5 u6 th v so im val rk u7 u8 u9 u10 (iI k) a1 = some (b, t, vw, vs, vh, vl, u1, u2, u3, u4, u5, u6, val, rk, u7, u8, u9, u10) ∧ ((kk = 1 ∧ t = 2) ∨ (kk = 2 ∧ t = 3))) ∨
    (∃ (o o1 o2 o3 o4 o5 o6 : Int32) (o7 o8 o9 o10 : Nat → Int32) (w1 w2 w3 w4 w5 w6 w7 w8 w9 w10 : Int32) (z1 z2 z3 z4 z5 z6 : Nat → Int32), lq (mxX4_firstJoined x.pr a1) Kf (bnd11 (mX4_firstJoined q1 q2 q3 q4 q5 q6 q7 q8 q9 q10 x.pr x.w x.h x.ra x.ne a1) F) = F o o1 o2 o3 o4 o5 o6 o7 o8 o9 o10 ∧ mX5_firstJoined vw vs vh vl u1 u2 u3 u4 u5 u6 th v so im val rk u7 u8 u9 u10 (iI k) a1 = some (o, 0, w1, w2, w3, w4, w5, w6, w7, w8, w9, w10, z1, z2, z3, z4, z5, z6)) := by
  obtain ⟨tm, rfl, t0, t9⟩ := i32_of a1
  have d1 : ¬ (1 : Int32) = 0 := by decide
  have c1 : (iI tm = 1) ↔ tm = 1 := by rw [iI_1, iI_inj t0 t9 (by omega) (by omega)]
  have c2 : (iI tm = 2) ↔ tm = 2 := by rw [iI_2, iI_inj t0 t9 (by omega) (by omega)]
  have hw : mX5_within (iI tm) 1 2 = some (if 1 ≤ tm ∧ tm ≤ 2 then 1 else 0) := by rw [iI_1, iI_2, X5_within t0 t9 (by omega) (by omega) (by omega) (by omega)]; rw [← iI_1]
  have i01 := ite01 (1 ≤ tm ∧ tm ≤ 2)
  have hcm : mxX4_firstJoined x.pr (iI tm) = if 1 ≤ tm ∧ tm ≤ 2 then (if x.pr = 0 then some 2 else none) else some 1 := by
    unfold mxX4_firstJoined
    dsimp only [jB]
    simp only [c1, c2, if_neg d1, if_true]
    by_cases h0 : tm = 1
    · rw [if_pos h0, if_pos (show 1 ≤ tm ∧ tm ≤ 2 by omega)]
    · rw [if_neg h0]
      by_cases h1 : tm = 2
      · rw [if_pos h1, if_pos (show 1 ≤ tm ∧ tm ≤ 2 by omega)]
      · rw [if_neg h1, if_neg (show ¬ (1 ≤ tm ∧ tm ≤ 2) by omega)]
  have hrm : ∀ z : Int32, mX5_wrong th (iI k) (if 1 ≤ tm ∧ tm ≤ 2 then 1 else 0) = some z → ¬ z ≤ 0 → mX5_firstJoined vw vs vh vl u1 u2 u3 u4 u5 u6 th v so im val rk u7 u8 u9 u10 (iI k) (iI tm) = some (0, z, vw, vs, vh, vl, u1, u2, u3, u4, u5, u6, val, rk, u7, u8, u9, u10) := by
    intro z hz h1
    unfold mX5_firstJoined
    rw [hw]
    simp only [bnd1]
    rw [hz]
    simp only []
    rw [if_neg h1]
  rcases wrong3 hk H _ _ i01.1 i01.2 with ⟨hn, e⟩ | ⟨hq, hpr, e⟩ | ⟨hq, hpr, ht, e, a', b', c, d, spot, mid, t, w, s, h, N, V, S⟩
  · left
    rw [if_neg hn] at hcm
    exact ⟨1, 0, 2, by rw [hcm]; rfl, hrm 2 e (by decide), Or.inl ⟨rfl, rfl⟩⟩
  · left
    rw [if_pos hq, if_pos hpr] at hcm
    exact ⟨2, 0, 3, by rw [hcm]; rfl, hrm 3 e (by decide), Or.inr ⟨rfl, rfl⟩⟩
  · right
    have hz : ¬ x.pr = 0 := by rw [hpr]; decide
    have hN := S.N64
    rw [if_pos hq, if_neg hz] at hcm
    have hN0 : 0 < N := by
      have h1 := S.area.2
      have h2 := S.1.2.2.1
      omega
    obtain ⟨val', rk', y1, y2⟩ := S.grow hk val rk
    obtain ⟨r1, r2, r3, -⟩ := S.rk
    obtain ⟨-, -, -, -, ⟨-, -, -, -, -, -, -, f8, f9, f10⟩, -⟩ := id S
    have htm : tm = 1 ∨ tm = 2 := by omega
    have full : mjo (Ink (fun p => if p < N then Rk V N p else 0) N) (NBN w s h) N = 2 := mjo_full S.B S.area.1 hN0 (fun p => by
      unfold Ink
      rw [decide_eq_true_iff]
      show ((if p < N then Rk V N p else 0 : Nat) : Int) < N
      by_cases hp : p < N
      · rw [if_pos hp]; have := r2 p hp; omega
      · rw [if_neg hp]; omega)
    have r1' : ∀ p, p < N → x.ra p = iI ((fun p => if p < N then Rk V N p else 0) p : Nat) := fun p hp => by
      show x.ra p = iI ((if p < N then Rk V N p else 0 : Nat) : Int)
      rw [if_pos hp]; exact r1 p hp
    have r2' : ∀ p, p < N → (fun p => if p < N then Rk V N p else 0) p < N := fun p hp => by
      show (if p < N then Rk V N p else 0) < N
      rw [if_pos hp]; exact r2 p hp
    have y2' : ∀ p, p < N → rk' p = iI ((fun p => if p < N then Rk V N p else 0) p : Nat) := fun p hp => by
      show rk' p = iI ((if p < N then Rk V N p else 0 : Nat) : Int)
      rw [if_pos hp]; exact (y2 p hp).2
    generalize (fun p => if p < N then Rk V N p else 0) = R at full r1' r2' y2'
    obtain ⟨m, m1, m2, m3⟩ := least_ex (P := fun j : Nat => tm ≤ mjo (Ink R j) (NBN w s h) N) (N := N) (by rw [full]; omega)
    have m0 : 1 ≤ m := by
      rcases Nat.eq_zero_or_pos m with q | q
      · exfalso
        rw [q, mjo_none (fun p => by unfold Ink; rw [decide_eq_true_iff]; omega)] at m2
        omega
      · exact q
    obtain ⟨o1, o2, o3, o4, o5, o6, o7, o8, o9, o10, hc⟩ := X4_first_L (nb := x.ne) S.B S.area.1 hN r1' r2' r3 htm m0 m1 m2 m3 (m - 1) FU 1 q1 q2 q3 q4 q5 q6 q7 q8 q9 q10 (by omega) (by omega) (by unfold FU; omega)
    obtain ⟨p1, p2, p3, p4, p5, p6, p7, p8, e0⟩ := X5_layDots (st := 0) (rk := rk') S.B S.area.1 hN y2' r2' (by omega) (by omega) u1 u2 u3 u4 u7 u8 u9 u10
    obtain ⟨g1, g2, g3, g4, g5, g6, g7, g8, g9, g10, hr⟩ := X5_first_L (rk := rk') S.B S.area.1 hN y2' r2' htm m1 m2 m3 m FU 0 p1 p2 p3 p4 (iI (cnt (stt (Ink R 0) (NBN w s h)) N)) p5 p6 p7 p8 (by omega) (by unfold FU; omega)
    have hrE : mX5_firstJoined vw vs vh vl u1 u2 u3 u4 u5 u6 th v so im val rk u7 u8 u9 u10 (iI k) (iI tm) = some (iI m, 0, iI w, iI s, iI h, iI N, g1, g2, g3, g4, g5, g6, val', rk', g7, g8, g9, g10) := by
      unfold mX5_firstJoined
      rw [hw]
      simp only [bnd1]
      rw [e]
      simp only []
      rw [if_pos (by decide), y1]
      simp only [bnd6]
      rw [iI_0, e0]
      simp only [bnd10]
      have hr' : mX5_firstJoined_L36 (iI tm) (iI w) (iI s) (iI h) (iI N) rk' FU (iI 0) p1 p2 p3 p4 (iI (cnt (stt (Ink R 0) (NBN w s h)) N)) (iI (mjo (Ink R 0) (NBN w s h) N)) p5 p6 p7 p8 = some (iI m, g1, g2, g3, g4, g5, g6, g7, g8, g9, g10) := hr
      rw [hr']
      rfl
    refine ⟨iI m, o1, o2, o3, o4, o5, o6, o7, o8, o9, o10, _, _, _, _, _, _, _, _, _, _, _, _, _, _, _, _, ?_, hrE⟩
    rw [hcm]
    simp only [lq]
    unfold mX4_firstJoined
    dsimp only [jB]
    simp only [c1, c2, gz, if_neg d1, if_neg hz]
    rw [S.areaC]
    simp only [bnd1]
    have hc' : mX4_firstJoined_L40 x.w x.h x.ra x.ne (iI tm) (iI N) FU 1 q1 q2 q3 q4 q5 q6 q7 q8 q9 q10 = some (iI m, o1, o2, o3, o4, o5, o6, o7, o8, o9, o10) := by
      rw [f8, f10, iI_1]; exact hc
    rw [hc']
    by_cases h0 : tm = 1
    · rw [if_pos h0]
      rfl
    · rw [if_neg h0, if_pos (show tm = 2 by omega)]
      rfl
theorem comp_both {w s h g : Int} {N : Nat} {R : Nat → Nat} {rk rk2 nb : Nat → Int32} (B : SB w s h) (hN : w * h = N) (hN64 : N ≤ 64) (hr : ∀ p, p < N → rk p = iI (R p)) (hr2 : ∀ p, p < N → rk2 p = iI (R p)) (hR : ∀ p, p < N → R p < N) (hnb : ∀ p e, p < N → e < 4 → nb (4 * p + e) = iI (nbr w s h p e)) (hg : 0 ≤ g) (hg' : g ≤ 100) {q : Int} (hq0 : 0 ≤ q) (hq : q ≤ 100) (n : Nat) :
    ∀ (fu fu2 j : Nat) (le be : Int), j + n = N + 1 → n < fu → n < fu2 → 0 ≤ le → le ≤ 100000 → ∃ (o1 o2 o3 o4 be' : Int32), mX4_compensated_L49 (iI g) (iI w) (iI h) rk nb (iI q) (iI N) fu (iI j) (iI le) (iI be) = some (o1, o2, be') ∧ mX5_compensated_L38 (iI g) (iI q) (iI w) (iI s) (iI h) (iI N) rk2 fu2 (iI j) (iI le) (iI be) = some (o3, o4, be') := by
  have mq := mul_bd2 (x := q) (y := (N : Int)) (A := 100) (B := 64) (by omega) (by omega)
  induction n with
  | zero =>
    intro fu fu2 j le be hj hf hf2 h0 h1
    obtain ⟨fu, rfl⟩ : ∃ k, fu = k + 1 := ⟨fu - 1, by omega⟩
    obtain ⟨fu2, rfl⟩ : ∃ k, fu2 = k + 1 := ⟨fu2 - 1, by omega⟩
    refine ⟨iI j, iI le, iI j, iI le, iI be, ?_, ?_⟩
    · rw [mX4_compensated_L49, if_pos (by rw [iI_lt (by omega) (by omega) (by omega) (by omega)]; omega)]
    · rw [mX5_compensated_L38, if_pos (by rw [iI_lt (by omega) (by omega) (by omega) (by omega)]; omega)]
  | succ n ih =>
    intro fu fu2 j le be hj hf hf2 h0 h1
    obtain ⟨fu, rfl⟩ : ∃ k, fu = k + 1 := ⟨fu - 1, by omega⟩
    obtain ⟨fu2, rfl⟩ : ∃ k, fu2 = k + 1 := ⟨fu2 - 1, by omega⟩
    have hc := X3_strengthOf (st := (j : Int)) (g := g) (nb := nb) B hN hN64 hr hR hnb (by omega) (by omega) hg hg'
    have hr' := X5_strengthOf (st := (j : Int)) (g := g) (rk := rk2) B hN hN64 hr2 hR (by omega) (by omega) hg hg'
    have sb := Str_bd (I := Ink R (j : Int)) (nb := NBN w s h) hg N
    have ej : iI (j : Int) + 1 = iI ((j + 1 : Nat) : Int) := by rw [iI_1, iI_add]; rfl
    have nm1 : ¬ iI le = -1 := by rw [iI_m1, iI_inj (by omega) (by omega) (by omega) (by omega)]; omega
    rw [mX4_compensated_L49, if_neg (by rw [iI_lt (by omega) (by omega) (by omega) (by omega)]; omega), hc, mX5_compensated_L38, if_neg (by rw [iI_lt (by omega) (by omega) (by omega) (by omega)]; omega), hr']
    simp only [bnd1, iI_mul, iI_sub]
    rw [iI_abs (by omega) (by omega), X5_abs (by omega) (by omega)]
    simp only [nmB]
    dsimp only [jB]
    rw [ej]
    simp only [if_neg nm1]
    by_cases hle : le ≤ (((Str (Ink R (j : Int)) (NBN w s h) g N) - q * (N : Int)).natAbs : Int)
    · have : iI le ≤ iI (((Str (Ink R (j : Int)) (NBN w s h) g N) - q * (N : Int)).natAbs : Int) := (iI_le (by omega) (by omega) (by omega) (by omega)).mpr hle
      rw [if_pos this, if_pos this, if_pos this]
      exact ih fu fu2 (j + 1) le be (by omega) (by omega) (by omega) h0 h1
    · have : ¬ iI le ≤ iI (((Str (Ink R (j : Int)) (NBN w s h) g N) - q * (N : Int)).natAbs : Int) := fun z => hle ((iI_le (by omega) (by omega) (by omega) (by omega)).mp z)
      rw [if_neg this, if_neg this, if_neg this]
      exact ih fu fu2 (j + 1) (((Str (Ink R (j : Int)) (NBN w s h) g N) - q * (N : Int)).natAbs : Int) j (by omega) (by omega) (by omega) (by omega) (by omega)
theorem Str_none {I : Nat → Bool} {nb : Nat → Nat → Nat} {g : Int} (hI : ∀ p, ¬ I p = true) (n : Nat) : Str I nb g n = 0 := by
  induction n with
  | zero => rfl
  | succ n ih =>
    show Str I nb g n + (if I n = true then 100 else cap (g * (cnt (fun e => I (nb n e)) 4 : Nat))) = 0
    have hc : ∀ m, cnt (fun e => I (nb n e)) m = 0 := by
      intro m
      induction m with
      | zero => rfl
      | succ m ih2 => rw [cnt_f (f := fun e => I (nb n e)) (hI _), ih2]
    rw [ih, if_neg (hI n), hc]
    show (0 : Int) + cap (g * 0) = 0
    rw [Int.mul_zero]
    rfl
theorem SX_comp (hk : k < 3) (H : SI x k th v so im ti) {g : Int} (hg0 : 0 ≤ g) (hg1 : g ≤ 100) (a1 : Int32) (vw vs vh vl : Int32) (val rk : Nat → Int32) (Kf : Nat → Option β) (F : Int32 → Option β) :
    (∃ (kk : Nat) (b t : Int32), lq (mxX4_compensated x.pr a1) Kf (bnd1 (mX4_compensated (iI g) x.pr x.w x.h x.ra x.ne a1) F) = Kf kk ∧ mX5_compensated (iI g) vw vs vh vl th v so im val rk (iI k) a1 = some (b, t, vw, vs, vh, vl, val, rk) ∧ ((kk = 1 ∧ t = 2) ∨ (kk = 2 ∧ t = 3))) ∨
    (∃ (o w' s' h' l' : Int32) (val' rk' : Nat → Int32), lq (mxX4_compensated x.pr a1) Kf (bnd1 (mX4_compensated (iI g) x.pr x.w x.h x.ra x.ne a1) F) = F o ∧ mX5_compensated (iI g) vw vs vh vl th v so im val rk (iI k) a1 = some (o, 0, w', s', h', l', val', rk')) := by
  obtain ⟨a, ea, a0, a9, c1, c2, c3⟩ := rng2 (lo := 0) (hi := 100) (a1 := a1) (by omega) (by omega) (by omega) (by omega)
  rw [← iI_0] at c1 c3
  rw [← iI_100] at c2 c3
  have d1 : ¬ (1 : Int32) = 0 := by decide
  have i01 := ite01 (0 ≤ a ∧ a ≤ 100)
  have hcm : mxX4_compensated x.pr a1 = if 0 ≤ a ∧ a ≤ 100 then (if x.pr = 0 then some 2 else none) else some 1 := by
    unfold mxX4_compensated
    dsimp only [jB]
    simp only [c1, c2, if_true, if_neg d1]
    by_cases h1 : a < 0
    · rw [if_pos h1, if_neg (show ¬ (0 ≤ a ∧ a ≤ 100) by omega)]
    · rw [if_neg h1]
      by_cases h2 : 100 < a
      · rw [if_pos h2, if_neg (show ¬ (0 ≤ a ∧ a ≤ 100) by omega)]
      · rw [if_neg h2, if_pos (show 0 ≤ a ∧ a ≤ 100 by omega)]
  have hrm : ∀ z : Int32, mX5_wrong th (iI k) (if 0 ≤ a ∧ a ≤ 100 then 1 else 0) = some z → ¬ z ≤ 0 → mX5_compensated (iI g) vw vs vh vl th v so im val rk (iI k) a1 = some (0, z, vw, vs, vh, vl, val, rk) := by
    intro z hz h1
    unfold mX5_compensated
    rw [c3]
    simp only [bnd1]
    rw [hz]
    simp only []
    rw [if_neg h1]
  rcases wrong3 hk H _ _ i01.1 i01.2 with ⟨hn, e⟩ | ⟨hq, hpr, e⟩ | ⟨hq, hpr, ht, e, a', b', c, d, spot, mid, t, w, s, h, N, V, S⟩
  · left
    rw [if_neg hn] at hcm
    exact ⟨1, 0, 2, by rw [hcm]; rfl, hrm 2 e (by decide), Or.inl ⟨rfl, rfl⟩⟩
  · left
    rw [if_pos hq, if_pos hpr] at hcm
    exact ⟨2, 0, 3, by rw [hcm]; rfl, hrm 3 e (by decide), Or.inr ⟨rfl, rfl⟩⟩
  · right
    have hz : ¬ x.pr = 0 := by rw [hpr]; decide
    have hN := S.N64
    rw [if_pos hq, if_neg hz] at hcm
    obtain ⟨val', rk', y1, y2⟩ := S.grow hk val rk
    obtain ⟨r1, r2, r3, -⟩ := S.rk
    obtain ⟨-, -, -, -, ⟨-, -, -, -, -, -, -, f8, f9, f10⟩, -⟩ := id S
    have mq := mul_bd (x := a) (y := (N : Int)) (A := 100) (B := 64) (by omega) (by omega) (by omega) (by omega)
    have mq0 : 0 ≤ a * (N : Int) := Int.mul_nonneg hq.1 (by omega)
    obtain ⟨o1, o2, o3, o4, be', hc, hr⟩ := comp_both (nb := x.ne) (rk2 := rk') S.B S.area.1 hN r1 (fun p hp => (y2 p hp).2) r2 r3 hg0 hg1 hq.1 hq.2 N FU 999999 1 (a * (N : Int)) 0 (by omega) (by unfold FU; omega) (by omega) mq0 (by omega)
    have hs0 := X5_strengthOf (st := 0) (g := g) (rk := rk') S.B S.area.1 hN (fun p hp => (y2 p hp).2) r2 (by omega) (by omega) hg0 hg1
    rw [Str_none (fun p => by unfold Ink; rw [decide_eq_true_iff]; omega)] at hs0
    have first : mX5_compensated_L38 (iI g) (iI a) (iI w) (iI s) (iI h) (iI N) rk' (999999 + 1) (iI 0) (iI (-1)) (iI 0) = some (o3, o4, be') := by
      rw [mX5_compensated_L38, if_neg (by rw [iI_lt (by omega) (by omega) (by omega) (by omega)]; omega), hs0]
      simp only [bnd1, iI_mul, iI_sub]
      rw [X5_abs (by omega) (by omega)]
      simp only [nmB]
      dsimp only [jB]
      rw [if_pos iI_m1.symm, if_pos iI_m1.symm, iI_1, iI_add]
      have : (((0 : Int) - a * (N : Int)).natAbs : Int) = a * (N : Int) := by omega
      rw [this]
      exact hr
    refine ⟨be', iI w, iI s, iI h, iI N, val', rk', ?_, ?_⟩
    · rw [hcm]
      simp only [lq]
      unfold mX4_compensated
      dsimp only [jB]
      simp only [c1, c2]
      rw [if_neg (by omega), if_neg (by omega)]
      simp only [gz, if_neg hz, if_neg d1]
      rw [S.areaC]
      simp only [bnd1, nmB]
      rw [ea, iI_mul, f8, f10, iI_1, iI_0]
      have hc2' : mX4_compensated_L49 (iI g) (iI w) (iI h) x.ra x.ne (iI a) (iI N) FU (iI 1) (iI (a * (N : Int))) (iI 0) = some (o1, o2, be') := hc
      rw [hc2']
      rfl
    · unfold mX5_compensated
      rw [c3]
      simp only [bnd1]
      rw [e]
      simp only []
      rw [if_pos (by decide), y1]
      simp only [bnd6]
      rw [ea, iI_m1, iI_0]
      have first' : mX5_compensated_L38 (iI g) (iI a) (iI w) (iI s) (iI h) (iI N) rk' FU (iI 0) (iI (-1)) (iI 0) = some (o3, o4, be') := first
      rw [first']
      rfl
end SlotCalls3
