set_option maxHeartbeats 4000000
-- ===== dots: the reference's count; strengths =====
section RefDots
variable {w s h st : Int} {N : Nat} {R : Nat → Nat} {rk : Nat → Int32}
theorem X5_clear (hN64 : N ≤ 64) (m : Nat) : ∀ (fu k : Nat) (rea : Nat → Int32), k + m = N → m < fu → (∀ p, p < k → rea p = iI 0) → ∃ r rea', mX5_layDots_L12 (iI N) fu (iI k) rea = some (r, rea') ∧ ∀ p, p < N → rea' p = iI 0 := by
  induction m with
  | zero =>
    intro fu k rea hm hf hI
    obtain ⟨fu, rfl⟩ : ∃ k, fu = k + 1 := ⟨fu - 1, by omega⟩
    refine ⟨iI k, rea, ?_, fun p hp => hI p (by omega)⟩
    rw [mX5_layDots_L12, if_pos (by rw [iI_le (by omega) (by omega) (by omega) (by omega)]; omega)]
  | succ m ih =>
    intro fu k rea hm hf hI
    obtain ⟨fu, rfl⟩ : ∃ k, fu = k + 1 := ⟨fu - 1, by omega⟩
    obtain ⟨r, rea', e1, e2⟩ := ih fu (k + 1) (upd rea k (iI 0)) (by omega) (by omega) (fun p hp => by
      by_cases hpk : p = k
      · rw [hpk, upd_same]
      · rw [upd_ne hpk]; exact hI p (by omega))
    refine ⟨r, rea', ?_, e2⟩
    rw [mX5_layDots_L12, if_neg (by rw [iI_le (by omega) (by omega) (by omega) (by omega)]; omega), gdI (by omega) (by omega) (by omega), clk (by omega), nar_b0]
    simp only [nmB]
    rw [iI_1, iI_add, ← e1]
    rfl
theorem X5_L35 (B : SB w s h) (hN : w * h = N) (hN64 : N ≤ 64) (hr : ∀ p, p < N → rk p = iI (R p)) (hR : ∀ p, p < N → R p < N) (hst0 : -1000 ≤ st) (hst1 : st ≤ 1000) (m : Nat) :
    ∀ (fu k : Nat) (met : Nat → Bool) (wn jt jx jy : Int32) (rea wx wy wt : Nat → Int32), k + m = N → m < fu → (∀ p, p < N → (met p = true ↔ MM (Ink R st) (NBN w s h) k p)) → (∀ p, p < N → rea p = iI (if met p = true then 1 else 0)) →
    ∃ r wn' jt' jx' jy' rea' wx' wy' wt', mX5_layDots_L35 (iI w) (iI s) (iI h) (iI N) rk (iI st) fu (iI k) wn jx jy jt (iI (cnt (stt (Ink R st) (NBN w s h)) k)) (iI (mjo (Ink R st) (NBN w s h) k)) rea wx wy wt = some (r, wn', jx', jy', jt', iI (cnt (stt (Ink R st) (NBN w s h)) N), iI (mjo (Ink R st) (NBN w s h) N), rea', wx', wy', wt') := by
  induction m with
  | zero =>
    intro fu k met wn jt jx jy rea wx wy wt hm hf hmet hrea
    obtain ⟨fu, rfl⟩ : ∃ k, fu = k + 1 := ⟨fu - 1, by omega⟩
    have : k = N := by omega
    subst this
    refine ⟨iI k, wn, jt, jx, jy, rea, wx, wy, wt, ?_⟩
    rw [mX5_layDots_L35, if_pos (by rw [iI_le (by omega) (by omega) (by omega) (by omega)]; omega)]
  | succ m ih =>
    intro fu k met wn jt jx jy rea wx wy wt hm hf hmet hrea
    obtain ⟨fu, rfl⟩ : ∃ k, fu = k + 1 := ⟨fu - 1, by omega⟩
    have hk : k < N := by omega
    have hRk := hR k hk
    have ek : iI (k : Int) + 1 = iI ((k + 1 : Nat) : Int) := by rw [iI_1, iI_add]; rfl
    have same : ¬ stt (Ink R st) (NBN w s h) k = true → (∀ p, MM (Ink R st) (NBN w s h) (k + 1) p ↔ MM (Ink R st) (NBN w s h) k p) → ∃ r wn' jt' jx' jy' rea' wx' wy' wt', mX5_layDots_L35 (iI w) (iI s) (iI h) (iI N) rk (iI st) fu (iI ((k + 1 : Nat) : Int)) wn jx jy jt (iI (cnt (stt (Ink R st) (NBN w s h)) k)) (iI (mjo (Ink R st) (NBN w s h) k)) rea wx wy wt = some (r, wn', jx', jy', jt', iI (cnt (stt (Ink R st) (NBN w s h)) N), iI (mjo (Ink R st) (NBN w s h) N), rea', wx', wy', wt') := by
      intro hns hMM
      have := ih fu (k + 1) met wn jt jx jy rea wx wy wt (by omega) (by omega) (fun p hp => (hmet p hp).trans (hMM p).symm) hrea
      have em : mjo (Ink R st) (NBN w s h) (k + 1) = mjo (Ink R st) (NBN w s h) k := if_neg hns
      rw [cnt_f hns, em] at this
      exact this
    have g1 : ∀ {β : Type} {E : Option β}, gd (iI k) 64 E = E := gdI (by omega) (by omega) (by omega)
    have hle : (iI st ≤ iI (R k : Int)) ↔ ¬ Ink R st k = true := by
      rw [iI_le (by omega) (by omega) (by omega) (by omega)]
      unfold Ink
      rw [decide_eq_true_iff]
      omega
    rw [mX5_layDots_L35, if_neg (by rw [iI_le (by omega) (by omega) (by omega) (by omega)]; omega), clk (show k < 2147483648 by omega), hr k hk, hrea k hk]
    simp only [g1, nmB]
    rw [ek]
    by_cases hI : Ink R st k = true
    · rw [if_neg (fun z => (hle.mp z) hI)]
      by_cases hmk : met k = true
      · have hMk := (hmet k hk).mp hmk
        rw [if_pos hmk, if_neg (by rw [iI_eq0 (by omega) (by omega)]; omega)]
        exact same (fun q => (stt_iff.mp q).2 hMk) (fun p => MM.succ_in hMk)
      · have hMk : ¬ MM (Ink R st) (NBN w s h) k k := fun q => hmk ((hmet k hk).mpr q)
        rw [if_neg hmk, if_pos iI_0.symm]
        obtain ⟨wn', jt', jx', jy', rea', wx', wy', wt', met', t', e1, e2, e3, e4, e5⟩ := X5_follow B hN hN64 hr hR hst0 hst1 (MM.shut (NBN_NB B hN)) hk hI hMk hmet jx jy hrea wx wy wt
        have ht := e3.uniq Jt_spec
        subst ht
        have hst : stt (Ink R st) (NBN w s h) k = true := stt_iff.mpr ⟨hI, hMk⟩
        obtain ⟨r, wn2, jt2, jx2, jy2, rea2, wx2, wy2, wt2, g⟩ := ih fu (k + 1) met' wn' jt' jx' jy' rea' wx' wy' wt' (by omega) (by omega) (fun p hp => (e5 p hp).trans (MM.succ_of hI).symm) e4
        refine ⟨r, wn2, jt2, jx2, jy2, rea2, wx2, wy2, wt2, ?_⟩
        rw [e1]
        simp only [bnd9]
        rw [← g, cnt_t hst, iI_1, iI_add]
        have jb := @Jt_bd (Ink R st) (NBN w s h) k
        have mb := @mjo_bd (Ink R st) (NBN w s h) k
        have em : mjo (Ink R st) (NBN w s h) (k + 1) = if mjo (Ink R st) (NBN w s h) k < Jt (Ink R st) (NBN w s h) k then Jt (Ink R st) (NBN w s h) k else mjo (Ink R st) (NBN w s h) k := by
          show (if stt (Ink R st) (NBN w s h) k = true then (if mjo (Ink R st) (NBN w s h) k < Jt (Ink R st) (NBN w s h) k then Jt (Ink R st) (NBN w s h) k else mjo (Ink R st) (NBN w s h) k) else mjo (Ink R st) (NBN w s h) k) = _
          rw [if_pos hst]
        rw [em, e2]
        by_cases hc : Jt (Ink R st) (NBN w s h) k ≤ mjo (Ink R st) (NBN w s h) k
        · rw [if_pos ((iI_le (by omega) (by omega) (by omega) (by omega)).mpr hc), if_neg (by omega)]
          rfl
        · rw [if_neg (fun z => hc ((iI_le (by omega) (by omega) (by omega) (by omega)).mp z)), if_pos (by omega)]
          rfl
    · rw [if_pos (hle.mpr hI)]
      exact same (fun q => hI (stt_iff.mp q).1) (fun p => MM.succ_no hI)
theorem X5_layDots (B : SB w s h) (hN : w * h = N) (hN64 : N ≤ 64) (hr : ∀ p, p < N → rk p = iI (R p)) (hR : ∀ p, p < N → R p < N) (hst0 : -1000 ≤ st) (hst1 : st ≤ 1000) (wn jx jy jt : Int32) (rea wx wy wt : Nat → Int32) :
    ∃ wn' jx' jy' jt' rea' wx' wy' wt', mX5_layDots (iI w) (iI s) (iI h) (iI N) wn jx jy jt rk rea wx wy wt (iI st) = some (wn', jx', jy', jt', iI (cnt (stt (Ink R st) (NBN w s h)) N), iI (mjo (Ink R st) (NBN w s h) N), rea', wx', wy', wt') := by
  obtain ⟨r0, rea0, a1, a2⟩ := X5_clear hN64 N FU 0 rea (by omega) (by unfold FU; omega) (fun p hp => by omega)
  obtain ⟨r, wn', jt', jx', jy', rea', wx', wy', wt', e⟩ := X5_L35 B hN hN64 hr hR hst0 hst1 N FU 0 (fun _ => false) wn jt jx jy rea0 wx wy wt (by omega) (by unfold FU; omega) (fun p hp => ⟨fun q => absurd q (by decide), fun q => by obtain ⟨q, q1, _⟩ := q; omega⟩) (fun p hp => by rw [a2 p (by omega)]; rfl)
  refine ⟨wn', jx', jy', jt', rea', wx', wy', wt', ?_⟩
  rw [iI_n0] at a1
  have e' : mX5_layDots_L35 (iI w) (iI s) (iI h) (iI N) rk (iI st) FU 0 wn jx jy jt 0 0 rea0 wx wy wt = some (r, wn', jx', jy', jt', iI (cnt (stt (Ink R st) (NBN w s h)) N), iI (mjo (Ink R st) (NBN w s h) N), rea', wx', wy', wt') := e
  unfold mX5_layDots
  rw [a1]
  simp only [bnd2]
  rw [e']
  rfl
end RefDots
-- strengths
def cap (x : Int) : Int := if x < 100 then x else 100
def Str (I : Nat → Bool) (nb : Nat → Nat → Nat) (g : Int) : Nat → Int
  | 0 => 0
  | p + 1 => Str I nb g p + (if I p = true then 100 else cap (g * (cnt (fun e => I (nb p e)) 4 : Nat)))
theorem cap_bd {x : Int} (h0 : 0 ≤ x) : 0 ≤ cap x ∧ cap x ≤ 100 := by unfold cap; split <;> omega
theorem Str_bd {I : Nat → Bool} {nb : Nat → Nat → Nat} {g : Int} (hg : 0 ≤ g) (n : Nat) : 0 ≤ Str I nb g n ∧ Str I nb g n ≤ 100 * n := by
  induction n with
  | zero => exact ⟨by show (0 : Int) ≤ 0; omega, by show (0 : Int) ≤ _; omega⟩
  | succ n ih =>
    have := cap_bd (x := g * (cnt (fun e => I (nb n e)) 4 : Nat)) (Int.mul_nonneg hg (by omega))
    show 0 ≤ Str I nb g n + (if I n = true then 100 else cap (g * (cnt (fun e => I (nb n e)) 4 : Nat))) ∧ Str I nb g n + (if I n = true then 100 else cap (g * (cnt (fun e => I (nb n e)) 4 : Nat))) ≤ 100 * ((n + 1 : Nat) : Int)
    split <;> omega
section Strengths
variable {w s h st g : Int} {N : Nat} {R : Nat → Nat} {rk nb : Nat → Int32}
theorem X3_inkedNb_L (B : SB w s h) (hN : w * h = N) (hN64 : N ≤ 64) (hr : ∀ p, p < N → rk p = iI (R p)) (hR : ∀ p, p < N → R p < N) (hnb : ∀ p e, p < N → e < 4 → nb (4 * p + e) = iI (nbr w s h p e)) (hst0 : -1000 ≤ st) (hst1 : st ≤ 1000) {p : Nat} (hp : p < N) (m : Nat) :
    ∀ (fu e : Nat), e + m = 4 → m < fu → ∃ r, mX3_inkedNeighbors_L5 rk nb (iI p) (iI st) fu (iI e) (iI (cnt (fun e => Ink R st (NBN w s h p e)) e)) = some (r, iI (cnt (fun e => Ink R st (NBN w s h p e)) 4)) := by
  induction m with
  | zero =>
    intro fu e hm hf
    obtain ⟨fu, rfl⟩ : ∃ k, fu = k + 1 := ⟨fu - 1, by omega⟩
    have : e = 4 := by omega
    subst this
    refine ⟨iI (4 : Nat), ?_⟩
    rw [mX3_inkedNeighbors_L5, iI_4, if_pos (by rw [iI_le (by omega) (by omega) (by omega) (by omega)]; omega)]
  | succ m ih =>
    intro fu e hm hf
    obtain ⟨fu, rfl⟩ : ∃ k, fu = k + 1 := ⟨fu - 1, by omega⟩
    obtain ⟨r, g⟩ := ih fu (e + 1) (by omega) (by omega)
    refine ⟨r, ?_⟩
    obtain ⟨d1, -⟩ := NBN_NB B hN p e hp (by omega)
    have d3 := NBN_eq B hN p e
    have ej : (4 * (p : Int) + (e : Int)).toNat = 4 * p + e := by omega
    rw [mX3_inkedNeighbors_L5, iI_4, if_neg (by rw [iI_le (by omega) (by omega) (by omega) (by omega)]; omega)]
    unfold mX3_neighbor
    rw [iI_4, iI_mul, iI_add, X4_atI (by omega) (by omega) (by omega), ej, hnb p e hp (by omega), d3]
    simp only [bnd1]
    rw [X3_inksPlace hN64 hr hR hst0 hst1 d1]
    simp only [nmB]
    rw [← g]
    by_cases hI : Ink R st (NBN w s h p e) = true
    · rw [if_pos hI, if_neg (by decide), cnt_t (f := fun e => Ink R st (NBN w s h p e)) hI, iI_1, iI_add, iI_add]
      rfl
    · rw [if_neg hI, if_pos rfl, cnt_f (f := fun e => Ink R st (NBN w s h p e)) hI, iI_1, iI_add]
      rfl
theorem X3_strength_L (B : SB w s h) (hN : w * h = N) (hN64 : N ≤ 64) (hr : ∀ p, p < N → rk p = iI (R p)) (hR : ∀ p, p < N → R p < N) (hnb : ∀ p e, p < N → e < 4 → nb (4 * p + e) = iI (nbr w s h p e)) (hst0 : -1000 ≤ st) (hst1 : st ≤ 1000) (hg : 0 ≤ g) (hg' : g ≤ 100) (m : Nat) :
    ∀ (fu k : Nat), k + m = N → m < fu → ∃ r, mX3_strengthOf_L5 (iI w) (iI h) rk nb (iI st) (iI g) fu (iI k) (iI (Str (Ink R st) (NBN w s h) g k)) = some (r, iI (Str (Ink R st) (NBN w s h) g N)) := by
  induction m with
  | zero =>
    intro fu k hm hf
    obtain ⟨fu, rfl⟩ : ∃ k, fu = k + 1 := ⟨fu - 1, by omega⟩
    have : k = N := by omega
    subst this
    refine ⟨iI k, ?_⟩
    rw [mX3_strengthOf_L5, X3_area, hN]
    simp only [bnd1]
    rw [if_pos (by rw [iI_le (by omega) (by omega) (by omega) (by omega)]; omega)]
  | succ m ih =>
    intro fu k hm hf
    obtain ⟨fu, rfl⟩ : ∃ k, fu = k + 1 := ⟨fu - 1, by omega⟩
    obtain ⟨r, e⟩ := ih fu (k + 1) (by omega) (by omega)
    refine ⟨r, ?_⟩
    have hk : k < N := by omega
    have hc := cnt_le (f := fun e => Ink R st (NBN w s h k e)) 4
    have hgm := mul_bd (x := g) (y := (cnt (fun e => Ink R st (NBN w s h k e)) 4 : Nat)) (A := 100) (B := 4) (by omega) (by omega) (by omega) (by omega)
    have eS : Str (Ink R st) (NBN w s h) g (k + 1) = Str (Ink R st) (NBN w s h) g k + (if Ink R st k = true then 100 else cap (g * (cnt (fun e => Ink R st (NBN w s h k e)) 4 : Nat))) := rfl
    rw [mX3_strengthOf_L5, X3_area, hN]
    simp only [bnd1]
    rw [if_neg (by rw [iI_le (by omega) (by omega) (by omega) (by omega)]; omega), X3_inksPlace hN64 hr hR hst0 hst1 hk]
    simp only [nmB]
    rw [← e, eS]
    by_cases hI : Ink R st k = true
    · rw [if_pos hI, if_neg (by decide), if_pos hI, iI_1, iI_add, iI_100, iI_add]
      rfl
    · obtain ⟨r1, q1⟩ := X3_inkedNb_L B hN hN64 hr hR hnb hst0 hst1 hk 4 FU 0 (by omega) (by unfold FU; omega)
      have q1' : mX3_inkedNeighbors_L5 rk nb (iI k) (iI st) FU 0 0 = some (r1, iI (cnt (fun e => Ink R st (NBN w s h k e)) 4)) := q1
      rw [if_neg hI, if_pos rfl, if_neg hI]
      unfold mX3_inkedNeighbors
      rw [q1']
      simp only [bnd2, iI_mul, iI_100, iI_lt (x := g * (cnt (fun e => Ink R st (NBN w s h k e)) 4 : Nat)) (y := 100) (by omega) (by omega) (by omega) (by omega)]
      unfold cap
      rw [iI_1, iI_add]
      split
      · rw [iI_add]; rfl
      · rw [iI_add]; rfl
theorem X3_strengthOf (B : SB w s h) (hN : w * h = N) (hN64 : N ≤ 64) (hr : ∀ p, p < N → rk p = iI (R p)) (hR : ∀ p, p < N → R p < N) (hnb : ∀ p e, p < N → e < 4 → nb (4 * p + e) = iI (nbr w s h p e)) (hst0 : -1000 ≤ st) (hst1 : st ≤ 1000) (hg : 0 ≤ g) (hg' : g ≤ 100) :
    mX3_strengthOf (iI w) (iI h) rk nb (iI st) (iI g) = some (iI (Str (Ink R st) (NBN w s h) g N)) := by
  obtain ⟨r, e⟩ := X3_strength_L B hN hN64 hr hR hnb hst0 hst1 hg hg' N FU 0 (by omega) (by unfold FU; omega)
  have e' : mX3_strengthOf_L5 (iI w) (iI h) rk nb (iI st) (iI g) FU 0 0 = some (r, iI (Str (Ink R st) (NBN w s h) g N)) := e
  unfold mX3_strengthOf
  rw [e']
  rfl
theorem cnt_sg2 {f : Nat → Bool} : cnt (fun e => f (sg2 e)) 4 = cnt f 4 := by
  show 0 + (if f (sg2 0) = true then 1 else 0) + (if f (sg2 1) = true then 1 else 0) + (if f (sg2 2) = true then 1 else 0) + (if f (sg2 3) = true then 1 else 0) = 0 + (if f 0 = true then 1 else 0) + (if f 1 = true then 1 else 0) + (if f 2 = true then 1 else 0) + (if f 3 = true then 1 else 0)
  have e0 : sg2 0 = 0 := rfl
  have e1 : sg2 1 = 2 := rfl
  have e2 : sg2 2 = 1 := rfl
  have e3 : sg2 3 = 3 := rfl
  rw [e0, e1, e2, e3]
  omega
theorem X5_strength_L34 (B : SB w s h) (hN : w * h = N) (hN64 : N ≤ 64) (hr : ∀ p, p < N → rk p = iI (R p)) (hR : ∀ p, p < N → R p < N) (hst0 : -1000 ≤ st) (hst1 : st ≤ 1000) {p : Nat} (hp : p < N) (m : Nat) :
    ∀ (fu e : Nat), e + m = 4 → m < fu → ∃ r, mX5_strengthOf_L34 (iI w) (iI s) (iI h) rk (iI st) (iI ((p : Int) % w)) (iI ((p : Int) / w)) fu (iI e) (iI (cnt (fun e => Ink R st (NBN w s h p (sg2 e))) e)) = some (r, iI (cnt (fun e => Ink R st (NBN w s h p (sg2 e))) 4)) := by
  obtain ⟨p1, p2, p3, p4, p5⟩ := place_xy B.1 B.2.2.2.2.1 hN hp
  have hw := B.2.1
  have hh := B.2.2.2.2.2
  induction m with
  | zero =>
    intro fu e hm hf
    obtain ⟨fu, rfl⟩ : ∃ k, fu = k + 1 := ⟨fu - 1, by omega⟩
    have : e = 4 := by omega
    subst this
    refine ⟨iI (4 : Nat), ?_⟩
    rw [mX5_strengthOf_L34, iI_4, if_pos (by rw [iI_le (by omega) (by omega) (by omega) (by omega)]; omega)]
  | succ m ih =>
    intro fu e hm hf
    obtain ⟨fu, rfl⟩ : ∃ k, fu = k + 1 := ⟨fu - 1, by omega⟩
    obtain ⟨r, g⟩ := ih fu (e + 1) (by omega) (by omega)
    refine ⟨r, ?_⟩
    have he4 : e < 4 := by omega
    obtain ⟨d1, -⟩ := NBN_NB B hN p (sg2 e) hp (sg2_lt he4)
    have d3 := NBN_eq B hN p (sg2 e)
    have hbx := dx_bd (sg2 e)
    have hby := dy_bd (sg2 e)
    have hRp := hR _ d1
    have hle : (iI st ≤ iI (R (NBN w s h p (sg2 e)) : Int)) ↔ ¬ Ink R st (NBN w s h p (sg2 e)) = true := by
      rw [iI_le (by omega) (by omega) (by omega) (by omega)]
      unfold Ink
      rw [decide_eq_true_iff]
      omega
    have d3' : num w s h ((p : Int) % w + dx (sg2 e)) ((p : Int) / w + dy (sg2 e)) = (NBN w s h p (sg2 e) : Int) := d3
    rw [mX5_strengthOf_L34, iI_4, if_neg (by rw [iI_le (by omega) (by omega) (by omega) (by omega)]; omega), jB_dx he4, jB_dy he4, iI_add, iI_add, X5_placeAt B (by omega) (by omega) (by omega) (by omega), d3']
    simp only [bnd1]
    rw [gdI (by omega) (by omega) (by omega), clk (by omega), hr _ d1]
    simp only [nmB]
    rw [← g]
    by_cases hI : Ink R st (NBN w s h p (sg2 e)) = true
    · rw [if_neg (fun z => (hle.mp z) hI), cnt_t (f := fun e => Ink R st (NBN w s h p (sg2 e))) hI, iI_1, iI_add, iI_add]
      rfl
    · rw [if_pos (hle.mpr hI), cnt_f (f := fun e => Ink R st (NBN w s h p (sg2 e))) hI, iI_1, iI_0, iI_add, iI_add, Int.add_zero]
      rfl
theorem X5_strength_L (B : SB w s h) (hN : w * h = N) (hN64 : N ≤ 64) (hr : ∀ p, p < N → rk p = iI (R p)) (hR : ∀ p, p < N → R p < N) (hst0 : -1000 ≤ st) (hst1 : st ≤ 1000) (hg : 0 ≤ g) (hg' : g ≤ 100) (m : Nat) :
    ∀ (fu k : Nat), k + m = N → m < fu → ∃ r, mX5_strengthOf_L4 (iI g) (iI w) (iI s) (iI h) (iI N) rk (iI st) fu (iI k) (iI (Str (Ink R st) (NBN w s h) g k)) = some (r, iI (Str (Ink R st) (NBN w s h) g N)) := by
  induction m with
  | zero =>
    intro fu k hm hf
    obtain ⟨fu, rfl⟩ : ∃ k, fu = k + 1 := ⟨fu - 1, by omega⟩
    have : k = N := by omega
    subst this
    refine ⟨iI k, ?_⟩
    rw [mX5_strengthOf_L4, if_pos (by rw [iI_le (by omega) (by omega) (by omega) (by omega)]; omega)]
  | succ m ih =>
    intro fu k hm hf
    obtain ⟨fu, rfl⟩ : ∃ k, fu = k + 1 := ⟨fu - 1, by omega⟩
    obtain ⟨r, e⟩ := ih fu (k + 1) (by omega) (by omega)
    refine ⟨r, ?_⟩
    have hk : k < N := by omega
    obtain ⟨p1, p2, p3, p4, p5⟩ := place_xy B.1 B.2.2.2.2.1 hN hk
    have hw := B.2.1
    have hw' := B.1
    have hc := cnt_le (f := fun e => Ink R st (NBN w s h k e)) 4
    have hgm := mul_bd (x := g) (y := (cnt (fun e => Ink R st (NBN w s h k e)) 4 : Nat)) (A := 100) (B := 4) (by omega) (by omega) (by omega) (by omega)
    have eS : Str (Ink R st) (NBN w s h) g (k + 1) = Str (Ink R st) (NBN w s h) g k + (if Ink R st k = true then 100 else cap (g * (cnt (fun e => Ink R st (NBN w s h k e)) 4 : Nat))) := rfl
    have hw0 : ¬ iI w = 0 := by rw [iI_eq0 (by omega) (by omega)]; omega
    have hRk := hR k hk
    have hle : (iI st ≤ iI (R k : Int)) ↔ ¬ Ink R st k = true := by
      rw [iI_le (by omega) (by omega) (by omega) (by omega)]
      unfold Ink
      rw [decide_eq_true_iff]
      omega
    obtain ⟨r1, q1⟩ := X5_strength_L34 B hN hN64 hr hR hst0 hst1 hk 4 FU 0 (by omega) (by unfold FU; omega)
    have q1' : mX5_strengthOf_L34 (iI w) (iI s) (iI h) rk (iI st) (iI ((k : Int) % w)) (iI ((k : Int) / w)) FU 0 0 = some (r1, iI (cnt (fun e => Ink R st (NBN w s h k e)) 4)) := by
      have : cnt (fun e => Ink R st (NBN w s h k (sg2 e))) 4 = cnt (fun e => Ink R st (NBN w s h k e)) 4 := cnt_sg2 (f := fun e => Ink R st (NBN w s h k e))
      rw [← this]
      exact q1
    rw [mX5_strengthOf_L4, if_neg (by rw [iI_le (by omega) (by omega) (by omega) (by omega)]; omega)]
    simp only [gz, if_neg hw0, nmB]
    rw [iI_tdiv (by omega) (by omega) (by omega) (by omega), Int.tdiv_eq_ediv_of_nonneg (by omega), iI_mul, iI_sub, p5, q1']
    simp only [bnd2]
    rw [iI_mul, iI_100, jB_min (u := g * (cnt (fun e => Ink R st (NBN w s h k e)) 4 : Nat)) (v := 100) (by omega) (by omega) (by omega) (by omega)]
    rw [gdI (by omega) (by omega) (by omega), clk (by omega), hr k hk, ← e, eS]
    by_cases hI : Ink R st k = true
    · rw [if_neg (fun z => (hle.mp z) hI), if_pos hI, iI_1, iI_add, iI_add]
      rfl
    · rw [if_pos (hle.mpr hI), if_neg hI, iI_1, iI_add, iI_add]
      rfl
theorem X5_strengthOf (B : SB w s h) (hN : w * h = N) (hN64 : N ≤ 64) (hr : ∀ p, p < N → rk p = iI (R p)) (hR : ∀ p, p < N → R p < N) (hst0 : -1000 ≤ st) (hst1 : st ≤ 1000) (hg : 0 ≤ g) (hg' : g ≤ 100) :
    mX5_strengthOf (iI g) (iI w) (iI s) (iI h) (iI N) rk (iI st) = some (iI (Str (Ink R st) (NBN w s h) g N)) := by
  obtain ⟨r, e⟩ := X5_strength_L B hN hN64 hr hR hst0 hst1 hg hg' N FU 0 (by omega) (by unfold FU; omega)
  have e' : mX5_strengthOf_L4 (iI g) (iI w) (iI s) (iI h) (iI N) rk (iI st) FU 0 0 = some (r, iI (Str (Ink R st) (NBN w s h) g N)) := e
  unfold mX5_strengthOf
  rw [e']
  rfl
end Strengths
-- ===== periods: what two lattices have in common =====
theorem gcd_pos' {a b : Int} (ha : 0 < a) : 0 < (Int.gcd a b : Int) := by
  have := Int.gcd_pos_of_ne_zero_left b (show a ≠ 0 by omega)
  omega
theorem gcd_le' {a b : Int} (ha : 0 < a) : (Int.gcd a b : Int) ≤ a := Int.gcd_le_left b ha
theorem lcm_dvd' {a b Y : Int} (ha : 0 < a) (h1 : a ∣ Y) (h2 : b ∣ Y) : a / (Int.gcd a b : Int) * b ∣ Y := by
  obtain ⟨u, v, e⟩ := bez a b
  obtain ⟨p, hp⟩ := Int.gcd_dvd_left a b
  have hg := gcd_pos' (b := b) ha
  obtain ⟨x, hx⟩ := h1
  obtain ⟨y, hy⟩ := h2
  generalize (Int.gcd a b : Int) = g at *
  have hq : a / g = p := by rw [hp, Int.mul_ediv_cancel_left _ (by omega)]
  rw [hq]
  refine ⟨u * y + v * x, ?_⟩
  have : g * (Y - p * b * (u * y + v * x)) = 0 := by grind
  rcases Int.mul_eq_zero.mp this with q | q <;> omega
theorem dvd_of_gcd {g D m : Int} (hg : 0 < g) (h : g ∣ m * D) : g / (Int.gcd g D : Int) ∣ m := by
  obtain ⟨u, v, e⟩ := bez g D
  obtain ⟨T, hT⟩ := Int.gcd_dvd_left g D
  have he := gcd_pos' (b := D) hg
  obtain ⟨x, hx⟩ := h
  generalize (Int.gcd g D : Int) = d at *
  have hq : g / d = T := by rw [hT, Int.mul_ediv_cancel_left _ (by omega)]
  rw [hq]
  refine ⟨m * u + v * x, ?_⟩
  have : d * (m - T * (m * u + v * x)) = 0 := by grind
  rcases Int.mul_eq_zero.mp this with q | q <;> omega
theorem meet_HB {w1 s1 h1 w2 s2 h2 T R W H x A1 A2 : Int} (p1 : 0 < w1) (p2 : 0 < h1) (p3 : 0 < w2) (p4 : 0 < h2)
    (eR : R = h1 / (Int.gcd h1 h2 : Int) * h2) (eA1 : A1 = R / h1 * s1) (eA2 : A2 = R / h2 * s2) (eT : T = (Int.gcd w1 w2 : Int) / (Int.gcd (Int.gcd w1 w2 : Int) (A1 - A2) : Int)) (eW : W = w1 / (Int.gcd w1 w2 : Int) * w2) (eH : H = T * R)
    (hx0 : 0 ≤ x) (hx1 : x < W) (c1 : w1 ∣ x - T * A1) (c2 : w2 ∣ x - T * A2) : HB (fun X Y => InL w1 s1 h1 X Y ∧ InL w2 s2 h2 X Y) W x H := by
  have hg := gcd_pos' (b := w2) p1
  have hk := gcd_pos' (b := h2) p2
  obtain ⟨a, ea⟩ := Int.gcd_dvd_left w1 w2
  obtain ⟨b, eb⟩ := Int.gcd_dvd_right w1 w2
  obtain ⟨c, ec⟩ := Int.gcd_dvd_left h1 h2
  obtain ⟨d, ed⟩ := Int.gcd_dvd_right h1 h2
  have eR1 : R = h1 * d := by
    rw [eR]
    generalize (Int.gcd h1 h2 : Int) = k at *
    have : h1 / k = c := by rw [ec, Int.mul_ediv_cancel_left _ (by omega)]
    rw [this, ed, ec]; grind
  have eR2 : R = h2 * c := by rw [eR1]; grind
  have fA1 : A1 = d * s1 := by rw [eA1, eR1, Int.mul_ediv_cancel_left _ (by omega)]
  have fA2 : A2 = c * s2 := by rw [eA2, eR2, Int.mul_ediv_cancel_left _ (by omega)]
  have eW1 : W = w1 * b := by
    rw [eW]
    generalize (Int.gcd w1 w2 : Int) = k at *
    have : w1 / k = a := by rw [ea, Int.mul_ediv_cancel_left _ (by omega)]
    rw [this, eb, ea]; grind
  have eW2 : W = w2 * a := by rw [eW1]; grind
  have hT0 : 0 < T := by
    rw [eT]
    exact Int.ediv_pos_of_pos_of_dvd hg (by omega) (Int.gcd_dvd_left _ _)
  have hc0 : 0 < c := by
    have h1 : 0 < c * (Int.gcd h1 h2 : Int) := by rw [Int.mul_comm]; omega
    exact Int.pos_of_mul_pos_left h1 hk
  have hR0 : 0 < R := by rw [eR2]; exact Int.mul_pos p4 hc0
  refine ⟨by omega, hx0, hx1, by rw [eH]; exact Int.mul_pos hT0 hR0, fun X Y => ⟨?_, ?_⟩⟩
  · rintro ⟨J, e1, e2⟩
    refine ⟨⟨J * T * d, by rw [e1, eH, eR1]; grind, ?_⟩, ⟨J * T * c, by rw [e1, eH, eR2]; grind, ?_⟩⟩
    · have : X - J * T * d * s1 = (X - J * x) + J * (x - T * A1) := by rw [fA1]; grind
      rw [this]
      exact Int.dvd_add (Int.dvd_trans ⟨b, eW1⟩ e2) (Int.dvd_mul_of_dvd_right c1)
    · have : X - J * T * c * s2 = (X - J * x) + J * (x - T * A2) := by rw [fA2]; grind
      rw [this]
      exact Int.dvd_add (Int.dvd_trans ⟨a, eW2⟩ e2) (Int.dvd_mul_of_dvd_right c2)
  · rintro ⟨⟨j1, y1, x1⟩, ⟨j2, y2, x2⟩⟩
    obtain ⟨m, em⟩ : R ∣ Y := by rw [eR]; exact lcm_dvd' p2 ⟨j1, by rw [y1, Int.mul_comm]⟩ ⟨j2, by rw [y2, Int.mul_comm]⟩
    have q1 : j1 = m * d := by
      have : h1 * (j1 - m * d) = 0 := by rw [eR1] at em; grind
      rcases Int.mul_eq_zero.mp this with q | q <;> omega
    have q2 : j2 = m * c := by
      have : h2 * (j2 - m * c) = 0 := by rw [eR2] at em; grind
      rcases Int.mul_eq_zero.mp this with q | q <;> omega
    have z1 : w1 ∣ X - m * A1 := by rw [fA1]; have : X - m * (d * s1) = X - j1 * s1 := by rw [q1]; grind
                                    rw [this]; exact x1
    have z2 : w2 ∣ X - m * A2 := by rw [fA2]; have : X - m * (c * s2) = X - j2 * s2 := by rw [q2]; grind
                                    rw [this]; exact x2
    have z3 : (Int.gcd w1 w2 : Int) ∣ m * (A1 - A2) := by
      have : m * (A1 - A2) = (X - m * A2) - (X - m * A1) := by grind
      rw [this]
      exact Int.dvd_sub (Int.dvd_trans (Int.gcd_dvd_right _ _) z2) (Int.dvd_trans (Int.gcd_dvd_left _ _) z1)
    obtain ⟨J, eJ⟩ : T ∣ m := by rw [eT]; exact dvd_of_gcd hg z3
    refine ⟨J, by rw [em, eH, eJ]; grind, ?_⟩
    rw [eW]
    refine lcm_dvd' p1 ?_ ?_
    · have : X - J * x = (X - m * A1) - J * (x - T * A1) := by rw [eJ]; grind
      rw [this]; exact Int.dvd_sub z1 (Int.dvd_mul_of_dvd_right c1)
    · have : X - J * x = (X - m * A2) - J * (x - T * A2) := by rw [eJ]; grind
      rw [this]; exact Int.dvd_sub z2 (Int.dvd_mul_of_dvd_right c2)
theorem crt {a b c : Int} (ha : 0 < a) (hb : 0 < b) (h : (Int.gcd a b : Int) ∣ c) : ∃ k : Nat, (k : Int) < b / (Int.gcd a b : Int) ∧ b ∣ (k : Int) * a - c := by
  obtain ⟨u, v, e⟩ := bez a b
  obtain ⟨p, hp⟩ := Int.gcd_dvd_left a b
  obtain ⟨q, hq⟩ := Int.gcd_dvd_right a b
  have hg := gcd_pos' (b := b) ha
  obtain ⟨x, hx⟩ := h
  generalize (Int.gcd a b : Int) = g at *
  have hbq : b / g = q := by rw [hq, Int.mul_ediv_cancel_left _ (by omega)]
  have hq0 : 0 < q := by
    have h1 : 0 < q * g := by rw [Int.mul_comm]; omega
    exact Int.pos_of_mul_pos_left h1 hg
  have m0 := Int.emod_nonneg (x * u) (show q ≠ 0 by omega)
  have m1 := Int.emod_lt_of_pos (x * u) hq0
  have m2 := Int.mul_ediv_add_emod (x * u) q
  refine ⟨((x * u) % q).toNat, by rw [hbq]; omega, ?_⟩
  have ek : ((((x * u) % q).toNat : Nat) : Int) = x * u - q * (x * u / q) := by omega
  rw [ek]
  refine ⟨-(x * v) - p * (x * u / q), ?_⟩
  rw [hx]
  generalize x * u / q = z at *
  grind
theorem dvd_T {w1 w2 D : Int} (h : 0 < w1) : (Int.gcd w1 w2 : Int) ∣ (Int.gcd w1 w2 : Int) / (Int.gcd (Int.gcd w1 w2 : Int) D : Int) * D := by
  have hg := gcd_pos' (b := w2) h
  obtain ⟨T, hT⟩ := Int.gcd_dvd_left (Int.gcd w1 w2 : Int) D
  obtain ⟨E, hE⟩ := Int.gcd_dvd_right (Int.gcd w1 w2 : Int) D
  have he := gcd_pos' (b := D) hg
  generalize (Int.gcd w1 w2 : Int) = g at *
  generalize (Int.gcd g D : Int) = d at *
  have : g / d = T := by rw [hT, Int.mul_ediv_cancel_left _ (by omega)]
  rw [this]
  exact ⟨E, by rw [hE, hT]; grind⟩
theorem gcd_emod' {g x : Int} : Int.gcd g (x % g) = Int.gcd g x := by
  apply Nat.dvd_antisymm
  · refine Int.dvd_gcd (Int.gcd_dvd_left _ _) ?_
    have h1 := Int.gcd_dvd_left g (x % g)
    have h2 := Int.gcd_dvd_right g (x % g)
    have h3 := Int.mul_ediv_add_emod x g
    have h4 := Int.dvd_add (Int.dvd_mul_of_dvd_left (c := x / g) h1) h2
    rwa [h3] at h4
  · refine Int.dvd_gcd (Int.gcd_dvd_left _ _) ?_
    have h1 := Int.gcd_dvd_left g x
    have h2 := Int.gcd_dvd_right g x
    have h3 := Int.mul_ediv_add_emod x g
    have h4 : x % g = x - g * (x / g) := by omega
    rw [h4]
    exact Int.dvd_sub h2 (Int.dvd_mul_of_dvd_left h1)
