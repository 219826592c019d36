set_option maxHeartbeats 4000000
-- ===== dots: what both count =====
def MM (I : Nat → Bool) (nb : Nat → Nat → Nat) (p r : Nat) : Prop := ∃ q, q < p ∧ I q = true ∧ ∃ l, WK I nb q l r
noncomputable def stt (I : Nat → Bool) (nb : Nat → Nat → Nat) (q : Nat) : Bool := @decide (I q = true ∧ ¬ MM I nb q q) (Classical.propDecidable _)
noncomputable def Jt (I : Nat → Bool) (nb : Nat → Nat → Nat) (q : Nat) : Int := @ite _ (RK0 I nb q) (Classical.propDecidable _) 0 (@ite _ (RK1 I nb q) (Classical.propDecidable _) 1 2)
noncomputable def mjo (I : Nat → Bool) (nb : Nat → Nat → Nat) : Nat → Int
  | 0 => 0
  | p + 1 => if stt I nb p = true then (if mjo I nb p < Jt I nb p then Jt I nb p else mjo I nb p) else mjo I nb p
theorem stt_iff {I : Nat → Bool} {nb : Nat → Nat → Nat} {q : Nat} : stt I nb q = true ↔ I q = true ∧ ¬ MM I nb q q := by
  unfold stt
  exact @decide_eq_true_iff _ (Classical.propDecidable _)
theorem Jt_spec {I : Nat → Bool} {nb : Nat → Nat → Nat} {q : Nat} : JT I nb q (Jt I nb q) := by
  unfold Jt JT
  by_cases h0 : RK0 I nb q
  · rw [if_pos h0]; exact Or.inl ⟨rfl, h0⟩
  · rw [if_neg h0]
    by_cases h1 : RK1 I nb q
    · rw [if_pos h1]; exact Or.inr (Or.inl ⟨rfl, h0, h1⟩)
    · rw [if_neg h1]; exact Or.inr (Or.inr ⟨rfl, h1⟩)
theorem Jt_bd {I : Nat → Bool} {nb : Nat → Nat → Nat} {q : Nat} : 0 ≤ Jt I nb q ∧ Jt I nb q ≤ 2 := by
  have := @Jt_spec I nb q
  rcases this with ⟨h, -⟩ | ⟨h, -⟩ | ⟨h, -⟩ <;> omega
theorem mjo_bd {I : Nat → Bool} {nb : Nat → Nat → Nat} (p : Nat) : 0 ≤ mjo I nb p ∧ mjo I nb p ≤ 2 := by
  induction p with
  | zero => exact ⟨by show (0 : Int) ≤ 0; omega, by show (0 : Int) ≤ 2; omega⟩
  | succ p ih =>
    have := @Jt_bd I nb p
    show 0 ≤ (if stt I nb p = true then (if mjo I nb p < Jt I nb p then Jt I nb p else mjo I nb p) else mjo I nb p) ∧ (if stt I nb p = true then (if mjo I nb p < Jt I nb p then Jt I nb p else mjo I nb p) else mjo I nb p) ≤ 2
    split
    · split <;> omega
    · exact ih
theorem MM.shut {I : Nat → Bool} {nb : Nat → Nat → Nat} {N p : Nat} (hnb : NB nb N) : ∀ r f, r < N → I r = true → f < 4 → I (nb r f) = true → MM I nb p (nb r f) → MM I nb p r := by
  intro r f hr hI hf _ ⟨q, q1, q2, l, w⟩
  exact ⟨q, q1, q2, l ++ [opp f], WK.app l w ⟨opp_lt f, by rw [(hnb r f hr hf).2]; exact hI, (hnb r f hr hf).2⟩⟩
theorem MM.succ_of {I : Nat → Bool} {nb : Nat → Nat → Nat} {p r : Nat} (hI : I p = true) : MM I nb (p + 1) r ↔ MM I nb p r ∨ ∃ l, WK I nb p l r := by
  constructor
  · rintro ⟨q, q1, q2, l, w⟩
    by_cases h : q = p
    · subst h; exact Or.inr ⟨l, w⟩
    · exact Or.inl ⟨q, by omega, q2, l, w⟩
  · rintro (⟨q, q1, q2, l, w⟩ | ⟨l, w⟩)
    · exact ⟨q, by omega, q2, l, w⟩
    · exact ⟨p, by omega, hI, l, w⟩
theorem MM.succ_no {I : Nat → Bool} {nb : Nat → Nat → Nat} {p r : Nat} (hI : ¬ I p = true) : MM I nb (p + 1) r ↔ MM I nb p r := by
  constructor
  · rintro ⟨q, q1, q2, l, w⟩
    by_cases h : q = p
    · subst h; exact absurd q2 hI
    · exact ⟨q, by omega, q2, l, w⟩
  · rintro ⟨q, q1, q2, l, w⟩
    exact ⟨q, by omega, q2, l, w⟩
theorem MM.succ_in {I : Nat → Bool} {nb : Nat → Nat → Nat} {p r : Nat} (hM : MM I nb p p) : MM I nb (p + 1) r ↔ MM I nb p r := by
  constructor
  · rintro ⟨q, q1, q2, l, w⟩
    by_cases h : q = p
    · subst h
      obtain ⟨q', a1, a2, l', w'⟩ := hM
      exact ⟨q', a1, a2, l' ++ l, WK.app l' w' w⟩
    · exact ⟨q, by omega, q2, l, w⟩
  · rintro ⟨q, q1, q2, l, w⟩
    exact ⟨q, by omega, q2, l, w⟩
section ClassDots
variable {w s h st : Int} {N : Nat} {R : Nat → Nat} {rk nb : Nat → Int32}
theorem X0_L20 {s0 : Nat} {M0 : Nat → Prop} (B : SB w s h) (hN : w * h = N) (hN64 : N ≤ 64) (hr : ∀ p, p < N → rk p = iI (R p)) (hR : ∀ p, p < N → R p < N) (hnb : ∀ p e, p < N → e < 4 → nb (4 * p + e) = iI (nbr w s h p e)) (hst0 : -1000 ≤ st) (hst1 : st ≤ 1000)
    (hM : ∀ p f, p < N → Ink R st p = true → f < 4 → Ink R st (NBN w s h p f) = true → M0 (NBN w s h p f) → M0 p) (m : Nat) :
    ∀ (fu k n : Nat) (q : Nat → Nat) (met : Nat → Bool) (px py : Nat → Int) (t sx sy : Int) (wn jt jx jy : Int32) (rea wx wy wt : Nat → Int32), N ≤ k + m → m < fu → k ≤ n → px s0 = 0 → py s0 = 0 →
    BI (Ink R st) (NBN w s h) (fun e => e) N s0 M0 k 0 n q met px py t sx sy → CR N n q met px py t sx sy wn jt jx jy rea wx wy wt →
    ∃ r n' q' met' px' py' t' sx' sy' wn' jt' jx' jy' rea' wx' wy' wt', mX0_walkThrough_L20 rk nb (iI st) fu (iI k) wn jt jx jy rea wx wy wt = some (r, wn', jt', jx', jy', rea', wx', wy', wt') ∧
      BI (Ink R st) (NBN w s h) (fun e => e) N s0 M0 n' 0 n' q' met' px' py' t' sx' sy' ∧ CR N n' q' met' px' py' t' sx' sy' wn' jt' jx' jy' rea' wx' wy' wt' := by
  induction m with
  | zero =>
    intro fu k n q met px py t sx sy wn jt jx jy rea wx wy wt hm hf hk hx0 hy0 H C
    obtain ⟨fu, rfl⟩ : ∃ k, fu = k + 1 := ⟨fu - 1, by omega⟩
    have hroom := H.room
    have : k = n := by omega
    subst this
    refine ⟨iI k, k, q, met, px, py, t, sx, sy, wn, jt, jx, jy, rea, wx, wy, wt, ?_, H, C⟩
    rw [mX0_walkThrough_L20]
    split
    · rfl
    · rw [if_pos (by rw [C.1, iI_le (by omega) (by omega) (by omega) (by omega)]; omega)]
  | succ m ih =>
    intro fu k n q met px py t sx sy wn jt jx jy rea wx wy wt hm hf hk hx0 hy0 H C
    obtain ⟨fu, rfl⟩ : ∃ k, fu = k + 1 := ⟨fu - 1, by omega⟩
    have hroom := H.room
    by_cases hkn : k = n
    · subst hkn
      refine ⟨iI k, k, q, met, px, py, t, sx, sy, wn, jt, jx, jy, rea, wx, wy, wt, ?_, H, C⟩
      rw [mX0_walkThrough_L20]
      split
      · rfl
      · rw [if_pos (by rw [C.1, iI_le (by omega) (by omega) (by omega) (by omega)]; omega)]
    · have hlt : k < n := by omega
      obtain ⟨r0, n1, q1, met1, px1, py1, t1, sx1, sy1, wn1, jt1, jx1, jy1, rea1, wx1, wy1, wt1, e1, e2, e3, e4, e5, e6⟩ := X0_L50 B hN hN64 hr hR hnb hst0 hst1 hM (pl := q k) 4 FU 0 n q met px py t sx sy wn jt jx jy rea wx wy wt (by omega) (by unfold FU; omega) hlt rfl hx0 hy0 H C
      obtain ⟨r, n2, q2, met2, px2, py2, t2, sx2, sy2, wn2, jt2, jx2, jy2, rea2, wx2, wy2, wt2, f1, f2, f3⟩ := ih fu (k + 1) n1 q1 met1 px1 py1 t1 sx1 sy1 wn1 jt1 jx1 jy1 rea1 wx1 wy1 wt1 (by omega) (by omega) (by omega) e3 e4 (e5.turn (fun f hf => ⟨f, hf, rfl⟩)) e6
      refine ⟨r, n2, q2, met2, px2, py2, t2, sx2, sy2, wn2, jt2, jx2, jy2, rea2, wx2, wy2, wt2, ?_, f2, f3⟩
      rw [iI_n0] at e1
      rw [mX0_walkThrough_L20, if_neg (by rw [iI_lit 64, iI_le (by omega) (by omega) (by omega) (by omega)]; omega), if_neg (by rw [C.1, iI_le (by omega) (by omega) (by omega) (by omega)]; omega), X4_atI (by omega) (by omega) (by omega), Int.toNat_natCast, (C.2.2.2.2 k hlt).2.2]
      simp only [bnd1]
      rw [e1]
      simp only [bnd9, nmB]
      rw [iI_1, iI_add, ← f1]
      rfl
theorem X0_walk {s0 : Nat} {M0 : Nat → Prop} {met : Nat → Bool} (B : SB w s h) (hN : w * h = N) (hN64 : N ≤ 64) (hr : ∀ p, p < N → rk p = iI (R p)) (hR : ∀ p, p < N → R p < N) (hnb : ∀ p e, p < N → e < 4 → nb (4 * p + e) = iI (nbr w s h p e)) (hst0 : -1000 ≤ st) (hst1 : st ≤ 1000)
    (hM : ∀ p f, p < N → Ink R st p = true → f < 4 → Ink R st (NBN w s h p f) = true → M0 (NBN w s h p f) → M0 p) (hs : s0 < N) (hI : Ink R st s0 = true) (hM0 : ¬ M0 s0) (hm : ∀ p, p < N → (met p = true ↔ M0 p)) (jx jy : Int32) {rea : Nat → Int32} (hrea : ∀ p, p < N → rea p = iI (if met p = true then 1 else 0)) (wx wy wt : Nat → Int32) :
    ∃ (wn' jt' jx' jy' : Int32) (rea' wx' wy' wt' : Nat → Int32) (met' : Nat → Bool) (t' : Int), mX0_walkThrough jx jy rea wx wy wt rk nb (iI st) (iI s0) = some (wn', jt', jx', jy', rea', wx', wy', wt') ∧ jt' = iI t' ∧ JT (Ink R st) (NBN w s h) s0 t' ∧ (∀ p, p < N → rea' p = iI (if met' p = true then 1 else 0)) ∧ (∀ p, p < N → (met' p = true ↔ M0 p ∨ ∃ l, WK (Ink R st) (NBN w s h) s0 l p)) := by
  have hns : ¬ met s0 = true := fun q => hM0 ((hm s0 hs).mp q)
  have H0 := BI.first (I := Ink R st) (nb := NBN w s h) (sg := fun e => e) (N := N) (M0 := M0) (q := fun _ => s0) (met := met) (px := fun _ => 0) (py := fun _ => 0) (p := 0) (jx := 0) (jy := 0) hs hI hM0 hm rfl rfl rfl
  obtain ⟨r, n', q', met', px', py', t', sx', sy', wn', jt', jx', jy', rea', wx', wy', wt', e1, e2, e3⟩ := X0_L20 (s0 := s0) B hN hN64 hr hR hnb hst0 hst1 hM N FU 0 1 (fun _ => s0) (upg met s0 true) (fun _ => 0) (fun _ => 0) 0 0 0 (iI (1 : Nat)) (iI 0) jx jy (upd rea s0 1) (upd wx s0 0) (upd wy s0 0) (upd wt 0 (iI s0)) (by omega) (by unfold FU; omega) (by omega) rfl rfl H0 (by
    refine ⟨rfl, rfl, fun q => absurd rfl q, ?_, ?_⟩
    · intro p hp
      by_cases hps : p = s0
      · rw [hps, upd_same, upg_same, if_pos rfl]; exact iI_1
      · rw [upd_ne hps, upg_ne hps]; exact hrea p hp
    · intro i hi
      have : i = 0 := by omega
      subst this
      rw [upd_same, upd_same, upd_same]
      exact ⟨iI_0, iI_0, rfl⟩)
  obtain ⟨l1, l2⟩ := e2.last (NBN_NB B hN)
  refine ⟨wn', jt', jx', jy', rea', wx', wy', wt', met', t', ?_, e3.2.1, l2, e3.2.2.2.1, l1⟩
  unfold mX0_walkThrough mX0_reach
  rw [X4_atI (by omega) (by omega) (by omega), Int.toNat_natCast, hrea s0 hs, if_neg hns]
  simp only [bnd1]
  rw [if_neg (by rw [iI_1, iI_inj (by omega) (by omega) (by omega) (by omega)]; omega), X4_putI (by omega) (by omega) (by omega)]
  simp only []
  rw [X4_putI (by omega) (by omega) (by omega)]
  simp only []
  rw [X4_putI (by omega) (by omega) (by omega)]
  simp only []
  have p0 : mX4_put 64 wt 0 (iI s0) = some (upd wt 0 (iI s0)) := by
    have := X4_putI (n := 64) (f := wt) (i := 0) (x := iI s0) (by omega) (by omega) (by omega)
    rw [← iI_0] at this
    exact this
  rw [p0]
  simp only [nmB, bnd8, Int.toNat_natCast]
  have z1 : (0 : Int32) + 1 = iI ((1 : Nat) : Int) := by decide +kernel
  rw [z1]
  have e1' : mX0_walkThrough_L20 rk nb (iI st) FU 0 (iI ((1 : Nat) : Int)) 0 jx jy (upd rea s0 1) (upd wx s0 0) (upd wy s0 0) (upd wt 0 (iI s0)) = some (r, wn', jt', jx', jy', rea', wx', wy', wt') := by
    rw [iI_n0, ← iI_0] at e1
    exact e1
  rw [e1']
  rfl
theorem X0_clear (m : Nat) : ∀ (fu k : Nat) (rea : Nat → Int32), k + m = 64 → m < fu → (∀ p, p < k → rea p = iI 0) → ∃ r rea', mX0_examine_L12 fu (iI k) rea = some (r, rea') ∧ ∀ p, p < 64 → rea' p = iI 0 := by
  induction m with
  | zero =>
    intro fu k rea hm hf hI
    obtain ⟨fu, rfl⟩ : ∃ k, fu = k + 1 := ⟨fu - 1, by omega⟩
    refine ⟨iI k, rea, ?_, fun p hp => hI p (by omega)⟩
    rw [mX0_examine_L12, if_pos (by rw [iI_lit 64, iI_le (by omega) (by omega) (by omega) (by omega)]; omega)]
  | succ m ih =>
    intro fu k rea hm hf hI
    obtain ⟨fu, rfl⟩ : ∃ k, fu = k + 1 := ⟨fu - 1, by omega⟩
    obtain ⟨r, rea', e1, e2⟩ := ih fu (k + 1) (upd rea k (iI 0)) (by omega) (by omega) (fun p hp => by
      by_cases hpk : p = k
      · rw [hpk, upd_same]
      · rw [upd_ne hpk]; exact hI p (by omega))
    refine ⟨r, rea', ?_, e2⟩
    rw [mX0_examine_L12, if_neg (by rw [iI_lit 64, iI_le (by omega) (by omega) (by omega) (by omega)]; omega), X4_putI (by omega) (by omega) (by omega)]
    simp only [bnd1, nmB, Int.toNat_natCast]
    rw [iI_1, iI_add, iI_0, ← e1]
    rfl
theorem X0_L35 (B : SB w s h) (hN : w * h = N) (hN64 : N ≤ 64) (hr : ∀ p, p < N → rk p = iI (R p)) (hR : ∀ p, p < N → R p < N) (hnb : ∀ p e, p < N → e < 4 → nb (4 * p + e) = iI (nbr w s h p e)) (hst0 : -1000 ≤ st) (hst1 : st ≤ 1000) (m : Nat) :
    ∀ (fu k : Nat) (met : Nat → Bool) (wn jt jx jy : Int32) (rea wx wy wt : Nat → Int32), k + m = N → m < fu → (∀ p, p < N → (met p = true ↔ MM (Ink R st) (NBN w s h) k p)) → (∀ p, p < N → rea p = iI (if met p = true then 1 else 0)) →
    ∃ r wn' jt' jx' jy' rea' wx' wy' wt', mX0_examine_L35 (iI w) (iI h) rk nb (iI st) fu (iI k) wn (iI (cnt (stt (Ink R st) (NBN w s h)) k)) (iI (mjo (Ink R st) (NBN w s h) k)) jt jx jy rea wx wy wt = some (r, wn', iI (cnt (stt (Ink R st) (NBN w s h)) N), iI (mjo (Ink R st) (NBN w s h) N), jt', jx', jy', rea', wx', wy', wt') := by
  induction m with
  | zero =>
    intro fu k met wn jt jx jy rea wx wy wt hm hf hmet hrea
    obtain ⟨fu, rfl⟩ : ∃ k, fu = k + 1 := ⟨fu - 1, by omega⟩
    have : k = N := by omega
    subst this
    refine ⟨iI k, wn, jt, jx, jy, rea, wx, wy, wt, ?_⟩
    rw [mX0_examine_L35, X3_area, hN]
    simp only [bnd1]
    rw [if_pos (by rw [iI_le (by omega) (by omega) (by omega) (by omega)]; omega)]
  | succ m ih =>
    intro fu k met wn jt jx jy rea wx wy wt hm hf hmet hrea
    obtain ⟨fu, rfl⟩ : ∃ k, fu = k + 1 := ⟨fu - 1, by omega⟩
    have hk : k < N := by omega
    have ek : iI (k : Int) + 1 = iI ((k + 1 : Nat) : Int) := by rw [iI_1, iI_add]; rfl
    have same : ¬ stt (Ink R st) (NBN w s h) k = true → (∀ p, MM (Ink R st) (NBN w s h) (k + 1) p ↔ MM (Ink R st) (NBN w s h) k p) → ∃ r wn' jt' jx' jy' rea' wx' wy' wt', mX0_examine_L35 (iI w) (iI h) rk nb (iI st) fu (iI ((k + 1 : Nat) : Int)) wn (iI (cnt (stt (Ink R st) (NBN w s h)) k)) (iI (mjo (Ink R st) (NBN w s h) k)) jt jx jy rea wx wy wt = some (r, wn', iI (cnt (stt (Ink R st) (NBN w s h)) N), iI (mjo (Ink R st) (NBN w s h) N), jt', jx', jy', rea', wx', wy', wt') := by
      intro hns hMM
      have := ih fu (k + 1) met wn jt jx jy rea wx wy wt (by omega) (by omega) (fun p hp => (hmet p hp).trans (hMM p).symm) hrea
      have em : mjo (Ink R st) (NBN w s h) (k + 1) = mjo (Ink R st) (NBN w s h) k := if_neg hns
      rw [cnt_f hns, em] at this
      exact this
    rw [mX0_examine_L35, X3_area, hN]
    simp only [bnd1]
    rw [if_neg (by rw [iI_le (by omega) (by omega) (by omega) (by omega)]; omega), X3_inksPlace hN64 hr hR hst0 hst1 hk]
    simp only [nmB]
    by_cases hI : Ink R st k = true
    · rw [if_pos hI, if_neg (by decide), X4_atI (by omega) (by omega) (by omega), Int.toNat_natCast, hrea k hk]
      simp only []
      by_cases hmk : met k = true
      · have hMk := (hmet k hk).mp hmk
        rw [if_pos hmk, if_neg (by rw [iI_eq0 (by omega) (by omega)]; omega), ek]
        exact same (fun q => (stt_iff.mp q).2 hMk) (fun p => MM.succ_in hMk)
      · have hMk : ¬ MM (Ink R st) (NBN w s h) k k := fun q => hmk ((hmet k hk).mpr q)
        rw [if_neg hmk, if_pos iI_0.symm]
        obtain ⟨wn', jt', jx', jy', rea', wx', wy', wt', met', t', e1, e2, e3, e4, e5⟩ := X0_walk B hN hN64 hr hR hnb hst0 hst1 (MM.shut (NBN_NB B hN)) hk hI hMk hmet jx jy hrea wx wy wt
        have ht := e3.uniq Jt_spec
        subst ht
        have hst : stt (Ink R st) (NBN w s h) k = true := stt_iff.mpr ⟨hI, hMk⟩
        obtain ⟨r, wn2, jt2, jx2, jy2, rea2, wx2, wy2, wt2, g⟩ := ih fu (k + 1) met' wn' jt' jx' jy' rea' wx' wy' wt' (by omega) (by omega) (fun p hp => (e5 p hp).trans (MM.succ_of hI).symm) e4
        refine ⟨r, wn2, jt2, jx2, jy2, rea2, wx2, wy2, wt2, ?_⟩
        rw [e1]
        simp only [bnd8]
        rw [ek, ← g, cnt_t hst, iI_1, iI_add]
        have jb := @Jt_bd (Ink R st) (NBN w s h) k
        have mb := @mjo_bd (Ink R st) (NBN w s h) k
        have em : (if iI (mjo (Ink R st) (NBN w s h) k) < jt' then jt' else iI (mjo (Ink R st) (NBN w s h) k)) = iI (mjo (Ink R st) (NBN w s h) (k + 1)) := by
          rw [e2]
          show _ = iI (if stt (Ink R st) (NBN w s h) k = true then (if mjo (Ink R st) (NBN w s h) k < Jt (Ink R st) (NBN w s h) k then Jt (Ink R st) (NBN w s h) k else mjo (Ink R st) (NBN w s h) k) else mjo (Ink R st) (NBN w s h) k)
          rw [if_pos hst]
          simp only [iI_lt (x := mjo (Ink R st) (NBN w s h) k) (y := Jt (Ink R st) (NBN w s h) k) (by omega) (by omega) (by omega) (by omega)]
          split <;> rfl
        rw [em]
        rfl
    · rw [if_neg hI, if_pos rfl, ek]
      exact same (fun q => hI (stt_iff.mp q).1) (fun p => MM.succ_no hI)
theorem X0_examine (B : SB w s h) (hN : w * h = N) (hN64 : N ≤ 64) (hr : ∀ p, p < N → rk p = iI (R p)) (hR : ∀ p, p < N → R p < N) (hnb : ∀ p e, p < N → e < 4 → nb (4 * p + e) = iI (nbr w s h p e)) (hst0 : -1000 ≤ st) (hst1 : st ≤ 1000) (wn jt jx jy : Int32) (rea wx wy wt : Nat → Int32) :
    ∃ wn' jt' jx' jy' rea' wx' wy' wt', mX0_examine wn jt jx jy rea wx wy wt (iI w) (iI h) rk nb (iI st) = some (wn', iI (cnt (stt (Ink R st) (NBN w s h)) N), iI (mjo (Ink R st) (NBN w s h) N), jt', jx', jy', rea', wx', wy', wt') := by
  obtain ⟨r0, rea0, a1, a2⟩ := X0_clear 64 FU 0 rea (by omega) (by unfold FU; omega) (fun p hp => by omega)
  obtain ⟨r, wn', jt', jx', jy', rea', wx', wy', wt', e⟩ := X0_L35 B hN hN64 hr hR hnb hst0 hst1 N FU 0 (fun _ => false) wn jt jx jy rea0 wx wy wt (by omega) (by unfold FU; omega) (fun p hp => ⟨fun q => absurd q (by decide), fun q => by obtain ⟨q, q1, _⟩ := q; omega⟩) (fun p hp => by rw [a2 p (by omega)]; rfl)
  refine ⟨wn', jt', jx', jy', rea', wx', wy', wt', ?_⟩
  rw [iI_n0] at a1
  have e' : mX0_examine_L35 (iI w) (iI h) rk nb (iI st) FU 0 wn 0 0 jt jx jy rea0 wx wy wt = some (r, wn', iI (cnt (stt (Ink R st) (NBN w s h)) N), iI (mjo (Ink R st) (NBN w s h) N), jt', jx', jy', rea', wx', wy', wt') := e
  unfold mX0_examine
  rw [a1]
  simp only [bnd2]
  rw [e']
  rfl
end ClassDots
-- ===== dots: the reference's walk =====
def sg2 (e : Nat) : Nat := if e = 1 then 2 else if e = 2 then 1 else e
theorem sg2_lt {e : Nat} (h : e < 4) : sg2 e < 4 := by unfold sg2; split <;> (try split) <;> omega
theorem sg2_on (f : Nat) (h : f < 4) : ∃ e, e < 4 ∧ sg2 e = f := by
  refine ⟨sg2 f, sg2_lt h, ?_⟩
  have : f = 0 ∨ f = 1 ∨ f = 2 ∨ f = 3 := by omega
  rcases this with rfl | rfl | rfl | rfl <;> decide
theorem jB_dx {α : Type} {F : Int32 → α} {e : Nat} (h : e < 4) : jB F (fun K => if iI (e : Int) = 0 then K 1 else if iI (e : Int) = 1 then K (-1) else K 0) = F (iI (dx (sg2 e))) := by
  have : e = 0 ∨ e = 1 ∨ e = 2 ∨ e = 3 := by omega
  have d0 : iI ((0 : Nat) : Int) = 0 := by decide +kernel
  have d1 : ¬ iI ((1 : Nat) : Int) = 0 := by decide +kernel
  have d1' : iI ((1 : Nat) : Int) = 1 := by decide +kernel
  have d2 : ¬ iI ((2 : Nat) : Int) = 0 := by decide +kernel
  have d2' : ¬ iI ((2 : Nat) : Int) = 1 := by decide +kernel
  have d3 : ¬ iI ((3 : Nat) : Int) = 0 := by decide +kernel
  have d3' : ¬ iI ((3 : Nat) : Int) = 1 := by decide +kernel
  rcases this with rfl | rfl | rfl | rfl <;> dsimp only [jB]
  · rw [if_pos d0]; congr 1
  · rw [if_neg d1, if_pos d1']; congr 1
  · rw [if_neg d2, if_neg d2']; congr 1
  · rw [if_neg d3, if_neg d3']; congr 1
theorem jB_dy {α : Type} {F : Int32 → α} {e : Nat} (h : e < 4) : jB F (fun K => if iI (e : Int) = 2 then K 1 else if iI (e : Int) = 3 then K (-1) else K 0) = F (iI (dy (sg2 e))) := by
  have : e = 0 ∨ e = 1 ∨ e = 2 ∨ e = 3 := by omega
  have d0 : ¬ iI ((0 : Nat) : Int) = 2 := by decide +kernel
  have d0' : ¬ iI ((0 : Nat) : Int) = 3 := by decide +kernel
  have d1 : ¬ iI ((1 : Nat) : Int) = 2 := by decide +kernel
  have d1' : ¬ iI ((1 : Nat) : Int) = 3 := by decide +kernel
  have d2 : iI ((2 : Nat) : Int) = 2 := by decide +kernel
  have d3 : ¬ iI ((3 : Nat) : Int) = 2 := by decide +kernel
  have d3' : iI ((3 : Nat) : Int) = 3 := by decide +kernel
  rcases this with rfl | rfl | rfl | rfl <;> dsimp only [jB]
  · rw [if_neg d0, if_neg d0']; congr 1
  · rw [if_neg d1, if_neg d1']; congr 1
  · rw [if_pos d2]; congr 1
  · rw [if_neg d3, if_pos d3']; congr 1
theorem nar_b1 : vp_nar .boolean 1 = iI 1 := by decide +kernel
theorem nar_b0 : vp_nar .boolean 0 = iI 0 := by decide +kernel
section RefWalk
variable {w s h st : Int} {N : Nat} {R : Nat → Nat} {rk : Nat → Int32}
theorem X5_meet {x y : Int} {n p : Nat} (B : SB w s h) (hN64 : N ≤ 64) (hx0 : -1000 ≤ x) (hx : x ≤ 1000) (hy0 : -1000 ≤ y) (hy : y ≤ 1000) (hp : num w s h x y = p) (hpN : p < N) (hn : n < N) (rea wx wy wt : Nat → Int32) :
    mX5_meet (iI w) (iI s) (iI h) (iI n) rea wx wy wt (iI x) (iI y) = some (iI ((n + 1 : Nat) : Int), upd rea p (iI 1), upd wx p (iI x), upd wy p (iI y), upd wt n (iI p)) := by
  unfold mX5_meet
  rw [X5_placeAt B (by omega) (by omega) (by omega) (by omega), hp]
  have g1 : ∀ {β : Type} {E : Option β}, gd (iI p) 64 E = E := gdI (by omega) (by omega) (by omega)
  have g2 : ∀ {β : Type} {E : Option β}, gd (iI n) 64 E = E := gdI (by omega) (by omega) (by omega)
  simp only [bnd1, g1, g2, nmB]
  rw [clk (show p < 2147483648 by omega), clk (show n < 2147483648 by omega), nar_b1]
  have : iI (n : Int) + 1 = iI ((n + 1 : Nat) : Int) := by rw [iI_1, iI_add]; rfl
  rw [this]
theorem X5_L65 {s0 : Nat} {M0 : Nat → Prop} (B : SB w s h) (hN : w * h = N) (hN64 : N ≤ 64) (hr : ∀ p, p < N → rk p = iI (R p)) (hR : ∀ p, p < N → R p < N) (hst0 : -1000 ≤ st) (hst1 : st ≤ 1000)
    (hM : ∀ p f, p < N → Ink R st p = true → f < 4 → Ink R st (NBN w s h p f) = true → M0 (NBN w s h p f) → M0 p) {k : Nat} {pl : Nat} {x0 y0 cx cy : Int} (hx0 : 0 ≤ x0 ∧ x0 ≤ 64) (hy0 : 0 ≤ y0 ∧ y0 ≤ 64) (m : Nat) :
    ∀ (fu e n : Nat) (q : Nat → Nat) (met : Nat → Bool) (px py : Nat → Int) (t sx sy : Int) (wn jt jx jy : Int32) (rea wx wy wt : Nat → Int32), e + m = 4 → m < fu → k < n → q k = pl → px pl = cx → py pl = cy → px s0 = x0 → py s0 = y0 → (∀ i, i < n → num w s h (px (q i)) (py (q i)) = q i) →
    BI (Ink R st) (NBN w s h) sg2 N s0 M0 k e n q met px py t sx sy → CR N n q met px py t sx sy wn jt jx jy rea wx wy wt →
    ∃ r n' q' met' px' py' t' sx' sy' wn' jt' jx' jy' rea' wx' wy' wt', mX5_follow_L65 (iI w) (iI s) (iI h) rk (iI st) (iI cx) (iI cy) fu (iI e) wn jx jy jt rea wx wy wt = some (r, wn', jx', jy', jt', rea', wx', wy', wt') ∧ k < n' ∧ px' s0 = x0 ∧ py' s0 = y0 ∧ (∀ i, i < n' → num w s h (px' (q' i)) (py' (q' i)) = q' i) ∧
      BI (Ink R st) (NBN w s h) sg2 N s0 M0 k 4 n' q' met' px' py' t' sx' sy' ∧ CR N n' q' met' px' py' t' sx' sy' wn' jt' jx' jy' rea' wx' wy' wt' := by
  have NBp := NBN_NB B hN
  induction m with
  | zero =>
    intro fu e n q met px py t sx sy wn jt jx jy rea wx wy wt hm hf hk hpl hcx hcy hxs hys hnum H C
    obtain ⟨fu, rfl⟩ : ∃ k, fu = k + 1 := ⟨fu - 1, by omega⟩
    have : e = 4 := by omega
    subst this
    refine ⟨iI (4 : Nat), n, q, met, px, py, t, sx, sy, wn, jt, jx, jy, rea, wx, wy, wt, ?_, hk, hxs, hys, hnum, H, C⟩
    rw [mX5_follow_L65, iI_4, if_pos (by rw [iI_le (by omega) (by omega) (by omega) (by omega)]; omega)]
  | succ m ih =>
    intro fu e n q met px py t sx sy wn jt jx jy rea wx wy wt hm hf hk hpl hcx hcy hxs hys hnum H C
    obtain ⟨fu, rfl⟩ : ∃ k, fu = k + 1 := ⟨fu - 1, by omega⟩
    have HH := H
    obtain ⟨a1, a2, a3, a4, a5, a6, a7, a8⟩ := H
    obtain ⟨c1, c2, c3, c4, c5⟩ := C
    have hroom := HH.room
    have he4 : e < 4 := by omega
    have hsg := sg2_lt he4
    have b1 := (a2 k hk).1
    rw [hpl] at b1
    obtain ⟨d1, d2⟩ := NBp pl (sg2 e) b1 hsg
    have d3 := NBN_eq B hN pl (sg2 e)
    have hbx := dx_bd (sg2 e)
    have hby := dy_bd (sg2 e)
    have hk6 := a6 k hk
    rw [hpl, hxs, hys, hcx, hcy] at hk6
    have hnk := hnum k hk
    rw [hpl, hcx, hcy] at hnk
    have hnx := (nbr_at (e := sg2 e) B hN b1 hnk).trans d3
    generalize hp' : NBN w s h pl (sg2 e) = p' at *
    have hRp := hR p' d1
    have g1 : ∀ {β : Type} {E : Option β}, gd (iI p') 64 E = E := gdI (by omega) (by omega) (by omega)
    rw [mX5_follow_L65, iI_4, if_neg (by rw [iI_le (by omega) (by omega) (by omega) (by omega)]; omega), jB_dx he4]
    simp only [nmB]
    rw [jB_dy he4, iI_add, iI_add, X5_placeAt B (by omega) (by omega) (by omega) (by omega), hnx]
    simp only [bnd1, g1]
    rw [clk (show p' < 2147483648 by omega), hr p' d1, c4 p' d1]
    have en : iI (e : Int) + 1 = iI ((e + 1 : Nat) : Int) := by rw [iI_1, iI_add]; rfl
    have hle : (iI st ≤ iI (R p' : Int)) ↔ ¬ Ink R st p' = true := by
      rw [iI_le (by omega) (by omega) (by omega) (by omega)]
      unfold Ink
      rw [decide_eq_true_iff]
      omega
    rw [en]
    by_cases hI : Ink R st p' = true
    · rw [if_neg (fun z => (hle.mp z) hI)]
      by_cases hmet : met p' = true
      · rw [if_pos hmet, if_neg (by rw [iI_eq0 (by omega) (by omega)]; omega)]
        obtain ⟨j, j1, j2⟩ := HH.inQueue NBp hM hk (by exact hsg) (by rw [hpl, hp']; exact hI) (by rw [hpl, hp']; exact hmet)
        rw [hpl, hp'] at j2
        obtain ⟨z1, z2, z3⟩ := c5 j j1
        rw [j2] at z1 z2
        have hj6 := a6 j j1
        rw [j2, hxs, hys] at hj6
        rw [z1, z2, iI_sub, iI_sub]
        obtain ⟨jx', jy', v1, v2⟩ := shift_vals (x := cx + dx (sg2 e) - px p') (y := cy + dy (sg2 e) - py p') a8.1 c2 c3 (by omega) (by omega) (by omega) (by omega)
        rw [v1]
        simp only [bnd3]
        have H2 := HH.seen NBp hk (by exact hsg) j1 (by rw [hpl, hp']; exact j2) (by rw [hpl, hp']; exact hI) (x := cx + dx (sg2 e) - px p') (y := cy + dy (sg2 e) - py p') (by rw [hpl, hp', hcx]) (by rw [hpl, hp', hcy])
        exact ih fu (e + 1) n q met px py _ _ _ _ _ _ _ _ _ _ _ (by omega) (by omega) hk hpl hcx hcy hxs hys hnum H2 ⟨c1, rfl, v2, c4, c5⟩
      · rw [if_neg hmet, if_pos iI_0.symm, if_neg (fun z => (hle.mp z) hI)]
        have H2 := HH.push NBp hk (by exact hsg) (by rw [hpl, hp']; exact hI) (by rw [hpl, hp']; exact hmet)
        have hroom2 := H2.room
        rw [c1, X5_meet (N := N) B hN64 (by omega) (by omega) (by omega) (by omega) hnx d1 (by omega)]
        simp only [bnd5]
        have hpq : ∀ i, i < n → q i ≠ p' := fun i hi hh => hmet ((a4 _ d1).mpr (Or.inr ⟨i, hi, hh⟩))
        have hs0 : s0 ≠ p' := by rw [← a1.2]; exact hpq 0 a1.1
        have hplp : pl ≠ p' := by rw [← hpl]; exact hpq k hk
        rw [hpl, hp', hcx, hcy] at H2
        refine ih fu (e + 1) (n + 1) _ _ _ _ _ _ _ _ _ _ _ _ _ _ _ (by omega) (by omega) (by omega) (by rw [upg_ne (by omega)]; exact hpl) (by rw [upg_ne hplp]; exact hcx) (by rw [upg_ne hplp]; exact hcy) (by rw [upg_ne hs0]; exact hxs) (by rw [upg_ne hs0]; exact hys) ?_ H2 ⟨rfl, c2, c3, ?_, ?_⟩
        · intro i hi
          by_cases hin : i = n
          · rw [hin, upg_same, upg_same, upg_same]; exact hnx
          · rw [upg_ne hin, upg_ne (hpq i (by omega)), upg_ne (hpq i (by omega))]; exact hnum i (by omega)
        · intro p hp
          by_cases hpe : p = p'
          · rw [hpe, upd_same, upg_same, if_pos rfl]
          · rw [upd_ne hpe, upg_ne hpe]; exact c4 p hp
        · intro i hi
          by_cases hin : i = n
          · rw [hin, upg_same, upd_same, upd_same, upd_same, upg_same, upg_same]
            exact ⟨rfl, rfl, rfl⟩
          · have hq := hpq i (by omega)
            rw [upg_ne hin, upd_ne hq, upd_ne hq, upd_ne hin, upg_ne hq, upg_ne hq]
            exact c5 i (by omega)
    · rw [if_pos (hle.mpr hI), if_pos (hle.mpr hI)]
      exact ih fu (e + 1) n q met px py t sx sy wn jt jx jy rea wx wy wt (by omega) (by omega) hk hpl hcx hcy hxs hys hnum (HH.skip (by rw [hpl, hp']; exact hI)) ⟨c1, c2, c3, c4, c5⟩
theorem X5_L28 {s0 : Nat} {M0 : Nat → Prop} (B : SB w s h) (hN : w * h = N) (hN64 : N ≤ 64) (hr : ∀ p, p < N → rk p = iI (R p)) (hR : ∀ p, p < N → R p < N) (hst0 : -1000 ≤ st) (hst1 : st ≤ 1000)
    (hM : ∀ p f, p < N → Ink R st p = true → f < 4 → Ink R st (NBN w s h p f) = true → M0 (NBN w s h p f) → M0 p) {x0 y0 : Int} (hx0 : 0 ≤ x0 ∧ x0 ≤ 64) (hy0 : 0 ≤ y0 ∧ y0 ≤ 64) (m : Nat) :
    ∀ (fu k n : Nat) (q : Nat → Nat) (met : Nat → Bool) (px py : Nat → Int) (t sx sy : Int) (wn jt jx jy : Int32) (rea wx wy wt : Nat → Int32), N ≤ k + m → m < fu → k ≤ n → px s0 = x0 → py s0 = y0 → (∀ i, i < n → num w s h (px (q i)) (py (q i)) = q i) →
    BI (Ink R st) (NBN w s h) sg2 N s0 M0 k 0 n q met px py t sx sy → CR N n q met px py t sx sy wn jt jx jy rea wx wy wt →
    ∃ r n' q' met' px' py' t' sx' sy' wn' jt' jx' jy' rea' wx' wy' wt', mX5_follow_L28 (iI w) (iI s) (iI h) rk (iI st) fu (iI k) wn jx jy jt rea wx wy wt = some (r, wn', jx', jy', jt', rea', wx', wy', wt') ∧
      BI (Ink R st) (NBN w s h) sg2 N s0 M0 n' 0 n' q' met' px' py' t' sx' sy' ∧ CR N n' q' met' px' py' t' sx' sy' wn' jt' jx' jy' rea' wx' wy' wt' := by
  induction m with
  | zero =>
    intro fu k n q met px py t sx sy wn jt jx jy rea wx wy wt hm hf hk hxs hys hnum H C
    obtain ⟨fu, rfl⟩ : ∃ k, fu = k + 1 := ⟨fu - 1, by omega⟩
    have hroom := H.room
    have : k = n := by omega
    subst this
    refine ⟨iI k, k, q, met, px, py, t, sx, sy, wn, jt, jx, jy, rea, wx, wy, wt, ?_, H, C⟩
    rw [mX5_follow_L28, if_pos (by rw [C.1, iI_le (by omega) (by omega) (by omega) (by omega)]; omega)]
  | succ m ih =>
    intro fu k n q met px py t sx sy wn jt jx jy rea wx wy wt hm hf hk hxs hys hnum H C
    obtain ⟨fu, rfl⟩ : ∃ k, fu = k + 1 := ⟨fu - 1, by omega⟩
    have hroom := H.room
    by_cases hkn : k = n
    · subst hkn
      refine ⟨iI k, k, q, met, px, py, t, sx, sy, wn, jt, jx, jy, rea, wx, wy, wt, ?_, H, C⟩
      rw [mX5_follow_L28, if_pos (by rw [C.1, iI_le (by omega) (by omega) (by omega) (by omega)]; omega)]
    · have hlt : k < n := by omega
      have hqN := (H.2.1 k hlt).1
      obtain ⟨r0, n1, q1, met1, px1, py1, t1, sx1, sy1, wn1, jt1, jx1, jy1, rea1, wx1, wy1, wt1, e1, e2, e3, e4, e4', e5, e6⟩ := X5_L65 B hN hN64 hr hR hst0 hst1 hM (pl := q k) hx0 hy0 4 FU 0 n q met px py t sx sy wn jt jx jy rea wx wy wt (by omega) (by unfold FU; omega) hlt rfl rfl rfl hxs hys hnum H C
      obtain ⟨r, n2, q2, met2, px2, py2, t2, sx2, sy2, wn2, jt2, jx2, jy2, rea2, wx2, wy2, wt2, f1, f2, f3⟩ := ih fu (k + 1) n1 q1 met1 px1 py1 t1 sx1 sy1 wn1 jt1 jx1 jy1 rea1 wx1 wy1 wt1 (by omega) (by omega) (by omega) e3 e4 e4' (e5.turn sg2_on) e6
      refine ⟨r, n2, q2, met2, px2, py2, t2, sx2, sy2, wn2, jt2, jx2, jy2, rea2, wx2, wy2, wt2, ?_, f2, f3⟩
      rw [iI_n0] at e1
      have g1 : ∀ {β : Type} {E : Option β}, gd (iI k) 64 E = E := gdI (by omega) (by omega) (by omega)
      have g2 : ∀ {β : Type} {E : Option β}, gd (iI (q k)) 64 E = E := gdI (by omega) (by omega) (by omega)
      obtain ⟨z1, z2, z3⟩ := C.2.2.2.2 k hlt
      rw [mX5_follow_L28, if_neg (by rw [C.1, iI_le (by omega) (by omega) (by omega) (by omega)]; omega), clk (show k < 2147483648 by omega), z3, clk (show q k < 2147483648 by omega), z1, z2]
      simp only [g1, g2, nmB]
      rw [e1]
      simp only [bnd9]
      rw [iI_1, iI_add, ← f1]
      rfl
theorem X5_follow {s0 : Nat} {M0 : Nat → Prop} {met : Nat → Bool} (B : SB w s h) (hN : w * h = N) (hN64 : N ≤ 64) (hr : ∀ p, p < N → rk p = iI (R p)) (hR : ∀ p, p < N → R p < N) (hst0 : -1000 ≤ st) (hst1 : st ≤ 1000)
    (hM : ∀ p f, p < N → Ink R st p = true → f < 4 → Ink R st (NBN w s h p f) = true → M0 (NBN w s h p f) → M0 p) (hs : s0 < N) (hI : Ink R st s0 = true) (hM0 : ¬ M0 s0) (hm : ∀ p, p < N → (met p = true ↔ M0 p)) (jx jy : Int32) {rea : Nat → Int32} (hrea : ∀ p, p < N → rea p = iI (if met p = true then 1 else 0)) (wx wy wt : Nat → Int32) :
    ∃ (wn' jt' jx' jy' : Int32) (rea' wx' wy' wt' : Nat → Int32) (met' : Nat → Bool) (t' : Int), mX5_follow (iI w) (iI s) (iI h) jx jy rk rea wx wy wt (iI s0) (iI st) = some (jt', wn', jx', jy', jt', rea', wx', wy', wt') ∧ jt' = iI t' ∧ JT (Ink R st) (NBN w s h) s0 t' ∧ (∀ p, p < N → rea' p = iI (if met' p = true then 1 else 0)) ∧ (∀ p, p < N → (met' p = true ↔ M0 p ∨ ∃ l, WK (Ink R st) (NBN w s h) s0 l p)) := by
  obtain ⟨p1, p2, p3, p4, p5⟩ := place_xy B.1 B.2.2.2.2.1 hN hs
  have hw := B.2.1
  have hw' := B.1
  have hh := B.2.2.2.2.2
  have hself := num_self (s := s) B.1 B.2.2.2.2.1 (p := (s0 : Int)) (by omega) (by omega)
  have H0 := BI.first (I := Ink R st) (nb := NBN w s h) (sg := sg2) (N := N) (M0 := M0) (q := fun _ => s0) (met := met) (px := fun _ => (s0 : Int) % w) (py := fun _ => (s0 : Int) / w) (p := 0) (jx := 0) (jy := 0) hs hI hM0 hm rfl rfl rfl
  obtain ⟨r, n', q', met', px', py', t', sx', sy', wn', jt', jx', jy', rea', wx', wy', wt', e1, e2, e3⟩ := X5_L28 (s0 := s0) B hN hN64 hr hR hst0 hst1 hM (x0 := (s0 : Int) % w) (y0 := (s0 : Int) / w) (by omega) (by omega) N FU 0 1 (fun _ => s0) (upg met s0 true) (fun _ => (s0 : Int) % w) (fun _ => (s0 : Int) / w) 0 0 0 (iI (1 : Nat)) (iI 0) jx jy (upd rea s0 (iI 1)) (upd wx s0 (iI ((s0 : Int) % w))) (upd wy s0 (iI ((s0 : Int) / w))) (upd wt 0 (iI s0)) (by omega) (by unfold FU; omega) (by omega) rfl rfl (fun i hi => hself) H0 (by
    refine ⟨rfl, rfl, fun q => absurd rfl q, ?_, ?_⟩
    · intro p hp
      by_cases hps : p = s0
      · rw [hps, upd_same, upg_same, if_pos rfl]
      · rw [upd_ne hps, upg_ne hps]; exact hrea p hp
    · intro i hi
      have : i = 0 := by omega
      subst this
      rw [upd_same, upd_same, upd_same]
      exact ⟨rfl, rfl, rfl⟩)
  obtain ⟨l1, l2⟩ := e2.last (NBN_NB B hN)
  refine ⟨wn', jt', jx', jy', rea', wx', wy', wt', met', t', ?_, e3.2.1, l2, e3.2.2.2.1, l1⟩
  have hw0 : ¬ iI w = 0 := by rw [iI_eq0 (by omega) (by omega)]; omega
  have e1' : mX5_follow_L28 (iI w) (iI s) (iI h) rk (iI st) FU 0 (iI ((0 + 1 : Nat) : Int)) jx jy 0 (upd rea s0 (iI 1)) (upd wx s0 (iI ((s0 : Int) % w))) (upd wy s0 (iI ((s0 : Int) / w))) (upd wt 0 (iI s0)) = some (r, wn', jx', jy', jt', rea', wx', wy', wt') := by
    rw [iI_n0, ← iI_0] at e1
    exact e1
  have hmeet := X5_meet (N := N) (n := 0) B hN64 (x := (s0 : Int) % w) (y := (s0 : Int) / w) (by omega) (by omega) (by omega) (by omega) hself hs (by omega) rea wx wy wt
  rw [iI_n0] at hmeet
  unfold mX5_follow
  simp only [gz, if_neg hw0]
  rw [iI_tdiv (by omega) (by omega) (by omega) (by omega), Int.tdiv_eq_ediv_of_nonneg (by omega), iI_mul, iI_sub, p5, hmeet]
  simp only [bnd5]
  rw [e1']
  rfl
end RefWalk
