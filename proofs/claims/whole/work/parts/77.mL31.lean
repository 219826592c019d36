set_option maxHeartbeats 4000000
-- ===== counting inked pixels, one pixel =====
theorem X4_isSide {a : Int} (h1 : -2147483648 ≤ a) (h2 : a < 2147483648) : mX4_isSide (iI a) = some (if 1 ≤ a ∧ a ≤ 64 then 1 else 0) := by
  have e2 : (64 : Int32) = iI 64 := iI_lit 64
  have c1 : (iI a < 1) ↔ a < 1 := by rw [iI_1, iI_lt h1 h2 (by omega) (by omega)]
  have c2 : (64 < iI a) ↔ 64 < a := by rw [e2, iI_lt (by omega) (by omega) h1 h2]
  unfold mX4_isSide
  simp only [c1, c2]
  by_cases h : a < 1
  · rw [if_pos h, if_neg (by omega)]
  · rw [if_neg h]
    by_cases h' : 64 < a
    · rw [if_pos h', if_neg (by omega)]
    · rw [if_neg h', if_pos (by omega)]
theorem X5_side {a : Int} (h1 : -2147483648 ≤ a) (h2 : a < 2147483648) : mX5_within (iI a) 1 64 = some (if 1 ≤ a ∧ a ≤ 64 then 1 else 0) := by
  have e2 : (64 : Int32) = iI 64 := iI_lit 64
  rw [e2, iI_1, X5_within h1 h2 (by omega) (by omega) (by omega) (by omega)]
  rw [← iI_1]
theorem row_mod {r W c : Nat} (h : c < W) : (r * W + c) % W = c := by rw [Nat.add_comm, Nat.add_mul_mod_self_right, Nat.mod_eq_of_lt h]
theorem row_div {r W c : Nat} (h : c < W) : (r * W + c) / W = r := by rw [Nat.add_comm, Nat.add_mul_div_right _ _ (by omega), Nat.div_eq_of_lt h, Nat.zero_add]
theorem iI_nmod {q W : Nat} (hq : q < 2147483648) (hW : W < 2147483648) (h0 : 0 < W) : iI (q : Int) - iI (q : Int) / iI (W : Int) * iI (W : Int) = iI ((q % W : Nat) : Int) := by
  rw [iI_rem (by omega) (by omega) (by omega) (by omega) (by omega), Int.tmod_eq_emod_of_nonneg (by omega)]
  rfl
theorem iI_ndiv {q W : Nat} (hq : q < 2147483648) (hW : W < 2147483648) : iI (q : Int) / iI (W : Int) = iI ((q / W : Nat) : Int) := by
  rw [iI_tdiv (by omega) (by omega) (by omega) (by omega), Int.tdiv_eq_ediv_of_nonneg (by omega)]
  rfl
def inkF (T : TD) (a b : Int) (W : Nat) (q : Nat) : Bool := inkAt T (a + ((q % W : Nat) : Int)) (b + ((q / W : Nat) : Int))
section Inked
variable {X : Nat → Scr} {th v so im ti : Nat → Int32} {D : Nat → TD}
theorem X4_inked_row {x : Scr} {k : Nat} {T : TD} (S : SDT x k v so im ti T) {a b : Int} (a0 : -10000 ≤ a) (a1 : a ≤ 10000) (b0 : -10000 ≤ b) (b1 : b ≤ 10000) {W : Nat} (hW : W ≤ 64) {r : Nat} (hr : r < 64) (n : Nat) : ∀ (fu c : Nat), c + n = W → n < fu →
    mX4_inked_L69 x.ti x.w x.s x.h x.ra (iI a) (iI b) (iI (W : Int)) (iI (r : Int)) fu (iI (c : Int)) (iI (cnt (inkF T a b W) (r * W + c) : Nat)) = some (iI (W : Int), iI (cnt (inkF T a b W) (r * W + W) : Nat)) := by
  induction n with
  | zero =>
    intro fu c hc hf
    obtain ⟨fu, rfl⟩ : ∃ k, fu = k + 1 := ⟨fu - 1, by omega⟩
    have : c = W := by omega
    subst this
    rw [mX4_inked_L69, if_pos (by rw [iI_le (by omega) (by omega) (by omega) (by omega)]; omega)]
  | succ n ih =>
    intro fu c hc hf
    obtain ⟨fu, rfl⟩ : ∃ k, fu = k + 1 := ⟨fu - 1, by omega⟩
    have hI := ih fu (c + 1) (by omega) (by omega)
    have hc' : c < W := by omega
    have hfv : inkF T a b W (r * W + c) = inkAt T (a + (c : Int)) (b + (r : Int)) := by unfold inkF; rw [row_mod hc', row_div hc']
    rw [mX4_inked_L69, if_neg (by rw [iI_le (by omega) (by omega) (by omega) (by omega)]; omega), iI_add, iI_add, X3_inks S (by omega) (by omega) (by omega) (by omega), ← hfv]
    simp only [bnd1, nmB, iI_1, iI_add]
    have e1 : ((c : Int) + 1) = ((c + 1 : Nat) : Int) := rfl
    rw [e1, ← hI, ← Nat.add_assoc]
    by_cases hq : inkF T a b W (r * W + c) = true
    · rw [if_pos hq, if_neg (by decide), cnt_t hq]; rfl
    · rw [if_neg hq, if_pos rfl, cnt_f hq]
theorem X4_inked_rows {x : Scr} {k : Nat} {T : TD} (S : SDT x k v so im ti T) {a b : Int} (a0 : -10000 ≤ a) (a1 : a ≤ 10000) (b0 : -10000 ≤ b) (b1 : b ≤ 10000) {W H : Nat} (hW : W ≤ 64) (hH : H ≤ 64) (n : Nat) : ∀ (fu r : Nat), r + n = H → n < fu →
    mX4_inked_L59 x.ti x.w x.s x.h x.ra (iI a) (iI b) (iI (W : Int)) (iI (H : Int)) fu (iI (r : Int)) (iI (cnt (inkF T a b W) (r * W) : Nat)) = some (iI (H : Int), iI (cnt (inkF T a b W) (H * W) : Nat)) := by
  induction n with
  | zero =>
    intro fu r hr hf
    obtain ⟨fu, rfl⟩ : ∃ k, fu = k + 1 := ⟨fu - 1, by omega⟩
    have : r = H := by omega
    subst this
    rw [mX4_inked_L59, if_pos (by rw [iI_le (by omega) (by omega) (by omega) (by omega)]; omega)]
  | succ n ih =>
    intro fu r hr hf
    obtain ⟨fu, rfl⟩ : ∃ k, fu = k + 1 := ⟨fu - 1, by omega⟩
    have hI := ih fu (r + 1) (by omega) (by omega)
    have hR := X4_inked_row S a0 a1 b0 b1 hW (r := r) (by omega) W FU 0 (by omega) (by unfold FU; omega)
    rw [iI_n0, Nat.add_zero] at hR
    rw [mX4_inked_L59, if_neg (by rw [iI_le (by omega) (by omega) (by omega) (by omega)]; omega), hR]
    simp only [bnd2, nmB, iI_1, iI_add]
    rw [← hI, Nat.succ_mul]
    rfl
theorem R_inked_L (P : PD X th v so im ti D) {aR ba : Nat → Int32} (hA : AR th D 3 aR ba) {j : Nat} (hj : j < 3) (ht : th j = 1) {a b : Int} (a0 : -10000 ≤ a) (a1 : a ≤ 10000) (b0 : -10000 ≤ b) (b1 : b ≤ 10000) {W H : Nat} (hW0 : 0 < W) (hW : W ≤ 64) (hH : H ≤ 64) (n : Nat) : ∀ (fu q : Nat) (w1 w2 w3 : Int32), q + n = H * W → n < fu →
    ∃ (r x1 x2 x3 : Int32), mX5_inked_L63 ti (iI j) (iI a) (iI b) (iI (W : Int)) (iI (H : Int)) aR ba fu (iI (q : Int)) (iI (cnt (inkF (D j) a b W) q : Nat)) w1 w2 w3 = some (r, iI (cnt (inkF (D j) a b W) (H * W) : Nat), x1, x2, x3) := by
  have hHW : H * W ≤ 4096 := Nat.mul_le_mul hH hW
  have hWH : (W : Int) * (H : Int) = ((H * W : Nat) : Int) := by rw [Int.mul_comm]; rfl
  induction n with
  | zero =>
    intro fu q w1 w2 w3 hq hf
    obtain ⟨fu, rfl⟩ : ∃ k, fu = k + 1 := ⟨fu - 1, by omega⟩
    have : q = H * W := by omega
    subst this
    refine ⟨iI ((H * W : Nat) : Int), w1, w2, w3, ?_⟩
    rw [mX5_inked_L63, iI_mul, hWH, if_pos (by rw [iI_le (by omega) (by omega) (by omega) (by omega)]; omega)]
  | succ n ih =>
    intro fu q w1 w2 w3 hq hf
    obtain ⟨fu, rfl⟩ : ∃ k, fu = k + 1 := ⟨fu - 1, by omega⟩
    obtain ⟨r, x1, x2, x3, hI⟩ := ih fu (q + 1) (iI (D j).w) (iI (D j).s) (iI (D j).h) (by omega) (by omega)
    refine ⟨r, x1, x2, x3, ?_⟩
    have hm : q % W < W := Nat.mod_lt _ hW0
    have hd : q / W < H := (Nat.div_lt_iff_lt_mul hW0).mpr (by omega)
    have hz : ¬ iI (W : Int) = 0 := by rw [iI_eq0 (by omega) (by omega)]; omega
    have hp1 := Int.natCast_nonneg (q / W)
    have hp2 := Int.natCast_nonneg (q % W)
    rw [mX5_inked_L63, iI_mul, hWH, if_neg (by rw [iI_le (by omega) (by omega) (by omega) (by omega)]; omega)]
    simp only [gz, if_neg hz]
    rw [iI_nmod (by omega) (by omega) hW0, iI_ndiv (by omega) (by omega), iI_add, iI_add, R_hasInk P hA hj ht (by omega) (by omega) (by omega) (by omega)]
    have hfv : inkAt (D j) (a + ((q % W : Nat) : Int)) (b + ((q / W : Nat) : Int)) = inkF (D j) a b W q := rfl
    rw [hfv]
    simp only [bnd4, nmB, iI_1, iI_add]
    have e1 : ((q : Int) + 1) = ((q + 1 : Nat) : Int) := rfl
    rw [e1, ← hI]
    by_cases hq : inkF (D j) a b W q = true
    · rw [if_pos hq, if_neg (by decide), cnt_t hq]; rfl
    · rw [if_neg hq, if_pos rfl, cnt_f hq, iI_0, iI_add, Int.add_zero]
theorem SX_inked (P : PD X th v so im ti D) (HH : AllSI X th v so im ti) {k : Nat} {β : Type} (hk : k < 3) (a1 a2 a3 a4 : Int32) (vw vs vh vl : Int32) (val rk aR ba : Nat → Int32) (Kf : Nat → Option β) (F : Int32 → Option β) :
    (∃ (kk : Nat) (b t : Int32), lq (mxX4_inked (X k).pr a1 a2 a3 a4) Kf (bnd1 (mX4_inked (X k).pr (X k).ti (X k).w (X k).s (X k).h (X k).ra a1 a2 a3 a4) F) = Kf kk ∧ mX5_inked vw vs vh vl th v so im ti val rk aR ba (iI k) a1 a2 a3 a4 = some (b, t, vw, vs, vh, vl, val, rk, aR, ba) ∧ ((kk = 1 ∧ t = 2) ∨ (kk = 2 ∧ t = 3))) ∨
    (∃ (o w' s' h' l' : Int32) (val' rk' aR' ba' : Nat → Int32), lq (mxX4_inked (X k).pr a1 a2 a3 a4) Kf (bnd1 (mX4_inked (X k).pr (X k).ti (X k).w (X k).s (X k).h (X k).ra a1 a2 a3 a4) F) = F o ∧ mX5_inked vw vs vh vl th v so im ti val rk aR ba (iI k) a1 a2 a3 a4 = some (o, 0, w', s', h', l', val', rk', aR', ba')) := by
  obtain ⟨a, rfl, a0, a9⟩ := i32_of a1
  obtain ⟨b, rfl, b0, b9⟩ := i32_of a2
  obtain ⟨W, rfl, W0, W9⟩ := i32_of a3
  obtain ⟨H, rfl, H0, H9⟩ := i32_of a4
  have d1 : ¬ (1 : Int32) = 0 := by decide
  generalize hQ : (((-10000 ≤ a ∧ a ≤ 10000) ∧ (-10000 ≤ b ∧ b ≤ 10000)) ∧ (1 ≤ W ∧ W ≤ 64) ∧ (1 ≤ H ∧ H ≤ 64)) = Q
  haveI dQ : Decidable Q := by rw [← hQ]; infer_instance
  have hjC : ∀ (G : Int32 → Option Nat), (bnd1 (mX4_isPosition (iI a)) fun r1_0 => jB G fun K2 => if r1_0 = 0 then (K2 0) else (bnd1 (mX4_isPosition (iI b)) fun r4_0 => if r4_0 = 0 then (K2 0) else (bnd1 (mX4_isSide (iI W)) fun r6_0 => if r6_0 = 0 then (K2 0) else (bnd1 (mX4_isSide (iI H)) fun r8_0 => if r8_0 = 0 then (K2 0) else (K2 1))))) = (if Q then G 1 else G 0) := by
    intro G
    subst hQ
    rw [X4_isPosition a0 a9, X4_isPosition b0 b9, X4_isSide W0 W9, X4_isSide H0 H9]
    dsimp only [jB, bnd1]
    by_cases h1 : -10000 ≤ a ∧ a ≤ 10000
    · by_cases h2 : -10000 ≤ b ∧ b ≤ 10000
      · by_cases h3 : 1 ≤ W ∧ W ≤ 64
        · by_cases h4 : 1 ≤ H ∧ H ≤ 64
          · rw [if_pos h1, if_pos h2, if_pos h3, if_pos h4, if_neg d1, if_neg d1, if_neg d1, if_neg d1, if_pos ⟨⟨h1, h2⟩, h3, h4⟩]
          · rw [if_pos h1, if_pos h2, if_pos h3, if_neg h4, if_neg d1, if_neg d1, if_neg d1, if_pos rfl, if_neg (fun q => h4 q.2.2)]
        · rw [if_pos h1, if_pos h2, if_neg h3, if_neg d1, if_neg d1, if_pos rfl, if_neg (fun q => h3 q.2.1)]
      · rw [if_pos h1, if_neg h2, if_neg d1, if_pos rfl, if_neg (fun q => h2 q.1.2)]
    · rw [if_neg h1, if_pos rfl, if_neg (fun q => h1 q.1.1)]
  have hjR : ∀ {γ : Type} (G : Int32 → Option γ), (bnd1 (mX5_isPixel (iI a) (iI b)) fun r1_0 => jB G fun K2 => if r1_0 = 0 then (K2 0) else (bnd1 (mX5_within (iI W) 1 64) fun r4_0 => if r4_0 = 0 then (K2 0) else (bnd1 (mX5_within (iI H) 1 64) fun r6_0 => if r6_0 = 0 then (K2 0) else (K2 1)))) = G (if Q then 1 else 0) := by
    intro γ G
    subst hQ
    rw [X5_isPixel a0 a9 b0 b9, X5_side W0 W9, X5_side H0 H9]
    dsimp only [jB, bnd1]
    by_cases h1 : (-10000 ≤ a ∧ a ≤ 10000) ∧ (-10000 ≤ b ∧ b ≤ 10000)
    · by_cases h3 : 1 ≤ W ∧ W ≤ 64
      · by_cases h4 : 1 ≤ H ∧ H ≤ 64
        · rw [if_pos h1, if_pos h3, if_pos h4, if_neg d1, if_neg d1, if_neg d1, if_pos ⟨h1, h3, h4⟩]
        · rw [if_pos h1, if_pos h3, if_neg h4, if_neg d1, if_neg d1, if_pos rfl, if_neg (fun q => h4 q.2.2)]
      · rw [if_pos h1, if_neg h3, if_neg d1, if_pos rfl, if_neg (fun q => h3 q.2.1)]
    · rw [if_neg h1, if_pos rfl, if_neg (fun q => h1 q.1)]
  have hcm : mxX4_inked (X k).pr (iI a) (iI b) (iI W) (iI H) = if Q then (if (X k).pr = 0 then some 2 else none) else some 1 := by
    unfold mxX4_inked
    rw [hjC]
    rw [if_neg d1, if_pos rfl]
  have i01 := ite01 Q
  have hrm : ∀ q : Int32, mX5_wrong th (iI k) (if Q then 1 else 0) = some q → mX5_inked vw vs vh vl th v so im ti val rk aR ba (iI k) (iI a) (iI b) (iI W) (iI H) = if q ≤ 0 then (bnd8 (mX5_layAll vw vs vh vl th v so im val rk aR ba) fun r10_0 r10_1 r10_2 r10_3 r10_4 r10_5 r10_6 r10_7 => bnd5 (mX5_inked_L63 ti (iI k) (iI a) (iI b) (iI W) (iI H) r10_6 r10_7 FU 0 0 r10_0 r10_1 r10_2) fun u11_0 u11_1 u11_2 u11_3 u11_4 => some (u11_1, q, u11_2, u11_3, u11_4, r10_3, r10_4, r10_5, r10_6, r10_7)) else (some (0, q, vw, vs, vh, vl, val, rk, aR, ba)) := by
    intro q hq
    unfold mX5_inked
    rw [hjR, hq]
    rfl
  rcases wrong3 hk (HH k hk) _ _ i01.1 i01.2 with ⟨hn, e⟩ | ⟨hp, hpr, e⟩ | ⟨hp, hpr, ht, e, a', b', c, d, spot, mid, t, w, s, h, N, V, S'⟩
  · left
    rw [if_neg hn] at hcm
    exact ⟨1, 0, 2, by rw [hcm]; rfl, by rw [hrm 2 e, if_neg (by decide)], Or.inl ⟨rfl, rfl⟩⟩
  · left
    rw [if_pos hp, if_pos hpr] at hcm
    exact ⟨2, 0, 3, by rw [hcm]; rfl, by rw [hrm 3 e, if_neg (by decide)], Or.inr ⟨rfl, rfl⟩⟩
  · right
    have hz : ¬ (X k).pr = 0 := by rw [hpr]; decide
    rw [if_pos hp, if_neg hz] at hcm
    have S : SDT (X k) k v so im ti (D k) := by
      rcases P k hk with ⟨q, -⟩ | ⟨-, -, q⟩
      · exact absurd q hz
      · exact q
    obtain ⟨x1, x2, x3, x4, val', rk', aR', ba', e1, hA⟩ := R_layAll P vw vs vh vl val rk aR ba
    have hp' := hp
    rw [← hQ] at hp'
    obtain ⟨W, rfl⟩ : ∃ n : Nat, W = n := ⟨W.toNat, by omega⟩
    obtain ⟨H, rfl⟩ : ∃ n : Nat, H = n := ⟨H.toNat, by omega⟩
    have hHW : H * W ≤ 64 * 64 := Nat.mul_le_mul (by omega) (by omega)
    obtain ⟨r, y1, y2, y3, e2⟩ := R_inked_L P hA hk ht (a := a) (b := b) (by omega) (by omega) (by omega) (by omega) (W := W) (H := H) (by omega) (by omega) (by omega) (H * W) FU 0 x1 x2 x3 (by omega) (by unfold FU; omega)
    have e3 := X4_inked_rows S (a := a) (b := b) (by omega) (by omega) (by omega) (by omega) (W := W) (H := H) (by omega) (by omega) H FU 0 (by omega) (by unfold FU; omega)
    refine ⟨iI (cnt (inkF (D k) a b W) (H * W) : Nat), y1, y2, y3, x4, val', rk', aR', ba', ?_, ?_⟩
    · rw [hcm]
      show bnd1 (mX4_inked (X k).pr (X k).ti (X k).w (X k).s (X k).h (X k).ra (iI a) (iI b) (iI (W : Int)) (iI (H : Int))) F = _
      unfold mX4_inked
      rw [X4_isPosition a0 a9, X4_isPosition b0 b9, X4_isSide W0 W9, X4_isSide H0 H9]
      dsimp only [jB, bnd1]
      rw [if_pos hp'.1.1, if_pos hp'.1.2, if_pos hp'.2.1, if_pos hp'.2.2, if_neg d1, if_neg d1, if_neg d1, if_neg d1]
      simp only [gz, if_neg d1, if_neg hz]
      rw [iI_n0, Nat.zero_mul] at e3
      have e3' : mX4_inked_L59 (X k).ti (X k).w (X k).s (X k).h (X k).ra (iI a) (iI b) (iI (W : Int)) (iI (H : Int)) FU 0 0 = some (iI (H : Int), iI (cnt (inkF (D k) a b W) (H * W) : Nat)) := e3
      rw [e3']
      rfl
    · rw [hrm 0 e, if_pos (by decide), e1]
      simp only [bnd8]
      rw [iI_n0] at e2
      have e2' : mX5_inked_L63 ti (iI k) (iI a) (iI b) (iI (W : Int)) (iI (H : Int)) aR' ba' FU 0 0 x1 x2 x3 = some (r, iI (cnt (inkF (D k) a b W) (H * W) : Nat), y1, y2, y3) := e2
      rw [e2']
      rfl
theorem SX_pixel (P : PD X th v so im ti D) {β : Type} (a1 a2 : Int32) (vw vs vh vl : Int32) (val rk aR ba : Nat → Int32) (Kf : Nat → Option β) (F : Int32 → Option β) :
    (∃ (b t : Int32), lq (mxX4_pixel a1 a2) Kf (bnd1 (mX4_pixel (X 0).pr (X 0).ti (X 0).w (X 0).s (X 0).h (X 0).ra (X 1).pr (X 1).ti (X 1).w (X 1).s (X 1).h (X 1).ra (X 2).pr (X 2).ti (X 2).w (X 2).s (X 2).h (X 2).ra a1 a2) F) = Kf 1 ∧ mX5_pixel vw vs vh vl th v so im ti val rk aR ba a1 a2 = some (b, t, vw, vs, vh, vl, val, rk, aR, ba) ∧ t = 1) ∨
    (∃ (o w' s' h' l' : Int32) (val' rk' aR' ba' : Nat → Int32), lq (mxX4_pixel a1 a2) Kf (bnd1 (mX4_pixel (X 0).pr (X 0).ti (X 0).w (X 0).s (X 0).h (X 0).ra (X 1).pr (X 1).ti (X 1).w (X 1).s (X 1).h (X 1).ra (X 2).pr (X 2).ti (X 2).w (X 2).s (X 2).h (X 2).ra a1 a2) F) = F o ∧ mX5_pixel vw vs vh vl th v so im ti val rk aR ba a1 a2 = some (o, 0, w', s', h', l', val', rk', aR', ba')) := by
  obtain ⟨a, rfl, a0, a9⟩ := i32_of a1
  obtain ⟨b, rfl, b0, b9⟩ := i32_of a2
  have d1 : ¬ (1 : Int32) = 0 := by decide
  have l1 : ¬ (1 : Int32) ≤ 0 := by decide
  have l0 : (0 : Int32) ≤ 0 := by decide
  unfold mxX4_pixel mX5_pixel
  rw [X4_isPosition a0 a9, X4_isPosition b0 b9, X5_isPixel a0 a9 b0 b9]
  dsimp only [bnd1, jB]
  by_cases h1 : -10000 ≤ a ∧ a ≤ 10000
  · by_cases h2 : -10000 ≤ b ∧ b ≤ 10000
    · right
      obtain ⟨x1, x2, x3, x4, val', rk', aR', ba', e1, hA⟩ := R_layAll P vw vs vh vl val rk aR ba
      obtain ⟨y1, y2, y3, e2⟩ := R_inksAt P hA x1 x2 x3 (a := a) (b := b) (by omega) (by omega) (by omega) (by omega)
      have e3 := X4_inksOf P (a := a) (b := b) (by omega) (by omega) (by omega) (by omega)
      refine ⟨iI (ibn X D a b), y1, y2, y3, x4, val', rk', aR', ba', ?_, ?_⟩
      · rw [if_pos h1, if_neg d1, if_pos h2, if_neg d1]
        show bnd1 (mX4_pixel _ _ _ _ _ _ _ _ _ _ _ _ _ _ _ _ _ _ (iI a) (iI b)) F = _
        unfold mX4_pixel
        rw [X4_isPosition a0 a9, X4_isPosition b0 b9, e3]
        dsimp only [bnd1]
        rw [if_pos h1, if_neg d1, if_pos h2, if_neg d1]
      · rw [if_pos (show (-10000 ≤ a ∧ a ≤ 10000) ∧ (-10000 ≤ b ∧ b ≤ 10000) from ⟨h1, h2⟩), if_neg d1, if_pos l0, e1]
        simp only [bnd8]
        rw [e2]
        rfl
    · left
      refine ⟨0, 1, ?_, ?_, rfl⟩
      · rw [if_pos h1, if_neg d1, if_neg h2, if_pos rfl]
        rfl
      · rw [if_neg (show ¬ ((-10000 ≤ a ∧ a ≤ 10000) ∧ (-10000 ≤ b ∧ b ≤ 10000)) from fun q => h2 q.2), if_pos rfl, if_neg l1]
  · left
    refine ⟨0, 1, ?_, ?_, rfl⟩
    · rw [if_neg h1, if_pos rfl]
      rfl
    · rw [if_neg (show ¬ ((-10000 ≤ a ∧ a ≤ 10000) ∧ (-10000 ≤ b ∧ b ≤ 10000)) from fun q => h1 q.1), if_pos rfl, if_neg l1]
end Inked
-- ===== periods and beats =====
section Periods
variable {X : Nat → Scr} {th v so im ti : Nat → Int32} {D : Nat → TD}
def pmk (a b c : Bool) : Nat := a.toNat + 2 * b.toNat + 4 * c.toNat
def prs (X : Nat → Scr) (j : Nat) : Bool := (X j).pr == 1
theorem pmk_lt (a b c : Bool) : pmk a b c < 8 := by cases a <;> cases b <;> cases c <;> decide
theorem pmk_bit (a b c : Bool) : ((iI (pmk a b c : Nat) >>> (0 &&& 31)) &&& 1 = 1 ↔ a = true) ∧ ((iI (pmk a b c : Nat) >>> (1 &&& 31)) &&& 1 = 1 ↔ b = true) ∧ ((iI (pmk a b c : Nat) >>> (2 &&& 31)) &&& 1 = 1 ↔ c = true) := by
  cases a <;> cases b <;> cases c <;> decide +kernel
theorem prs_no {j : Nat} (h : (X j).pr = 0) : prs X j = false := by unfold prs; rw [h]; decide
theorem prs_is {j : Nat} (h : (X j).pr = 1) : prs X j = true := by unfold prs; rw [h]; decide
theorem prs_pr (P : PD X th v so im ti D) {j : Nat} (hj : j < 3) (h : prs X j = true) : (X j).pr = 1 ∧ th j = 1 ∧ SDT (X j) j v so im ti (D j) := by
  rcases P j hj with ⟨q, -⟩ | q
  · rw [prs_no q] at h; exact absurd h (by decide)
  · exact q
def pm (X : Nat → Scr) : Nat := pmk (prs X 0) (prs X 1) (prs X 2)
theorem X4_present (P : PD X th v so im ti D) : mX4_presentSlots (X 0).pr (X 1).pr (X 2).pr = some (iI (pm X : Nat)) := by
  have n1 : ¬ (1 : Int32) = 0 := by decide
  have step : ∀ (j : Nat) (hj : j < 3) (β : Type) (F : Int32 → Option β) (acc bit : Int32), jB F (fun K => if (X j).pr = 0 then K acc else (nmB (acc ||| bit) fun x => K x)) = F (if prs X j = true then acc ||| bit else acc) := by
    intro j hj β F acc bit
    dsimp only [jB, nmB]
    rcases P j hj with ⟨hp, -⟩ | ⟨hp, -⟩
    · rw [if_pos hp, prs_no hp, if_neg (by decide)]
    · rw [if_neg (by rw [hp]; exact n1), prs_is hp, if_pos rfl]
  unfold mX4_presentSlots
  rw [step 0 (by omega), step 1 (by omega), step 2 (by omega)]
  unfold pm
  cases prs X 0 <;> cases prs X 1 <;> cases prs X 2 <;> decide +kernel
theorem X5_there (P : PD X th v so im ti D) : mX5_there th = some (iI (pm X : Nat)) := by
  have n1 : ¬ (1 : Int32) = 0 := by decide
  have step : ∀ (j : Nat) (hj : j < 3) (fu : Nat) (acc : Int32), mX5_there_L4 th (fu + 1) (iI j) acc = mX5_there_L4 th fu (iI ((j + 1 : Nat) : Int)) (if prs X j = true then acc + ((1 : Int32) <<< (iI j &&& 31)) else acc + 0) := by
    intro j hj fu acc
    have ej : iI (j : Int) + 1 = iI ((j + 1 : Nat) : Int) := by rw [iI_1, iI_add]; rfl
    rw [mX5_there_L4, if_neg (by rw [iI_3, iI_le (by omega) (by omega) (by omega) (by omega)]; omega), gdk hj, clk (by omega)]
    rcases P j hj with ⟨hp, ht⟩ | ⟨hp, ht, -⟩
    · rw [if_pos ht, prs_no hp, if_neg (by decide)]
      simp only [nmB]
      rw [ej]
    · rw [if_neg (by rw [ht]; exact n1), prs_is hp, if_pos rfl]
      simp only [nmB]
      rw [ej]
  unfold mX5_there
  show (bnd2 (mX5_there_L4 th (999999 + 1) (iI ((0 : Nat) : Int)) 0) fun u1_0 u1_1 => some u1_1) = _
  rw [step 0 (by omega)]
  show (bnd2 (mX5_there_L4 th (999998 + 1) (iI ((1 : Nat) : Int)) _) fun u1_0 u1_1 => some u1_1) = _
  rw [step 1 (by omega)]
  show (bnd2 (mX5_there_L4 th (999997 + 1) (iI ((2 : Nat) : Int)) _) fun u1_0 u1_1 => some u1_1) = _
  rw [step 2 (by omega)]
  rw [mX5_there_L4, if_pos (by rw [iI_3, iI_le (by omega) (by omega) (by omega) (by omega)]; omega)]
  simp only [bnd2]
  unfold pm
  cases prs X 0 <;> cases prs X 1 <;> cases prs X 2 <;> decide +kernel
theorem mask_both : ∀ (a b c a' b' c' : Bool), (iI (pmk a b c : Nat) &&& iI (pmk a' b' c' : Nat) = iI (pmk a b c : Nat) ↔ (a = true → a' = true) ∧ (b = true → b' = true) ∧ (c = true → c' = true)) ∧ (iI (pmk a b c : Nat) &&& (iI (pmk a' b' c' : Nat) ^^^ (-1)) = 0 ↔ (a = true → a' = true) ∧ (b = true → b' = true) ∧ (c = true → c' = true)) := by
  decide +kernel
theorem SDT.lay {x : Scr} {k : Nat} {T : TD} (hk : k < 3) (S : SDT x k v so im ti T) : mX5_layScreen v (iI k) = some (iI T.w, iI T.s, iI T.h) := by
  obtain ⟨g1, g2, g3, g4, -, G, g7, g8, g9, -⟩ := id S
  obtain ⟨w', s', h', l1, l2⟩ := X5_layScreen hk g9 g1
  obtain ⟨e1, e2, e3⟩ := G.1.uniq l2
  rw [e1, e2, e3]
  exact l1
def PB (w s h A : Int) : Prop := 0 < w ∧ 0 ≤ s ∧ s < w ∧ 0 < h ∧ w * h ≤ A
theorem PB.BB {w s h : Int} (H : PB w s h 4096) : BB w s h := by
  obtain ⟨a, b, c, d, e⟩ := H
  have h1 : w * 1 ≤ w * h := Int.mul_le_mul_of_nonneg_left (by omega) (by omega)
  have h2 : 1 * h ≤ w * h := Int.mul_le_mul_of_nonneg_right (by omega) (by omega)
  exact ⟨a, by omega, b, c, d, by omega⟩
theorem PB.up {w s h A B : Int} (H : PB w s h A) (hB : A ≤ B) : PB w s h B := ⟨H.1, H.2.1, H.2.2.1, H.2.2.2.1, by have := H.2.2.2.2; omega⟩
theorem meet_both {w s h ow os oh A : Int} (B : PB w s h A) (hA : A ≤ 4096) (O : SB ow os oh) (hO : ow * oh ≤ 64) : ∃ W x H, mX2_keepCommon (iI w) (iI s) (iI h) (iI ow) (iI os) (iI oh) = some (iI W, iI x, iI H) ∧ mX5_meetLattice (iI ow) (iI os) (iI oh) (iI w) (iI s) (iI h) = some (iI W, iI x, iI H) ∧ PB W x H (A * 64) := by
  have BB := (B.up hA).BB
  obtain ⟨W, x, H, e1, H1, hm⟩ := X2_keepCommon BB O
  obtain ⟨W', x', H', e2, H2⟩ := X5_meetLattice O BB
  obtain ⟨rfl, rfl, rfl⟩ := H1.uniq (H2.congr (fun X Y => and_comm))
  obtain ⟨p1, p2, p3, p4, -⟩ := H1
  have hp : 0 ≤ w * h := Int.mul_nonneg (by have := B.1; omega) (by have := B.2.2.2.1; omega)
  have hq : 0 ≤ ow * oh := Int.mul_nonneg (by have := O.1; omega) (by have := O.2.2.2.2.1; omega)
  have h1 : w * h * (ow * oh) ≤ A * 64 := Int.mul_le_mul B.2.2.2.2 hO hq (by have := B.2.2.2.2; omega)
  exact ⟨W, x, H, e1, e2, p1, p2, p3, p4, by omega⟩
theorem per_step (P : PD X th v so im ti D) {j : Nat} (hj : j < 3) {a0 js : Int32} (hjs : js = iI j) (hb : ((a0 >>> (js &&& 31)) &&& 1) = 1 → prs X j = true) {w s h A : Int} (B : PB w s h A) (hA1 : 1 ≤ A) (hA : A ≤ 4096) :
    ∃ W x H, PB W x H (A * 64) ∧ (∀ (β : Type) (F : Int32 → Int32 → Int32 → Option β), jB F (fun K => if ((a0 >>> (js &&& 31)) &&& 1) = 1 then (bnd3 (mX2_keepCommon (iI w) (iI s) (iI h) (X j).w (X j).s (X j).h) fun r10_0 r10_1 r10_2 => K r10_0 r10_1 r10_2) else (K (iI w) (iI s) (iI h))) = F (iI W) (iI x) (iI H)) ∧
      ∀ fu, mX5_layPeriod_L17 v a0 (fu + 1) (iI j) (iI w) (iI s) (iI h) = mX5_layPeriod_L17 v a0 fu (iI ((j + 1 : Nat) : Int)) (iI W) (iI x) (iI H) := by
  subst hjs
  have ej : iI (j : Int) + 1 = iI ((j + 1 : Nat) : Int) := by rw [iI_1, iI_add]; rfl
  by_cases hc : ((a0 >>> (iI (j : Int) &&& 31)) &&& 1) = 1
  · obtain ⟨-, -, S⟩ := prs_pr P hj (hb hc)
    have hN := S.N64
    have hA' := S.area.1
    obtain ⟨W, x, H, e1, e2, e3⟩ := meet_both B hA S.B (by omega)
    obtain ⟨-, -, -, -, ⟨-, -, -, -, -, -, -, f8, f9, f10⟩, -⟩ := id S
    refine ⟨W, x, H, e3, fun β F => ?_, fun fu => ?_⟩
    · dsimp only [jB]
      rw [if_pos hc, f8, f9, f10, e1]
      rfl
    · rw [mX5_layPeriod_L17, if_neg (by rw [iI_3, iI_le (by omega) (by omega) (by omega) (by omega)]; omega), if_pos hc, S.lay hj]
      simp only [bnd3]
      rw [e2]
      simp only [nmB]
      rw [ej]
  · refine ⟨w, s, h, B.up (by omega), fun β F => ?_, fun fu => ?_⟩
    · dsimp only [jB]
      rw [if_neg hc]
    · rw [mX5_layPeriod_L17, if_neg (by rw [iI_3, iI_le (by omega) (by omega) (by omega) (by omega)]; omega), if_neg hc]
      simp only [nmB]
      rw [ej]
theorem span0 : mX2_span 1 0 0 1 0 = some (iI 1, iI 0, iI 1) := by
  have e : mX2_span_L3 FU 0 1 0 0 1 = some (1, 0, 1, 1, 0) := by
    show mX2_span_L3 (999998 + 2) 0 1 0 0 1 = _
    have ed : mX4_div 0 1 = some 0 := by decide +kernel
    have k1 : (1 : Int32) - 0 * 0 = 1 := by decide +kernel
    have k2 : (0 : Int32) - 0 * 1 = 0 := by decide +kernel
    have k3 : (0 : Int32) + 1 = 1 := by decide +kernel
    rw [mX2_span_L3, if_neg (by decide), if_neg (by decide), ed]
    simp only [bnd1, nmB]
    rw [k1, k2, k3, mX2_span_L3, if_neg (by decide), if_pos rfl]
  unfold mX2_span
  rw [e]
  decide +kernel
/-- the period of the screens named by a mask, both sides -/
theorem period_both (P : PD X th v so im ti D) (a b c : Bool) (ha : a = true → prs X 0 = true) (hb : b = true → prs X 1 = true) (hc : c = true → prs X 2 = true) : ∃ W x H, PB W x H 262144 ∧ mX4_findPeriod (X 0).w (X 0).s (X 0).h (X 1).w (X 1).s (X 1).h (X 2).w (X 2).s (X 2).h (iI (pmk a b c : Nat)) = some (iI W, iI x, iI H) ∧ mX5_layPeriod v (iI (pmk a b c : Nat)) = some (iI W, iI x, iI H) := by
  obtain ⟨b0, b1, b2⟩ := pmk_bit a b c
  obtain ⟨w1, s1, h1, p1, c1, r1⟩ := per_step P (j := 0) (by omega) (a0 := iI (pmk a b c : Nat)) (js := 0) iI_0 (fun q => ha (b0.mp q)) (w := 1) (s := 0) (h := 1) (A := 1) ⟨by omega, by omega, by omega, by omega, by omega⟩ (by omega) (by omega)
  obtain ⟨w2, s2, h2, p2, c2, r2⟩ := per_step P (j := 1) (by omega) (a0 := iI (pmk a b c : Nat)) (js := 1) iI_1 (fun q => hb (b1.mp q)) p1 (by omega) (by omega)
  obtain ⟨w3, s3, h3, p3, c3, r3⟩ := per_step P (j := 2) (by omega) (a0 := iI (pmk a b c : Nat)) (js := 2) iI_2 (fun q => hc (b2.mp q)) p2 (by omega) (by omega)
  refine ⟨w3, s3, h3, p3.up (by omega), ?_, ?_⟩
  · unfold mX4_findPeriod
    have b3 : ∀ {β : Type} (u1 u2 u3 : Int32) (K : Int32 → Int32 → Int32 → Option β), bnd3 (some (u1, u2, u3)) K = K u1 u2 u3 := fun _ _ _ _ => rfl
    rw [span0, b3, c1, c2, c3]
  · unfold mX5_layPeriod
    have q1 := r1 999999
    have q2 := r2 999998
    have q3 := r3 999997
    show (bnd4 (mX5_layPeriod_L17 v (iI (pmk a b c : Nat)) (999999 + 1) (iI ((0 : Nat) : Int)) (iI 1) (iI 0) (iI 1)) fun u1_0 u1_1 u1_2 u1_3 => some (u1_1, u1_2, u1_3)) = _
    rw [q1]
    show (bnd4 (mX5_layPeriod_L17 v (iI (pmk a b c : Nat)) (999998 + 1) (iI ((1 : Nat) : Int)) (iI w1) (iI s1) (iI h1)) fun u1_0 u1_1 u1_2 u1_3 => some (u1_1, u1_2, u1_3)) = _
    rw [q2]
    show (bnd4 (mX5_layPeriod_L17 v (iI (pmk a b c : Nat)) (999997 + 1) (iI ((2 : Nat) : Int)) (iI w2) (iI s2) (iI h2)) fun u1_0 u1_1 u1_2 u1_3 => some (u1_1, u1_2, u1_3)) = _
    rw [q3, mX5_layPeriod_L17, if_pos (by rw [iI_3, iI_le (by omega) (by omega) (by omega) (by omega)]; omega)]
    rfl
end Periods
