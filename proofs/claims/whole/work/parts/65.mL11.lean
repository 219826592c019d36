set_option maxHeartbeats 4000000
-- ===== ranks =====
def cnt (f : Nat → Bool) : Nat → Nat
  | 0 => 0
  | n + 1 => cnt f n + (if f n = true then 1 else 0)
theorem cnt_le {f : Nat → Bool} (n : Nat) : cnt f n ≤ n := by
  induction n with
  | zero => exact Nat.le_refl _
  | succ n ih => unfold cnt; split <;> omega
theorem cnt_mono {f g : Nat → Bool} {n : Nat} (h : ∀ q, q < n → f q = true → g q = true) : cnt f n ≤ cnt g n := by
  induction n with
  | zero => exact Nat.le_refl _
  | succ n ih =>
    have := ih (fun q hq => h q (by omega))
    have h2 := h n (by omega)
    unfold cnt
    by_cases hf : f n = true
    · rw [if_pos hf, if_pos (h2 hf)]; omega
    · rw [if_neg hf]; omega
theorem cnt_lt {f g : Nat → Bool} {n q : Nat} (h : ∀ q, q < n → f q = true → g q = true) (hq : q < n) (h1 : ¬ f q = true) (h2 : g q = true) : cnt f n < cnt g n := by
  induction n with
  | zero => omega
  | succ n ih =>
    unfold cnt
    by_cases hn : q = n
    · subst hn
      have := cnt_mono (f := f) (g := g) (n := q) (fun p hp => h p (by omega))
      rw [if_neg h1, if_pos h2]; omega
    · have := ih (fun p hp => h p (by omega)) (by omega)
      by_cases hf : f n = true
      · rw [if_pos hf, if_pos (h n (by omega) hf)]; omega
      · rw [if_neg hf]; omega
theorem cnt_t {f : Nat → Bool} {k : Nat} (h : f k = true) : cnt f (k + 1) = cnt f k + 1 := by
  show cnt f k + (if f k = true then 1 else 0) = _
  rw [if_pos h]
theorem cnt_f {f : Nat → Bool} {k : Nat} (h : ¬ f k = true) : cnt f (k + 1) = cnt f k := by
  show cnt f k + (if f k = true then 1 else 0) = _
  rw [if_neg h, Nat.add_zero]
theorem cnt_congr {f g : Nat → Bool} {n : Nat} (h : ∀ q, q < n → f q = g q) : cnt f n = cnt g n := by
  induction n with
  | zero => rfl
  | succ n ih =>
    unfold cnt
    rw [ih (fun q hq => h q (by omega)), h n (by omega)]
def bef (V : Nat → Int) (p q : Nat) : Bool := decide (V q < V p ∨ (V q = V p ∧ q < p))
def Rk (V : Nat → Int) (N p : Nat) : Nat := cnt (bef V p) N
theorem bef_iff {V : Nat → Int} {p q : Nat} : bef V p q = true ↔ (V q < V p ∨ (V q = V p ∧ q < p)) := decide_eq_true_iff
theorem Rk_lt {V : Nat → Int} {N p : Nat} (hp : p < N) : Rk V N p < N := by
  have h1 : Rk V N p < cnt (fun _ => true) N := cnt_lt (q := p) (fun _ _ _ => rfl) hp (by rw [bef_iff]; omega) rfl
  have h2 := cnt_le (f := fun _ => true) N
  omega
theorem Rk_mono {V : Nat → Int} {N p q : Nat} (hp : p < N) (h : V p < V q ∨ (V p = V q ∧ p < q)) : Rk V N p < Rk V N q := by
  refine cnt_lt (q := p) (fun r hr => ?_) hp (by rw [bef_iff]; omega) (bef_iff.mpr h)
  rw [bef_iff, bef_iff]
  omega
theorem Rk_inj {V : Nat → Int} {N p q : Nat} (hp : p < N) (hq : q < N) (h : Rk V N p = Rk V N q) : p = q := by
  apply Classical.byContradiction
  intro hne
  by_cases h1 : V p < V q ∨ (V p = V q ∧ p < q)
  · have := Rk_mono (N := N) hp h1
    omega
  · have := Rk_mono (V := V) (N := N) (q := p) hq (by omega)
    omega
theorem pigeon : ∀ (n : Nat) (f : Nat → Nat), (∀ p, p < n → f p < n) → (∀ p q, p < n → q < n → f p = f q → p = q) → ∀ r, r < n → ∃ p, p < n ∧ f p = r := by
  intro n
  induction n with
  | zero => intro f _ _ r hr; omega
  | succ n ih =>
    intro f hf hi r hr
    by_cases h0 : f n = r
    · exact ⟨n, by omega, h0⟩
    · have hg := ih (fun p => if f p = n then f n else f p) (fun p hp => by
        have h1 := hf p (by omega)
        have h2 := hf n (by omega)
        have h3 : f p = f n → p = n := hi p n (by omega) (by omega)
        show (if f p = n then f n else f p) < n
        split
        · by_cases h4 : f n = n
          · exfalso; have := h3 (by omega); omega
          · omega
        · omega) (fun p q hp hq he => by
        have h1 := hi p q (by omega) (by omega)
        have h2 := hi p n (by omega) (by omega)
        have h3 := hi q n (by omega) (by omega)
        split at he <;> split at he <;> first | exact h1 (by omega) | (exfalso; have := h2 (by omega); omega) | (exfalso; have := h3 (by omega); omega))
      by_cases hrn : r = n
      · obtain ⟨p, hp, he⟩ := hg (f n) (by have := hf n (by omega); omega)
        split at he
        · exact ⟨p, by omega, by omega⟩
        · have := hi p n (by omega) (by omega) he
          omega
      · obtain ⟨p, hp, he⟩ := hg r (by omega)
        split at he
        · omega
        · exact ⟨p, by omega, he⟩
theorem Rk_surj {V : Nat → Int} {N r : Nat} (hr : r < N) : ∃ p, p < N ∧ Rk V N p = r := pigeon N (Rk V N) (fun _ hp => Rk_lt hp) (fun _ _ hp hq h => Rk_inj hp hq h) r hr
def VB (V : Nat → Int) (N : Nat) : Prop := ∀ p, p < N → -200000000 ≤ V p ∧ V p ≤ 200000000
theorem X3_isBefore {V : Nat → Int} {N : Nat} {val : Nat → Int32} (hV : ∀ p, p < N → val p = iI (V p)) (hB : VB V N) (hN64 : N ≤ 64) {p q : Nat} (hp : p < N) (hq : q < N) : mX3_isBefore val (iI q) (iI p) = some (if bef V p q = true then 1 else 0) := by
  have bp := hB p hp
  have bq := hB q hq
  unfold mX3_isBefore
  rw [X4_atI (by omega) (by omega) (by omega), X4_atI (by omega) (by omega) (by omega)]
  rw [Int.toNat_natCast, Int.toNat_natCast, hV p hp, hV q hq]
  simp only [bnd1]
  simp only [iI_lt (x := V q) (y := V p) (by omega) (by omega) (by omega) (by omega), iI_inj (x := V q) (y := V p) (by omega) (by omega) (by omega) (by omega), iI_le (x := (p : Int)) (y := (q : Int)) (by omega) (by omega) (by omega) (by omega), bef_iff]
  by_cases h1 : V q < V p
  · rw [if_pos h1, if_pos (Or.inl h1)]
  · rw [if_neg h1]
    by_cases h2 : V q = V p
    · rw [if_pos h2]
      by_cases h3 : (p : Int) ≤ (q : Int)
      · rw [if_pos h3, if_neg (by omega)]
      · rw [if_neg h3, if_pos (by omega)]
    · rw [if_neg h2, if_neg (by omega)]
theorem X3_findRanks_L14 {w h : Int} {V : Nat → Int} {N : Nat} {val : Nat → Int32} (hN : w * h = N) (hN64 : N ≤ 64) (hV : ∀ p, p < N → val p = iI (V p)) (hB : VB V N) {p : Nat} (hp : p < N) (n : Nat) : ∀ (fu k : Nat), k + n = N → n < fu →
    ∃ r, mX3_findRanks_L14 (iI w) (iI h) val (iI p) fu (iI k) (iI (cnt (bef V p) k)) = some (r, iI (Rk V N p)) := by
  induction n with
  | zero =>
    intro fu k hk hf
    obtain ⟨fu, rfl⟩ : ∃ k, fu = k + 1 := ⟨fu - 1, by omega⟩
    have : k = N := by omega
    subst this
    refine ⟨iI k, ?_⟩
    rw [mX3_findRanks_L14, X3_area, hN]
    simp only [bnd1]
    rw [if_pos (by rw [iI_le (by omega) (by omega) (by omega) (by omega)]; omega)]
    rfl
  | succ n ih =>
    intro fu k hk hf
    obtain ⟨fu, rfl⟩ : ∃ k, fu = k + 1 := ⟨fu - 1, by omega⟩
    obtain ⟨r, e⟩ := ih fu (k + 1) (by omega) (by omega)
    refine ⟨r, ?_⟩
    rw [mX3_findRanks_L14, X3_area, hN]
    simp only [bnd1]
    rw [if_neg (by rw [iI_le (by omega) (by omega) (by omega) (by omega)]; omega), X3_isBefore hV hB hN64 hp (by omega)]
    simp only [nmB]
    rw [← e]
    by_cases hb : bef V p k = true
    · rw [if_pos hb, if_neg (by decide), iI_1, iI_add, iI_add, cnt_t hb]
      rfl
    · rw [if_neg hb, if_pos rfl, iI_1, iI_add, cnt_f hb]
      rfl
theorem X3_findRanks_L2 {w h : Int} {V : Nat → Int} {N : Nat} {val : Nat → Int32} (hN : w * h = N) (hN64 : N ≤ 64) (hV : ∀ p, p < N → val p = iI (V p)) (hB : VB V N) (n : Nat) : ∀ (fu k : Nat) (rk ord : Nat → Int32), k + n = N → n < fu →
    (∀ p, p < k → rk p = iI (Rk V N p) ∧ ord (Rk V N p) = iI p) →
    ∃ r rk' ord', mX3_findRanks_L2 (iI w) (iI h) val fu (iI k) rk ord = some (r, rk', ord') ∧ ∀ p, p < N → rk' p = iI (Rk V N p) ∧ ord' (Rk V N p) = iI p := by
  induction n with
  | zero =>
    intro fu k rk ord hk hf hI
    obtain ⟨fu, rfl⟩ : ∃ k, fu = k + 1 := ⟨fu - 1, by omega⟩
    refine ⟨iI k, rk, ord, ?_, fun p hp => hI p (by omega)⟩
    rw [mX3_findRanks_L2, X3_area, hN]
    simp only [bnd1]
    rw [if_pos (by rw [iI_le (by omega) (by omega) (by omega) (by omega)]; omega)]
  | succ n ih =>
    intro fu k rk ord hk hf hI
    obtain ⟨fu, rfl⟩ : ∃ k, fu = k + 1 := ⟨fu - 1, by omega⟩
    have hr := Rk_lt (V := V) (show k < N by omega)
    obtain ⟨r, rk', ord', e1, e2⟩ := ih fu (k + 1) (upd rk k (iI (Rk V N k))) (upd ord (Rk V N k) (iI k)) (by omega) (by omega) (fun p hp => by
      by_cases hpk : p = k
      · subst hpk
        exact ⟨upd_same, upd_same⟩
      · have h2 : Rk V N p ≠ Rk V N k := fun q => hpk (Rk_inj (by omega) (by omega) q)
        rw [upd_ne hpk, upd_ne h2]
        exact hI p (by omega))
    refine ⟨r, rk', ord', ?_, e2⟩
    obtain ⟨r0, g⟩ := X3_findRanks_L14 hN hN64 hV hB (show k < N by omega) N FU 0 (by omega) (by unfold FU; omega)
    rw [mX3_findRanks_L2, X3_area, hN]
    simp only [bnd1]
    rw [if_neg (by rw [iI_le (by omega) (by omega) (by omega) (by omega)]; omega)]
    have g' : mX3_findRanks_L14 (iI w) (iI h) val (iI k) FU 0 0 = some (r0, iI (Rk V N k)) := g
    rw [g']
    simp only [bnd2]
    rw [X4_putI (by omega) (by omega) (by omega)]
    simp only []
    rw [X4_putI (by omega) (by omega) (by omega)]
    simp only [nmB, Int.toNat_natCast]
    rw [iI_1, iI_add, ← e1]
    rfl
theorem skolemN {P : Nat → Int → Prop} {N : Nat} (h : ∀ p, p < N → ∃ v, P p v) : ∃ V : Nat → Int, ∀ p, p < N → P p (V p) := by
  refine ⟨fun p => if hp : p < N then Classical.choose (h p hp) else 0, fun p hp => ?_⟩
  show P p (if hp : p < N then Classical.choose (h p hp) else 0)
  rw [dif_pos hp]
  exact Classical.choose_spec (h p hp)
-- the neighbors
def dx (e : Nat) : Int := if e = 0 then 1 else if e = 2 then -1 else 0
def dy (e : Nat) : Int := if e = 1 then 1 else if e = 3 then -1 else 0
def nbr (w s h : Int) (p e : Nat) : Int := num w s h ((p : Int) % w + dx e) ((p : Int) / w + dy e)
theorem dx_bd (e : Nat) : -1 ≤ dx e ∧ dx e ≤ 1 := by unfold dx; split <;> (try split) <;> omega
theorem dy_bd (e : Nat) : -1 ≤ dy e ∧ dy e ≤ 1 := by unfold dy; split <;> (try split) <;> omega
theorem stX_dx (e : Nat) : stX e = iI (dx e) := by
  unfold stX dx; split
  · exact iI_1
  · split
    · exact iI_m1
    · exact iI_0
theorem stY_dy (e : Nat) : stY e = iI (dy e) := by
  unfold stY dy; split
  · exact iI_1
  · split
    · exact iI_m1
    · exact iI_0
theorem X3_nb_L37 {w s h : Int} {N p : Nat} (B : SB w s h) (hN : w * h = N) (hN64 : N ≤ 64) (hp : p < N) (n : Nat) : ∀ (fu k : Nat) (nb : Nat → Int32), k + n = 4 → n < fu →
    ∃ r nb', mX3_findNeighbors_L37 (iI w) (iI s) (iI h) (iI p) (iI ((p : Int) / w)) (iI ((p : Int) % w)) fu (iI k) nb = some (r, nb') ∧ (∀ e, k ≤ e → e < 4 → nb' (4 * p + e) = iI (nbr w s h p e)) ∧ ∀ j, j < 4 * p + k ∨ 4 * p + 4 ≤ j → nb' j = nb j := by
  obtain ⟨p1, p2, p3, p4, p5⟩ := place_xy B.1 B.2.2.2.2.1 hN hp
  have hw := B.2.1
  have hh := B.2.2.2.2.2
  induction n with
  | zero =>
    intro fu k nb hk hf
    obtain ⟨fu, rfl⟩ : ∃ k, fu = k + 1 := ⟨fu - 1, by omega⟩
    refine ⟨iI k, nb, ?_, fun e h1 h2 => by omega, fun _ _ => rfl⟩
    rw [mX3_findNeighbors_L37, iI_4, if_pos (by rw [iI_le (by omega) (by omega) (by omega) (by omega)]; omega)]
  | succ n ih =>
    intro fu k nb hk hf
    obtain ⟨fu, rfl⟩ : ∃ k, fu = k + 1 := ⟨fu - 1, by omega⟩
    obtain ⟨r, nb', e1, e2, e3⟩ := ih fu (k + 1) (upd nb (4 * p + k) (iI (nbr w s h p k))) (by omega) (by omega)
    have bx := dx_bd k
    have by' := dy_bd k
    refine ⟨r, nb', ?_, ?_, ?_⟩
    · rw [mX3_findNeighbors_L37, iI_4, if_neg (by rw [iI_le (by omega) (by omega) (by omega) (by omega)]; omega), X4_atI (by omega) (by omega) (by omega), X4_atI (by omega) (by omega) (by omega)]
      simp only [bnd1, Int.toNat_natCast]
      rw [stX_dx, stY_dy, iI_add, iI_add, X2_numberOf B (by omega) (by omega) (by omega) (by omega)]
      simp only [iI_mul, iI_add]
      rw [X4_putI (by omega) (by omega) (by omega)]
      simp only [nmB]
      have ej : (4 * (p : Int) + (k : Int)).toNat = 4 * p + k := by omega
      rw [ej, iI_1, iI_add, ← e1]
      rfl
    · intro e h1 h2
      by_cases he : e = k
      · rw [he, e3 (4 * p + k) (by omega), upd_same]
      · exact e2 e (by omega) h2
    · intro j hj
      rw [e3 j (by omega), upd_ne (by omega)]
theorem X3_nb_L2 {w s h : Int} {N : Nat} (B : SB w s h) (hN : w * h = N) (hN64 : N ≤ 64) (n : Nat) : ∀ (fu k : Nat) (nb : Nat → Int32), k + n = N → n < fu → (∀ p e, p < k → e < 4 → nb (4 * p + e) = iI (nbr w s h p e)) →
    ∃ r nb', mX3_findNeighbors_L2 (iI w) (iI s) (iI h) fu (iI k) nb = some (r, nb') ∧ ∀ p e, p < N → e < 4 → nb' (4 * p + e) = iI (nbr w s h p e) := by
  have hw := B.2.1
  induction n with
  | zero =>
    intro fu k nb hk hf hI
    obtain ⟨fu, rfl⟩ : ∃ k, fu = k + 1 := ⟨fu - 1, by omega⟩
    refine ⟨iI k, nb, ?_, fun p e h1 h2 => hI p e (by omega) h2⟩
    rw [mX3_findNeighbors_L2, X3_area, hN]
    simp only [bnd1]
    rw [if_pos (by rw [iI_le (by omega) (by omega) (by omega) (by omega)]; omega)]
  | succ n ih =>
    intro fu k nb hk hf hI
    obtain ⟨fu, rfl⟩ : ∃ k, fu = k + 1 := ⟨fu - 1, by omega⟩
    obtain ⟨p1, p2, p3, p4, p5⟩ := place_xy B.1 B.2.2.2.2.1 hN (show k < N by omega)
    obtain ⟨r0, nb0, f1, f2, f3⟩ := X3_nb_L37 B hN hN64 (show k < N by omega) 4 FU 0 nb (by omega) (by unfold FU; omega)
    rw [iI_n0] at f1
    obtain ⟨r, nb', e1, e2⟩ := ih fu (k + 1) nb0 (by omega) (by omega) (fun p e h1 h2 => by
      by_cases hpk : p = k
      · rw [hpk]; exact f2 e (by omega) h2
      · rw [f3 (4 * p + e) (by omega)]; exact hI p e (by omega) h2)
    refine ⟨r, nb', ?_, e2⟩
    rw [mX3_findNeighbors_L2, X3_area, hN]
    simp only [bnd1]
    rw [if_neg (by rw [iI_le (by omega) (by omega) (by omega) (by omega)]; omega), X4_floorDiv (by omega) (by omega) B.1 (by omega)]
    simp only [nmB, iI_mul, iI_sub]
    rw [p5, f1]
    simp only [bnd2]
    rw [iI_1, iI_add, ← e1]
    rfl
-- ===== growth: both sides =====
def Gr (a b c d spot mid w s h : Int) (N : Nat) (V : Nat → Int) : Prop := HB (InG a b c d) w s h ∧ w * h = N ∧ VB V N ∧ ∀ p : Nat, p < N → IsV a b c d spot mid w s h ((p : Int) % w) ((p : Int) / w) (V p)
def ArrV (N : Nat) (V : Nat → Int) (val rk : Nat → Int32) : Prop := ∀ p, p < N → val p = iI (V p) ∧ rk p = iI (Rk V N p)
def ArrO (w s h : Int) (N : Nat) (V : Nat → Int) (ord nb : Nat → Int32) : Prop := ∀ p, p < N → ord (Rk V N p) = iI p ∧ ∀ e, e < 4 → nb (4 * p + e) = iI (nbr w s h p e)
theorem Gr.N64 {a b c d spot mid w s h : Int} {N : Nat} {V : Nat → Int} (hs : Scr0 a b c d) (G : Gr a b c d spot mid w s h N V) : N ≤ 64 := by
  have h1 := G.1.area hs
  have h2 := G.2.1
  have h3 := hs.2.2.2
  omega
theorem Gr.uniq {a b c d spot mid w s h w' s' h' : Int} {N N' : Nat} {V V' : Nat → Int} (G : Gr a b c d spot mid w s h N V) (G' : Gr a b c d spot mid w' s' h' N' V') : w = w' ∧ s = s' ∧ h = h' ∧ N = N' ∧ ∀ p, p < N → V p = V' p := by
  obtain ⟨rfl, rfl, rfl⟩ := G.1.uniq G'.1
  have e : N = N' := by have h1 := G.2.1; have h2 := G'.2.1; omega
  subst e
  exact ⟨rfl, rfl, rfl, rfl, fun p hp => (G.2.2.2 p hp).uniq (G'.2.2.2 p hp)⟩
theorem Rk_congr {V V' : Nat → Int} {N p : Nat} (h : ∀ p, p < N → V p = V' p) (hp : p < N) : Rk V N p = Rk V' N p := by
  refine cnt_congr (fun q hq => ?_)
  unfold bef
  rw [h p hp, h q hq]
def chg (V : Nat → Int) (N : Nat) (rk0 : Nat → Int32) (p : Nat) : Bool := !decide (iI (Rk V N p) = rk0 p)
theorem X3_regrow_L55 {w h : Int} {V : Nat → Int} {N : Nat} {rk0 old rk : Nat → Int32} (hN : w * h = N) (hN64 : N ≤ 64) (hr : ∀ p, p < N → rk p = iI (Rk V N p)) (n : Nat) : ∀ (fu k : Nat), k + n = N → n < fu →
    ∃ r, mX3_regrow_L55 rk0 old (iI w) (iI h) rk fu (iI k) (iI (cnt (chg V N rk0) k)) = some (r, iI (cnt (chg V N rk0) N)) := by
  induction n with
  | zero =>
    intro fu k hk hf
    obtain ⟨fu, rfl⟩ : ∃ k, fu = k + 1 := ⟨fu - 1, by omega⟩
    have : k = N := by omega
    subst this
    refine ⟨iI k, ?_⟩
    rw [mX3_regrow_L55, X3_area, hN]
    simp only [bnd1]
    rw [if_pos (by rw [iI_le (by omega) (by omega) (by omega) (by omega)]; omega)]
  | succ n ih =>
    intro fu k hk hf
    obtain ⟨fu, rfl⟩ : ∃ k, fu = k + 1 := ⟨fu - 1, by omega⟩
    obtain ⟨r, e⟩ := ih fu (k + 1) (by omega) (by omega)
    refine ⟨r, ?_⟩
    have ec : va_cpy rk0 old 0 0 64 k = rk0 k := by
      show (if 0 ≤ k ∧ k < 0 + 64 then rk0 (0 + (k - 0)) else old k) = _
      rw [if_pos (by omega)]
      congr 1; omega
    rw [mX3_regrow_L55, X3_area, hN]
    simp only [bnd1]
    rw [if_neg (by rw [iI_le (by omega) (by omega) (by omega) (by omega)]; omega), X4_atI (by omega) (by omega) (by omega), X4_atI (by omega) (by omega) (by omega), Int.toNat_natCast, ec, hr k (by omega)]
    simp only [nmB]
    rw [← e]
    by_cases hb : iI (Rk V N k) = rk0 k
    · rw [if_pos hb, iI_1, iI_add, cnt_f (by unfold chg; simp [hb])]
      rfl
    · rw [if_neg hb, iI_1, iI_add, iI_add, cnt_t (by unfold chg; simp [hb])]
      rfl
theorem X3_regrow {a b c d spot mid : Int} (hsp : 0 ≤ spot ∧ spot ≤ 4) (hm : mid = 0 ∨ mid = 1) (hs : Scr0 a b c d) (val oth rk0 old ord nb : Nat → Int32) :
    ∃ w s h N V val' oth' rk' ord' nb', mX3_regrow (iI a) (iI b) (iI c) (iI d) (iI spot) (iI mid) val oth rk0 old ord nb = some (iI (cnt (chg V N rk0) N), iI w, iI s, iI h, val', oth', rk', va_cpy rk0 old 0 0 64, ord', nb') ∧
      Gr a b c d spot mid w s h N V ∧ ArrV N V val' rk' ∧ ArrO w s h N V ord' nb' := by
  obtain ⟨ba, bb, bc, bd⟩ := hs.bd
  have dd := hs.det
  have m := mul_bd2 (x := c) (y := b) (A := 11) (B := 11) (by omega) (by omega)
  have m2 : c.natAbs * b.natAbs ≤ 11 * 11 := Nat.mul_le_mul (by omega) (by omega)
  have hn := hs.2.2.1
  obtain ⟨w, s, h, e1, H0⟩ := X2_span (f := 0) (x1 := a) (y1 := b) (x2 := c) (y2 := d) (M := 200) (by omega) (by omega) (by omega) (by omega) (by omega) (by
    have : a * d - c * b = a * d - b * c := by rw [Int.mul_comm c b]
    rw [this]; omega) (by omega) (by omega) (by omega) (Or.inr (by rw [Int.mul_comm c b]; exact hn)) (by
    by_cases hb : b = 0
    · right; intro hd; apply hn; rw [hb, hd]; simp
    · left; exact hb)
  have H : HB (InG a b c d) w s h := H0.congr (fun x y => InF.zero)
  have B := H.SB hs
  have hA := H.area hs
  have hN : w * h = ((a * d - b * c).natAbs : Nat) := hA
  generalize hNN : (a * d - b * c).natAbs = N at hN
  have hN64 : N ≤ 64 := by have := hs.2.2.2; omega
  obtain ⟨r2, nb', n1, n2⟩ := X3_nb_L2 B hN hN64 N FU 0 nb (by omega) (by unfold FU; omega) (fun p e h1 _ => by omega)
  obtain ⟨val', oth', v1, v2⟩ := X3_findValues hsp hm hs H hN val oth
  obtain ⟨V, hV⟩ := skolemN v2
  have hVB : VB V N := fun p hp => ⟨(hV p hp).2.1, (hV p hp).2.2.1⟩
  obtain ⟨r3, rk', ord', f1, f2⟩ := X3_findRanks_L2 hN hN64 (fun p hp => (hV p hp).1) hVB N FU 0 rk0 ord (by omega) (by unfold FU; omega) (fun p hp => by omega)
  obtain ⟨r4, g1⟩ := X3_regrow_L55 (rk0 := rk0) (old := old) (rk := rk') hN hN64 (fun p hp => (f2 p hp).1) N FU 0 (by omega) (by unfold FU; omega)
  refine ⟨w, s, h, N, V, val', oth', rk', ord', nb', ?_, ⟨H, hN, hVB, fun p hp => (hV p hp).2.2.2⟩, fun p hp => ⟨(hV p hp).1, (f2 p hp).1⟩, fun p hp => ⟨(f2 p hp).2, fun e he => n2 p e hp he⟩⟩
  rw [iI_n0] at n1 f1
  have g1' : mX3_regrow_L55 rk0 old (iI w) (iI h) rk' FU 0 0 = some (r4, iI (cnt (chg V N rk0) N)) := g1
  unfold mX3_regrow mX3_findNeighbors mX3_findRanks
  rw [iI_0, e1]
  simp only [bnd3]
  rw [← iI_0, n1]
  simp only [bnd2, bnd1]
  rw [v1]
  simp only []
  rw [f1]
  simp only []
  rw [g1']
theorem X5_layGrowth_L16 {v so im : Nat → Int32} {k : Nat} {a b c d spot mid w s h : Int} {N : Nat} {V : Nat → Int} (hk : k < 3) (hv : SlotV v k a b c d) (hso : so k = iI spot) (him : im k = iI mid) (hsp : 0 ≤ spot ∧ spot ≤ 4) (hm : mid = 0 ∨ mid = 1) (hs : Scr0 a b c d) (G : Gr a b c d spot mid w s h N V) (n : Nat) :
    ∀ (fu i : Nat) (val : Nat → Int32), i + n = N → n < fu → (∀ p, p < i → val p = iI (V p)) →
    ∃ r val', mX5_layGrowth_L16 v so im (iI k) (iI w) (iI s) (iI h) (iI N) fu (iI i) val = some (r, val') ∧ ∀ p, p < N → val' p = iI (V p) := by
  have hN64 := G.N64 hs
  have B := G.1.SB hs
  induction n with
  | zero =>
    intro fu i val hi hf hI
    obtain ⟨fu, rfl⟩ : ∃ k, fu = k + 1 := ⟨fu - 1, by omega⟩
    refine ⟨iI i, val, ?_, fun p hp => hI p (by omega)⟩
    rw [mX5_layGrowth_L16, if_pos (by rw [iI_le (by omega) (by omega) (by omega) (by omega)]; omega)]
  | succ n ih =>
    intro fu i val hi hf hI
    obtain ⟨fu, rfl⟩ : ∃ k, fu = k + 1 := ⟨fu - 1, by omega⟩
    obtain ⟨p1, p2, p3, p4, p5⟩ := place_xy B.1 B.2.2.2.2.1 G.2.1 (show i < N by omega)
    have hw := B.2.1
    have hh := B.2.2.2.2.2
    obtain ⟨x, e1, e2⟩ := X5_valueAt hk hv hso him hsp hm hs G.1 (x := (i : Int) % w) (y := (i : Int) / w) p1 (by omega) p3 (by omega)
    have ex := e2.uniq (G.2.2.2 i (by omega))
    subst ex
    obtain ⟨r, val', f1, f2⟩ := ih fu (i + 1) (upd val i (iI (V i))) (by omega) (by omega) (fun p hp => by
      by_cases hpi : p = i
      · rw [hpi, upd_same]
      · rw [upd_ne hpi]; exact hI p (by omega))
    refine ⟨r, val', ?_, f2⟩
    have hw0 : ¬ iI w = 0 := by rw [iI_eq0 (by omega) (by omega)]; have := B.1; omega
    rw [mX5_layGrowth_L16, if_neg (by rw [iI_le (by omega) (by omega) (by omega) (by omega)]; omega)]
    simp only [gz, if_neg hw0]
    rw [iI_tdiv (by omega) (by omega) (by omega) (by omega), Int.tdiv_eq_ediv_of_nonneg (by omega), iI_mul, iI_sub, p5, e1]
    simp only [bnd1]
    rw [gdI (by omega) (by omega) (by omega), clk (by omega)]
    simp only [nmB]
    rw [iI_1, iI_add, ← f1]
    rfl
theorem X5_layGrowth_L72 {V : Nat → Int} {N : Nat} {val : Nat → Int32} (hN64 : N ≤ 64) (hV : ∀ p, p < N → val p = iI (V p)) (hB : VB V N) {p : Nat} (hp : p < N) (n : Nat) : ∀ (fu k : Nat) (rk : Nat → Int32), k + n = N → n < fu → rk p = iI (cnt (bef V p) k) →
    ∃ r rk', mX5_layGrowth_L72 (iI N) val (iI p) fu (iI k) rk = some (r, rk') ∧ rk' p = iI (Rk V N p) ∧ ∀ j, j ≠ p → rk' j = rk j := by
  induction n with
  | zero =>
    intro fu k rk hk hf hI
    obtain ⟨fu, rfl⟩ : ∃ k, fu = k + 1 := ⟨fu - 1, by omega⟩
    have : k = N := by omega
    subst this
    refine ⟨iI k, rk, ?_, hI, fun _ _ => rfl⟩
    rw [mX5_layGrowth_L72, if_pos (by rw [iI_le (by omega) (by omega) (by omega) (by omega)]; omega)]
  | succ n ih =>
    intro fu k rk hk hf hI
    obtain ⟨fu, rfl⟩ : ∃ k, fu = k + 1 := ⟨fu - 1, by omega⟩
    have bp := hB p hp
    have bk := hB k (by omega)
    obtain ⟨r, rk', e1, e2, e3⟩ := ih fu (k + 1) (upd rk p (iI (cnt (bef V p) (k + 1)))) (by omega) (by omega) upd_same
    refine ⟨r, rk', ?_, e2, fun j hj => by rw [e3 j hj, upd_ne hj]⟩
    have g1 : ∀ {β : Type} {E : Option β}, gd (iI p) 64 E = E := gdI (by omega) (by omega) (by omega)
    have g2 : ∀ {β : Type} {E : Option β}, gd (iI k) 64 E = E := gdI (by omega) (by omega) (by omega)
    rw [mX5_layGrowth_L72, if_neg (by rw [iI_le (by omega) (by omega) (by omega) (by omega)]; omega)]
    rw [g1, g2, g1, clk (show k < 2147483648 by omega), clk (show p < 2147483648 by omega), hV k (by omega), hV p hp, hI]
    simp only [g1, g2, nmB]
    rw [iI_1, iI_0, iI_add, iI_add, iI_add]
    rw [← e1]
    by_cases h1 : V k < V p
    · rw [if_pos ((iI_lt (by omega) (by omega) (by omega) (by omega)).mpr h1), cnt_t (bef_iff.mpr (Or.inl h1))]
      rfl
    · rw [if_neg (fun q => h1 ((iI_lt (by omega) (by omega) (by omega) (by omega)).mp q))]
      by_cases h2 : V k = V p
      · rw [if_pos (by rw [h2])]
        by_cases h3 : p ≤ k
        · rw [if_pos ((iI_le (by omega) (by omega) (by omega) (by omega)).mpr (by omega)), cnt_f (by rw [bef_iff]; omega), Int.add_zero]
          rfl
        · rw [if_neg (fun q => h3 (by have := (iI_le (by omega) (by omega) (by omega) (by omega)).mp q; omega)), cnt_t (by rw [bef_iff]; omega)]
          rfl
      · rw [if_neg (fun q => h2 ((iI_inj (by omega) (by omega) (by omega) (by omega)).mp q)), cnt_f (by rw [bef_iff]; omega), Int.add_zero]
        rfl
theorem X5_layGrowth_L55 {V : Nat → Int} {N : Nat} {val : Nat → Int32} (hN64 : N ≤ 64) (hV : ∀ p, p < N → val p = iI (V p)) (hB : VB V N) (n : Nat) : ∀ (fu k : Nat) (rk : Nat → Int32), k + n = N → n < fu → (∀ p, p < k → rk p = iI (Rk V N p)) →
    ∃ r rk', mX5_layGrowth_L55 (iI N) val fu (iI k) rk = some (r, rk') ∧ ∀ p, p < N → rk' p = iI (Rk V N p) := by
  induction n with
  | zero =>
    intro fu k rk hk hf hI
    obtain ⟨fu, rfl⟩ : ∃ k, fu = k + 1 := ⟨fu - 1, by omega⟩
    refine ⟨iI k, rk, ?_, fun p hp => hI p (by omega)⟩
    rw [mX5_layGrowth_L55, if_pos (by rw [iI_le (by omega) (by omega) (by omega) (by omega)]; omega)]
  | succ n ih =>
    intro fu k rk hk hf hI
    obtain ⟨fu, rfl⟩ : ∃ k, fu = k + 1 := ⟨fu - 1, by omega⟩
    obtain ⟨r0, rk0, g1, g2, g3⟩ := X5_layGrowth_L72 hN64 hV hB (show k < N by omega) N FU 0 (upd rk k 0) (by omega) (by unfold FU; omega) upd_same
    obtain ⟨r, rk', e1, e2⟩ := ih fu (k + 1) rk0 (by omega) (by omega) (fun p hp => by
      by_cases hpk : p = k
      · rw [hpk]; exact g2
      · rw [g3 p hpk, upd_ne hpk]; exact hI p (by omega))
    refine ⟨r, rk', ?_, e2⟩
    rw [iI_n0] at g1
    rw [mX5_layGrowth_L55, if_neg (by rw [iI_le (by omega) (by omega) (by omega) (by omega)]; omega), gdI (by omega) (by omega) (by omega), clk (by omega), g1]
    simp only [bnd2, nmB]
    rw [iI_1, iI_add, ← e1]
    rfl
theorem X5_layGrowth {v so im : Nat → Int32} {k : Nat} {a b c d spot mid w s h : Int} {N : Nat} {V : Nat → Int} (hk : k < 3) (hv : SlotV v k a b c d) (hso : so k = iI spot) (him : im k = iI mid) (hsp : 0 ≤ spot ∧ spot ≤ 4) (hm : mid = 0 ∨ mid = 1) (hs : Scr0 a b c d) (G : Gr a b c d spot mid w s h N V) (val rk : Nat → Int32) :
    ∃ val' rk', mX5_layGrowth v so im val rk (iI k) = some (iI w, iI s, iI h, iI N, val', rk') ∧ ArrV N V val' rk' := by
  have hN64 := G.N64 hs
  obtain ⟨w', s', h', e1, H⟩ := X5_layScreen hk hv hs
  obtain ⟨rfl, rfl, rfl⟩ := G.1.uniq H
  have hA := G.1.area hs
  have eN : ((a * d - b * c).natAbs : Int) = N := by rw [← hA, G.2.1]
  obtain ⟨r1, val', f1, f2⟩ := X5_layGrowth_L16 hk hv hso him hsp hm hs G N FU 0 val (by omega) (by unfold FU; omega) (fun p hp => by omega)
  obtain ⟨r2, rk', g1, g2⟩ := X5_layGrowth_L55 hN64 f2 G.2.2.1 N FU 0 rk (by omega) (by unfold FU; omega) (fun p hp => by omega)
  refine ⟨val', rk', ?_, fun p hp => ⟨f2 p hp, g2 p hp⟩⟩
  rw [iI_n0] at f1 g1
  unfold mX5_layGrowth
  rw [e1, X5_areaIn hk hv hs, eN]
  simp only [bnd3, bnd1]
  rw [f1]
  simp only [bnd2]
  rw [g1]
