set_option maxHeartbeats 4000000
-- ===== digest: one screen, pairs =====
abbrev mx (a b : Int64) : Int64 := 31 * a + b
theorem X4_mix (a b : Int64) : mX4_mix a b = some (mx a b) := rfl
theorem X5_mix (a b : Int64) : mX5_mix a b = some (mx a b) := rfl
section Digest
variable {X : Nat → Scr} {th v so im ti : Nat → Int32} {D : Nat → TD}
theorem iI_s (k : Nat) : iI (k : Int) + 1 = iI ((k + 1 : Nat) : Int) := by rw [iI_1, iI_add]; rfl
theorem mix_props {x : Scr} {k : Nat} {T : TD} (hk : k < 3) (S : SDT x k v so im ti T) (n : Nat) : ∀ (fu fu' i : Nat) (h : Int64) (w1 w2 w3 : Int32), i + n = 11 → n < fu → n < fu' →
    ∃ (h' : Int64) (r r' y1 y2 y3 : Int32), mX4_mixScreen_L27 x.a x.b x.c x.d x.sp x.mi x.ti x.w x.s x.h fu (iI (i : Int)) h = some (r, h') ∧ mX5_mixScreen_L7 v so im ti (iI k) fu' (iI (i : Int)) w1 w2 w3 h = some (r', y1, y2, y3, h') := by
  have e10 : (10 : Int32) = iI 10 := iI_lit 10
  have e11 : (11 : Int32) = iI 11 := iI_lit 11
  induction n with
  | zero =>
    intro fu fu' i h w1 w2 w3 hi hf hf'
    obtain ⟨fu, rfl⟩ : ∃ j, fu = j + 1 := ⟨fu - 1, by omega⟩
    obtain ⟨fu', rfl⟩ : ∃ j, fu' = j + 1 := ⟨fu' - 1, by omega⟩
    refine ⟨h, iI i, iI i, w1, w2, w3, ?_, ?_⟩
    · rw [mX4_mixScreen_L27, if_pos (by rw [e10, iI_lt (by omega) (by omega) (by omega) (by omega)]; omega)]
    · rw [mX5_mixScreen_L7, if_pos (by rw [e11, iI_le (by omega) (by omega) (by omega) (by omega)]; omega)]
  | succ n ih =>
    intro fu fu' i h w1 w2 w3 hi hf hf'
    obtain ⟨fu, rfl⟩ : ∃ j, fu = j + 1 := ⟨fu - 1, by omega⟩
    obtain ⟨fu', rfl⟩ : ∃ j, fu' = j + 1 := ⟨fu' - 1, by omega⟩
    obtain ⟨o, p1, p2⟩ := SD.prop hk S (a := (i : Int)) (by omega) rfl
    obtain ⟨h', r, r', y1, y2, y3, q1, q2⟩ := ih fu fu' (i + 1) (mx h o.toInt64) (iI T.w) (iI T.s) (iI T.h) (by omega) (by omega) (by omega)
    refine ⟨h', r, r', y1, y2, y3, ?_, ?_⟩
    · rw [mX4_mixScreen_L27, if_neg (by rw [e10, iI_lt (by omega) (by omega) (by omega) (by omega)]; omega), p1]
      simp only [bnd1, X4_mix, nmB]
      rw [iI_s, q1]
    · rw [mX5_mixScreen_L7, if_neg (by rw [e11, iI_le (by omega) (by omega) (by omega) (by omega)]; omega), p2]
      simp only [bnd4, bnd1, X5_mix, nmB]
      rw [iI_s, q2]
theorem mix_vals {w h : Int} {N : Nat} {V : Nat → Int} {va ra val rk : Nat → Int32} (hwh : w * h = N) (hN : N ≤ 64) (h1 : ArrV N V va ra) (h2 : ArrV N V val rk) (n : Nat) : ∀ (fu fu' i : Nat) (g : Int64), i + n = N → n < fu → n < fu' →
    ∃ (g' : Int64) (r r' : Int32), mX4_mixScreen_L57 (iI w) (iI h) va ra fu (iI (i : Int)) g = some (r, g') ∧ mX5_mixScreen_L37 (iI (N : Int)) val rk fu' (iI (i : Int)) g = some (r', g') := by
  have hA : mX3_area (iI w) (iI h) = some (iI (N : Int)) := by rw [X3_area, hwh]
  induction n with
  | zero =>
    intro fu fu' i g hi hf hf'
    obtain ⟨fu, rfl⟩ : ∃ j, fu = j + 1 := ⟨fu - 1, by omega⟩
    obtain ⟨fu', rfl⟩ : ∃ j, fu' = j + 1 := ⟨fu' - 1, by omega⟩
    refine ⟨g, iI i, iI i, ?_, ?_⟩
    · rw [mX4_mixScreen_L57, hA]
      simp only [bnd1]
      rw [if_pos (by rw [iI_le (by omega) (by omega) (by omega) (by omega)]; omega)]
    · rw [mX5_mixScreen_L37, if_pos (by rw [iI_le (by omega) (by omega) (by omega) (by omega)]; omega)]
  | succ n ih =>
    intro fu fu' i g hi hf hf'
    obtain ⟨fu, rfl⟩ : ∃ j, fu = j + 1 := ⟨fu - 1, by omega⟩
    obtain ⟨fu', rfl⟩ : ∃ j, fu' = j + 1 := ⟨fu' - 1, by omega⟩
    obtain ⟨a1, a2⟩ := h1 i (by omega)
    obtain ⟨b1, b2⟩ := h2 i (by omega)
    obtain ⟨g', r, r', q1, q2⟩ := ih fu fu' (i + 1) (mx (mx g (iI (V i)).toInt64) (iI (Rk V N i : Nat)).toInt64) (by omega) (by omega) (by omega)
    refine ⟨g', r, r', ?_, ?_⟩
    · rw [mX4_mixScreen_L57, hA]
      simp only [bnd1]
      rw [if_neg (by rw [iI_le (by omega) (by omega) (by omega) (by omega)]; omega), iI_nat i, X4_at (by omega) (by omega), X4_at (by omega) (by omega), a1, a2, ← iI_nat i]
      simp only [X4_mix, nmB]
      rw [iI_s, q1]
    · rw [mX5_mixScreen_L37, if_neg (by rw [iI_le (by omega) (by omega) (by omega) (by omega)]; omega), gdI (by omega) (by omega) (by omega), clk (by omega), b1]
      simp only [X5_mix, bnd1]
      rw [gdI (by omega) (by omega) (by omega), b2]
      simp only [nmB]
      rw [iI_s, q2]
theorem mix_screen {x : Scr} {k : Nat} {T : TD} (hk : k < 3) (S : SDT x k v so im ti T) (hp : x.pr = 1) {g : Int} (hg0 : 0 ≤ g) (hg1 : g ≤ 100) (h : Int64) (s1 s2 s3 s4 s5 s6 : Int32) (s7 s8 s9 s10 : Nat → Int32) (w1 w2 w3 w5 w6 w7 w8 : Int32) (z1 z2 z3 z4 z5 z6 : Nat → Int32) :
    ∃ (h' : Int64) (c1 c2 c3 c4 c5 c6 : Int32) (c7 c8 c9 c10 : Nat → Int32) (y1 y2 y3 y4 y5 y6 y7 y8 y9 y10 : Int32) (u1 u2 u3 u4 u5 u6 : Nat → Int32),
      mX4_mixScreen (iI g) s1 s2 s3 s4 s5 s6 s7 s8 s9 s10 x.pr x.a x.b x.c x.d x.sp x.mi x.ti x.w x.s x.h x.va x.ra x.ne h = some (h', c1, c2, c3, c4, c5, c6, c7, c8, c9, c10) ∧
      mX5_mixScreen (iI g) w1 w2 w3 w5 w6 w7 w8 h v so im ti z1 z2 z3 z4 z5 z6 (iI k) = some (y1, y2, y3, y4, y5, y6, y7, y8, y9, y10, h', u1, u2, u3, u4, u5, u6) := by
  have hN := S.N64
  have hA := S.area.1
  have B := S.B
  have n1 : ¬ (1 : Int32) = 0 := by decide
  obtain ⟨val', rk', g1, g2⟩ := S.grow hk z1 z2
  obtain ⟨r1, r2, r3, r4, -⟩ := S.rk
  obtain ⟨-, -, -, ⟨t0, t1⟩, ⟨-, -, -, -, -, -, f7, f8, f9, f10⟩, -, AV, -, -, -, -, g12⟩ := id S
  obtain ⟨h1, ra, rb, y1, y2, y3, m1, m2⟩ := mix_props hk S 11 FU FU 0 (mx h 1) w1 w2 w3 (by omega) (by unfold FU; omega) (by unfold FU; omega)
  obtain ⟨h2, rc, rd, m3, m4⟩ := mix_vals hA hN AV g2 T.N FU FU 0 h1 (by omega) (by unfold FU; omega) (by unfold FU; omega)
  obtain ⟨c1, c2, c3, c4, c5, c6, c7, c8, hc⟩ := X0_examine (st := T.t) (nb := x.ne) B hA hN r1 r2 r3 (by omega) (by omega) s1 s4 s5 s6 s7 s8 s9 s10
  obtain ⟨p1, p2, p3, p4, p5, p6, p7, p8, hr⟩ := X5_layDots (st := T.t) (rk := rk') B hA hN (fun p hp => (g2 p hp).2) r2 (by omega) (by omega) w5 w6 w7 w8 z3 z4 z5 z6
  have hs := X3_strengthOf (st := T.t) (g := g) (nb := x.ne) B hA hN r1 r2 r3 (by omega) (by omega) hg0 hg1
  have hs' := X5_strengthOf (st := T.t) (g := g) (rk := rk') B hA hN (fun p hp => (g2 p hp).2) r2 (by omega) (by omega) hg0 hg1
  rw [iI_n0] at m1 m2 m3 m4
  generalize (cnt (stt (Ink (Rk T.V T.N) T.t) (NBN T.w T.s T.h)) T.N : Int) = dd at hc hr
  generalize (mjo (Ink (Rk T.V T.N) T.t) (NBN T.w T.s T.h) T.N : Int) = jj at hc hr
  generalize Str (Ink (Rk T.V T.N) T.t) (NBN T.w T.s T.h) g T.N = ss at hs hs'
  refine ⟨mx (mx (mx h2 (iI dd).toInt64) (iI jj).toInt64) (iI ss).toInt64, c1, iI dd, iI jj, c2, c3, c4, c5, c6, c7, c8, iI T.w, iI T.s, iI T.h, iI (T.N : Int), p1, p2, p3, p4, iI dd, iI jj, val', rk', p5, p6, p7, p8, ?_, ?_⟩
  · unfold mX4_mixScreen
    rw [if_neg (by rw [hp]; exact n1), X4_mix]
    simp only [bnd1]
    rw [m1]
    simp only [bnd2]
    rw [f8, f10, m3]
    dsimp only
    rw [f7, hc]
    simp only [bnd10, X4_mix]
    rw [hs]
  · unfold mX5_mixScreen
    rw [X5_mix]
    simp only [bnd1]
    rw [m2]
    simp only [bnd5]
    rw [g1]
    simp only [bnd6]
    rw [m4]
    simp only [bnd2]
    rw [gdk hk, clk (by omega), g12, hr]
    simp only [bnd10, X5_mix]
    rw [gdk hk, hs']
end Digest
-- ===== digest: the whole =====
section Digest2
variable {X : Nat → Scr} {th v so im ti : Nat → Int32} {D : Nat → TD}
theorem dig_step (P : PD X th v so im ti D) {k : Nat} (hk : k < 3) {g : Int} (hg0 : 0 ≤ g) (hg1 : g ≤ 100) (h : Int64) (s1 s2 s3 s4 s5 s6 : Int32) (s7 s8 s9 s10 : Nat → Int32) (w1 w2 w3 w4 w5 w6 w7 w8 w9 w10 : Int32) (z1 z2 z3 z4 z5 z6 : Nat → Int32) :
    ∃ (h' : Int64) (c1 c2 c3 c4 c5 c6 : Int32) (c7 c8 c9 c10 : Nat → Int32) (y1 y2 y3 y4 y5 y6 y7 y8 y9 y10 : Int32) (u1 u2 u3 u4 u5 u6 : Nat → Int32),
      mX4_mixScreen (iI g) s1 s2 s3 s4 s5 s6 s7 s8 s9 s10 (X k).pr (X k).a (X k).b (X k).c (X k).d (X k).sp (X k).mi (X k).ti (X k).w (X k).s (X k).h (X k).va (X k).ra (X k).ne h = some (h', c1, c2, c3, c4, c5, c6, c7, c8, c9, c10) ∧
      ∀ fu, mX5_digest_L37 (iI g) th v so im ti (fu + 1) (iI k) w1 w2 w3 w4 w5 w6 w7 w8 w9 w10 h z1 z2 z3 z4 z5 z6 = mX5_digest_L37 (iI g) th v so im ti fu (iI ((k + 1 : Nat) : Int)) y1 y2 y3 y4 y5 y6 y7 y8 y9 y10 h' u1 u2 u3 u4 u5 u6 := by
  have n1 : ¬ (1 : Int32) = 0 := by decide
  rcases P k hk with ⟨hp, ht⟩ | ⟨hp, ht, S⟩
  · refine ⟨mx h 0, s1, s2, s3, s4, s5, s6, s7, s8, s9, s10, w1, w2, w3, w4, w5, w6, w7, w8, w9, w10, z1, z2, z3, z4, z5, z6, ?_, fun fu => ?_⟩
    · unfold mX4_mixScreen
      rw [if_pos hp, X4_mix]
      rfl
    · rw [mX5_digest_L37, if_neg (by rw [iI_3, iI_le (by omega) (by omega) (by omega) (by omega)]; omega), gdk hk, clk (by omega), if_pos ht, X5_mix]
      simp only [bnd1, nmB]
      rw [iI_s]
  · obtain ⟨h', c1, c2, c3, c4, c5, c6, c7, c8, c9, c10, y1, y2, y3, y4, y5, y6, y7, y8, y9, y10, u1, u2, u3, u4, u5, u6, e1, e2⟩ := mix_screen hk S hp hg0 hg1 h s1 s2 s3 s4 s5 s6 s7 s8 s9 s10 w1 w2 w3 w5 w6 w7 w8 z1 z2 z3 z4 z5 z6
    refine ⟨h', c1, c2, c3, c4, c5, c6, c7, c8, c9, c10, y1, y2, y3, y4, y5, y6, y7, y8, y9, y10, u1, u2, u3, u4, u5, u6, e1, fun fu => ?_⟩
    rw [mX5_digest_L37, if_neg (by rw [iI_3, iI_le (by omega) (by omega) (by omega) (by omega)]; omega), gdk hk, clk (by omega), if_neg (by rw [ht]; exact n1), e2]
    simp only [bnd17, nmB]
    rw [iI_s]
theorem mix_per (P : PD X th v so im ti D) {m : Int} (m0 : 1 ≤ m) (m7 : m ≤ 7) (hm : iI m &&& iI (pm X : Nat) = iI m) {W x H : Int32} (hl : mX5_layPeriod v (iI m) = some (W, x, H)) (n : Nat) : ∀ (fu fu' i : Nat) (h : Int64) (f1 f2 f3 : Int32), i + n = 4 → n < fu → n < fu' →
    ∃ (h' : Int64) (r r' y1 y2 y3 : Int32), mX4_mixPair_L30 (X 0).pr (X 0).w (X 0).s (X 0).h (X 1).pr (X 1).w (X 1).s (X 1).h (X 2).pr (X 2).w (X 2).s (X 2).h (iI m) fu (iI (i : Int)) h f1 f2 f3 = some (r, h', y1, y2, y3) ∧ mX5_mixPair_L13 W x H fu' (iI (i : Int)) h = some (r', h') := by
  induction n with
  | zero =>
    intro fu fu' i h f1 f2 f3 hi hf hf'
    obtain ⟨fu, rfl⟩ : ∃ j, fu = j + 1 := ⟨fu - 1, by omega⟩
    obtain ⟨fu', rfl⟩ : ∃ j, fu' = j + 1 := ⟨fu' - 1, by omega⟩
    refine ⟨h, iI i, iI i, f1, f2, f3, ?_, ?_⟩
    · rw [mX4_mixPair_L30, if_pos (by rw [iI_3, iI_lt (by omega) (by omega) (by omega) (by omega)]; omega)]
    · rw [mX5_mixPair_L13, if_pos (by rw [iI_4, iI_le (by omega) (by omega) (by omega) (by omega)]; omega)]
  | succ n ih =>
    intro fu fu' i h f1 f2 f3 hi hf hf'
    obtain ⟨fu, rfl⟩ : ∃ j, fu = j + 1 := ⟨fu - 1, by omega⟩
    obtain ⟨fu', rfl⟩ : ∃ j, fu' = j + 1 := ⟨fu' - 1, by omega⟩
    obtain ⟨W', x', H', p, -, e1, e2, e3⟩ := X4_period_ok P m0 m7 (q := (i : Int)) (by omega) (by omega) hm
    rw [hl] at e2
    injection e2 with e2
    injection e2 with a1 e2
    injection e2 with a2 a3
    rw [← a1, ← a2, ← a3] at e1 e3
    obtain ⟨h', r, r', y1, y2, y3, q1, q2⟩ := ih fu fu' (i + 1) (mx h p.toInt64) W x H (by omega) (by omega) (by omega)
    refine ⟨h', r, r', y1, y2, y3, ?_, ?_⟩
    · rw [mX4_mixPair_L30, if_neg (by rw [iI_3, iI_lt (by omega) (by omega) (by omega) (by omega)]; omega), e1]
      simp only [bnd4, bnd1, X4_mix, nmB]
      rw [iI_s, q1]
    · rw [mX5_mixPair_L13, if_neg (by rw [iI_4, iI_le (by omega) (by omega) (by omega) (by omega)]; omega), e3]
      simp only [bnd1, X5_mix, nmB]
      rw [iI_s, q2]
theorem mix_beat (P : PD X th v so im ti D) {i j : Nat} (hi : i < 3) (hj : j < 3) (pi : (X i).pr = 1) (pj : (X j).pr = 1) {W x H : Int32} (hl : mX5_layBeat v (iI i) (iI j) = some (W, x, H)) (n : Nat) : ∀ (fu fu' q : Nat) (h : Int64) (f1 f2 f3 : Int32), q + n = 4 → n < fu → n < fu' →
    ∃ (h' : Int64) (r r' y1 y2 y3 : Int32), mX4_mixPair_L61 (X i).pr (X i).w (X i).s (X i).h (X j).pr (X j).w (X j).s (X j).h fu (iI (q : Int)) h f1 f2 f3 = some (r, h', y1, y2, y3) ∧ mX5_mixPair_L42 W x H fu' (iI (q : Int)) h = some (r', h') := by
  induction n with
  | zero =>
    intro fu fu' q h f1 f2 f3 hq hf hf'
    obtain ⟨fu, rfl⟩ : ∃ j, fu = j + 1 := ⟨fu - 1, by omega⟩
    obtain ⟨fu', rfl⟩ : ∃ j, fu' = j + 1 := ⟨fu' - 1, by omega⟩
    refine ⟨h, iI q, iI q, f1, f2, f3, ?_, ?_⟩
    · rw [mX4_mixPair_L61, if_pos (by rw [iI_3, iI_lt (by omega) (by omega) (by omega) (by omega)]; omega)]
    · rw [mX5_mixPair_L42, if_pos (by rw [iI_4, iI_le (by omega) (by omega) (by omega) (by omega)]; omega)]
  | succ n ih =>
    intro fu fu' q h f1 f2 f3 hq hf hf'
    obtain ⟨fu, rfl⟩ : ∃ j, fu = j + 1 := ⟨fu - 1, by omega⟩
    obtain ⟨fu', rfl⟩ : ∃ j, fu' = j + 1 := ⟨fu' - 1, by omega⟩
    obtain ⟨W', x', H', p, e1, e2, e3⟩ := X4_beat_ok P hi hj pi pj (q := (q : Int)) (by omega) (by omega)
    rw [hl] at e2
    injection e2 with e2
    injection e2 with a1 e2
    injection e2 with a2 a3
    rw [← a1, ← a2, ← a3] at e1 e3
    obtain ⟨h', r, r', y1, y2, y3, q1, q2⟩ := ih fu fu' (q + 1) (mx h p.toInt64) W x H (by omega) (by omega) (by omega)
    refine ⟨h', r, r', y1, y2, y3, ?_, ?_⟩
    · rw [mX4_mixPair_L61, if_neg (by rw [iI_3, iI_lt (by omega) (by omega) (by omega) (by omega)]; omega), e1]
      simp only [bnd4, bnd1, X4_mix, nmB]
      rw [iI_s, q1]
    · rw [mX5_mixPair_L42, if_neg (by rw [iI_4, iI_le (by omega) (by omega) (by omega) (by omega)]; omega), e3]
      simp only [bnd1, X5_mix, nmB]
      rw [iI_s, q2]
theorem L30_02 (p0 w0 s0 h0 p1 w1 s1 h1 p2 w2 s2 h2 m : Int32) : ∀ (fu : Nat) (i : Int32) (h : Int64) (a b c : Int32), mX4_mixPairv02_L30 p0 w0 s0 h0 p1 w1 s1 h1 p2 w2 s2 h2 m fu i h a b c = mX4_mixPair_L30 p0 w0 s0 h0 p1 w1 s1 h1 p2 w2 s2 h2 m fu i h a b c := by
  intro fu
  induction fu with
  | zero => intros; rfl
  | succ fu ih => intro i h a b c; rw [mX4_mixPairv02_L30, mX4_mixPair_L30]; simp only [nmB, ih]
theorem L30_12 (p0 w0 s0 h0 p1 w1 s1 h1 p2 w2 s2 h2 m : Int32) : ∀ (fu : Nat) (i : Int32) (h : Int64) (a b c : Int32), mX4_mixPairv12_L30 p0 w0 s0 h0 p1 w1 s1 h1 p2 w2 s2 h2 m fu i h a b c = mX4_mixPair_L30 p0 w0 s0 h0 p1 w1 s1 h1 p2 w2 s2 h2 m fu i h a b c := by
  intro fu
  induction fu with
  | zero => intros; rfl
  | succ fu ih => intro i h a b c; rw [mX4_mixPairv12_L30, mX4_mixPair_L30]; simp only [nmB, ih]
theorem L61_02 (p0 w0 s0 h0 p1 w1 s1 h1 : Int32) : ∀ (fu : Nat) (i : Int32) (h : Int64) (a b c : Int32), mX4_mixPairv02_L61 p0 w0 s0 h0 p1 w1 s1 h1 fu i h a b c = mX4_mixPair_L61 p0 w0 s0 h0 p1 w1 s1 h1 fu i h a b c := by
  intro fu
  induction fu with
  | zero => intros; rfl
  | succ fu ih => intro i h a b c; rw [mX4_mixPairv02_L61, mX4_mixPair_L61, (beat_eqs p0 w0 s0 h0 p1 w1 s1 h1 i).2.1]; simp only [nmB, ih]
theorem L61_12 (p0 w0 s0 h0 p1 w1 s1 h1 : Int32) : ∀ (fu : Nat) (i : Int32) (h : Int64) (a b c : Int32), mX4_mixPairv12_L61 p0 w0 s0 h0 p1 w1 s1 h1 fu i h a b c = mX4_mixPair_L61 p0 w0 s0 h0 p1 w1 s1 h1 fu i h a b c := by
  intro fu
  induction fu with
  | zero => intros; rfl
  | succ fu ih => intro i h a b c; rw [mX4_mixPairv12_L61, mX4_mixPair_L61, (beat_eqs p0 w0 s0 h0 p1 w1 s1 h1 i).2.2.2.2.1]; simp only [nmB, ih]
def gPair (X : Nat → Scr) (i j : Nat) (m : Int32) (fw fs fh : Int32) (h : Int64) : Option (Int64 × Int32 × Int32 × Int32) :=
  bnd1 (mX4_presentSlots (X 0).pr (X 1).pr (X 2).pr) fun r2_0 =>
    if (m &&& r2_0) = m then (bnd5 (mX4_mixPair_L30 (X 0).pr (X 0).w (X 0).s (X 0).h (X 1).pr (X 1).w (X 1).s (X 1).h (X 2).pr (X 2).w (X 2).s (X 2).h m FU 0 h fw fs fh) fun u4_0 u4_1 u4_2 u4_3 u4_4 =>
    bnd5 (mX4_mixPair_L61 (X i).pr (X i).w (X i).s (X i).h (X j).pr (X j).w (X j).s (X j).h FU 0 u4_1 u4_2 u4_3 u4_4) fun u9_0 u9_1 u9_2 u9_3 u9_4 =>
    some (u9_1, u9_2, u9_3, u9_4))
    else (some (h, fw, fs, fh))
theorem pair_ok (P : PD X th v so im ti D) {i j : Nat} (hi : i < 3) (hj : j < 3) {a b c : Bool} (hm : ((1 : Int32) <<< (iI i &&& 31)) ||| ((1 : Int32) <<< (iI j &&& 31)) = iI (pmk a b c : Nat)) (hm1 : 1 ≤ pmk a b c) (hab : ((a = true → prs X 0 = true) ∧ (b = true → prs X 1 = true) ∧ (c = true → prs X 2 = true)) ↔ (prs X i = true ∧ prs X j = true)) (fw fs fh : Int32) (h : Int64) (w1 w2 w3 : Int32) :
    ∃ (h' : Int64) (f1 f2 f3 y1 y2 y3 : Int32), gPair X i j (iI (pmk a b c : Nat)) fw fs fh h = some (h', f1, f2, f3) ∧ ∀ fu, mX5_digest_L81 th v (iI i) (fu + 1) (iI j) w1 w2 w3 h = mX5_digest_L81 th v (iI i) fu (iI ((j + 1 : Nat) : Int)) y1 y2 y3 h' := by
  have n1 : ¬ (1 : Int32) = 0 := by decide
  have hmk : iI (pmk a b c : Nat) &&& iI (pm X : Nat) = iI (pmk a b c : Nat) ↔ _ := (mask_both a b c (prs X 0) (prs X 1) (prs X 2)).1
  have h8 := pmk_lt a b c
  have hR0 : ∀ fu, mX5_digest_L81 th v (iI i) (fu + 1) (iI j) w1 w2 w3 h = (if th i = 0 then mX5_digest_L81 th v (iI i) fu (iI ((j + 1 : Nat) : Int)) w1 w2 w3 h else if th j = 0 then mX5_digest_L81 th v (iI i) fu (iI ((j + 1 : Nat) : Int)) w1 w2 w3 h else (bnd4 (mX5_mixPair h v (iI i) (iI j)) fun r25_0 r25_1 r25_2 r25_3 => mX5_digest_L81 th v (iI i) fu (iI ((j + 1 : Nat) : Int)) r25_0 r25_1 r25_2 r25_3)) := by
    intro fu
    rw [mX5_digest_L81, if_neg (by rw [iI_3, iI_le (by omega) (by omega) (by omega) (by omega)]; omega), gdk hi, gdk hj, clk (by omega), clk (by omega)]
    simp only [nmB]
    rw [iI_s]
  by_cases hij : prs X i = true ∧ prs X j = true
  · obtain ⟨pi, ti', S⟩ := prs_pr P hi hij.1
    obtain ⟨pj, tj, S'⟩ := prs_pr P hj hij.2
    have hM := hab.mpr hij
    have hMm : iI (pmk a b c : Nat) &&& iI (pm X : Nat) = iI (pmk a b c : Nat) := hmk.mpr hM
    obtain ⟨W, x, H, -, -, e2⟩ := period_both P a b c hM.1 hM.2.1 hM.2.2
    obtain ⟨w, s, hh, -, e3⟩ := beat_both hi hj S S'
    obtain ⟨h1, ra, rb, y1, y2, y3, m1, m2⟩ := mix_per P (m := (pmk a b c : Nat)) (by omega) (by omega) hMm e2 4 FU FU 0 h fw fs fh (by omega) (by unfold FU; omega) (by unfold FU; omega)
    obtain ⟨h2, rc, rd, x1, x2, x3, m3, m4⟩ := mix_beat P hi hj pi pj e3 4 FU FU 0 h1 y1 y2 y3 (by omega) (by unfold FU; omega) (by unfold FU; omega)
    rw [iI_n0] at m1 m2 m3 m4
    refine ⟨h2, x1, x2, x3, iI w, iI s, iI hh, ?_, fun fu => ?_⟩
    · unfold gPair
      rw [X4_present P]
      simp only [bnd1]
      rw [if_pos hMm, m1]
      simp only [bnd5]
      rw [m3]
    · rw [hR0, if_neg (by rw [ti']; exact n1), if_neg (by rw [tj]; exact n1)]
      unfold mX5_mixPair
      rw [hm, e2]
      simp only [bnd3]
      rw [m2]
      simp only [bnd2]
      rw [e3]
      simp only []
      rw [m4]
      rfl
  · refine ⟨h, fw, fs, fh, w1, w2, w3, ?_, fun fu => ?_⟩
    · unfold gPair
      rw [X4_present P]
      simp only [bnd1]
      rw [if_neg (fun q => hij (hab.mp (hmk.mp q)))]
    · rw [hR0]
      rcases P i hi with ⟨pi, ti'⟩ | ⟨pi, ti', -⟩
      · rw [if_pos ti']
      · rcases P j hj with ⟨pj, tj⟩ | ⟨pj, tj, -⟩
        · rw [if_neg (by rw [ti']; exact n1), if_pos tj]
        · exact absurd ⟨prs_is pi, prs_is pj⟩ hij
theorem mix_codes {N : Nat} {codes buf : Nat → Int32} (hN : N ≤ 20) (hcb : ∀ i, i < N → codes i = buf i) (n : Nat) : ∀ (fu fu' i : Nat) (h : Int64), i + n = N → n < fu → n < fu' →
    ∃ (h' : Int64) (r r' : Int32), mX4_digest_L108 (iI (N : Int)) codes fu (iI (i : Int)) h = some (r, h') ∧ mX5_digest_L124 (iI (N : Int)) buf fu' (iI (i : Int)) h = some (r', h') := by
  induction n with
  | zero =>
    intro fu fu' i h hi hf hf'
    obtain ⟨fu, rfl⟩ : ∃ j, fu = j + 1 := ⟨fu - 1, by omega⟩
    obtain ⟨fu', rfl⟩ : ∃ j, fu' = j + 1 := ⟨fu' - 1, by omega⟩
    refine ⟨h, iI i, iI i, ?_, ?_⟩
    · rw [mX4_digest_L108, if_pos (by rw [iI_le (by omega) (by omega) (by omega) (by omega)]; omega)]
    · rw [mX5_digest_L124, if_pos (by rw [iI_le (by omega) (by omega) (by omega) (by omega)]; omega)]
  | succ n ih =>
    intro fu fu' i h hi hf hf'
    obtain ⟨fu, rfl⟩ : ∃ j, fu = j + 1 := ⟨fu - 1, by omega⟩
    obtain ⟨fu', rfl⟩ : ∃ j, fu' = j + 1 := ⟨fu' - 1, by omega⟩
    obtain ⟨h', r, r', q1, q2⟩ := ih fu fu' (i + 1) (mx h (codes i).toInt64) (by omega) (by omega) (by omega)
    refine ⟨h', r, r', ?_, ?_⟩
    · rw [mX4_digest_L108, if_neg (by rw [iI_le (by omega) (by omega) (by omega) (by omega)]; omega), iI_nat i, X4_at (by omega) (by omega), ← iI_nat i]
      simp only [bnd1, X4_mix, nmB]
      rw [iI_s, q1]
    · rw [mX5_digest_L124, if_neg (by rw [iI_le (by omega) (by omega) (by omega) (by omega)]; omega), gdI (by omega) (by omega) (by omega), clk (by omega), ← hcb i (by omega)]
      simp only [bnd1, X5_mix, nmB]
      rw [iI_s, q2]
def hCnt (X : Nat → Scr) (D : Nat → TD) (g sz : Int32) : Int64 := mx (mx (mx (mx (mx 1951 (cnt5 X D g sz 0).toInt64) (cnt5 X D g sz 1).toInt64) (cnt5 X D g sz 2).toInt64) (cnt5 X D g sz 3).toInt64) (cnt5 X D g sz 4).toInt64
theorem R_dig_cnt (P : PD X th v so im ti D) (g sz : Int32) : mX5_digest_L14 g sz th v ti FU 0 1951 = some (iI 5, hCnt X D g sz) := by
  have e5 : (5 : Int32) = iI 5 := iI_lit 5
  have step : ∀ (j : Nat) (hj : j < 5) (fu : Nat) (h : Int64), mX5_digest_L14 g sz th v ti (fu + 1) (iI j) h = mX5_digest_L14 g sz th v ti fu (iI ((j + 1 : Nat) : Int)) (mx h (cnt5 X D g sz (iI j)).toInt64) := by
    intro j hj fu h
    rw [mX5_digest_L14, if_neg (by rw [e5, iI_le (by omega) (by omega) (by omega) (by omega)]; omega), R_counted_ok P g sz (by omega) (by omega)]
    simp only [bnd1, X5_mix, nmB]
    rw [iI_s]
  have q0 := step 0 (by omega) 999999 1951
  have q1 := step 1 (by omega) 999998
  have q2 := step 2 (by omega) 999997
  have q3 := step 3 (by omega) 999996
  have q4 := step 4 (by omega) 999995
  refine q0.trans ((q1 _).trans ((q2 _).trans ((q3 _).trans ((q4 _).trans ?_))))
  rw [mX5_digest_L14, if_pos (by rw [e5, iI_le (by omega) (by omega) (by omega) (by omega)]; omega)]
  rfl
end Digest2
section Digest3
variable {X : Nat → Scr} {th v so im ti : Nat → Int32} {D : Nat → TD}
theorem gPair_01 (fw fs fh : Int32) (h : Int64) : mX4_mixPair fw fs fh (X 0).pr (X 0).w (X 0).s (X 0).h (X 1).pr (X 1).w (X 1).s (X 1).h (X 2).pr (X 2).w (X 2).s (X 2).h h = gPair X 0 1 (iI (pmk true true false : Nat)) fw fs fh h := by
  have e : ((1 : Int32) <<< (0 &&& 31)) ||| ((1 : Int32) <<< (1 &&& 31)) = iI (pmk true true false : Nat) := by decide +kernel
  unfold mX4_mixPair gPair
  rw [e]
  rfl
theorem gPair_02 (fw fs fh : Int32) (h : Int64) : mX4_mixPairv02 fw fs fh (X 0).pr (X 0).w (X 0).s (X 0).h (X 1).pr (X 1).w (X 1).s (X 1).h (X 2).pr (X 2).w (X 2).s (X 2).h h = gPair X 0 2 (iI (pmk true false true : Nat)) fw fs fh h := by
  have e : ((1 : Int32) <<< (0 &&& 31)) ||| ((1 : Int32) <<< (2 &&& 31)) = iI (pmk true false true : Nat) := by decide +kernel
  unfold mX4_mixPairv02 gPair
  rw [e]
  simp only [L30_02, L61_02]
  rfl
theorem gPair_12 (fw fs fh : Int32) (h : Int64) : mX4_mixPairv12 fw fs fh (X 0).pr (X 0).w (X 0).s (X 0).h (X 1).pr (X 1).w (X 1).s (X 1).h (X 2).pr (X 2).w (X 2).s (X 2).h h = gPair X 1 2 (iI (pmk false true true : Nat)) fw fs fh h := by
  have e : ((1 : Int32) <<< (1 &&& 31)) ||| ((1 : Int32) <<< (2 &&& 31)) = iI (pmk false true true : Nat) := by decide +kernel
  unfold mX4_mixPairv12 gPair
  rw [e]
  simp only [L30_12, L61_12]
  rfl
theorem R_dig_scr (P : PD X th v so im ti D) {g : Int} (hg0 : 0 ≤ g) (hg1 : g ≤ 100) (h : Int64) (s1 s2 s3 s4 s5 s6 : Int32) (s7 s8 s9 s10 : Nat → Int32) (w1 w2 w3 w4 w5 w6 w7 w8 w9 w10 : Int32) (z1 z2 z3 z4 z5 z6 : Nat → Int32) :
    ∃ (ha hb hc : Int64) (a1 a2 a3 a4 a5 a6 : Int32) (a7 a8 a9 a10 : Nat → Int32) (b1 b2 b3 b4 b5 b6 : Int32) (b7 b8 b9 b10 : Nat → Int32) (c1 c2 c3 c4 c5 c6 : Int32) (c7 c8 c9 c10 : Nat → Int32) (y1 y2 y3 y4 y5 y6 y7 y8 y9 y10 : Int32) (u1 u2 u3 u4 u5 u6 : Nat → Int32),
      mX4_mixScreen (iI g) s1 s2 s3 s4 s5 s6 s7 s8 s9 s10 (X 0).pr (X 0).a (X 0).b (X 0).c (X 0).d (X 0).sp (X 0).mi (X 0).ti (X 0).w (X 0).s (X 0).h (X 0).va (X 0).ra (X 0).ne h = some (ha, a1, a2, a3, a4, a5, a6, a7, a8, a9, a10) ∧
      mX4_mixScreen (iI g) a1 a2 a3 a4 a5 a6 a7 a8 a9 a10 (X 1).pr (X 1).a (X 1).b (X 1).c (X 1).d (X 1).sp (X 1).mi (X 1).ti (X 1).w (X 1).s (X 1).h (X 1).va (X 1).ra (X 1).ne ha = some (hb, b1, b2, b3, b4, b5, b6, b7, b8, b9, b10) ∧
      mX4_mixScreen (iI g) b1 b2 b3 b4 b5 b6 b7 b8 b9 b10 (X 2).pr (X 2).a (X 2).b (X 2).c (X 2).d (X 2).sp (X 2).mi (X 2).ti (X 2).w (X 2).s (X 2).h (X 2).va (X 2).ra (X 2).ne hb = some (hc, c1, c2, c3, c4, c5, c6, c7, c8, c9, c10) ∧
      mX5_digest_L37 (iI g) th v so im ti FU 0 w1 w2 w3 w4 w5 w6 w7 w8 w9 w10 h z1 z2 z3 z4 z5 z6 = some (iI 3, y1, y2, y3, y4, y5, y6, y7, y8, y9, y10, hc, u1, u2, u3, u4, u5, u6) := by
  obtain ⟨ha, a1, a2, a3, a4, a5, a6, a7, a8, a9, a10, y1, y2, y3, y4, y5, y6, y7, y8, y9, y10, u1, u2, u3, u4, u5, u6, e1, r1⟩ := dig_step P (k := 0) (by omega) hg0 hg1 h s1 s2 s3 s4 s5 s6 s7 s8 s9 s10 w1 w2 w3 w4 w5 w6 w7 w8 w9 w10 z1 z2 z3 z4 z5 z6
  obtain ⟨hb, b1, b2, b3, b4, b5, b6, b7, b8, b9, b10, y1, y2, y3, y4, y5, y6, y7, y8, y9, y10, u1, u2, u3, u4, u5, u6, e2, r2⟩ := dig_step P (k := 1) (by omega) hg0 hg1 ha a1 a2 a3 a4 a5 a6 a7 a8 a9 a10 y1 y2 y3 y4 y5 y6 y7 y8 y9 y10 u1 u2 u3 u4 u5 u6
  obtain ⟨hc, c1, c2, c3, c4, c5, c6, c7, c8, c9, c10, y1, y2, y3, y4, y5, y6, y7, y8, y9, y10, u1, u2, u3, u4, u5, u6, e3, r3⟩ := dig_step P (k := 2) (by omega) hg0 hg1 hb b1 b2 b3 b4 b5 b6 b7 b8 b9 b10 y1 y2 y3 y4 y5 y6 y7 y8 y9 y10 u1 u2 u3 u4 u5 u6
  refine ⟨ha, hb, hc, a1, a2, a3, a4, a5, a6, a7, a8, a9, a10, b1, b2, b3, b4, b5, b6, b7, b8, b9, b10, c1, c2, c3, c4, c5, c6, c7, c8, c9, c10, y1, y2, y3, y4, y5, y6, y7, y8, y9, y10, u1, u2, u3, u4, u5, u6, e1, e2, e3, ?_⟩
  refine (r1 999999).trans ((r2 999998).trans ((r3 999997).trans ?_))
  rw [mX5_digest_L37, if_pos (by rw [iI_3, iI_le (by omega) (by omega) (by omega) (by omega)]; omega)]
  rfl
theorem L81_end (th v : Nat → Int32) (i : Int32) (fu : Nat) (w1 w2 w3 : Int32) (h : Int64) : mX5_digest_L81 th v i (fu + 1) (iI ((3 : Nat) : Int)) w1 w2 w3 h = some (iI ((3 : Nat) : Int), w1, w2, w3, h) := by
  rw [mX5_digest_L81, if_pos (by rw [iI_3, iI_le (by omega) (by omega) (by omega) (by omega)]; omega)]
theorem R_dig_pairs (P : PD X th v so im ti D) (fw fs fh : Int32) (h : Int64) (w1 w2 w3 : Int32) :
    ∃ (ha hb hc : Int64) (a1 a2 a3 b1 b2 b3 c1 c2 c3 y1 y2 y3 : Int32),
      mX4_mixPair fw fs fh (X 0).pr (X 0).w (X 0).s (X 0).h (X 1).pr (X 1).w (X 1).s (X 1).h (X 2).pr (X 2).w (X 2).s (X 2).h h = some (ha, a1, a2, a3) ∧
      mX4_mixPairv02 a1 a2 a3 (X 0).pr (X 0).w (X 0).s (X 0).h (X 1).pr (X 1).w (X 1).s (X 1).h (X 2).pr (X 2).w (X 2).s (X 2).h ha = some (hb, b1, b2, b3) ∧
      mX4_mixPairv12 b1 b2 b3 (X 0).pr (X 0).w (X 0).s (X 0).h (X 1).pr (X 1).w (X 1).s (X 1).h (X 2).pr (X 2).w (X 2).s (X 2).h hb = some (hc, c1, c2, c3) ∧
      mX5_digest_L72 th v FU 0 w1 w2 w3 h = some (iI 3, y1, y2, y3, hc) := by
  obtain ⟨ha, a1, a2, a3, y1, y2, y3, e1, r1⟩ := pair_ok P (i := 0) (j := 1) (by omega) (by omega) (a := true) (b := true) (c := false) (by decide +kernel) (by decide) (by simp) fw fs fh h w1 w2 w3
  obtain ⟨hb, b1, b2, b3, y1, y2, y3, e2, r2⟩ := pair_ok P (i := 0) (j := 2) (by omega) (by omega) (a := true) (b := false) (c := true) (by decide +kernel) (by decide) (by simp) a1 a2 a3 ha y1 y2 y3
  obtain ⟨hc, c1, c2, c3, x1, x2, x3, e3, r3⟩ := pair_ok P (i := 1) (j := 2) (by omega) (by omega) (a := false) (b := true) (c := true) (by decide +kernel) (by decide) (by simp) b1 b2 b3 hb y1 y2 y3
  refine ⟨ha, hb, hc, a1, a2, a3, b1, b2, b3, c1, c2, c3, x1, x2, x3, by rw [gPair_01]; exact e1, by rw [gPair_02]; exact e2, by rw [gPair_12]; exact e3, ?_⟩
  have f0 : mX5_digest_L81 th v (iI ((0 : Nat) : Int)) FU (iI ((1 : Nat) : Int)) w1 w2 w3 h = some (iI ((3 : Nat) : Int), y1, y2, y3, hb) := (r1 999999).trans ((r2 999998).trans (L81_end _ _ _ 999997 _ _ _ _))
  have f1 : mX5_digest_L81 th v (iI ((1 : Nat) : Int)) FU (iI ((2 : Nat) : Int)) y1 y2 y3 hb = some (iI ((3 : Nat) : Int), x1, x2, x3, hc) := (r3 999999).trans (L81_end _ _ _ 999998 _ _ _ _)
  have f2 : mX5_digest_L81 th v (iI ((2 : Nat) : Int)) FU (iI ((3 : Nat) : Int)) x1 x2 x3 hc = some (iI ((3 : Nat) : Int), x1, x2, x3, hc) := L81_end _ _ _ 999999 _ _ _ _
  have g0 : ∀ fu, mX5_digest_L72 th v (fu + 1) (iI ((0 : Nat) : Int)) w1 w2 w3 h = mX5_digest_L72 th v fu (iI ((1 : Nat) : Int)) y1 y2 y3 hb := by
    intro fu
    rw [mX5_digest_L72, if_neg (by rw [iI_3, iI_le (by omega) (by omega) (by omega) (by omega)]; omega), iI_s]
    simp only [nmB]
    rw [f0]
    rfl
  have g1 : ∀ fu, mX5_digest_L72 th v (fu + 1) (iI ((1 : Nat) : Int)) y1 y2 y3 hb = mX5_digest_L72 th v fu (iI ((2 : Nat) : Int)) x1 x2 x3 hc := by
    intro fu
    rw [mX5_digest_L72, if_neg (by rw [iI_3, iI_le (by omega) (by omega) (by omega) (by omega)]; omega), iI_s]
    simp only [nmB]
    rw [f1]
    rfl
  have g2 : ∀ fu, mX5_digest_L72 th v (fu + 1) (iI ((2 : Nat) : Int)) x1 x2 x3 hc = mX5_digest_L72 th v fu (iI ((3 : Nat) : Int)) x1 x2 x3 hc := by
    intro fu
    rw [mX5_digest_L72, if_neg (by rw [iI_3, iI_le (by omega) (by omega) (by omega) (by omega)]; omega), iI_s]
    simp only [nmB]
    rw [f2]
    rfl
  refine (g0 999999).trans ((g1 999998).trans ((g2 999997).trans ?_))
  rw [mX5_digest_L72, if_pos (by rw [iI_3, iI_le (by omega) (by omega) (by omega) (by omega)]; omega)]
  rfl
theorem SX_digest (P : PD X th v so im ti D) {g : Int} (hg0 : 0 ≤ g) (hg1 : g ≤ 100) {n : Nat} (hn : n ≤ 20) {codes buf : Nat → Int32} (hcb : ∀ i, i < n → codes i = buf i) (s1 s2 s3 s4 s5 s6 : Int32) (s7 s8 s9 s10 : Nat → Int32) (fw fs fh : Int32) (w1 w2 w3 w4 w5 w6 w7 w8 w9 w10 : Int32) (z1 z2 z3 z4 z5 z6 : Nat → Int32) :
    ∃ (o : Int64) (c1 c2 c3 c4 c5 c6 : Int32) (c7 c8 c9 c10 : Nat → Int32) (f1 f2 f3 : Int32) (x1 x2 x3 y4 y5 y6 y7 y8 y9 y10 : Int32) (u1 u2 u3 u4 u5 u6 : Nat → Int32),
      mX4_digest (iI g) (iI (n : Int)) codes s1 s2 s3 s4 s5 s6 s7 s8 s9 s10 fw fs fh (X 0).pr (X 0).a (X 0).b (X 0).c (X 0).d (X 0).sp (X 0).mi (X 0).ti (X 0).w (X 0).s (X 0).h (X 0).va (X 0).ra (X 0).ne (X 1).pr (X 1).a (X 1).b (X 1).c (X 1).d (X 1).sp (X 1).mi (X 1).ti (X 1).w (X 1).s (X 1).h (X 1).va (X 1).ra (X 1).ne (X 2).pr (X 2).a (X 2).b (X 2).c (X 2).d (X 2).sp (X 2).mi (X 2).ti (X 2).w (X 2).s (X 2).h (X 2).va (X 2).ra (X 2).ne = some (o, c1, c2, c3, c4, c5, c6, c7, c8, c9, c10, f1, f2, f3) ∧
      mX5_digest (iI g) (iI (n : Int)) w1 w2 w3 w4 w5 w6 w7 w8 w9 w10 th v so im ti buf z1 z2 z3 z4 z5 z6 = some (o, 0, x1, x2, x3, y4, y5, y6, y7, y8, y9, y10, o, u1, u2, u3, u4, u5, u6) := by
  obtain ⟨ha, hb, hc, a1, a2, a3, a4, a5, a6, a7, a8, a9, a10, b1, b2, b3, b4, b5, b6, b7, b8, b9, b10, c1, c2, c3, c4, c5, c6, c7, c8, c9, c10, y1, y2, y3, y4, y5, y6, y7, y8, y9, y10, u1, u2, u3, u4, u5, u6, e1, e2, e3, e4⟩ := R_dig_scr P hg0 hg1 (hCnt X D (iI g) (iI (n : Int))) s1 s2 s3 s4 s5 s6 s7 s8 s9 s10 w1 w2 w3 w4 w5 w6 w7 w8 w9 w10 z1 z2 z3 z4 z5 z6
  obtain ⟨pa, pb, pc, p1, p2, p3, q1, q2, q3, f1, f2, f3, x1, x2, x3, k1, k2, k3, k4⟩ := R_dig_pairs P fw fs fh hc y1 y2 y3
  obtain ⟨o, r, r', m1, m2⟩ := mix_codes hn hcb n FU FU 0 pc (by omega) (by unfold FU; omega) (by unfold FU; omega)
  rw [iI_n0] at m1 m2
  refine ⟨o, c1, c2, c3, c4, c5, c6, c7, c8, c9, c10, f1, f2, f3, x1, x2, x3, y4, y5, y6, y7, y8, y9, y10, u1, u2, u3, u4, u5, u6, ?_, ?_⟩
  · have i0 := X4_count_ok P (iI g) (iI (n : Int)) (q := 0) (by omega) (by omega)
    have i1 := X4_count_ok P (iI g) (iI (n : Int)) (q := 1) (by omega) (by omega)
    have i2 := X4_count_ok P (iI g) (iI (n : Int)) (q := 2) (by omega) (by omega)
    have i3 := X4_count_ok P (iI g) (iI (n : Int)) (q := 3) (by omega) (by omega)
    have i4 := X4_count_ok P (iI g) (iI (n : Int)) (q := 4) (by omega) (by omega)
    rw [← iI_0] at i0
    rw [← iI_1] at i1
    rw [← iI_2] at i2
    rw [← iI_3] at i3
    rw [← iI_4] at i4
    unfold mX4_digest
    rw [i0]
    simp only [bnd1, X4_mix]
    rw [i1]
    dsimp only
    rw [i2]
    dsimp only
    rw [i3]
    dsimp only
    rw [i4]
    dsimp only
    have e1' := e1
    unfold hCnt at e1'
    rw [e1']
    simp only [bnd11]
    rw [e2]
    dsimp only
    rw [e3]
    dsimp only
    rw [k1]
    simp only [bnd4]
    rw [k2]
    dsimp only
    rw [k3]
    dsimp only
    rw [m1]
    rfl
  · unfold mX5_digest
    rw [R_dig_cnt P]
    simp only [bnd2]
    rw [e4]
    simp only [bnd18]
    rw [k4]
    simp only [bnd5]
    rw [m2]
end Digest3
