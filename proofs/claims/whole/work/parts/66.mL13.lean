set_option maxHeartbeats 4000000
-- ===== dots: walks, and one search of a dot =====
def opp (e : Nat) : Nat := if e = 0 then 2 else if e = 1 then 3 else if e = 2 then 0 else 1
theorem opp_lt (e : Nat) : opp e < 4 := by unfold opp; split <;> (try split) <;> (try split) <;> omega
theorem dx_opp {e : Nat} (h : e < 4) : dx (opp e) = -dx e ∧ dy (opp e) = -dy e := by
  have : e = 0 ∨ e = 1 ∨ e = 2 ∨ e = 3 := by omega
  rcases this with rfl | rfl | rfl | rfl <;> decide
def WK (I : Nat → Bool) (nb : Nat → Nat → Nat) : Nat → List Nat → Nat → Prop
  | p, [], q => p = q
  | p, e :: l, q => e < 4 ∧ I (nb p e) = true ∧ WK I nb (nb p e) l q
def DX : List Nat → Int
  | [] => 0
  | e :: l => dx e + DX l
def DY : List Nat → Int
  | [] => 0
  | e :: l => dy e + DY l
theorem DX_app (l l' : List Nat) : DX (l ++ l') = DX l + DX l' := by
  induction l with
  | nil => show DX l' = 0 + DX l'; omega
  | cons e l ih => show dx e + DX (l ++ l') = dx e + DX l + DX l'; omega
theorem DY_app (l l' : List Nat) : DY (l ++ l') = DY l + DY l' := by
  induction l with
  | nil => show DY l' = 0 + DY l'; omega
  | cons e l ih => show dy e + DY (l ++ l') = dy e + DY l + DY l'; omega
theorem WK.app {I : Nat → Bool} {nb : Nat → Nat → Nat} {q r : Nat} {l' : List Nat} (l : List Nat) : ∀ {p : Nat}, WK I nb p l q → WK I nb q l' r → WK I nb p (l ++ l') r := by
  induction l with
  | nil => intro p h h'; have : p = q := h; subst this; exact h'
  | cons e l ih => intro p h h'; exact ⟨h.1, h.2.1, ih h.2.2 h'⟩
/-- the places stay places, and each step can be taken back -/
def NB (nb : Nat → Nat → Nat) (N : Nat) : Prop := ∀ p e, p < N → e < 4 → nb p e < N ∧ nb (nb p e) (opp e) = p
theorem WK.back {I : Nat → Bool} {nb : Nat → Nat → Nat} {N q : Nat} (hnb : NB nb N) (l : List Nat) : ∀ {p : Nat}, p < N → I p = true → WK I nb p l q → ∃ l', WK I nb q l' p ∧ DX l' = -DX l ∧ DY l' = -DY l := by
  induction l with
  | nil =>
    intro p hp hI h
    have : p = q := h
    exact ⟨[], this.symm, rfl, rfl⟩
  | cons e l ih =>
    intro p hp hI h
    obtain ⟨h1, h2, h3⟩ := h
    obtain ⟨b1, b2⟩ := hnb p e hp h1
    obtain ⟨l', w, x, y⟩ := ih b1 h2 h3
    refine ⟨l' ++ [opp e], WK.app l' w ⟨opp_lt e, by rw [b2]; exact hI, b2⟩, ?_, ?_⟩
    · rw [DX_app, x]
      show -DX l + (dx (opp e) + 0) = -(dx e + DX l)
      rw [(dx_opp h1).1]; omega
    · rw [DY_app, y]
      show -DY l + (dy (opp e) + 0) = -(dy e + DY l)
      rw [(dx_opp h1).2]; omega
def RK0 (I : Nat → Bool) (nb : Nat → Nat → Nat) (s : Nat) : Prop := ∀ l, WK I nb s l s → DX l = 0 ∧ DY l = 0
def RK1 (I : Nat → Bool) (nb : Nat → Nat → Nat) (s : Nat) : Prop := ∀ l l', WK I nb s l s → WK I nb s l' s → DX l * DY l' = DY l * DX l'
/-- how often the dot of s is joined -/
def JT (I : Nat → Bool) (nb : Nat → Nat → Nat) (s : Nat) (t : Int) : Prop := (t = 0 ∧ RK0 I nb s) ∨ (t = 1 ∧ ¬ RK0 I nb s ∧ RK1 I nb s) ∨ (t = 2 ∧ ¬ RK1 I nb s)
theorem RK0.to1 {I : Nat → Bool} {nb : Nat → Nat → Nat} {s : Nat} (h : RK0 I nb s) : RK1 I nb s := by
  intro l l' hl hl'
  rw [(h l hl).1, (h l hl).2, Int.zero_mul, Int.zero_mul]
theorem JT.uniq {I : Nat → Bool} {nb : Nat → Nat → Nat} {s : Nat} {t t' : Int} (h : JT I nb s t) (h' : JT I nb s t') : t = t' := by
  have k := @RK0.to1 I nb s
  rcases h with ⟨rfl, a⟩ | ⟨rfl, a, b⟩ | ⟨rfl, b⟩ <;> rcases h' with ⟨rfl, a'⟩ | ⟨rfl, a', b'⟩ | ⟨rfl, b'⟩ <;> first | rfl | exact absurd a a' | exact absurd a' a | exact absurd (k a) b' | exact absurd (k a') b | exact absurd b b' | exact absurd b' b
theorem cross0 {ux uy vx vy sx sy : Int} (hs : sx ≠ 0 ∨ sy ≠ 0) (hu : ux * sy = uy * sx) (hv : vx * sy = vy * sx) : ux * vy = uy * vx := by
  rcases hs with h | h
  · have : sx * (ux * vy - uy * vx) = 0 := by grind
    rcases Int.mul_eq_zero.mp this with q | q
    · exact absurd q h
    · omega
  · have : sy * (ux * vy - uy * vx) = 0 := by grind
    rcases Int.mul_eq_zero.mp this with q | q
    · exact absurd q h
    · omega
def upg {α : Type} (f : Nat → α) (k : Nat) (x : α) : Nat → α := fun j => if j = k then x else f j
theorem upg_same {α : Type} {f : Nat → α} {k : Nat} {x : α} : upg f k x k = x := if_pos rfl
theorem upg_ne {α : Type} {f : Nat → α} {k j : Nat} {x : α} (h : j ≠ k) : upg f k x j = f j := if_neg h
theorem inj_le : ∀ (n N : Nat) (q : Nat → Nat), (∀ i, i < n → q i < N) → (∀ i j, i < n → j < n → q i = q j → i = j) → n ≤ N := by
  intro n N q h1 h2
  apply Classical.byContradiction
  intro hlt
  have hlt : N < n := by omega
  have h3 := pigeon n q (fun p hp => by have := h1 p hp; omega) (fun p r hp hr => h2 p r hp hr) N hlt
  obtain ⟨p, hp, e⟩ := h3
  have := h1 p hp
  omega
def EC (t sx sy x y : Int) : Prop := (t = 0 → x = 0 ∧ y = 0) ∧ (t = 1 → x * sy = y * sx)
def Done (k e : Nat) (sg : Nat → Nat) (i f : Nat) : Prop := i < k ∨ (i = k ∧ ∃ e', e' < e ∧ sg e' = f)
def BI (I : Nat → Bool) (nb : Nat → Nat → Nat) (sg : Nat → Nat) (N s : Nat) (M0 : Nat → Prop) (k e n : Nat) (q : Nat → Nat) (met : Nat → Bool) (px py : Nat → Int) (t sx sy : Int) : Prop :=
  (0 < n ∧ q 0 = s) ∧ (∀ i, i < n → q i < N ∧ I (q i) = true ∧ ¬ M0 (q i)) ∧ (∀ i j, i < n → j < n → q i = q j → i = j) ∧
  (∀ p, p < N → (met p = true ↔ M0 p ∨ ∃ i, i < n ∧ q i = p)) ∧
  (∀ i, i < n → ∃ l, WK I nb s l (q i) ∧ DX l = px (q i) - px s ∧ DY l = py (q i) - py s) ∧
  (∀ i, i < n → -(i : Int) ≤ px (q i) - px s ∧ px (q i) - px s ≤ i ∧ -(i : Int) ≤ py (q i) - py s ∧ py (q i) - py s ≤ i) ∧
  (∀ i f, i < n → f < 4 → Done k e sg i f → I (nb (q i) f) = true → (∃ j, j < n ∧ q j = nb (q i) f) ∧ EC t sx sy (px (q i) + dx f - px (nb (q i) f)) (py (q i) + dy f - py (nb (q i) f))) ∧
  ((t = 0 ∨ t = 1 ∨ t = 2) ∧ (t ≠ 0 → (sx ≠ 0 ∨ sy ≠ 0) ∧ ∃ l, WK I nb s l s ∧ DX l = sx ∧ DY l = sy) ∧ (t = 2 → ∃ l, WK I nb s l s ∧ DX l * sy ≠ DY l * sx))
section BISteps
variable {I : Nat → Bool} {nb : Nat → Nat → Nat} {sg : Nat → Nat} {N s : Nat} {M0 : Nat → Prop} {k e n : Nat} {q : Nat → Nat} {met : Nat → Bool} {px py : Nat → Int} {t sx sy : Int}
theorem BI.first {p : Nat} {x y : Int} {jx jy : Int} (hs : s < N) (hI : I s = true) (hM : ¬ M0 s) (hm : ∀ p, p < N → (met p = true ↔ M0 p)) (hx : px s = x) (hy : py s = y) (hq : q 0 = s) : BI I nb sg N s M0 0 0 1 q (upg met s true) px py 0 jx jy := by
  refine ⟨⟨by omega, hq⟩, ?_, ?_, ?_, ?_, ?_, ?_, Or.inl rfl, fun h => absurd rfl h, fun h => by omega⟩
  · intro i hi; have : i = 0 := by omega
    subst this; rw [hq]; exact ⟨hs, hI, hM⟩
  · intro i j hi hj _; omega
  · intro p hp
    by_cases hps : p = s
    · subst hps; rw [upg_same]
      exact ⟨fun _ => Or.inr ⟨0, by omega, hq⟩, fun _ => rfl⟩
    · rw [upg_ne hps, hm p hp]
      constructor
      · exact Or.inl
      · rintro (h | ⟨i, hi, e⟩)
        · exact h
        · have : i = 0 := by omega
          subst this; exact absurd (e.symm.trans hq) hps
  · intro i hi; have : i = 0 := by omega
    subst this; rw [hq]; exact ⟨[], rfl, by show (0 : Int) = _; omega, by show (0 : Int) = _; omega⟩
  · intro i hi; have : i = 0 := by omega
    subst this; rw [hq]; omega
  · intro i f hi hf hd
    rcases hd with hd | ⟨-, e', he, -⟩ <;> omega
theorem BI.skip (H : BI I nb sg N s M0 k e n q met px py t sx sy) (hn : ¬ I (nb (q k) (sg e)) = true) : BI I nb sg N s M0 k (e + 1) n q met px py t sx sy := by
  obtain ⟨a1, a2, a3, a4, a5, a6, a7, a8⟩ := H
  refine ⟨a1, a2, a3, a4, a5, a6, ?_, a8⟩
  intro i f hi hf hd hI
  refine a7 i f hi hf ?_ hI
  rcases hd with hd | ⟨rfl, e', he, hsg⟩
  · exact Or.inl hd
  · by_cases hee : e' = e
    · subst hee; subst hsg; exact absurd hI hn
    · exact Or.inr ⟨rfl, e', by omega, hsg⟩
theorem BI.turn (H : BI I nb sg N s M0 k 4 n q met px py t sx sy) (hsg : ∀ f, f < 4 → ∃ e, e < 4 ∧ sg e = f) : BI I nb sg N s M0 (k + 1) 0 n q met px py t sx sy := by
  obtain ⟨a1, a2, a3, a4, a5, a6, a7, a8⟩ := H
  refine ⟨a1, a2, a3, a4, a5, a6, ?_, a8⟩
  intro i f hi hf hd hI
  refine a7 i f hi hf ?_ hI
  rcases hd with hd | ⟨-, e', he, -⟩
  · by_cases hik : i = k
    · exact Or.inr ⟨hik, hsg f hf⟩
    · exact Or.inl (by omega)
  · omega
theorem BI.inQueue (H : BI I nb sg N s M0 k e n q met px py t sx sy) (hnb : NB nb N) (hM : ∀ p f, p < N → I p = true → f < 4 → I (nb p f) = true → M0 (nb p f) → M0 p) (hk : k < n) (hf : sg e < 4) (hI : I (nb (q k) (sg e)) = true) (hm : met (nb (q k) (sg e)) = true) : ∃ j, j < n ∧ q j = nb (q k) (sg e) := by
  obtain ⟨a1, a2, a3, a4, a5, a6, a7, a8⟩ := H
  obtain ⟨b1, b2, b3⟩ := a2 k hk
  rcases (a4 _ (hnb _ _ b1 hf).1).mp hm with h | h
  · exact absurd (hM _ _ b1 b2 hf hI h) b3
  · exact h
/-- the closed walk of an edge -/
theorem BI.loop (H : BI I nb sg N s M0 k e n q met px py t sx sy) (hnb : NB nb N) {i j f : Nat} (hi : i < n) (hj : j < n) (hf : f < 4) (hq : q j = nb (q i) f) (hI : I (nb (q i) f) = true) : ∃ l, WK I nb s l s ∧ DX l = px (q i) + dx f - px (nb (q i) f) ∧ DY l = py (q i) + dy f - py (nb (q i) f) := by
  obtain ⟨⟨a1, a1'⟩, a2, a3, a4, a5, a6, a7, a8⟩ := H
  obtain ⟨l1, w1, x1, y1⟩ := a5 i hi
  obtain ⟨l2, w2, x2, y2⟩ := a5 j hj
  have hs := a2 0 a1
  rw [a1'] at hs
  obtain ⟨l3, w3, x3, y3⟩ := WK.back hnb l2 hs.1 hs.2.1 w2
  rw [hq] at w3 x2 y2
  refine ⟨l1 ++ (f :: l3), WK.app l1 w1 ⟨hf, hI, w3⟩, ?_, ?_⟩
  · rw [DX_app, x1]
    show px (q i) - px s + (dx f + DX l3) = _
    rw [x3, x2]; omega
  · rw [DY_app, y1]
    show py (q i) - py s + (dy f + DY l3) = _
    rw [y3, y2]; omega
/-- a pixel met before: the difference is taken in -/
theorem BI.seen (H : BI I nb sg N s M0 k e n q met px py t sx sy) (hnb : NB nb N) (hk : k < n) (hf : sg e < 4) {j : Nat} (hj : j < n) (hq : q j = nb (q k) (sg e)) (hI : I (nb (q k) (sg e)) = true) {x y : Int} (hx : x = px (q k) + dx (sg e) - px (nb (q k) (sg e))) (hy : y = py (q k) + dy (sg e) - py (nb (q k) (sg e))) :
    BI I nb sg N s M0 k (e + 1) n q met px py (if x = 0 ∧ y = 0 then t else if t = 0 then 1 else if x * sy = y * sx then t else 2) (if x = 0 ∧ y = 0 then sx else if t = 0 then x else sx) (if x = 0 ∧ y = 0 then sy else if t = 0 then y else sy) := by
  obtain ⟨l, w, lx, ly⟩ := H.loop hnb hk hj hf hq hI
  rw [← hx] at lx
  rw [← hy] at ly
  obtain ⟨a1, a2, a3, a4, a5, a6, a7, a8, a9, a10⟩ := H
  have key : ∀ t' sx' sy', (∀ u v, EC t sx sy u v → EC t' sx' sy' u v) → EC t' sx' sy' x y →
      ((t' = 0 ∨ t' = 1 ∨ t' = 2) ∧ (t' ≠ 0 → (sx' ≠ 0 ∨ sy' ≠ 0) ∧ ∃ l, WK I nb s l s ∧ DX l = sx' ∧ DY l = sy') ∧ (t' = 2 → ∃ l, WK I nb s l s ∧ DX l * sy' ≠ DY l * sx')) →
      BI I nb sg N s M0 k (e + 1) n q met px py t' sx' sy' := by
    intro t' sx' sy' h1 h2 h3
    refine ⟨a1, a2, a3, a4, a5, a6, ?_, h3⟩
    intro i f hi hf' hd hI'
    by_cases hnew : i = k ∧ f = sg e
    · obtain ⟨rfl, rfl⟩ := hnew
      exact ⟨⟨j, hj, hq⟩, by rw [← hx, ← hy]; exact h2⟩
    · have hd' : Done k e sg i f := by
        rcases hd with hd | ⟨rfl, e', he, hsg⟩
        · exact Or.inl hd
        · by_cases hee : e' = e
          · subst hee; exact absurd ⟨rfl, hsg.symm⟩ hnew
          · exact Or.inr ⟨rfl, e', by omega, hsg⟩
      obtain ⟨g1, g2⟩ := a7 i f hi hf' hd' hI'
      exact ⟨g1, h1 _ _ g2⟩
  by_cases h0 : x = 0 ∧ y = 0
  · rw [if_pos h0, if_pos h0, if_pos h0]
    exact key t sx sy (fun _ _ h => h) ⟨fun _ => h0, fun _ => by rw [h0.1, h0.2, Int.zero_mul, Int.zero_mul]⟩ ⟨a8, a9, a10⟩
  · rw [if_neg h0, if_neg h0, if_neg h0]
    by_cases ht : t = 0
    · rw [if_pos ht, if_pos ht, if_pos ht]
      refine key 1 x y (fun u v h => ⟨fun q => by omega, fun _ => by rw [(h.1 ht).1, (h.1 ht).2, Int.zero_mul, Int.zero_mul]⟩) ⟨fun q => by omega, fun _ => Int.mul_comm x y⟩ ⟨Or.inr (Or.inl rfl), fun _ => ⟨by omega, l, w, lx, ly⟩, fun q => by omega⟩
    · rw [if_neg ht, if_neg ht, if_neg ht]
      by_cases hc : x * sy = y * sx
      · rw [if_pos hc]
        exact key t sx sy (fun _ _ h => h) ⟨fun q => absurd q ht, fun _ => hc⟩ ⟨a8, a9, a10⟩
      · rw [if_neg hc]
        refine key 2 sx sy (fun u v h => ⟨fun q => by omega, fun q => by omega⟩) ⟨fun q => by omega, fun q => by omega⟩ ⟨Or.inr (Or.inr rfl), fun _ => a9 ht, fun _ => ⟨l, w, by rw [lx, ly]; exact hc⟩⟩
/-- a new pixel -/
theorem BI.push (H : BI I nb sg N s M0 k e n q met px py t sx sy) (hnb : NB nb N) (hk : k < n) (hf : sg e < 4) (hI : I (nb (q k) (sg e)) = true) (hm : ¬ met (nb (q k) (sg e)) = true) :
    BI I nb sg N s M0 k (e + 1) (n + 1) (upg q n (nb (q k) (sg e))) (upg met (nb (q k) (sg e)) true) (upg px (nb (q k) (sg e)) (px (q k) + dx (sg e))) (upg py (nb (q k) (sg e)) (py (q k) + dy (sg e))) t sx sy := by
  have HH := H
  obtain ⟨⟨a1, a1'⟩, a2, a3, a4, a5, a6, a7, a8⟩ := H
  obtain ⟨b1, b2, b3⟩ := a2 k hk
  obtain ⟨c1, c2⟩ := hnb _ _ b1 hf
  generalize hp : nb (q k) (sg e) = p at *
  have hpM : ¬ M0 p := fun h => hm ((a4 p c1).mpr (Or.inl h))
  have hpq : ∀ i, i < n → q i ≠ p := fun i hi h => hm ((a4 p c1).mpr (Or.inr ⟨i, hi, h⟩))
  have hsp : s ≠ p := by rw [← a1']; exact hpq 0 a1
  have qo : ∀ i, i < n → upg q n p i = q i := fun i hi => upg_ne (by omega)
  have qn : upg q n p n = p := upg_same
  have xo : ∀ i, i < n → upg px p (px (q k) + dx (sg e)) (q i) = px (q i) := fun i hi => upg_ne (hpq i hi)
  have yo : ∀ i, i < n → upg py p (py (q k) + dy (sg e)) (q i) = py (q i) := fun i hi => upg_ne (hpq i hi)
  have xs : upg px p (px (q k) + dx (sg e)) s = px s := upg_ne hsp
  have ys : upg py p (py (q k) + dy (sg e)) s = py s := upg_ne hsp
  have bx := dx_bd (sg e)
  have by' := dy_bd (sg e)
  refine ⟨⟨by omega, by rw [qo 0 a1]; exact a1'⟩, ?_, ?_, ?_, ?_, ?_, ?_, a8⟩
  · intro i hi
    by_cases hin : i = n
    · subst hin; rw [qn]; exact ⟨c1, hI, hpM⟩
    · rw [qo i (by omega)]; exact a2 i (by omega)
  · intro i j hi hj hq
    by_cases hin : i = n <;> by_cases hjn : j = n
    · omega
    · subst hin; rw [qn, qo j (by omega)] at hq; exact absurd hq.symm (hpq j (by omega))
    · subst hjn; rw [qn, qo i (by omega)] at hq; exact absurd hq (hpq i (by omega))
    · rw [qo i (by omega), qo j (by omega)] at hq; exact a3 i j (by omega) (by omega) hq
  · intro r hr
    by_cases hrp : r = p
    · subst hrp; rw [upg_same]
      exact ⟨fun _ => Or.inr ⟨n, by omega, qn⟩, fun _ => rfl⟩
    · rw [upg_ne hrp, a4 r hr]
      constructor
      · rintro (h | ⟨i, hi, h⟩)
        · exact Or.inl h
        · exact Or.inr ⟨i, by omega, by rw [qo i hi]; exact h⟩
      · rintro (h | ⟨i, hi, h⟩)
        · exact Or.inl h
        · by_cases hin : i = n
          · subst hin; rw [qn] at h; exact absurd h.symm hrp
          · exact Or.inr ⟨i, by omega, by rw [← qo i (by omega)]; exact h⟩
  · intro i hi
    by_cases hin : i = n
    · subst hin
      obtain ⟨l, w, x, y⟩ := a5 k hk
      rw [qn, upg_same, upg_same, xs, ys]
      refine ⟨l ++ [sg e], WK.app l w ⟨hf, by rw [hp]; exact hI, hp⟩, ?_, ?_⟩
      · rw [DX_app, x]
        show px (q k) - px s + (dx (sg e) + 0) = _
        omega
      · rw [DY_app, y]
        show py (q k) - py s + (dy (sg e) + 0) = _
        omega
    · rw [qo i (by omega), xo i (by omega), yo i (by omega), xs, ys]
      exact a5 i (by omega)
  · intro i hi
    by_cases hin : i = n
    · subst hin
      have := a6 k hk
      rw [qn, upg_same, upg_same, xs, ys]
      omega
    · rw [qo i (by omega), xo i (by omega), yo i (by omega), xs, ys]
      exact a6 i (by omega)
  · intro i f hi hf' hd hI'
    by_cases hin : i = n
    · exfalso
      rcases hd with hd | ⟨h, -⟩ <;> omega
    · rw [qo i (by omega)] at hI' ⊢
      by_cases hnew : i = k ∧ f = sg e
      · obtain ⟨rfl, rfl⟩ := hnew
        rw [hp, xo i hk, yo i hk, upg_same, upg_same]
        exact ⟨⟨n, by omega, qn⟩, fun _ => ⟨by omega, by omega⟩, fun _ => by
          have e1 : px (q i) + dx (sg e) - (px (q i) + dx (sg e)) = 0 := by omega
          have e2 : py (q i) + dy (sg e) - (py (q i) + dy (sg e)) = 0 := by omega
          rw [e1, e2, Int.zero_mul, Int.zero_mul]⟩
      · have hd' : Done k e sg i f := by
          rcases hd with hd | ⟨rfl, e', he, hsg⟩
          · exact Or.inl hd
          · by_cases hee : e' = e
            · subst hee; exact absurd ⟨rfl, hsg.symm⟩ hnew
            · exact Or.inr ⟨rfl, e', by omega, hsg⟩
        obtain ⟨⟨j, g1, g2⟩, g3⟩ := a7 i f (by omega) hf' hd' hI'
        refine ⟨⟨j, by omega, by rw [qo j g1]; exact g2⟩, ?_⟩
        rw [xo i (by omega), yo i (by omega), ← g2, xo j g1, yo j g1, g2]
        exact g3
theorem BI.room (H : BI I nb sg N s M0 k e n q met px py t sx sy) : n ≤ N := inj_le n N q (fun i hi => (H.2.1 i hi).1) H.2.2.1
/-- at the end: the dot's pixels, and how often it is joined -/
theorem BI.last (H : BI I nb sg N s M0 n 0 n q met px py t sx sy) (hnb : NB nb N) : (∀ p, p < N → (met p = true ↔ M0 p ∨ ∃ l, WK I nb s l p)) ∧ JT I nb s t := by
  have HH := H
  obtain ⟨⟨a1, a1'⟩, a2, a3, a4, a5, a6, a7, a8, a9, a10⟩ := H
  have step : ∀ (l : List Nat) (i p : Nat), i < n → WK I nb (q i) l p → ∃ j, j < n ∧ q j = p := by
    intro l
    induction l with
    | nil => intro i p hi h; exact ⟨i, hi, h⟩
    | cons f l ih =>
      intro i p hi h
      obtain ⟨h1, h2, h3⟩ := h
      obtain ⟨⟨j, g1, g2⟩, -⟩ := a7 i f hi h1 (Or.inl hi) h2
      rw [← g2] at h3
      exact ih j p g1 h3
  refine ⟨?_, ?_⟩
  · intro p hp
    rw [a4 p hp]
    constructor
    · rintro (h | ⟨i, hi, rfl⟩)
      · exact Or.inl h
      · obtain ⟨l, w, -⟩ := a5 i hi
        exact Or.inr ⟨l, w⟩
    · rintro (h | ⟨l, w⟩)
      · exact Or.inl h
      · exact Or.inr (step l 0 p a1 (by rw [a1']; exact w))
  · rcases a8 with h | h | h
    · refine Or.inl ⟨h, ?_⟩
      have wal : ∀ (l : List Nat) (i p : Nat), i < n → WK I nb (q i) l p → DX l = px p - px (q i) ∧ DY l = py p - py (q i) := by
        intro l
        induction l with
        | nil =>
          intro i p hi w
          have : q i = p := w
          rw [this]
          exact ⟨by show (0 : Int) = _; omega, by show (0 : Int) = _; omega⟩
        | cons f l ih =>
          intro i p hi w
          obtain ⟨h1, h2, h3⟩ := w
          obtain ⟨⟨j, g1, g2⟩, g3⟩ := a7 i f hi h1 (Or.inl hi) h2
          rw [← g2] at h3
          obtain ⟨z1, z2⟩ := ih j p g1 h3
          obtain ⟨c1, c2⟩ := g3.1 h
          rw [← g2] at c1 c2
          exact ⟨by show dx f + DX l = _; omega, by show dy f + DY l = _; omega⟩
      intro l w
      have := wal l 0 s a1 (by rw [a1']; exact w)
      rw [a1'] at this
      omega
    · obtain ⟨hS, l0, w0, x0, y0⟩ : (sx ≠ 0 ∨ sy ≠ 0) ∧ ∃ l, WK I nb s l s ∧ DX l = sx ∧ DY l = sy := a9 (by omega)
      refine Or.inr (Or.inl ⟨h, fun hr => ?_, ?_⟩)
      · have := hr l0 w0
        omega
      · have wal : ∀ (l : List Nat) (i p : Nat), i < n → WK I nb (q i) l p → (DX l - (px p - px (q i))) * sy = (DY l - (py p - py (q i))) * sx := by
          intro l
          induction l with
          | nil =>
            intro i p hi w
            have : q i = p := w
            rw [this]
            show ((0 : Int) - _) * sy = ((0 : Int) - _) * sx
            simp
          | cons f l ih =>
            intro i p hi w
            obtain ⟨h1, h2, h3⟩ := w
            obtain ⟨⟨j, g1, g2⟩, g3⟩ := a7 i f hi h1 (Or.inl hi) h2
            rw [← g2] at h3
            have z := ih j p g1 h3
            have c := g3.2 h
            rw [← g2] at c
            show (dx f + DX l - (px p - px (q i))) * sy = (dy f + DY l - (py p - py (q i))) * sx
            have e1 : dx f + DX l - (px p - px (q i)) = (DX l - (px p - px (q j))) + (px (q i) + dx f - px (q j)) := by omega
            have e2 : dy f + DY l - (py p - py (q i)) = (DY l - (py p - py (q j))) + (py (q i) + dy f - py (q j)) := by omega
            rw [e1, e2, Int.add_mul, Int.add_mul, z, c]
        have par : ∀ l, WK I nb s l s → DX l * sy = DY l * sx := by
          intro l w
          have := wal l 0 s a1 (by rw [a1']; exact w)
          rw [a1', Int.sub_self, Int.sub_self, Int.sub_zero, Int.sub_zero] at this
          exact this
        intro l l' w w'
        exact cross0 hS (par l w) (par l' w')
    · obtain ⟨l1, w1, z1⟩ := a10 h
      obtain ⟨-, l0, w0, x0, y0⟩ := a9 (by omega)
      refine Or.inr (Or.inr ⟨h, fun hr => z1 ?_⟩)
      have := hr l1 l0 w1 w0
      rw [x0, y0] at this
      exact this
end BISteps
-- ===== dots: the class's walk =====
def NBN (w s h : Int) (p e : Nat) : Nat := (nbr w s h p e).toNat
theorem nbr_rng {w s h : Int} {N : Nat} (B : SB w s h) (hN : w * h = N) (p e : Nat) : 0 ≤ nbr w s h p e ∧ nbr w s h p e < N := by
  have := num_range (s := s) B.1 B.2.2.2.2.1 ((p : Int) % w + dx e) ((p : Int) / w + dy e)
  unfold nbr
  omega
theorem NBN_eq {w s h : Int} {N : Nat} (B : SB w s h) (hN : w * h = N) (p e : Nat) : nbr w s h p e = (NBN w s h p e : Int) := by
  have := nbr_rng B hN p e
  unfold NBN
  omega
theorem InL.add {w s h x y x' y' : Int} (h1 : InL w s h x y) (h2 : InL w s h x' y') : InL w s h (x + x') (y + y') := by
  obtain ⟨i, a, b⟩ := h1
  obtain ⟨j, c, d⟩ := h2
  refine ⟨i + j, by rw [a, c, Int.add_mul], ?_⟩
  have : x + x' - (i + j) * s = (x - i * s) + (x' - j * s) := by grind
  rw [this]; exact Int.dvd_add b d
theorem InL.neg {w s h x y : Int} (h1 : InL w s h x y) : InL w s h (-x) (-y) := by
  obtain ⟨i, a, b⟩ := h1
  refine ⟨-i, by rw [a, Int.neg_mul], ?_⟩
  have : -x - -i * s = -(x - i * s) := by grind
  rw [this]; exact Int.dvd_neg.mpr b
/-- the neighbor, from any pixel of the place -/
theorem nbr_at {w s h : Int} {N p e : Nat} (B : SB w s h) (hN : w * h = N) (hp : p < N) {x y : Int} (hxy : num w s h x y = p) : num w s h (x + dx e) (y + dy e) = nbr w s h p e := by
  have hs := num_self (s := s) B.1 B.2.2.2.2.1 (p := (p : Int)) (by omega) (by omega)
  unfold nbr
  rw [num_eq B.1 B.2.2.2.2.1]
  have := (num_eq B.1 B.2.2.2.2.1 x y ((p : Int) % w) ((p : Int) / w)).mp (by rw [hxy, hs])
  have e1 : x + dx e - ((p : Int) % w + dx e) = x - (p : Int) % w := by omega
  have e2 : y + dy e - ((p : Int) / w + dy e) = y - (p : Int) / w := by omega
  rw [e1, e2]
  exact this
theorem NBN_NB {w s h : Int} {N : Nat} (B : SB w s h) (hN : w * h = N) : NB (NBN w s h) N := by
  intro p e hp he
  have h1 := nbr_rng B hN p e
  have h2 := NBN_eq B hN p e
  have hlt : NBN w s h p e < N := by omega
  refine ⟨hlt, ?_⟩
  have h3 := nbr_at (p := NBN w s h p e) (e := opp e) B hN hlt (x := (p : Int) % w + dx e) (y := (p : Int) / w + dy e) h2
  have e1 : (p : Int) % w + dx e + dx (opp e) = (p : Int) % w := by rw [(dx_opp he).1]; omega
  have e2 : (p : Int) / w + dy e + dy (opp e) = (p : Int) / w := by rw [(dx_opp he).2]; omega
  rw [e1, e2, num_self (s := s) B.1 B.2.2.2.2.1 (p := (p : Int)) (by omega) (by omega)] at h3
  show (nbr w s h (NBN w s h p e) (opp e)).toNat = p
  omega
def CR (N n : Nat) (q : Nat → Nat) (met : Nat → Bool) (px py : Nat → Int) (t sx sy : Int) (wn jt jx jy : Int32) (rea wx wy wt : Nat → Int32) : Prop :=
  wn = iI n ∧ jt = iI t ∧ (t ≠ 0 → jx = iI sx ∧ jy = iI sy ∧ -1000 ≤ sx ∧ sx ≤ 1000 ∧ -1000 ≤ sy ∧ sy ≤ 1000) ∧ (∀ p, p < N → rea p = iI (if met p = true then 1 else 0)) ∧ (∀ i, i < n → wx (q i) = iI (px (q i)) ∧ wy (q i) = iI (py (q i)) ∧ wt i = iI (q i))
theorem join_vals {t sx sy x y : Int} {jt jx jy : Int32} (ht : t = 0 ∨ t = 1 ∨ t = 2) (hjt : jt = iI t) (hj : t ≠ 0 → jx = iI sx ∧ jy = iI sy ∧ -1000 ≤ sx ∧ sx ≤ 1000 ∧ -1000 ≤ sy ∧ sy ≤ 1000) (hx : -1000 ≤ x) (hx' : x ≤ 1000) (hy : -1000 ≤ y) (hy' : y ≤ 1000) :
    ∃ jx' jy', mX0_join jt jx jy (iI x) (iI y) = some (iI (if x = 0 ∧ y = 0 then t else if t = 0 then 1 else if x * sy = y * sx then t else 2), jx', jy') ∧
      ((if x = 0 ∧ y = 0 then t else if t = 0 then 1 else if x * sy = y * sx then t else 2) ≠ 0 → jx' = iI (if x = 0 ∧ y = 0 then sx else if t = 0 then x else sx) ∧ jy' = iI (if x = 0 ∧ y = 0 then sy else if t = 0 then y else sy) ∧ -1000 ≤ (if x = 0 ∧ y = 0 then sx else if t = 0 then x else sx) ∧ (if x = 0 ∧ y = 0 then sx else if t = 0 then x else sx) ≤ 1000 ∧ -1000 ≤ (if x = 0 ∧ y = 0 then sy else if t = 0 then y else sy) ∧ (if x = 0 ∧ y = 0 then sy else if t = 0 then y else sy) ≤ 1000) := by
  have hz : ∀ F : Unit → Option (Int32 × Int32 × Int32), jB F (fun K => if iI x = 0 then (if iI y = 0 then some (jt, jx, jy) else K ()) else K ()) = if x = 0 ∧ y = 0 then some (jt, jx, jy) else F () := by
    intro K
    unfold jB
    simp only [iI_eq0 (x := x) (by omega) (by omega), iI_eq0 (x := y) (by omega) (by omega)]
    by_cases h1 : x = 0
    · by_cases h2 : y = 0
      · rw [if_pos h1, if_pos h2, if_pos ⟨h1, h2⟩]
      · rw [if_pos h1, if_neg h2, if_neg (by omega)]
    · rw [if_neg h1, if_neg (by omega)]
  unfold mX0_join
  rw [hz]
  by_cases h0 : x = 0 ∧ y = 0
  · simp only [if_pos h0]
    exact ⟨jx, jy, by rw [hjt], fun h => hj h⟩
  · simp only [if_neg h0, hjt, iI_eq0 (x := t) (by omega) (by omega)]
    by_cases ht0 : t = 0
    · simp only [if_pos ht0]
      exact ⟨_, _, by rw [← iI_1], fun _ => ⟨rfl, rfl, by omega, by omega, by omega, by omega⟩⟩
    · simp only [if_neg ht0]
      obtain ⟨h1, h2, h3, h4, h5, h6⟩ := hj ht0
      have m1 := mul_bd2 (x := x) (y := sy) (A := 1000) (B := 1000) (by omega) (by omega)
      have m2 := mul_bd2 (x := y) (y := sx) (A := 1000) (B := 1000) (by omega) (by omega)
      rw [h1, h2, iI_mul, iI_mul]
      simp only [iI_inj (x := x * sy) (y := y * sx) (by omega) (by omega) (by omega) (by omega)]
      refine ⟨iI sx, iI sy, ?_, fun _ => ⟨rfl, rfl, h3, h4, h5, h6⟩⟩
      split
      · rfl
      · rw [← iI_2]
theorem shift_vals {t sx sy x y : Int} {jt jx jy : Int32} (ht : t = 0 ∨ t = 1 ∨ t = 2) (hjt : jt = iI t) (hj : t ≠ 0 → jx = iI sx ∧ jy = iI sy ∧ -1000 ≤ sx ∧ sx ≤ 1000 ∧ -1000 ≤ sy ∧ sy ≤ 1000) (hx : -1000 ≤ x) (hx' : x ≤ 1000) (hy : -1000 ≤ y) (hy' : y ≤ 1000) :
    ∃ jx' jy', mX5_shift jx jy jt (iI x) (iI y) = some (jx', jy', iI (if x = 0 ∧ y = 0 then t else if t = 0 then 1 else if x * sy = y * sx then t else 2)) ∧
      ((if x = 0 ∧ y = 0 then t else if t = 0 then 1 else if x * sy = y * sx then t else 2) ≠ 0 → jx' = iI (if x = 0 ∧ y = 0 then sx else if t = 0 then x else sx) ∧ jy' = iI (if x = 0 ∧ y = 0 then sy else if t = 0 then y else sy) ∧ -1000 ≤ (if x = 0 ∧ y = 0 then sx else if t = 0 then x else sx) ∧ (if x = 0 ∧ y = 0 then sx else if t = 0 then x else sx) ≤ 1000 ∧ -1000 ≤ (if x = 0 ∧ y = 0 then sy else if t = 0 then y else sy) ∧ (if x = 0 ∧ y = 0 then sy else if t = 0 then y else sy) ≤ 1000) := by
  have hz : ∀ F : Int32 → Option (Int32 × Int32 × Int32), jB F (fun K => if iI x = 0 then (if iI y = 0 then K 1 else K 0) else K 0) = if x = 0 ∧ y = 0 then F 1 else F 0 := by
    intro K
    unfold jB
    simp only [iI_eq0 (x := x) (by omega) (by omega), iI_eq0 (x := y) (by omega) (by omega)]
    by_cases h1 : x = 0
    · by_cases h2 : y = 0
      · rw [if_pos h1, if_pos h2, if_pos ⟨h1, h2⟩]
      · rw [if_pos h1, if_neg h2, if_neg (by omega)]
    · rw [if_neg h1, if_neg (by omega)]
  have d1 : ¬ (1 : Int32) = 0 := by decide
  unfold mX5_shift
  rw [hz]
  by_cases h0 : x = 0 ∧ y = 0
  · simp only [if_pos h0, if_neg d1]
    exact ⟨jx, jy, by rw [hjt], fun h => hj h⟩
  · simp only [if_neg h0, hjt, iI_eq0 (x := t) (by omega) (by omega), if_true]
    by_cases ht0 : t = 0
    · simp only [if_pos ht0]
      exact ⟨_, _, by rw [← iI_1], fun _ => ⟨rfl, rfl, by omega, by omega, by omega, by omega⟩⟩
    · simp only [if_neg ht0]
      obtain ⟨h1, h2, h3, h4, h5, h6⟩ := hj ht0
      have m1 := mul_bd2 (x := x) (y := sy) (A := 1000) (B := 1000) (by omega) (by omega)
      have m2 := mul_bd2 (x := y) (y := sx) (A := 1000) (B := 1000) (by omega) (by omega)
      rw [h1, h2, iI_mul, iI_mul]
      have hc : (sx * y = sy * x) ↔ (x * sy = y * sx) := by
        rw [Int.mul_comm sx y, Int.mul_comm sy x]
        exact ⟨Eq.symm, Eq.symm⟩
      have m1' : sx * y = y * sx := Int.mul_comm _ _
      have m2' : sy * x = x * sy := Int.mul_comm _ _
      simp only [iI_inj (x := sx * y) (y := sy * x) (by omega) (by omega) (by omega) (by omega), hc]
      refine ⟨iI sx, iI sy, ?_, fun _ => ⟨rfl, rfl, h3, h4, h5, h6⟩⟩
      split
      · rfl
      · rw [← iI_2]
def Ink (R : Nat → Nat) (st : Int) (p : Nat) : Bool := decide ((R p : Int) < st)
theorem X3_inksPlace {rk : Nat → Int32} {R : Nat → Nat} {N p : Nat} {st : Int} (hN64 : N ≤ 64) (hr : ∀ p, p < N → rk p = iI (R p)) (hR : ∀ p, p < N → R p < N) (h0 : -1000 ≤ st) (h1 : st ≤ 1000) (hp : p < N) : mX3_inksPlace rk (iI p) (iI st) = some (if Ink R st p = true then 1 else 0) := by
  have := hR p hp
  unfold mX3_inksPlace
  rw [X4_atI (by omega) (by omega) (by omega), Int.toNat_natCast, hr p hp]
  simp only [bnd1, iI_le (x := st) (y := (R p : Int)) (by omega) (by omega) (by omega) (by omega), Ink, decide_eq_true_iff]
  split
  · rw [if_neg (by omega)]
  · rw [if_pos (by omega)]
section ClassWalk
variable {w s h st : Int} {N : Nat} {R : Nat → Nat} {rk nb : Nat → Int32} {s0 : Nat} {M0 : Nat → Prop}
theorem X0_L50 (B : SB w s h) (hN : w * h = N) (hN64 : N ≤ 64) (hr : ∀ p, p < N → rk p = iI (R p)) (hR : ∀ p, p < N → R p < N) (hnb : ∀ p e, p < N → e < 4 → nb (4 * p + e) = iI (nbr w s h p e)) (hst0 : -1000 ≤ st) (hst1 : st ≤ 1000)
    (hM : ∀ p f, p < N → Ink R st p = true → f < 4 → Ink R st (NBN w s h p f) = true → M0 (NBN w s h p f) → M0 p) {k : Nat} {pl : Nat} (m : Nat) :
    ∀ (fu e n : Nat) (q : Nat → Nat) (met : Nat → Bool) (px py : Nat → Int) (t sx sy : Int) (wn jt jx jy : Int32) (rea wx wy wt : Nat → Int32), e + m = 4 → m < fu → k < n → q k = pl → px s0 = 0 → py s0 = 0 →
    BI (Ink R st) (NBN w s h) (fun e => e) N s0 M0 k e n q met px py t sx sy → CR N n q met px py t sx sy wn jt jx jy rea wx wy wt →
    ∃ r n' q' met' px' py' t' sx' sy' wn' jt' jx' jy' rea' wx' wy' wt', mX0_walkThrough_L50 rk nb (iI st) (iI pl) fu (iI e) wn jt jx jy rea wx wy wt = some (r, wn', jt', jx', jy', rea', wx', wy', wt') ∧ k < n' ∧ px' s0 = 0 ∧ py' s0 = 0 ∧
      BI (Ink R st) (NBN w s h) (fun e => e) N s0 M0 k 4 n' q' met' px' py' t' sx' sy' ∧ CR N n' q' met' px' py' t' sx' sy' wn' jt' jx' jy' rea' wx' wy' wt' := by
  have NBp := NBN_NB B hN
  induction m with
  | zero =>
    intro fu e n q met px py t sx sy wn jt jx jy rea wx wy wt hm hf hk hpl hx0 hy0 H C
    obtain ⟨fu, rfl⟩ : ∃ k, fu = k + 1 := ⟨fu - 1, by omega⟩
    have : e = 4 := by omega
    subst this
    refine ⟨iI (4 : Nat), n, q, met, px, py, t, sx, sy, wn, jt, jx, jy, rea, wx, wy, wt, ?_, hk, hx0, hy0, H, C⟩
    rw [mX0_walkThrough_L50, iI_4, if_pos (by rw [iI_le (by omega) (by omega) (by omega) (by omega)]; omega)]
  | succ m ih =>
    intro fu e n q met px py t sx sy wn jt jx jy rea wx wy wt hm hf hk hpl hx0 hy0 H C
    obtain ⟨fu, rfl⟩ : ∃ k, fu = k + 1 := ⟨fu - 1, by omega⟩
    have HH := H
    obtain ⟨a1, a2, a3, a4, a5, a6, a7, a8⟩ := H
    obtain ⟨c1, c2, c3, c4, c5⟩ := C
    have hroom := HH.room
    have b1 := (a2 k hk).1
    rw [hpl] at b1
    obtain ⟨d1, d2⟩ := NBp pl e b1 (by omega)
    have d3 := NBN_eq B hN pl e
    have hbx := dx_bd e
    have hby := dy_bd e
    have hk6 := a6 k hk
    rw [hpl, hx0, hy0] at hk6
    obtain ⟨w1, w2, w3⟩ := c5 k hk
    rw [hpl] at w1 w2
    rw [mX0_walkThrough_L50, iI_4, if_neg (by rw [iI_le (by omega) (by omega) (by omega) (by omega)]; omega)]
    unfold mX3_neighbor
    rw [iI_4, iI_mul, iI_add, X4_atI (by omega) (by omega) (by omega)]
    have ej : (4 * (pl : Int) + (e : Int)).toNat = 4 * pl + e := by omega
    rw [ej, hnb pl e b1 (by omega), d3]
    simp only [bnd1]
    rw [X3_inksPlace hN64 hr hR hst0 hst1 d1]
    simp only [nmB]
    have en : iI (e : Int) + 1 = iI ((e + 1 : Nat) : Int) := by rw [iI_1, iI_add]; rfl
    by_cases hI : Ink R st (NBN w s h pl e) = true
    · rw [if_pos hI, if_neg (by decide), X4_atI (by omega) (by omega) (by omega), X4_atI (by omega) (by omega) (by omega)]
      simp only []
      rw [X4_atI (by omega) (by omega) (by omega), X4_atI (by omega) (by omega) (by omega)]
      simp only [Int.toNat_natCast]
      rw [w1, w2, stX_dx, stY_dy, iI_add, iI_add]
      unfold mX0_reach
      rw [X4_atI (by omega) (by omega) (by omega), Int.toNat_natCast, c4 _ d1]
      simp only [bnd1]
      by_cases hmet : met (NBN w s h pl e) = true
      · rw [if_pos hmet, if_pos (by rw [← iI_1])]
        obtain ⟨j, j1, j2⟩ := HH.inQueue NBp hM hk (show (fun e => e) e < 4 by show e < 4; omega) (by rw [hpl]; exact hI) (by rw [hpl]; exact hmet)
        rw [hpl] at j2
        obtain ⟨z1, z2, z3⟩ := c5 j j1
        rw [j2] at z1 z2
        have hj6 := a6 j j1
        rw [j2, hx0, hy0] at hj6
        rw [X4_atI (by omega) (by omega) (by omega), X4_atI (by omega) (by omega) (by omega)]
        simp only [Int.toNat_natCast]
        rw [z1, z2, iI_sub, iI_sub]
        obtain ⟨jx', jy', v1, v2⟩ := join_vals (x := px pl + dx e - px (NBN w s h pl e)) (y := py pl + dy e - py (NBN w s h pl e)) a8.1 c2 c3 (by omega) (by omega) (by omega) (by omega)
        rw [v1]
        simp only [bnd3, bnd8]
        rw [en]
        have H2 := HH.seen NBp hk (show (fun e => e) e < 4 by show e < 4; omega) j1 (by rw [hpl]; exact j2) (by rw [hpl]; exact hI) (x := px pl + dx e - px (NBN w s h pl e)) (y := py pl + dy e - py (NBN w s h pl e)) (by rw [hpl]) (by rw [hpl])
        exact ih fu (e + 1) n q met px py _ _ _ _ _ _ _ _ _ _ _ (by omega) (by omega) hk hpl hx0 hy0 H2 ⟨c1, rfl, v2, c4, c5⟩
      · rw [if_neg hmet, if_neg (by rw [iI_1, iI_inj (by omega) (by omega) (by omega) (by omega)]; omega)]
        have H2 := HH.push NBp hk (show (fun e => e) e < 4 by show e < 4; omega) (by rw [hpl]; exact hI) (by rw [hpl]; exact hmet)
        have hroom2 := H2.room
        rw [X4_putI (by omega) (by omega) (by omega)]
        simp only []
        rw [X4_putI (by omega) (by omega) (by omega)]
        simp only []
        rw [X4_putI (by omega) (by omega) (by omega)]
        simp only []
        rw [c1, X4_putI (by omega) (by omega) (by omega)]
        simp only [nmB, bnd8, Int.toNat_natCast]
        rw [en]
        have hpq : ∀ i, i < n → q i ≠ NBN w s h pl e := fun i hi hh => hmet ((a4 _ d1).mpr (Or.inr ⟨i, hi, hh⟩))
        have hs0 : s0 ≠ NBN w s h pl e := by rw [← a1.2]; exact hpq 0 a1.1
        rw [hpl] at H2
        refine ih fu (e + 1) (n + 1) _ _ _ _ _ _ _ _ _ _ _ _ _ _ _ (by omega) (by omega) (by omega) (by rw [upg_ne (by omega)]; exact hpl) (by rw [upg_ne hs0]; exact hx0) (by rw [upg_ne hs0]; exact hy0) H2 ⟨?_, c2, c3, ?_, ?_⟩
        · rw [iI_1, iI_add]; rfl
        · intro p hp
          by_cases hpe : p = NBN w s h pl e
          · rw [hpe, upd_same, upg_same, if_pos rfl]; exact iI_1
          · rw [upd_ne hpe, upg_ne hpe]; exact c4 p hp
        · intro i hi
          by_cases hin : i = n
          · rw [hin, upg_same, upd_same, upd_same, upd_same, upg_same, upg_same]
            exact ⟨rfl, rfl, rfl⟩
          · have hq := hpq i (by omega)
            rw [upg_ne hin, upd_ne hq, upd_ne hq, upd_ne hin, upg_ne hq, upg_ne hq]
            exact c5 i (by omega)
    · rw [if_neg hI, if_pos rfl, en]
      exact ih fu (e + 1) n q met px py t sx sy wn jt jx jy rea wx wy wt (by omega) (by omega) hk hpl hx0 hy0 (HH.skip (by rw [hpl]; exact hI)) ⟨c1, c2, c3, c4, c5⟩
end ClassWalk
