-- ===== the law's own calls: wrappers with an exception table =====
section LawCall
variable {p : Program} {l : Launch} {e : Env} {R : Room} {s : State} {m : MethodId} {args : Array Value} {below : List Frame} {meth : Method} {c : Code} {H : Heap} {locs : List Loc} {cells slots : Nat} {Q : State → Prop}
variable {y : MethodName} {bytes cc : ByteArray} {maxL nL n index pc : Nat} {ls : Array Slot} {ret : Option FieldType} {ws : List Cond} {rm : Room} {Ts : List Cond} {own host C : String} {b : Addr} {As rest st0 : List Value} {G : GG} {wc wl : va_W}
theorem rwm_back {mc ms : Nat} {A0 : Nat → Prop} {H0 : Heap} {w1 : va_W} {ov : Option Value} {φ : Prop} {a : Array Value} (hr : va_Run p l e R s m args below meth c H locs cells slots mc ms (F0 m pc ls st0) rest (QwA G (va_A0 wc) w1 ov φ a) (va_A0 wc)) (hP : va_P G.1 vwCl wl H) (hD : va_D A0 wl) (hS : va_S A0 H0 H locs)
    (isC isR isF : List Nat) {wr wf : va_W} (hC : isC.map (fun i => wl[i]?) = wc.map some) (hR : isR.map (fun i => wl[i]?) = wr.map some) (hF : isF.map (fun i => (wr ++ w1)[i]?) = wf.map some) (hn : va_nd isR = true) (hnF : va_nd isF = true) (hdis : isR.all (fun i => !isC.contains i) = true)
    (kk : φ → ∀ (H1 : Heap) (locs1 : List Loc), va_P G.1 vwCl wf H1 → va_D A0 wf → va_S A0 H0 H1 locs1 → W p l e R s m args below meth c H1 locs1 (cells + mc) (slots + ms) Q (F0 m (pc + 3) ls (ov.toList ++ rest))) : W p l e R s m args below meth c H locs cells slots Q (F0 m pc ls st0) := by
  intro T hT X
  obtain ⟨v, st₀, t, T', L, h0, X', hL, e1, e2, ⟨hv, hφ, hP1, hD1, hz, hk⟩, st⟩ := hr T hT X
  cases hv
  rw [h0] at hz hk
  have hA : ∀ q, va_A0 wc q → A0 q := by
    rintro q ⟨k, e, hq⟩
    have h1 : (isC.map (fun i => wl[i]?))[k]? = some (some (q, e)) := by rw [hC, List.getElem?_map, hq]; rfl
    rw [List.getElem?_map] at h1
    cases hi : isC[k]? with
    | none => rw [hi] at h1; cases h1
    | some i => rw [hi] at h1; exact hD.2 i (q, e) (Option.some.inj h1)
  have hA' : ∀ q, va_A0 wc q → va_A wc H.size q := fun q h => Or.inl h
  have hdis' : ∀ i ∈ isR, i ∉ isC := fun i hi hc => by
    have := List.all_eq_true.mp hdis i hi
    simp at this
    exact this hc
  have hk' : ∀ q : Nat, q < H.size → ¬ va_A0 wc q → t.heap[q]? = H[q]? := hk
  have hS1 : va_S A0 H0 t.heap (locs ++ L) := ⟨Nat.le_trans hS.1 hz, fun q h1 h2 => by
      rw [hk' q (Nat.lt_of_lt_of_le h1 hS.1) (fun z => h2 (hA q z))]
      exact hS.2.1 q h1 h2, fun q hq => by
      rcases List.mem_append.mp hq with h | h
      · exact hS.2.2 q h
      · exact hA _ (hL q h)⟩
  have key : va_P G.1 vwCl (wr ++ w1) t.heap ∧ va_D A0 (wr ++ w1) := by
    have apart : ∀ (k : Nat) (q : Nat × va_E), wr[k]? = some q → q.1 < H.size ∧ ¬ va_A0 wc q.1 := by
      intro k q hq
      have h1 : (isR.map (fun i => wl[i]?))[k]? = some (some q) := by rw [hR, List.getElem?_map, hq]; rfl
      rw [List.getElem?_map] at h1
      cases hi : isR[k]? with
      | none => rw [hi] at h1; cases h1
      | some i =>
        rw [hi] at h1
        have h2 : wl[i]? = some q := Option.some.inj h1
        refine ⟨(hP i q h2).lt, ?_⟩
        rintro ⟨k2, e, h3⟩
        have h4 : (isC.map (fun i => wl[i]?))[k2]? = some (some (q.1, e)) := by rw [hC, List.getElem?_map, h3]; rfl
        rw [List.getElem?_map] at h4
        cases hj : isC[k2]? with
        | none => rw [hj] at h4; cases h4
        | some j =>
          rw [hj] at h4
          have hij := hD.1 i j q (q.1, e) h2 (Option.some.inj h4) rfl
          subst hij
          exact hdis' i (List.mem_of_getElem? hi) (List.mem_of_getElem? hj)
    have hPr : va_P G.1 vwCl wr H := by
      intro k q hq
      have h1 : (isR.map (fun i => wl[i]?))[k]? = some (some q) := by rw [hR, List.getElem?_map, hq]; rfl
      rw [List.getElem?_map] at h1
      cases hi : isR[k]? with
      | none => rw [hi] at h1; cases h1
      | some i => rw [hi] at h1; exact hP i q (Option.some.inj h1)
    refine ⟨va_P.app (hPr.kept fun k q hq => hk' q.1 (apart k q hq).1 (apart k q hq).2) hP1, va_D.app (hD.sub isR hn hR) (hD1.weaken fun k q _ h => hA q.1 h) (fun i j x y hx hy hxy => ?_)⟩
    exact (apart i x hx).2 (by rw [hxy]; exact hD1.2 j y hy)
  have hPf : va_P G.1 vwCl wf t.heap := by
    intro k q hq
    have h1 : (isF.map (fun i => (wr ++ w1)[i]?))[k]? = some (some q) := by rw [hF, List.getElem?_map, hq]; rfl
    rw [List.getElem?_map] at h1
    cases hi : isF[k]? with
    | none => rw [hi] at h1; cases h1
    | some i => rw [hi] at h1; exact key.1 i q (Option.some.inj h1)
  obtain ⟨t2, a1, b1⟩ := kk hφ t.heap (locs ++ L) hPf (key.2.sub isF hnF hF) hS1 T' e1 X'
  exact ⟨t2, st t2 a1, b1⟩
/-- what stands of the machine at the law's start for throws, apart from the cells A -/
def FT (A : Nat → Prop) (s : State) : Prop := TT A s s.heap ∧ NT s ∧ SK A s s.heap
theorem FT.call {A : Nat → Prop} {U : State} (h : FT A s) (hD : va_D A wl) (hS : va_S A s.heap H locs) (isC : List Nat) (hC : isC.map (fun i => wl[i]?) = wc.map some) (hU : U.heap = H) (hW : s.WarmedH U.vm) : XL wc U := by
  have hA : ∀ q, va_A0 wc q → A q := by
    rintro q ⟨k, e, hq⟩
    have h1 : (isC.map (fun i => wl[i]?))[k]? = some (some (q, e)) := by rw [hC, List.getElem?_map, hq]; rfl
    rw [List.getElem?_map] at h1
    cases hi : isC[k]? with
    | none => rw [hi] at h1; cases h1
    | some i => rw [hi] at h1; exact hD.2 i (q, e) (Option.some.inj h1)
  refine ⟨?_, NT.moved hW.alike h.2.1, ?_⟩
  · rw [hU]
    exact ((h.1.kept hS.2.1).narrow hA).warm hW
  · rw [hU]
    exact SK.narrow (SK.kept (SK.moved hW.alike h.2.2) hS.2.1) hA
theorem FT.call2 {A : Nat → Prop} {U : State} (h : FT A s) (hD : va_D A wl) (hS : va_S A s.heap H locs) (isC : List Nat) (hC : isC.map (fun i => wl[i]?) = wc.map some) (hU : U.heap = H) (hW : s.WarmedH U.vm) : SK (va_A0 wc) U U.heap := (FT.call h hD hS isC hC hU hW).2.2
theorem rwL {hh : List (Nat × Nat × Nat × Nat)} {A0 : Nat → Prop} {w1 : va_W} {ov : Option Value} {φ : Prop} {wr wf : va_W} (S : CallFix p m c cc nL s args Ts own) (hM : Met l y ws rm (va_Pc As (PreD G wc (XL wc))) (QwA G (va_A0 wc) w1 ov φ) 1 6 (va_A0 wc)) (cw : vx_CSW R s args own index y bytes maxL ret hh ws rm 1 6 n) (hK : KK G s) (hP : va_P G.1 vwCl wl H) (hD : va_D A0 wl) (hS : va_S A0 s.heap H locs) (hT : FT A0 s)
    (isC isR isF : List Nat) (hC1 : isC.map (fun i => wl[i]?) = wc.map some) (hR : isR.map (fun i => wl[i]?) = wr.map some) (hF : isF.map (fun i => (wr ++ w1)[i]?) = wf.map some) (hnR : va_nd isR = true) (hnC : va_nd isC = true) (hnF : va_nd isF = true) (hdis : isR.all (fun i => !isC.contains i) = true) (hn : As.length = n) (hsz : ls.size = nL) (hst : st0 = As.reverse ++ rest) (hW : (rest.map fun v => v.category).sum ≤ 8) (hdg : decode cc pc = .ok (.invokestatic index, 3)) (hcs : cells + 1 ≤ R.cells ∧ slots + 6 ≤ R.slots)
    (kk : φ → ∀ (H1 : Heap) (locs1 : List Loc), va_P G.1 vwCl wf H1 → va_D A0 wf → va_S A0 s.heap H1 locs1 → W p l e R s m args below meth c H1 locs1 (cells + 1) (slots + 6) Q (F0 m (pc + 3) ls (ov.toList ++ rest))) : W p l e R s m args below meth c H locs cells slots Q (F0 m pc ls st0) :=
  rwm_back (vx_runSW (g := F0 m pc ls st0) S hM cw ⟨PreD.blind (XL.blind wc), fun U hU hW => ⟨rfl, PreD.mk hK hP hD isC hnC hC1 (FT.call hT hD hS isC hC1 hU hW) hU hW⟩⟩ rfl hn hsz hst (lv_room hW) hdg hcs) hP hD hS isC isR isF hC1 hR hF hnR hnF hdis kk
end LawCall
-- ===== the law: the whole world of its loop (laid by lmgen.py) =====
abbrev Mdl : Type := Int32 × Int32 × Int32 × Int32 × Int32 × Int32 × Int32 × Int32 × Int32 × Int32 × Int32 × Int32 × Int32 × Int32 × Int32 × Int32 × Int32 × Int32 × Int64 × (Nat → Int32) × (Nat → Int32) × (Nat → Int32) × (Nat → Int32) × (Nat → Int32) × (Nat → Int32) × (Nat → Int32) × (Nat → Int32) × (Nat → Int32) × (Nat → Int32) × (Nat → Int32) × (Nat → Int32) × (Nat → Int32) × (Nat → Int32) × (Nat → Int32) × (Nat → Int32)
abbrev mkM (m_thrown : Int32) (m_gain : Int32) (m_size : Int32) (m_w : Int32) (m_s : Int32) (m_h : Int32) (m_laidArea : Int32) (m_parts : Int32) (m_isMinus : Int32) (m_readSpot : Int32) (m_isStar : Int32) (m_wantsNumber : Int32) (m_waiting : Int32) (m_shiftX : Int32) (m_shiftY : Int32) (m_times : Int32) (m_dotsLaid : Int32) (m_joinedLaid : Int32) (m_hash : Int64) (m_isThere : (Nat → Int32)) (m_v : (Nat → Int32)) (m_spotOf : (Nat → Int32)) (m_inMiddle : (Nat → Int32)) (m_tints : (Nat → Int32)) (m_buffer : (Nat → Int32)) (m_values : (Nat → Int32)) (m_ranks : (Nat → Int32)) (m_oldRanks : (Nat → Int32)) (m_part : (Nat → Int32)) (m_allRanks : (Nat → Int32)) (m_bases : (Nat → Int32)) (m_isMet : (Nat → Int32)) (m_metX : (Nat → Int32)) (m_metY : (Nat → Int32)) (m_line : (Nat → Int32)) : Mdl := (m_thrown, m_gain, m_size, m_w, m_s, m_h, m_laidArea, m_parts, m_isMinus, m_readSpot, m_isStar, m_wantsNumber, m_waiting, m_shiftX, m_shiftY, m_times, m_dotsLaid, m_joinedLaid, m_hash, m_isThere, m_v, m_spotOf, m_inMiddle, m_tints, m_buffer, m_values, m_ranks, m_oldRanks, m_part, m_allRanks, m_bases, m_isMet, m_metX, m_metY, m_line)
abbrev Mdl.thrown (x : Mdl) : Int32 := x.1
abbrev Mdl.gain (x : Mdl) : Int32 := x.2.1
abbrev Mdl.size (x : Mdl) : Int32 := x.2.2.1
abbrev Mdl.w (x : Mdl) : Int32 := x.2.2.2.1
abbrev Mdl.s (x : Mdl) : Int32 := x.2.2.2.2.1
abbrev Mdl.h (x : Mdl) : Int32 := x.2.2.2.2.2.1
abbrev Mdl.laidArea (x : Mdl) : Int32 := x.2.2.2.2.2.2.1
abbrev Mdl.parts (x : Mdl) : Int32 := x.2.2.2.2.2.2.2.1
abbrev Mdl.isMinus (x : Mdl) : Int32 := x.2.2.2.2.2.2.2.2.1
abbrev Mdl.readSpot (x : Mdl) : Int32 := x.2.2.2.2.2.2.2.2.2.1
abbrev Mdl.isStar (x : Mdl) : Int32 := x.2.2.2.2.2.2.2.2.2.2.1
abbrev Mdl.wantsNumber (x : Mdl) : Int32 := x.2.2.2.2.2.2.2.2.2.2.2.1
abbrev Mdl.waiting (x : Mdl) : Int32 := x.2.2.2.2.2.2.2.2.2.2.2.2.1
abbrev Mdl.shiftX (x : Mdl) : Int32 := x.2.2.2.2.2.2.2.2.2.2.2.2.2.1
abbrev Mdl.shiftY (x : Mdl) : Int32 := x.2.2.2.2.2.2.2.2.2.2.2.2.2.2.1
abbrev Mdl.times (x : Mdl) : Int32 := x.2.2.2.2.2.2.2.2.2.2.2.2.2.2.2.1
abbrev Mdl.dotsLaid (x : Mdl) : Int32 := x.2.2.2.2.2.2.2.2.2.2.2.2.2.2.2.2.1
abbrev Mdl.joinedLaid (x : Mdl) : Int32 := x.2.2.2.2.2.2.2.2.2.2.2.2.2.2.2.2.2.1
abbrev Mdl.hash (x : Mdl) : Int64 := x.2.2.2.2.2.2.2.2.2.2.2.2.2.2.2.2.2.2.1
abbrev Mdl.isThere (x : Mdl) : (Nat → Int32) := x.2.2.2.2.2.2.2.2.2.2.2.2.2.2.2.2.2.2.2.1
abbrev Mdl.v (x : Mdl) : (Nat → Int32) := x.2.2.2.2.2.2.2.2.2.2.2.2.2.2.2.2.2.2.2.2.1
abbrev Mdl.spotOf (x : Mdl) : (Nat → Int32) := x.2.2.2.2.2.2.2.2.2.2.2.2.2.2.2.2.2.2.2.2.2.1
abbrev Mdl.inMiddle (x : Mdl) : (Nat → Int32) := x.2.2.2.2.2.2.2.2.2.2.2.2.2.2.2.2.2.2.2.2.2.2.1
abbrev Mdl.tints (x : Mdl) : (Nat → Int32) := x.2.2.2.2.2.2.2.2.2.2.2.2.2.2.2.2.2.2.2.2.2.2.2.1
abbrev Mdl.buffer (x : Mdl) : (Nat → Int32) := x.2.2.2.2.2.2.2.2.2.2.2.2.2.2.2.2.2.2.2.2.2.2.2.2.1
abbrev Mdl.values (x : Mdl) : (Nat → Int32) := x.2.2.2.2.2.2.2.2.2.2.2.2.2.2.2.2.2.2.2.2.2.2.2.2.2.1
abbrev Mdl.ranks (x : Mdl) : (Nat → Int32) := x.2.2.2.2.2.2.2.2.2.2.2.2.2.2.2.2.2.2.2.2.2.2.2.2.2.2.1
abbrev Mdl.oldRanks (x : Mdl) : (Nat → Int32) := x.2.2.2.2.2.2.2.2.2.2.2.2.2.2.2.2.2.2.2.2.2.2.2.2.2.2.2.1
abbrev Mdl.part (x : Mdl) : (Nat → Int32) := x.2.2.2.2.2.2.2.2.2.2.2.2.2.2.2.2.2.2.2.2.2.2.2.2.2.2.2.2.1
abbrev Mdl.allRanks (x : Mdl) : (Nat → Int32) := x.2.2.2.2.2.2.2.2.2.2.2.2.2.2.2.2.2.2.2.2.2.2.2.2.2.2.2.2.2.1
abbrev Mdl.bases (x : Mdl) : (Nat → Int32) := x.2.2.2.2.2.2.2.2.2.2.2.2.2.2.2.2.2.2.2.2.2.2.2.2.2.2.2.2.2.2.1
abbrev Mdl.isMet (x : Mdl) : (Nat → Int32) := x.2.2.2.2.2.2.2.2.2.2.2.2.2.2.2.2.2.2.2.2.2.2.2.2.2.2.2.2.2.2.2.1
abbrev Mdl.metX (x : Mdl) : (Nat → Int32) := x.2.2.2.2.2.2.2.2.2.2.2.2.2.2.2.2.2.2.2.2.2.2.2.2.2.2.2.2.2.2.2.2.1
abbrev Mdl.metY (x : Mdl) : (Nat → Int32) := x.2.2.2.2.2.2.2.2.2.2.2.2.2.2.2.2.2.2.2.2.2.2.2.2.2.2.2.2.2.2.2.2.2.1
abbrev Mdl.line (x : Mdl) : (Nat → Int32) := x.2.2.2.2.2.2.2.2.2.2.2.2.2.2.2.2.2.2.2.2.2.2.2.2.2.2.2.2.2.2.2.2.2.2
abbrev wdM (G : GG) (um : Nat → Nat) (x : Mdl) : va_W := wdX5 G (um 0) (um 1) (um 2) (um 3) (um 4) (um 5) (um 6) (um 7) (um 8) (um 9) (um 10) (um 11) (um 12) (um 13) (um 14) (um 15) (um 16) x.thrown x.gain x.size x.w x.s x.h x.laidArea x.parts x.isMinus x.readSpot x.isStar x.wantsNumber x.waiting x.shiftX x.shiftY x.times x.dotsLaid x.joinedLaid x.hash x.isThere x.v x.spotOf x.inMiddle x.tints x.buffer x.values x.ranks x.oldRanks x.part x.allRanks x.bases x.isMet x.metX x.metY x.line
abbrev wdA (G : GG) (ad : Nat → Nat) (qo : Nat) (cl : Cls) (f : Nat → Int64) : va_W := wdF G ad cl ++ [(qo, .inl (G.2 3, 1, .inr (.inl f)))]
abbrev wdD (G : GG) (qd : Nat) (fd : Nat → UInt64) : va_W := [(qd, .inl (G.2 4, 1, .inr (.inr (.inr (.inl fd)))))]
abbrev wdL (G : GG) (ad um : Nat → Nat) (qo qd : Nat) (cl : Cls) (x : Mdl) (f : Nat → Int64) (fd : Nat → UInt64) : va_W := wdA G ad qo cl f ++ (wdD G qd fd ++ wdM G um x)
abbrev INVM (cl : Cls) (x : Mdl) : Prop := INV cl x.isThere x.v x.spotOf x.inMiddle x.tints x.buffer x.gain x.size
abbrev AL (s : State) : Nat → Prop := fun q => s.heap.size ≤ q
/-- what stands all along the law's loop -/
def LF (p : Program) (l : Launch) (s : State) (m : MethodId) (c : Code) (b L : Nat) (xs : Nat → Int32) (G : GG) : Prop := (p.tables.exec = Jvm.exec ∧ c.code = cL_law ∧ c.maxLocals = 9 ∧ s.vm.findClass RL = some m.cls ∧ (∀ w ∈ lw_tbl, w.before #[Value.ref b] s = true) ∧ va_X b L xs s s.heap ∧ b < s.heap.size) ∧ KK G s ∧ FT (AL s) s ∧ L ≤ 3584 ∧ l.stackTraces = false
/-- the world at a point of the loop -/
def LSt (s : State) (G : GG) (ad um : Nat → Nat) (qo qd : Nat) (cl : Cls) (x : Mdl) (f : Nat → Int64) (fd : Nat → UInt64) (H : Heap) (locs : List Loc) : Prop := va_P G.1 vwCl (wdL G ad um qo qd cl x f fd) H ∧ va_D (AL s) (wdL G ad um qo qd cl x f fd) ∧ va_S (AL s) s.heap H locs ∧ INVM cl x
abbrev lvL (b : Nat) (ad um : Nat → Nat) (qo qd i : Nat) : List (Nat × Value) := [(0, .ref b), (1, .ref (ad 0)), (2, .ref (um 0)), (3, .ref qo), (4, .ref qd), (5, .int (nI i))]
theorem lnI_add (i j : Nat) : nI i + nI j = nI (i + j) := by rw [← iI_nat, ← iI_nat, ← iI_nat, iI_add]; rfl
theorem sc_in {i L : Nat} (hi : i + 7 ≤ L) (hL : L ≤ 3584) (j : Nat) (hj : j < 7) : vp_in (nI i + nI j) L := by rw [lnI_add]; exact vp_in_nI (by omega) (by omega)
theorem lgc (x : Int64) : lg_cmp x x = 0 := by unfold lg_cmp; simp [Op.cmpValue]
/-- the loop's way on, from pc 2071 -/
abbrev LKont (p : Program) (l : Launch) (e : Env) (s : State) (m : MethodId) (below : List Frame) (meth : Method) (c : Code) (b : Nat) (G : GG) (ad um : Nat → Nat) (qo qd i cells slots : Nat) (Q : State → Prop) : Prop := ∀ (cl : Cls) (x : Mdl) (f : Nat → Int64) (fd : Nat → UInt64) (H : Heap) (locs : List Loc), LSt s G ad um qo qd cl x f fd H locs → ∀ ls : Array Slot, lv_has ls 9 (lvL b ad um qo qd i) → W p l e room_1 s m #[Value.ref b] below meth c H locs (cells + 1) (slots + 6) Q (F0 m 2071 ls [])
theorem hvyX5_thrown : yX5_thrown.cls = RX5 ∧ yX5_thrown.cls ≠ "java/lang/invoke/MethodHandle" ∧ yX5_thrown.cls ≠ "java/lang/invoke/VarHandle" ∧ (parseMethodDescriptor yX5_thrown.desc).map (fun d => d.parameters.length) = some 0 := ⟨rfl, by decide +kernel⟩
theorem hzyL_append : yL_append.cls ≠ "java/lang/invoke/MethodHandle" ∧ yL_append.cls ≠ "java/lang/invoke/VarHandle" ∧ (parseMethodDescriptor yL_append.desc).map (fun d => d.parameters.length) = some 3 := by decide +kernel
theorem hvyX5_append : yX5_append.cls = RX5 ∧ yX5_append.cls ≠ "java/lang/invoke/MethodHandle" ∧ yX5_append.cls ≠ "java/lang/invoke/VarHandle" ∧ (parseMethodDescriptor yX5_append.desc).map (fun d => d.parameters.length) = some 1 := ⟨rfl, by decide +kernel⟩
set_option maxHeartbeats 4000000 in
set_option maxRecDepth 100000 in
theorem law_c0 {p : Program} {l : Launch} {e : Env} {s : State} {m : MethodId} {below : List Frame} {meth : Method} {c : Code} {b L : Nat} {xs : Nat → Int32} {G : GG} {ad um : Nat → Nat} {qo qd : Nat} {Q : State → Prop} (hF : LF p l s m c b L xs G) {i : Nat} (hi : i + 7 ≤ L) {cl : Cls} {x : Mdl} {f : Nat → Int64} {fd : Nat → UInt64} {H : Heap} {locs : List Loc} (hI : LSt s G ad um qo qd cl x f fd H locs) {cells slots : Nat} (hc1 : cells + 1 ≤ 601024) (hc2 : slots + 6 ≤ 7293034) {ls : Array Slot} (hl : lv_has ls 9 (lvL b ad um qo qd i)) (kk : LKont p l e s m below meth c b G ad um qo qd i cells slots Q) : W p l e room_1 s m #[Value.ref b] below meth c H locs cells slots Q (F0 m 176 ls []) := by
  obtain ⟨⟨hx, hb, hml, hown, hts, hX, hbl⟩, hK, hT, hL, hfl⟩ := id hF
  obtain ⟨hP, hD, hS, hI⟩ := hI
  have hbA : ¬ AL s b := Nat.not_le.mpr hbl
  have S : CallFix p m c cL_law 9 s #[Value.ref b] lw_tbl RL := ⟨hx, hb, hml, hown, hts⟩
  refine lv_aload_n hx hb dL_law_176 rfl (lv_at hl 1 rfl) ?_
  refine lv_aload_n hx hb dL_law_177 rfl (lv_at hl 0 rfl) ?_
  refine lv_iload hx hb dL_law_178 (lv_at hl 5 rfl) ?_
  refine lv_iconst (v := 1) hx hb dL_law_180 (by decide) ?_
  refine lv_iadd hx hb dL_law_181 ?_
  refine va_sld hx hb hX hbl hbA hS (sc_in hi hL 1 (by decide)) dL_law_182 ?_
  refine lv_aload_n hx hb dL_law_183 rfl (lv_at hl 3 rfl) ?_
  obtain ⟨r, cl', f', bb, u2, u3, e1, e2, e3, hI'⟩ := LW_append hI f (xs (nI i + 1).toNatClampNeg) 
  refine rwL (rest := []) (As := [.ref (ad 0), .int (xs (nI i + 1).toNatClampNeg), .ref qo]) (wr := wdD G qd fd ++ wdM G um x) (wf := wdL G ad um qo qd cl' x f' fd) S (lw_append l hfl G ad qo cl cl' f f' (xs (nI i + 1).toNatClampNeg) r e1) (vx_cwSW 3 hts gL_law_L_append rfl rfl rfl hzyL_append ⟨Nat.le_of_ble_eq_true rfl, Nat.le_of_ble_eq_true rfl⟩) hK hP hD hS hT [0, 1, 2, 3, 4, 5, 6, 7, 8, 9, 10, 11, 12, 13, 14, 15, 16, 17, 18, 19, 20, 21, 22, 23, 24, 25, 26, 27, 28, 29, 30, 31, 32, 33, 34, 35] [36, 37, 38, 39, 40, 41, 42, 43, 44, 45, 46, 47, 48, 49, 50, 51, 52, 53] [18, 19, 20, 21, 22, 23, 24, 25, 26, 27, 28, 29, 30, 31, 32, 33, 34, 35, 36, 37, 38, 39, 40, 41, 42, 43, 44, 45, 46, 47, 48, 49, 50, 51, 52, 53, 0, 1, 2, 3, 4, 5, 6, 7, 8, 9, 10, 11, 12, 13, 14, 15, 16, 17] rfl rfl rfl rfl rfl rfl rfl rfl hl.1 rfl (Nat.le_of_ble_eq_true rfl) dL_law_184 ⟨hc1, hc2⟩ (fun _ H locs hP hD hS => ?_)
  refine lv_istore (lv' := [(6, .int r), (0, .ref b), (1, .ref (ad 0)), (2, .ref (um 0)), (3, .ref qo), (4, .ref qd), (5, .int (nI i))]) hx hb dL_law_187 hl (by decide) rfl (fun ls hl => ?_)
  refine lv_aload_n hx hb dL_law_189 rfl (lv_at hl 3 rfl) ?_
  refine lv_aload_n hx hb dL_law_190 rfl (lv_at hl 1 rfl) ?_
  refine lv_iload hx hb dL_law_191 (lv_at hl 6 rfl) ?_
  refine lv_iconst (v := 1) hx hb dL_law_193 (by decide) ?_
  refine lv_iadd hx hb dL_law_194 ?_
  refine va_sld hx hb hX hbl hbA hS (sc_in hi hL 1 (by decide)) dL_law_195 ?_
  refine rwV_back (rest := []) (As := [.int (xs (nI i + 1).toNatClampNeg)]) (wr := wdA G ad qo cl' f' ++ wdD G qd fd) (wf := wdL G ad um qo qd cl' (mkM r x.gain u2 x.w x.s x.h x.laidArea x.parts x.isMinus x.readSpot x.isStar x.wantsNumber x.waiting x.shiftX x.shiftY x.times x.dotsLaid x.joinedLaid x.hash x.isThere x.v x.spotOf x.inMiddle x.tints u3 x.values x.ranks x.oldRanks x.part x.allRanks x.bases x.isMet x.metX x.metY x.line) f' fd) S (ctX5_append l G (um 0) (um 1) (um 2) (um 3) (um 4) (um 5) (um 6) (um 7) (um 8) (um 9) (um 10) (um 11) (um 12) (um 13) (um 14) (um 15) (um 16) x.thrown x.gain x.size x.w x.s x.h x.laidArea x.parts x.isMinus x.readSpot x.isStar x.wantsNumber x.waiting x.shiftX x.shiftY x.times x.dotsLaid x.joinedLaid x.hash x.isThere x.v x.spotOf x.inMiddle x.tints x.buffer x.values x.ranks x.oldRanks x.part x.allRanks x.bases x.isMet x.metX x.metY x.line (xs (nI i + 1).toNatClampNeg) bb r u2 u3 e2) (cwV 1 hts gL_law_X5_append rfl rfl rfl hvyX5_append ⟨Nat.le_of_ble_eq_true rfl, Nat.le_of_ble_eq_true rfl⟩) hK hP hD hS xb_triv (fun _ _ _ => trivial) [37, 38, 39, 40, 41, 42, 43, 44, 45, 46, 47, 48, 49, 50, 51, 52, 53] [0, 1, 2, 3, 4, 5, 6, 7, 8, 9, 10, 11, 12, 13, 14, 15, 16, 17, 18, 19, 20, 21, 22, 23, 24, 25, 26, 27, 28, 29, 30, 31, 32, 33, 34, 35, 36] [0, 1, 2, 3, 4, 5, 6, 7, 8, 9, 10, 11, 12, 13, 14, 15, 16, 17, 18, 19, 20, 21, 22, 23, 24, 25, 26, 27, 28, 29, 30, 31, 32, 33, 34, 35, 36, 37, 38, 39, 40, 41, 42, 43, 44, 45, 46, 47, 48, 49, 50, 51, 52, 53] rfl rfl rfl rfl rfl rfl rfl 37 5 rfl rfl rfl rfl hl.1 rfl (Nat.le_of_ble_eq_true rfl) dL_law_196 ⟨hc1, hc2⟩ (fun _ H locs hP hD hS => ?_)
  refine lv_istore (lv' := [(7, .int bb), (6, .int r), (0, .ref b), (1, .ref (ad 0)), (2, .ref (um 0)), (3, .ref qo), (4, .ref qd), (5, .int (nI i))]) hx hb dL_law_199 hl (by decide) rfl (fun ls hl => ?_)
  refine lv_aload_n hx hb dL_law_201 rfl (lv_at hl 4 rfl) ?_
  refine roVi1 (rest := []) (As := []) S (ctX5_thrown l G (um 0) (um 1) (um 2) (um 3) (um 4) (um 5) (um 6) (um 7) (um 8) (um 9) (um 10) (um 11) (um 12) (um 13) (um 14) (um 15) (um 16) r x.gain u2 x.w x.s x.h x.laidArea x.parts x.isMinus x.readSpot x.isStar x.wantsNumber x.waiting x.shiftX x.shiftY x.times x.dotsLaid x.joinedLaid x.hash x.isThere x.v x.spotOf x.inMiddle x.tints u3 x.values x.ranks x.oldRanks x.part x.allRanks x.bases x.isMet x.metX x.metY x.line r rfl) (cwV 0 hts gL_law_X5_thrown rfl rfl rfl hvyX5_thrown ⟨Nat.le_of_ble_eq_true rfl, Nat.le_of_ble_eq_true rfl⟩) hK hP [37, 38, 39, 40, 41, 42, 43, 44, 45, 46, 47, 48, 49, 50, 51, 52, 53] rfl 37 5 rfl rfl rfl rfl hl.1 rfl (Nat.le_of_ble_eq_true rfl) dL_law_202 ⟨hc1, hc2⟩ (fun _ => ?_)
  refine lv_iload hx hb dL_law_205 (lv_at hl 1 rfl) ?_
  refine lv_icmp_eq (tgt := 212) hx hb dL_law_207 (by decide) (fun _ => ?_) (fun cn => absurd rfl cn)
  refine lv_iload hx hb dL_law_212 (lv_at hl 1 rfl) ?_
  refine lv_if_ne (tgt := 229) hx hb dL_law_214 (by decide) (fun hr => ?_) (fun hr => ?_)
  · skip
    refine lv_goto (tgt := 2071) hx hb dL_law_229 (by decide) ?_
    exact kk cl' (mkM r x.gain u2 x.w x.s x.h x.laidArea x.parts x.isMinus x.readSpot x.isStar x.wantsNumber x.waiting x.shiftX x.shiftY x.times x.dotsLaid x.joinedLaid x.hash x.isThere x.v x.spotOf x.inMiddle x.tints u3 x.values x.ranks x.oldRanks x.part x.allRanks x.bases x.isMet x.metX x.metY x.line) f' fd H locs ⟨hP, hD, hS, hI'⟩ ls (lv_sub hl [2, 3, 4, 5, 6, 7] rfl)
  · skip
    refine lv_aload_n hx hb dL_law_217 rfl (lv_at hl 5 rfl) ?_
    refine lv_iconst (v := 0) hx hb dL_law_218 (by decide) ?_
    refine va_lald hx hb hK.1 hP 35 3 rfl rfl (i := 0) (vp_in_iff.mpr ⟨by decide, by decide⟩) dL_law_219 ?_
    refine lv_iload hx hb dL_law_220 (lv_at hl 0 rfl) ?_
    refine lv_i2l hx hb dL_law_222 rfl ?_
    refine W.lcmp hx hb dL_law_223 ?_
    have h00 : f' ((0 : Int32).toNatClampNeg) = bb.toInt64 := e3 hr
    refine lv_if_eq (tgt := 229) hx hb dL_law_224 (by decide) (fun _ => ?_) (fun cn => absurd (by show lg_cmp _ _ = 0; rw [h00]; exact lgc _) cn)
    refine lv_goto (tgt := 2071) hx hb dL_law_229 (by decide) ?_
    exact kk cl' (mkM r x.gain u2 x.w x.s x.h x.laidArea x.parts x.isMinus x.readSpot x.isStar x.wantsNumber x.waiting x.shiftX x.shiftY x.times x.dotsLaid x.joinedLaid x.hash x.isThere x.v x.spotOf x.inMiddle x.tints u3 x.values x.ranks x.oldRanks x.part x.allRanks x.bases x.isMet x.metX x.metY x.line) f' fd H locs ⟨hP, hD, hS, hI'⟩ ls (lv_sub hl [2, 3, 4, 5, 6, 7] rfl)
