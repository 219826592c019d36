set_option maxHeartbeats 4000000
-- ===== the law, call by call: the other calls =====
section LawCalls2
variable {c : Cls} {th v so im ti buf : Nat → Int32} {gain size : Int32}
theorem LW_append (H : INV c th v so im ti buf gain size) (f : Nat → Int64) (a0 : Int32) : ∃ (r : Int32) (c' : Cls) (f' : Nat → Int64) (b size' : Int32) (buf' : Nat → Int32), lm_append c f a0 = some (r, c', f') ∧ mX5_append size buf a0 = some (b, r, size', buf') ∧ (r = 0 → f' 0 = b.toInt64) ∧ INV c' th v so im ti buf' gain size' := by
  obtain ⟨HS, HG, n, hn, el, el', hcb⟩ := id H
  have hlm : lm_append c f a0 = lq (β := Int32 × Cls × (Nat → Int64)) (mxX4_append c.il a0) (fun k => if k = 1 then some (1, c, f) else if k = 2 then some (2, c, f) else none) (bnd3 (mX4_append c.il c.ic a0) (fun o0 o1 o2 => some (0, (mkC c.gain o1 c.ip c.ia c.ig c.is c.im o2 c.iq c.dn c.dm c.dj c.dt c.dx c.dy c.dr c.dv c.dw c.dq c.fw c.fs c.fh c.s0 c.s1 c.s2), (vp_updL f ((0 : Int32).toNatClampNeg) o0.toInt64)))) := rfl
  rcases SX_append (β := Int32 × Cls × (Nat → Int64)) hn c.ic buf hcb a0 (fun k => if k = 1 then some (1, c, f) else if k = 2 then some (2, c, f) else none) (fun o0 o1 o2 => some (0, (mkC c.gain o1 c.ip c.ia c.ig c.is c.im o2 c.iq c.dn c.dm c.dj c.dt c.dx c.dy c.dr c.dv c.dw c.dq c.fw c.fs c.fh c.s0 c.s1 c.s2), (vp_updL f ((0 : Int32).toNatClampNeg) o0.toInt64))) with ⟨kk, b, t, e1, e2, hc⟩ | ⟨h20, e1, e2⟩
  · rw [← el] at e1
    rw [← el'] at e2
    rcases hc with ⟨rfl, rfl⟩ | ⟨rfl, rfl⟩
    · exact ⟨1, _, _, b, size, buf, hlm.trans e1, e2, fun q => absurd q (by decide), H⟩
    · exact ⟨2, _, _, b, size, buf, hlm.trans e1, e2, fun q => absurd q (by decide), H⟩
  · rw [← el] at e1
    rw [← el'] at e2
    refine ⟨0, _, _, _, _, _, hlm.trans e1, e2, fun _ => upd0L _ _, HS, HG, n + 1, h20, rfl, rfl, fun i hi => ?_⟩
    show upd c.ic n a0 i = upd buf n a0 i
    by_cases hin : i = n
    · rw [hin, upd_same, upd_same]
    · rw [upd_ne hin, upd_ne hin]
      exact hcb i (by omega)
theorem LW_clearInput (H : INV c th v so im ti buf gain size) : mX4_clearInput c.il = some (size, 0) ∧ mX5_clearInput size = some (size, 0, 0) ∧ ∀ c' : Cls, c'.s0 = c.s0 → c'.s1 = c.s1 → c'.s2 = c.s2 → c'.gain = c.gain → c'.il = 0 → c'.ic = c.ic → INV c' th v so im ti buf gain 0 := by
  obtain ⟨HS, ⟨g, g0, g1, eg, eg'⟩, n, hn, el, el', hcb⟩ := id H
  refine ⟨?_, rfl, fun c' h0 h1 h2 h3 h4 h5 => ⟨?_, ⟨g, g0, g1, by rw [h3]; exact eg, eg'⟩, 0, by omega, by rw [h4]; exact s0_.symm, s0_.symm, fun i hi => absurd hi (Nat.not_lt_zero i)⟩⟩
  · unfold mX4_clearInput
    rw [el, el']
  · have : XC c' = XC c := by unfold XC; rw [h0, h1, h2]
    rw [this]
    exact HS
theorem LW_firstError (H : INV c th v so im ti buf gain size) (part : Nat → Int32) : ∃ (o r1 r2 r3 r4 r5 : Int32) (pA' : Nat → Int32) (s1 s2 s3 s4 s5 : Int32) (qA' : Nat → Int32), mX4_firstError c.il c.ic c.iq = some (o, r1, r2, r3, r4, r5, pA') ∧ mX5_firstError size buf part = some (o, 0, s1, s2, s3, s4, s5, qA') ∧ ∀ c' : Cls, c'.s0 = c.s0 → c'.s1 = c.s1 → c'.s2 = c.s2 → c'.gain = c.gain → c'.il = c.il → c'.ic = c.ic → INV c' th v so im ti buf gain size := by
  obtain ⟨HS, HG, n, hn, el, el', hcb⟩ := id H
  obtain ⟨o, r1, r2, r3, r4, r5, pA', s1, s2, s3, s4, s5, qA', e1, e2⟩ := SX_firstError hn hcb c.iq part
  rw [← el] at e1
  rw [← el'] at e2
  exact ⟨o, r1, r2, r3, r4, r5, pA', s1, s2, s3, s4, s5, qA', e1, e2, fun c' h0 h1 h2 h3 h4 h5 => INV_keep H h0 h1 h2 h3 h4 h5⟩
theorem LW_setGain (H : INV c th v so im ti buf gain size) (f : Nat → Int64) (a0 : Int32) : ∃ (r : Int32) (c' : Cls) (f' : Nat → Int64) (b gain' : Int32), lm_setGain c f a0 = some (r, c', f') ∧ mX5_setGain gain a0 = some (b, r, gain') ∧ (r = 0 → f' 0 = b.toInt64) ∧ INV c' th v so im ti buf gain' size := by
  obtain ⟨HS, ⟨g, g0, g1, eg, eg'⟩, HN⟩ := id H
  have hlm : lm_setGain c f a0 = lq (β := Int32 × Cls × (Nat → Int64)) (mxX4_setGain a0) (fun k => if k = 1 then some (1, c, f) else none) (bnd2 (mX4_setGain c.gain a0) (fun o0 o1 => some (0, (mkC o1 c.il c.ip c.ia c.ig c.is c.im c.ic c.iq c.dn c.dm c.dj c.dt c.dx c.dy c.dr c.dv c.dw c.dq c.fw c.fs c.fh c.s0 c.s1 c.s2), (vp_updL f ((0 : Int32).toNatClampNeg) o0.toInt64)))) := rfl
  rcases SX_setGain (β := Int32 × Cls × (Nat → Int64)) (iI g) a0 (fun k => if k = 1 then some (1, c, f) else none) (fun o0 o1 => some (0, (mkC o1 c.il c.ip c.ia c.ig c.is c.im c.ic c.iq c.dn c.dm c.dj c.dt c.dx c.dy c.dr c.dv c.dw c.dq c.fw c.fs c.fh c.s0 c.s1 c.s2), (vp_updL f ((0 : Int32).toNatClampNeg) o0.toInt64))) with ⟨b, e1, e2⟩ | ⟨z, z0, z1, ez, e1, e2⟩
  · rw [← eg'] at e2
    rw [← eg] at e1
    exact ⟨1, _, _, b, gain, hlm.trans e1, e2, fun q => absurd q (by decide), H⟩
  · rw [← eg'] at e2
    rw [← eg] at e1
    refine ⟨0, _, _, gain, a0, hlm.trans e1, e2, fun _ => ?_, HS, ⟨z, z0, z1, ez, ez⟩, HN⟩
    rw [eg', ← eg]
    exact upd0L _ _
theorem LW_remove (H : INV c th v so im ti buf gain size) (f : Nat → Int64) (a0 : Int32) : ∃ (r : Int32) (c' : Cls) (f' : Nat → Int64) (b : Int32) (th' : Nat → Int32), lm_remove c f a0 = some (r, c', f') ∧ mX5_remove th a0 = some (b, r, th') ∧ (r = 0 → f' 0 = b.toInt64) ∧ INV c' th' v so im ti buf gain size := by
  obtain ⟨HS, HG, HN⟩ := id H
  have n1 : ¬ (1 : Int32) = 0 := by decide
  by_cases h0 : a0 = 0
  · subst h0
    have hlm : lm_remove c f 0 = lq (β := Int32 × Cls × (Nat → Int64)) (mxX4_remove c.s0.pr) (fun k => if k = 2 then some (2, c, f) else if k = 3 then some (1, c, f) else none) (bnd2 (mX4_remove c.gain c.il c.s0.pr c.s0.ti c.s0.w c.s0.h c.s1.pr c.s1.ti c.s1.w c.s1.h c.s2.pr c.s2.ti c.s2.w c.s2.h) (fun o0 o1 => some (0, (mkC c.gain c.il c.ip c.ia c.ig c.is c.im c.ic c.iq c.dn c.dm c.dj c.dt c.dx c.dy c.dr c.dv c.dw c.dq c.fw c.fs c.fh (mkS o1 c.s0.a c.s0.b c.s0.c c.s0.d c.s0.sp c.s0.mi c.s0.ti c.s0.w c.s0.s c.s0.h c.s0.va c.s0.ov c.s0.ra c.s0.ol c.s0.od c.s0.ne) c.s1 c.s2), (vp_updL f ((0 : Int32).toNatClampNeg) o0.toInt64)))) := by
      unfold lm_remove
      rw [if_pos rfl]
    rcases SX_remove (x := c.s0) (k := 0) (by omega) (HS 0 (by omega)) with ⟨hp, e2⟩ | ⟨hp, e2⟩
    · rw [s0_] at e2
      have e1 : mxX4_remove c.s0.pr = some 2 := by unfold mxX4_remove; rw [if_pos hp]
      rw [e1] at hlm
      exact ⟨2, _, _, 0, th, hlm, e2, fun q => absurd q (by decide), H⟩
    · rw [s0_] at e2
      have e1 : mxX4_remove c.s0.pr = none := by unfold mxX4_remove; rw [if_neg (by rw [hp]; exact n1)]
      have HI : INV (mkC c.gain c.il c.ip c.ia c.ig c.is c.im c.ic c.iq c.dn c.dm c.dj c.dt c.dx c.dy c.dr c.dv c.dw c.dq c.fw c.fs c.fh (mkS 0 c.s0.a c.s0.b c.s0.c c.s0.d c.s0.sp c.s0.mi c.s0.ti c.s0.w c.s0.s c.s0.h c.s0.va c.s0.ov c.s0.ra c.s0.ol c.s0.od c.s0.ne) c.s1 c.s2) (upd th 0 0) v so im ti buf gain size := INV_upd (c' := (mkC c.gain c.il c.ip c.ia c.ig c.is c.im c.ic c.iq c.dn c.dm c.dj c.dt c.dx c.dy c.dr c.dv c.dw c.dq c.fw c.fs c.fh (mkS 0 c.s0.a c.s0.b c.s0.c c.s0.d c.s0.sp c.s0.mi c.s0.ti c.s0.w c.s0.s c.s0.h c.s0.va c.s0.ov c.s0.ra c.s0.ol c.s0.od c.s0.ne) c.s1 c.s2)) (k := 0) (th' := upd th 0 0) H rfl rfl rfl (three (P := fun j => j ≠ 0 → _) (fun z => absurd rfl z) (fun z => rfl) (fun z => rfl)) (Or.inl ⟨rfl, upd_same⟩) (fun i hi => upd_ne hi) (fun _ _ => rfl) (fun _ _ => rfl) (fun _ _ => rfl) (fun _ _ => rfl)
      obtain ⟨D, P⟩ := AllSI.data HI.1
      obtain ⟨o, o1, o2⟩ := count0 P c.gain c.il
      have e3 : mX4_remove c.gain c.il c.s0.pr c.s0.ti c.s0.w c.s0.h c.s1.pr c.s1.ti c.s1.w c.s1.h c.s2.pr c.s2.ti c.s2.w c.s2.h = some (o, 0) := by
        unfold mX4_remove
        have hz : ¬ c.s0.pr = 0 := by rw [hp]; exact n1
        simp only [gz, if_neg hz]
        have o1' : mX4_count c.gain c.il 0 c.s0.ti c.s0.w c.s0.h c.s1.pr c.s1.ti c.s1.w c.s1.h c.s2.pr c.s2.ti c.s2.w c.s2.h 0 = some o := o1
        rw [o1']
        rfl
      rw [e1, e3] at hlm
      rw [o2] at e2
      exact ⟨0, _, _, o, upd th 0 0, hlm, e2, fun _ => upd0L _ _, HI⟩
  by_cases h1 : a0 = 1
  · subst h1
    have hlm : lm_remove c f 1 = lq (β := Int32 × Cls × (Nat → Int64)) (mxX4_remove c.s1.pr) (fun k => if k = 2 then some (2, c, f) else if k = 3 then some (1, c, f) else none) (bnd2 (mX4_removeb c.gain c.il c.s0.pr c.s0.ti c.s0.w c.s0.h c.s1.pr c.s1.ti c.s1.w c.s1.h c.s2.pr c.s2.ti c.s2.w c.s2.h) (fun o0 o1 => some (0, (mkC c.gain c.il c.ip c.ia c.ig c.is c.im c.ic c.iq c.dn c.dm c.dj c.dt c.dx c.dy c.dr c.dv c.dw c.dq c.fw c.fs c.fh c.s0 (mkS o1 c.s1.a c.s1.b c.s1.c c.s1.d c.s1.sp c.s1.mi c.s1.ti c.s1.w c.s1.s c.s1.h c.s1.va c.s1.ov c.s1.ra c.s1.ol c.s1.od c.s1.ne) c.s2), (vp_updL f ((0 : Int32).toNatClampNeg) o0.toInt64)))) := by
      unfold lm_remove
      rw [if_neg (by decide), if_pos rfl]
    rcases SX_remove (x := c.s1) (k := 1) (by omega) (HS 1 (by omega)) with ⟨hp, e2⟩ | ⟨hp, e2⟩
    · rw [s1_] at e2
      have e1 : mxX4_remove c.s1.pr = some 2 := by unfold mxX4_remove; rw [if_pos hp]
      rw [e1] at hlm
      exact ⟨2, _, _, 0, th, hlm, e2, fun q => absurd q (by decide), H⟩
    · rw [s1_] at e2
      have e1 : mxX4_remove c.s1.pr = none := by unfold mxX4_remove; rw [if_neg (by rw [hp]; exact n1)]
      have HI : INV (mkC c.gain c.il c.ip c.ia c.ig c.is c.im c.ic c.iq c.dn c.dm c.dj c.dt c.dx c.dy c.dr c.dv c.dw c.dq c.fw c.fs c.fh c.s0 (mkS 0 c.s1.a c.s1.b c.s1.c c.s1.d c.s1.sp c.s1.mi c.s1.ti c.s1.w c.s1.s c.s1.h c.s1.va c.s1.ov c.s1.ra c.s1.ol c.s1.od c.s1.ne) c.s2) (upd th 1 0) v so im ti buf gain size := INV_upd (c' := (mkC c.gain c.il c.ip c.ia c.ig c.is c.im c.ic c.iq c.dn c.dm c.dj c.dt c.dx c.dy c.dr c.dv c.dw c.dq c.fw c.fs c.fh c.s0 (mkS 0 c.s1.a c.s1.b c.s1.c c.s1.d c.s1.sp c.s1.mi c.s1.ti c.s1.w c.s1.s c.s1.h c.s1.va c.s1.ov c.s1.ra c.s1.ol c.s1.od c.s1.ne) c.s2)) (k := 1) (th' := upd th 1 0) H rfl rfl rfl (three (P := fun j => j ≠ 1 → _) (fun z => rfl) (fun z => absurd rfl z) (fun z => rfl)) (Or.inl ⟨rfl, upd_same⟩) (fun i hi => upd_ne hi) (fun _ _ => rfl) (fun _ _ => rfl) (fun _ _ => rfl) (fun _ _ => rfl)
      obtain ⟨D, P⟩ := AllSI.data HI.1
      obtain ⟨o, o1, o2⟩ := count0 P c.gain c.il
      have e3 : mX4_removeb c.gain c.il c.s0.pr c.s0.ti c.s0.w c.s0.h c.s1.pr c.s1.ti c.s1.w c.s1.h c.s2.pr c.s2.ti c.s2.w c.s2.h = some (o, 0) := by
        unfold mX4_removeb
        have hz : ¬ c.s1.pr = 0 := by rw [hp]; exact n1
        simp only [gz, if_neg hz]
        have o1' : mX4_count c.gain c.il c.s0.pr c.s0.ti c.s0.w c.s0.h 0 c.s1.ti c.s1.w c.s1.h c.s2.pr c.s2.ti c.s2.w c.s2.h 0 = some o := o1
        rw [o1']
        rfl
      rw [e1, e3] at hlm
      rw [o2] at e2
      exact ⟨0, _, _, o, upd th 1 0, hlm, e2, fun _ => upd0L _ _, HI⟩
  by_cases h2 : a0 = 2
  · subst h2
    have hlm : lm_remove c f 2 = lq (β := Int32 × Cls × (Nat → Int64)) (mxX4_remove c.s2.pr) (fun k => if k = 2 then some (2, c, f) else if k = 3 then some (1, c, f) else none) (bnd2 (mX4_removec c.gain c.il c.s0.pr c.s0.ti c.s0.w c.s0.h c.s1.pr c.s1.ti c.s1.w c.s1.h c.s2.pr c.s2.ti c.s2.w c.s2.h) (fun o0 o1 => some (0, (mkC c.gain c.il c.ip c.ia c.ig c.is c.im c.ic c.iq c.dn c.dm c.dj c.dt c.dx c.dy c.dr c.dv c.dw c.dq c.fw c.fs c.fh c.s0 c.s1 (mkS o1 c.s2.a c.s2.b c.s2.c c.s2.d c.s2.sp c.s2.mi c.s2.ti c.s2.w c.s2.s c.s2.h c.s2.va c.s2.ov c.s2.ra c.s2.ol c.s2.od c.s2.ne)), (vp_updL f ((0 : Int32).toNatClampNeg) o0.toInt64)))) := by
      unfold lm_remove
      rw [if_neg (by decide), if_neg (by decide), if_pos rfl]
    rcases SX_remove (x := c.s2) (k := 2) (by omega) (HS 2 (by omega)) with ⟨hp, e2⟩ | ⟨hp, e2⟩
    · rw [s2_] at e2
      have e1 : mxX4_remove c.s2.pr = some 2 := by unfold mxX4_remove; rw [if_pos hp]
      rw [e1] at hlm
      exact ⟨2, _, _, 0, th, hlm, e2, fun q => absurd q (by decide), H⟩
    · rw [s2_] at e2
      have e1 : mxX4_remove c.s2.pr = none := by unfold mxX4_remove; rw [if_neg (by rw [hp]; exact n1)]
      have HI : INV (mkC c.gain c.il c.ip c.ia c.ig c.is c.im c.ic c.iq c.dn c.dm c.dj c.dt c.dx c.dy c.dr c.dv c.dw c.dq c.fw c.fs c.fh c.s0 c.s1 (mkS 0 c.s2.a c.s2.b c.s2.c c.s2.d c.s2.sp c.s2.mi c.s2.ti c.s2.w c.s2.s c.s2.h c.s2.va c.s2.ov c.s2.ra c.s2.ol c.s2.od c.s2.ne)) (upd th 2 0) v so im ti buf gain size := INV_upd (c' := (mkC c.gain c.il c.ip c.ia c.ig c.is c.im c.ic c.iq c.dn c.dm c.dj c.dt c.dx c.dy c.dr c.dv c.dw c.dq c.fw c.fs c.fh c.s0 c.s1 (mkS 0 c.s2.a c.s2.b c.s2.c c.s2.d c.s2.sp c.s2.mi c.s2.ti c.s2.w c.s2.s c.s2.h c.s2.va c.s2.ov c.s2.ra c.s2.ol c.s2.od c.s2.ne))) (k := 2) (th' := upd th 2 0) H rfl rfl rfl (three (P := fun j => j ≠ 2 → _) (fun z => rfl) (fun z => rfl) (fun z => absurd rfl z)) (Or.inl ⟨rfl, upd_same⟩) (fun i hi => upd_ne hi) (fun _ _ => rfl) (fun _ _ => rfl) (fun _ _ => rfl) (fun _ _ => rfl)
      obtain ⟨D, P⟩ := AllSI.data HI.1
      obtain ⟨o, o1, o2⟩ := count0 P c.gain c.il
      have e3 : mX4_removec c.gain c.il c.s0.pr c.s0.ti c.s0.w c.s0.h c.s1.pr c.s1.ti c.s1.w c.s1.h c.s2.pr c.s2.ti c.s2.w c.s2.h = some (o, 0) := by
        unfold mX4_removec
        have hz : ¬ c.s2.pr = 0 := by rw [hp]; exact n1
        simp only [gz, if_neg hz]
        have o1' : mX4_count c.gain c.il c.s0.pr c.s0.ti c.s0.w c.s0.h c.s1.pr c.s1.ti c.s1.w c.s1.h 0 c.s2.ti c.s2.w c.s2.h 0 = some o := o1
        rw [o1']
        rfl
      rw [e1, e3] at hlm
      rw [o2] at e2
      exact ⟨0, _, _, o, upd th 2 0, hlm, e2, fun _ => upd0L _ _, HI⟩
  have hlm : lm_remove c f a0 = some (1, c, f) := by
    unfold lm_remove
    rw [if_neg h0, if_neg h1, if_neg h2]
  exact ⟨1, _, _, 0, th, hlm, OUT_remove h0 h1 h2, fun q => absurd q (by decide), H⟩
theorem LW_pixel (H : INV c th v so im ti buf gain size) (f : Nat → Int64) (a0 a1 : Int32) (vw vs vh vl : Int32) (val rk aR ba : Nat → Int32) : ∃ (r : Int32) (c' : Cls) (f' : Nat → Int64) (b : Int32) (vw' : Int32) (vs' : Int32) (vh' : Int32) (vl' : Int32) (val' : Nat → Int32) (rk' : Nat → Int32) (aR' : Nat → Int32) (ba' : Nat → Int32), lm_pixel c f a0 a1 = some (r, c', f') ∧ mX5_pixel vw vs vh vl th v so im ti val rk aR ba a0 a1 = some (b, r, vw', vs', vh', vl', val', rk', aR', ba') ∧ (r = 0 → f' 0 = b.toInt64) ∧ INV c' th v so im ti buf gain size := by
  obtain ⟨HS, ⟨g, g0, g1, eg, eg'⟩, n, hn, el, el', hcb⟩ := id H
  obtain ⟨D, P⟩ := AllSI.data HS
  have hlm : lm_pixel c f a0 a1 = lq (β := Int32 × Cls × (Nat → Int64)) (mxX4_pixel a0 a1) (fun k => if k = 1 then some (1, c, f) else none) (bnd1 (mX4_pixel c.s0.pr c.s0.ti c.s0.w c.s0.s c.s0.h c.s0.ra c.s1.pr c.s1.ti c.s1.w c.s1.s c.s1.h c.s1.ra c.s2.pr c.s2.ti c.s2.w c.s2.s c.s2.h c.s2.ra a0 a1) (fun o0 => some (0, c, (vp_updL f ((0 : Int32).toNatClampNeg) o0.toInt64)))) := rfl
  rcases SX_pixel (β := Int32 × Cls × (Nat → Int64)) P a0 a1 vw vs vh vl val rk aR ba (fun k => if k = 1 then some (1, c, f) else none) (fun o0 => some (0, c, (vp_updL f ((0 : Int32).toNatClampNeg) o0.toInt64))) with ⟨b, t, e1, e2, hc⟩ | ⟨o, w1, w2, w3, w4, w5, w6, w7, w8, e1, e2⟩
  · skip
    subst hc
    exact ⟨1, _, _, b, vw, vs, vh, vl, val, rk, aR, ba, hlm.trans e1, e2, fun q => absurd q (by decide), H⟩
  · skip
    exact ⟨0, _, _, o, w1, w2, w3, w4, w5, w6, w7, w8, hlm.trans e1, e2, fun _ => upd0L _ _, H⟩
theorem LW_period (H : INV c th v so im ti buf gain size) (f : Nat → Int64) (a0 a1 : Int32) (vw vs vh : Int32) : ∃ (r : Int32) (c' : Cls) (f' : Nat → Int64) (b : Int32) (vw' : Int32) (vs' : Int32) (vh' : Int32), lm_period c f a0 a1 = some (r, c', f') ∧ mX5_period vw vs vh th v a0 a1 = some (b, r, vw', vs', vh') ∧ (r = 0 → f' 0 = b.toInt64) ∧ INV c' th v so im ti buf gain size := by
  obtain ⟨HS, ⟨g, g0, g1, eg, eg'⟩, n, hn, el, el', hcb⟩ := id H
  obtain ⟨D, P⟩ := AllSI.data HS
  have hlm : lm_period c f a0 a1 = lq (β := Int32 × Cls × (Nat → Int64)) (mxX4_period c.s0.pr c.s1.pr c.s2.pr a0 a1) (fun k => if k = 1 then some (1, c, f) else if k = 2 then some (2, c, f) else none) (bnd4 (mX4_period c.s0.pr c.s0.w c.s0.s c.s0.h c.s1.pr c.s1.w c.s1.s c.s1.h c.s2.pr c.s2.w c.s2.s c.s2.h a0 a1) (fun o0 o1 o2 o3 => some (0, (mkC c.gain c.il c.ip c.ia c.ig c.is c.im c.ic c.iq c.dn c.dm c.dj c.dt c.dx c.dy c.dr c.dv c.dw c.dq o1 o2 o3 c.s0 c.s1 c.s2), (vp_updL f ((0 : Int32).toNatClampNeg) o0.toInt64)))) := rfl
  rcases SX_period (β := Int32 × Cls × (Nat → Int64)) P a0 a1 vw vs vh (fun k => if k = 1 then some (1, c, f) else if k = 2 then some (2, c, f) else none) (fun o0 o1 o2 o3 => some (0, (mkC c.gain c.il c.ip c.ia c.ig c.is c.im c.ic c.iq c.dn c.dm c.dj c.dt c.dx c.dy c.dr c.dv c.dw c.dq o1 o2 o3 c.s0 c.s1 c.s2), (vp_updL f ((0 : Int32).toNatClampNeg) o0.toInt64))) with ⟨kk, b, t, e1, e2, hc⟩ | ⟨o, w1, w2, w3, e1, e2⟩
  · skip
    rcases hc with ⟨rfl, rfl⟩ | ⟨rfl, rfl⟩
    · exact ⟨1, _, _, b, vw, vs, vh, hlm.trans e1, e2, fun q => absurd q (by decide), INV_keep H rfl rfl rfl rfl rfl rfl⟩
    · exact ⟨2, _, _, b, vw, vs, vh, hlm.trans e1, e2, fun q => absurd q (by decide), INV_keep H rfl rfl rfl rfl rfl rfl⟩
  · skip
    exact ⟨0, _, _, o, w1, w2, w3, hlm.trans e1, e2, fun _ => upd0L _ _, INV_keep H rfl rfl rfl rfl rfl rfl⟩
theorem LW_mixture (H : INV c th v so im ti buf gain size) (f : Nat → Int64) (a0 : Int32) (vw vs vh vl : Int32) (val rk aR ba : Nat → Int32) : ∃ (r : Int32) (c' : Cls) (f' : Nat → Int64) (b : Int32) (vw' : Int32) (vs' : Int32) (vh' : Int32) (vl' : Int32) (val' : Nat → Int32) (rk' : Nat → Int32) (aR' : Nat → Int32) (ba' : Nat → Int32), lm_mixture c f a0 = some (r, c', f') ∧ mX5_mixture vw vs vh vl th v so im ti val rk aR ba a0 = some (b, r, vw', vs', vh', vl', val', rk', aR', ba') ∧ (r = 0 → f' 0 = b.toInt64) ∧ INV c' th v so im ti buf gain size := by
  obtain ⟨HS, ⟨g, g0, g1, eg, eg'⟩, n, hn, el, el', hcb⟩ := id H
  obtain ⟨D, P⟩ := AllSI.data HS
  have hlm : lm_mixture c f a0 = lq (β := Int32 × Cls × (Nat → Int64)) (mxX4_mixture c.fw c.fs c.fh c.s0.pr c.s0.w c.s0.s c.s0.h c.s1.pr c.s1.w c.s1.s c.s1.h c.s2.pr c.s2.w c.s2.s c.s2.h a0) (fun (k, t1, t2, t3) => if k = 1 then some (1, (mkC c.gain c.il c.ip c.ia c.ig c.is c.im c.ic c.iq c.dn c.dm c.dj c.dt c.dx c.dy c.dr c.dv c.dw c.dq t1 t2 t3 c.s0 c.s1 c.s2), f) else if k = 2 then some (2, (mkC c.gain c.il c.ip c.ia c.ig c.is c.im c.ic c.iq c.dn c.dm c.dj c.dt c.dx c.dy c.dr c.dv c.dw c.dq t1 t2 t3 c.s0 c.s1 c.s2), f) else none) (bnd4 (mX4_mixture c.s0.pr c.s0.ti c.s0.w c.s0.s c.s0.h c.s0.ra c.s1.pr c.s1.ti c.s1.w c.s1.s c.s1.h c.s1.ra c.s2.pr c.s2.ti c.s2.w c.s2.s c.s2.h c.s2.ra a0) (fun o0 o1 o2 o3 => some (0, (mkC c.gain c.il c.ip c.ia c.ig c.is c.im c.ic c.iq c.dn c.dm c.dj c.dt c.dx c.dy c.dr c.dv c.dw c.dq o1 o2 o3 c.s0 c.s1 c.s2), (vp_updL f ((0 : Int32).toNatClampNeg) o0.toInt64)))) := rfl
  rcases SX_mixture (β := Int32 × Cls × (Nat → Int64)) P a0 c.fw c.fs c.fh vw vs vh vl val rk aR ba (fun (k, t1, t2, t3) => if k = 1 then some (1, (mkC c.gain c.il c.ip c.ia c.ig c.is c.im c.ic c.iq c.dn c.dm c.dj c.dt c.dx c.dy c.dr c.dv c.dw c.dq t1 t2 t3 c.s0 c.s1 c.s2), f) else if k = 2 then some (2, (mkC c.gain c.il c.ip c.ia c.ig c.is c.im c.ic c.iq c.dn c.dm c.dj c.dt c.dx c.dy c.dr c.dv c.dw c.dq t1 t2 t3 c.s0 c.s1 c.s2), f) else none) (fun o0 o1 o2 o3 => some (0, (mkC c.gain c.il c.ip c.ia c.ig c.is c.im c.ic c.iq c.dn c.dm c.dj c.dt c.dx c.dy c.dr c.dv c.dw c.dq o1 o2 o3 c.s0 c.s1 c.s2), (vp_updL f ((0 : Int32).toNatClampNeg) o0.toInt64))) with ⟨kk, t1, t2, t3, b, t, w1, w2, w3, w4, w5, w6, w7, w8, e1, e2, hc⟩ | ⟨o, o1, o2, o3, w1, w2, w3, w4, w5, w6, w7, w8, e1, e2⟩
  · skip
    rcases hc with ⟨rfl, rfl⟩ | ⟨rfl, rfl⟩
    · exact ⟨1, _, _, b, w1, w2, w3, w4, w5, w6, w7, w8, hlm.trans e1, e2, fun q => absurd q (by decide), INV_keep H rfl rfl rfl rfl rfl rfl⟩
    · exact ⟨2, _, _, b, w1, w2, w3, w4, w5, w6, w7, w8, hlm.trans e1, e2, fun q => absurd q (by decide), INV_keep H rfl rfl rfl rfl rfl rfl⟩
  · skip
    exact ⟨0, _, _, o, w1, w2, w3, w4, w5, w6, w7, w8, hlm.trans e1, e2, fun _ => upd0L _ _, INV_keep H rfl rfl rfl rfl rfl rfl⟩
theorem LW_nearest (H : INV c th v so im ti buf gain size) (f : Nat → Int64) (a0 a1 a2 a3 : Int32)  : ∃ (r : Int32) (c' : Cls) (f' : Nat → Int64) (b : Int32) , lm_nearest c f a0 a1 a2 a3 = some (r, c', f') ∧ mX5_nearest  a0 a1 a2 a3 = some (b, r) ∧ (r = 0 → f' 0 = b.toInt64) ∧ INV c' th v so im ti buf gain size := by
  obtain ⟨HS, ⟨g, g0, g1, eg, eg'⟩, n, hn, el, el', hcb⟩ := id H
  obtain ⟨D, P⟩ := AllSI.data HS
  have hlm : lm_nearest c f a0 a1 a2 a3 = lq (β := Int32 × Cls × (Nat → Int64)) (mxX4_nearest a0 a1 a2 a3) (fun k => if k = 1 then some (1, c, f) else none) (bnd1 (mX4_nearest a0 a1 a2 a3) (fun o0 => some (0, c, (vp_updL f ((0 : Int32).toNatClampNeg) o0.toInt64)))) := rfl
  rcases SX_nearest (β := Int32 × Cls × (Nat → Int64)) a0 a1 a2 a3 (fun k => if k = 1 then some (1, c, f) else none) (fun o0 => some (0, c, (vp_updL f ((0 : Int32).toNatClampNeg) o0.toInt64))) with ⟨b, e1, e2⟩ | ⟨o, e1, e2⟩
  · skip
    exact ⟨1, _, _, b, hlm.trans e1, e2, fun q => absurd q (by decide), H⟩
  · skip
    exact ⟨0, _, _, o, hlm.trans e1, e2, fun _ => upd0L _ _, H⟩
theorem LW_count (H : INV c th v so im ti buf gain size) (f : Nat → Int64) (a0 : Int32)  : ∃ (r : Int32) (c' : Cls) (f' : Nat → Int64) (b : Int32) , lm_count c f a0 = some (r, c', f') ∧ mX5_count gain size th v ti a0 = some (b, r) ∧ (r = 0 → f' 0 = b.toInt64) ∧ INV c' th v so im ti buf gain size := by
  obtain ⟨HS, ⟨g, g0, g1, eg, eg'⟩, n, hn, el, el', hcb⟩ := id H
  obtain ⟨D, P⟩ := AllSI.data HS
  have hlm : lm_count c f a0 = lq (β := Int32 × Cls × (Nat → Int64)) (mxX4_count a0) (fun k => if k = 1 then some (1, c, f) else none) (bnd1 (mX4_count c.gain c.il c.s0.pr c.s0.ti c.s0.w c.s0.h c.s1.pr c.s1.ti c.s1.w c.s1.h c.s2.pr c.s2.ti c.s2.w c.s2.h a0) (fun o0 => some (0, c, (vp_updL f ((0 : Int32).toNatClampNeg) o0.toInt64)))) := rfl
  rcases SX_count (β := Int32 × Cls × (Nat → Int64)) P (iI g) (iI (n : Int)) a0 (fun k => if k = 1 then some (1, c, f) else none) (fun o0 => some (0, c, (vp_updL f ((0 : Int32).toNatClampNeg) o0.toInt64))) with ⟨b, e1, e2⟩ | ⟨o, e1, e2⟩
  · rw [← eg, ← el] at e1
    rw [← eg', ← el'] at e2
    exact ⟨1, _, _, b, hlm.trans e1, e2, fun q => absurd q (by decide), H⟩
  · rw [← eg, ← el] at e1
    rw [← eg', ← el'] at e2
    exact ⟨0, _, _, o, hlm.trans e1, e2, fun _ => upd0L _ _, H⟩
theorem LW_beat (H : INV c th v so im ti buf gain size) (f : Nat → Int64) (a0 a1 a2 : Int32) (vw vs vh : Int32) : ∃ (r : Int32) (c' : Cls) (f' : Nat → Int64) (b vw' vs' vh' : Int32), lm_beat c f a0 a1 a2 = some (r, c', f') ∧ mX5_beat vw vs vh th v a0 a1 a2 = some (b, r, vw', vs', vh') ∧ (r = 0 → f' 0 = b.toInt64) ∧ INV c' th v so im ti buf gain size := by
  obtain ⟨HS, HG, HN⟩ := id H
  obtain ⟨D, P⟩ := AllSI.data HS
  by_cases h0 : a0 = 0
  · subst h0
    by_cases k0 : a1 = 0
    · subst k0
      have hlm : lm_beat c f 0 0 a2 = lq (β := Int32 × Cls × (Nat → Int64)) (mxX4_beat c.s0.pr c.s0.pr a2) (fun k => if k = 1 then some (2, c, f) else if k = 2 then some (3, c, f) else if k = 3 then some (1, c, f) else none) (bnd4 (mX4_beatv01 c.s0.pr c.s0.w c.s0.s c.s0.h c.s0.pr c.s0.w c.s0.s c.s0.h a2) (fun o0 o1 o2 o3 => some (0, (mkC c.gain c.il c.ip c.ia c.ig c.is c.im c.ic c.iq c.dn c.dm c.dj c.dt c.dx c.dy c.dr c.dv c.dw c.dq o1 o2 o3 c.s0 c.s1 c.s2), (vp_updL f ((0 : Int32).toNatClampNeg) o0.toInt64)))) := by
        unfold lm_beat
        rw [if_pos rfl, if_pos rfl]
        rfl
      rcases SX_beat (β := Int32 × Cls × (Nat → Int64)) P (i := 0) (j := 0) (by omega) (by omega) a2 vw vs vh (fun k => if k = 1 then some (2, c, f) else if k = 2 then some (3, c, f) else if k = 3 then some (1, c, f) else none) (fun o0 o1 o2 o3 => some (0, (mkC c.gain c.il c.ip c.ia c.ig c.is c.im c.ic c.iq c.dn c.dm c.dj c.dt c.dx c.dy c.dr c.dv c.dw c.dq o1 o2 o3 c.s0 c.s1 c.s2), (vp_updL f ((0 : Int32).toNatClampNeg) o0.toInt64))) with ⟨kk, b, t, e1, e2, hc⟩ | ⟨o, w1, w2, w3, e1, e2⟩
      · rw [s0_] at e2
        rcases hc with ⟨rfl, rfl⟩ | ⟨rfl, rfl⟩
        · exact ⟨2, _, _, b, vw, vs, vh, hlm.trans e1, e2, fun q => absurd q (by decide), H⟩
        · exact ⟨3, _, _, b, vw, vs, vh, hlm.trans e1, e2, fun q => absurd q (by decide), H⟩
      · rw [s0_] at e2
        exact ⟨0, _, _, o, w1, w2, w3, hlm.trans e1, e2, fun _ => upd0L _ _, INV_keep H rfl rfl rfl rfl rfl rfl⟩
    by_cases k1 : a1 = 1
    · subst k1
      have hlm : lm_beat c f 0 1 a2 = lq (β := Int32 × Cls × (Nat → Int64)) (mxX4_beat c.s0.pr c.s1.pr a2) (fun k => if k = 1 then some (2, c, f) else if k = 2 then some (3, c, f) else if k = 3 then some (1, c, f) else none) (bnd4 (mX4_beatv01 c.s0.pr c.s0.w c.s0.s c.s0.h c.s1.pr c.s1.w c.s1.s c.s1.h a2) (fun o0 o1 o2 o3 => some (0, (mkC c.gain c.il c.ip c.ia c.ig c.is c.im c.ic c.iq c.dn c.dm c.dj c.dt c.dx c.dy c.dr c.dv c.dw c.dq o1 o2 o3 c.s0 c.s1 c.s2), (vp_updL f ((0 : Int32).toNatClampNeg) o0.toInt64)))) := by
        unfold lm_beat
        rw [if_pos rfl, if_neg (by decide), if_pos rfl]
      rcases SX_beat (β := Int32 × Cls × (Nat → Int64)) P (i := 0) (j := 1) (by omega) (by omega) a2 vw vs vh (fun k => if k = 1 then some (2, c, f) else if k = 2 then some (3, c, f) else if k = 3 then some (1, c, f) else none) (fun o0 o1 o2 o3 => some (0, (mkC c.gain c.il c.ip c.ia c.ig c.is c.im c.ic c.iq c.dn c.dm c.dj c.dt c.dx c.dy c.dr c.dv c.dw c.dq o1 o2 o3 c.s0 c.s1 c.s2), (vp_updL f ((0 : Int32).toNatClampNeg) o0.toInt64))) with ⟨kk, b, t, e1, e2, hc⟩ | ⟨o, w1, w2, w3, e1, e2⟩
      · rw [s0_, s1_] at e2
        rcases hc with ⟨rfl, rfl⟩ | ⟨rfl, rfl⟩
        · exact ⟨2, _, _, b, vw, vs, vh, hlm.trans e1, e2, fun q => absurd q (by decide), H⟩
        · exact ⟨3, _, _, b, vw, vs, vh, hlm.trans e1, e2, fun q => absurd q (by decide), H⟩
      · rw [s0_, s1_] at e2
        exact ⟨0, _, _, o, w1, w2, w3, hlm.trans e1, e2, fun _ => upd0L _ _, INV_keep H rfl rfl rfl rfl rfl rfl⟩
    by_cases k2 : a1 = 2
    · subst k2
      have hlm : lm_beat c f 0 2 a2 = lq (β := Int32 × Cls × (Nat → Int64)) (mxX4_beat c.s0.pr c.s2.pr a2) (fun k => if k = 1 then some (2, c, f) else if k = 2 then some (3, c, f) else if k = 3 then some (1, c, f) else none) (bnd4 (mX4_beatv01 c.s0.pr c.s0.w c.s0.s c.s0.h c.s2.pr c.s2.w c.s2.s c.s2.h a2) (fun o0 o1 o2 o3 => some (0, (mkC c.gain c.il c.ip c.ia c.ig c.is c.im c.ic c.iq c.dn c.dm c.dj c.dt c.dx c.dy c.dr c.dv c.dw c.dq o1 o2 o3 c.s0 c.s1 c.s2), (vp_updL f ((0 : Int32).toNatClampNeg) o0.toInt64)))) := by
        unfold lm_beat
        rw [if_pos rfl, if_neg (by decide), if_neg (by decide), if_pos rfl]
        rfl
      rcases SX_beat (β := Int32 × Cls × (Nat → Int64)) P (i := 0) (j := 2) (by omega) (by omega) a2 vw vs vh (fun k => if k = 1 then some (2, c, f) else if k = 2 then some (3, c, f) else if k = 3 then some (1, c, f) else none) (fun o0 o1 o2 o3 => some (0, (mkC c.gain c.il c.ip c.ia c.ig c.is c.im c.ic c.iq c.dn c.dm c.dj c.dt c.dx c.dy c.dr c.dv c.dw c.dq o1 o2 o3 c.s0 c.s1 c.s2), (vp_updL f ((0 : Int32).toNatClampNeg) o0.toInt64))) with ⟨kk, b, t, e1, e2, hc⟩ | ⟨o, w1, w2, w3, e1, e2⟩
      · rw [s0_, s2_] at e2
        rcases hc with ⟨rfl, rfl⟩ | ⟨rfl, rfl⟩
        · exact ⟨2, _, _, b, vw, vs, vh, hlm.trans e1, e2, fun q => absurd q (by decide), H⟩
        · exact ⟨3, _, _, b, vw, vs, vh, hlm.trans e1, e2, fun q => absurd q (by decide), H⟩
      · rw [s0_, s2_] at e2
        exact ⟨0, _, _, o, w1, w2, w3, hlm.trans e1, e2, fun _ => upd0L _ _, INV_keep H rfl rfl rfl rfl rfl rfl⟩
    have hlm : lm_beat c f 0 a1 a2 = some (1, c, f) := by
      unfold lm_beat
      rw [if_pos rfl, if_neg k0, if_neg k1, if_neg k2]
    have e2 := OUT_beat2 (th := th) (v := v) k0 k1 k2 vw vs vh (k := 0) (by omega) a2
    rw [s0_] at e2
    exact ⟨1, _, _, 0, vw, vs, vh, hlm, e2, fun q => absurd q (by decide), H⟩
  by_cases h1 : a0 = 1
  · subst h1
    by_cases k0 : a1 = 0
    · subst k0
      have hlm : lm_beat c f 1 0 a2 = lq (β := Int32 × Cls × (Nat → Int64)) (mxX4_beat c.s1.pr c.s0.pr a2) (fun k => if k = 1 then some (2, c, f) else if k = 2 then some (3, c, f) else if k = 3 then some (1, c, f) else none) (bnd4 (mX4_beatv01 c.s1.pr c.s1.w c.s1.s c.s1.h c.s0.pr c.s0.w c.s0.s c.s0.h a2) (fun o0 o1 o2 o3 => some (0, (mkC c.gain c.il c.ip c.ia c.ig c.is c.im c.ic c.iq c.dn c.dm c.dj c.dt c.dx c.dy c.dr c.dv c.dw c.dq o1 o2 o3 c.s0 c.s1 c.s2), (vp_updL f ((0 : Int32).toNatClampNeg) o0.toInt64)))) := by
        unfold lm_beat
        rw [if_neg (by decide), if_pos rfl, if_pos rfl]
        rfl
      rcases SX_beat (β := Int32 × Cls × (Nat → Int64)) P (i := 1) (j := 0) (by omega) (by omega) a2 vw vs vh (fun k => if k = 1 then some (2, c, f) else if k = 2 then some (3, c, f) else if k = 3 then some (1, c, f) else none) (fun o0 o1 o2 o3 => some (0, (mkC c.gain c.il c.ip c.ia c.ig c.is c.im c.ic c.iq c.dn c.dm c.dj c.dt c.dx c.dy c.dr c.dv c.dw c.dq o1 o2 o3 c.s0 c.s1 c.s2), (vp_updL f ((0 : Int32).toNatClampNeg) o0.toInt64))) with ⟨kk, b, t, e1, e2, hc⟩ | ⟨o, w1, w2, w3, e1, e2⟩
      · rw [s1_, s0_] at e2
        rcases hc with ⟨rfl, rfl⟩ | ⟨rfl, rfl⟩
        · exact ⟨2, _, _, b, vw, vs, vh, hlm.trans e1, e2, fun q => absurd q (by decide), H⟩
        · exact ⟨3, _, _, b, vw, vs, vh, hlm.trans e1, e2, fun q => absurd q (by decide), H⟩
      · rw [s1_, s0_] at e2
        exact ⟨0, _, _, o, w1, w2, w3, hlm.trans e1, e2, fun _ => upd0L _ _, INV_keep H rfl rfl rfl rfl rfl rfl⟩
    by_cases k1 : a1 = 1
    · subst k1
      have hlm : lm_beat c f 1 1 a2 = lq (β := Int32 × Cls × (Nat → Int64)) (mxX4_beat c.s1.pr c.s1.pr a2) (fun k => if k = 1 then some (2, c, f) else if k = 2 then some (3, c, f) else if k = 3 then some (1, c, f) else none) (bnd4 (mX4_beatv01 c.s1.pr c.s1.w c.s1.s c.s1.h c.s1.pr c.s1.w c.s1.s c.s1.h a2) (fun o0 o1 o2 o3 => some (0, (mkC c.gain c.il c.ip c.ia c.ig c.is c.im c.ic c.iq c.dn c.dm c.dj c.dt c.dx c.dy c.dr c.dv c.dw c.dq o1 o2 o3 c.s0 c.s1 c.s2), (vp_updL f ((0 : Int32).toNatClampNeg) o0.toInt64)))) := by
        unfold lm_beat
        rw [if_neg (by decide), if_pos rfl, if_neg (by decide), if_pos rfl]
        rfl
      rcases SX_beat (β := Int32 × Cls × (Nat → Int64)) P (i := 1) (j := 1) (by omega) (by omega) a2 vw vs vh (fun k => if k = 1 then some (2, c, f) else if k = 2 then some (3, c, f) else if k = 3 then some (1, c, f) else none) (fun o0 o1 o2 o3 => some (0, (mkC c.gain c.il c.ip c.ia c.ig c.is c.im c.ic c.iq c.dn c.dm c.dj c.dt c.dx c.dy c.dr c.dv c.dw c.dq o1 o2 o3 c.s0 c.s1 c.s2), (vp_updL f ((0 : Int32).toNatClampNeg) o0.toInt64))) with ⟨kk, b, t, e1, e2, hc⟩ | ⟨o, w1, w2, w3, e1, e2⟩
      · rw [s1_] at e2
        rcases hc with ⟨rfl, rfl⟩ | ⟨rfl, rfl⟩
        · exact ⟨2, _, _, b, vw, vs, vh, hlm.trans e1, e2, fun q => absurd q (by decide), H⟩
        · exact ⟨3, _, _, b, vw, vs, vh, hlm.trans e1, e2, fun q => absurd q (by decide), H⟩
      · rw [s1_] at e2
        exact ⟨0, _, _, o, w1, w2, w3, hlm.trans e1, e2, fun _ => upd0L _ _, INV_keep H rfl rfl rfl rfl rfl rfl⟩
    by_cases k2 : a1 = 2
    · subst k2
      have hlm : lm_beat c f 1 2 a2 = lq (β := Int32 × Cls × (Nat → Int64)) (mxX4_beat c.s1.pr c.s2.pr a2) (fun k => if k = 1 then some (2, c, f) else if k = 2 then some (3, c, f) else if k = 3 then some (1, c, f) else none) (bnd4 (mX4_beatv01 c.s1.pr c.s1.w c.s1.s c.s1.h c.s2.pr c.s2.w c.s2.s c.s2.h a2) (fun o0 o1 o2 o3 => some (0, (mkC c.gain c.il c.ip c.ia c.ig c.is c.im c.ic c.iq c.dn c.dm c.dj c.dt c.dx c.dy c.dr c.dv c.dw c.dq o1 o2 o3 c.s0 c.s1 c.s2), (vp_updL f ((0 : Int32).toNatClampNeg) o0.toInt64)))) := by
        unfold lm_beat
        rw [if_neg (by decide), if_pos rfl, if_neg (by decide), if_neg (by decide), if_pos rfl]
        rfl
      rcases SX_beat (β := Int32 × Cls × (Nat → Int64)) P (i := 1) (j := 2) (by omega) (by omega) a2 vw vs vh (fun k => if k = 1 then some (2, c, f) else if k = 2 then some (3, c, f) else if k = 3 then some (1, c, f) else none) (fun o0 o1 o2 o3 => some (0, (mkC c.gain c.il c.ip c.ia c.ig c.is c.im c.ic c.iq c.dn c.dm c.dj c.dt c.dx c.dy c.dr c.dv c.dw c.dq o1 o2 o3 c.s0 c.s1 c.s2), (vp_updL f ((0 : Int32).toNatClampNeg) o0.toInt64))) with ⟨kk, b, t, e1, e2, hc⟩ | ⟨o, w1, w2, w3, e1, e2⟩
      · rw [s1_, s2_] at e2
        rcases hc with ⟨rfl, rfl⟩ | ⟨rfl, rfl⟩
        · exact ⟨2, _, _, b, vw, vs, vh, hlm.trans e1, e2, fun q => absurd q (by decide), H⟩
        · exact ⟨3, _, _, b, vw, vs, vh, hlm.trans e1, e2, fun q => absurd q (by decide), H⟩
      · rw [s1_, s2_] at e2
        exact ⟨0, _, _, o, w1, w2, w3, hlm.trans e1, e2, fun _ => upd0L _ _, INV_keep H rfl rfl rfl rfl rfl rfl⟩
    have hlm : lm_beat c f 1 a1 a2 = some (1, c, f) := by
      unfold lm_beat
      rw [if_neg (by decide), if_pos rfl, if_neg k0, if_neg k1, if_neg k2]
    have e2 := OUT_beat2 (th := th) (v := v) k0 k1 k2 vw vs vh (k := 1) (by omega) a2
    rw [s1_] at e2
    exact ⟨1, _, _, 0, vw, vs, vh, hlm, e2, fun q => absurd q (by decide), H⟩
  by_cases h2 : a0 = 2
  · subst h2
    by_cases k0 : a1 = 0
    · subst k0
      have hlm : lm_beat c f 2 0 a2 = lq (β := Int32 × Cls × (Nat → Int64)) (mxX4_beat c.s2.pr c.s0.pr a2) (fun k => if k = 1 then some (2, c, f) else if k = 2 then some (3, c, f) else if k = 3 then some (1, c, f) else none) (bnd4 (mX4_beatv01 c.s2.pr c.s2.w c.s2.s c.s2.h c.s0.pr c.s0.w c.s0.s c.s0.h a2) (fun o0 o1 o2 o3 => some (0, (mkC c.gain c.il c.ip c.ia c.ig c.is c.im c.ic c.iq c.dn c.dm c.dj c.dt c.dx c.dy c.dr c.dv c.dw c.dq o1 o2 o3 c.s0 c.s1 c.s2), (vp_updL f ((0 : Int32).toNatClampNeg) o0.toInt64)))) := by
        unfold lm_beat
        rw [if_neg (by decide), if_neg (by decide), if_pos rfl, if_pos rfl]
        rfl
      rcases SX_beat (β := Int32 × Cls × (Nat → Int64)) P (i := 2) (j := 0) (by omega) (by omega) a2 vw vs vh (fun k => if k = 1 then some (2, c, f) else if k = 2 then some (3, c, f) else if k = 3 then some (1, c, f) else none) (fun o0 o1 o2 o3 => some (0, (mkC c.gain c.il c.ip c.ia c.ig c.is c.im c.ic c.iq c.dn c.dm c.dj c.dt c.dx c.dy c.dr c.dv c.dw c.dq o1 o2 o3 c.s0 c.s1 c.s2), (vp_updL f ((0 : Int32).toNatClampNeg) o0.toInt64))) with ⟨kk, b, t, e1, e2, hc⟩ | ⟨o, w1, w2, w3, e1, e2⟩
      · rw [s2_, s0_] at e2
        rcases hc with ⟨rfl, rfl⟩ | ⟨rfl, rfl⟩
        · exact ⟨2, _, _, b, vw, vs, vh, hlm.trans e1, e2, fun q => absurd q (by decide), H⟩
        · exact ⟨3, _, _, b, vw, vs, vh, hlm.trans e1, e2, fun q => absurd q (by decide), H⟩
      · rw [s2_, s0_] at e2
        exact ⟨0, _, _, o, w1, w2, w3, hlm.trans e1, e2, fun _ => upd0L _ _, INV_keep H rfl rfl rfl rfl rfl rfl⟩
    by_cases k1 : a1 = 1
    · subst k1
      have hlm : lm_beat c f 2 1 a2 = lq (β := Int32 × Cls × (Nat → Int64)) (mxX4_beat c.s2.pr c.s1.pr a2) (fun k => if k = 1 then some (2, c, f) else if k = 2 then some (3, c, f) else if k = 3 then some (1, c, f) else none) (bnd4 (mX4_beatv01 c.s2.pr c.s2.w c.s2.s c.s2.h c.s1.pr c.s1.w c.s1.s c.s1.h a2) (fun o0 o1 o2 o3 => some (0, (mkC c.gain c.il c.ip c.ia c.ig c.is c.im c.ic c.iq c.dn c.dm c.dj c.dt c.dx c.dy c.dr c.dv c.dw c.dq o1 o2 o3 c.s0 c.s1 c.s2), (vp_updL f ((0 : Int32).toNatClampNeg) o0.toInt64)))) := by
        unfold lm_beat
        rw [if_neg (by decide), if_neg (by decide), if_pos rfl, if_neg (by decide), if_pos rfl]
        rfl
      rcases SX_beat (β := Int32 × Cls × (Nat → Int64)) P (i := 2) (j := 1) (by omega) (by omega) a2 vw vs vh (fun k => if k = 1 then some (2, c, f) else if k = 2 then some (3, c, f) else if k = 3 then some (1, c, f) else none) (fun o0 o1 o2 o3 => some (0, (mkC c.gain c.il c.ip c.ia c.ig c.is c.im c.ic c.iq c.dn c.dm c.dj c.dt c.dx c.dy c.dr c.dv c.dw c.dq o1 o2 o3 c.s0 c.s1 c.s2), (vp_updL f ((0 : Int32).toNatClampNeg) o0.toInt64))) with ⟨kk, b, t, e1, e2, hc⟩ | ⟨o, w1, w2, w3, e1, e2⟩
      · rw [s2_, s1_] at e2
        rcases hc with ⟨rfl, rfl⟩ | ⟨rfl, rfl⟩
        · exact ⟨2, _, _, b, vw, vs, vh, hlm.trans e1, e2, fun q => absurd q (by decide), H⟩
        · exact ⟨3, _, _, b, vw, vs, vh, hlm.trans e1, e2, fun q => absurd q (by decide), H⟩
      · rw [s2_, s1_] at e2
        exact ⟨0, _, _, o, w1, w2, w3, hlm.trans e1, e2, fun _ => upd0L _ _, INV_keep H rfl rfl rfl rfl rfl rfl⟩
    by_cases k2 : a1 = 2
    · subst k2
      have hlm : lm_beat c f 2 2 a2 = lq (β := Int32 × Cls × (Nat → Int64)) (mxX4_beat c.s2.pr c.s2.pr a2) (fun k => if k = 1 then some (2, c, f) else if k = 2 then some (3, c, f) else if k = 3 then some (1, c, f) else none) (bnd4 (mX4_beatv01 c.s2.pr c.s2.w c.s2.s c.s2.h c.s2.pr c.s2.w c.s2.s c.s2.h a2) (fun o0 o1 o2 o3 => some (0, (mkC c.gain c.il c.ip c.ia c.ig c.is c.im c.ic c.iq c.dn c.dm c.dj c.dt c.dx c.dy c.dr c.dv c.dw c.dq o1 o2 o3 c.s0 c.s1 c.s2), (vp_updL f ((0 : Int32).toNatClampNeg) o0.toInt64)))) := by
        unfold lm_beat
        rw [if_neg (by decide), if_neg (by decide), if_pos rfl, if_neg (by decide), if_neg (by decide), if_pos rfl]
        rfl
      rcases SX_beat (β := Int32 × Cls × (Nat → Int64)) P (i := 2) (j := 2) (by omega) (by omega) a2 vw vs vh (fun k => if k = 1 then some (2, c, f) else if k = 2 then some (3, c, f) else if k = 3 then some (1, c, f) else none) (fun o0 o1 o2 o3 => some (0, (mkC c.gain c.il c.ip c.ia c.ig c.is c.im c.ic c.iq c.dn c.dm c.dj c.dt c.dx c.dy c.dr c.dv c.dw c.dq o1 o2 o3 c.s0 c.s1 c.s2), (vp_updL f ((0 : Int32).toNatClampNeg) o0.toInt64))) with ⟨kk, b, t, e1, e2, hc⟩ | ⟨o, w1, w2, w3, e1, e2⟩
      · rw [s2_] at e2
        rcases hc with ⟨rfl, rfl⟩ | ⟨rfl, rfl⟩
        · exact ⟨2, _, _, b, vw, vs, vh, hlm.trans e1, e2, fun q => absurd q (by decide), H⟩
        · exact ⟨3, _, _, b, vw, vs, vh, hlm.trans e1, e2, fun q => absurd q (by decide), H⟩
      · rw [s2_] at e2
        exact ⟨0, _, _, o, w1, w2, w3, hlm.trans e1, e2, fun _ => upd0L _ _, INV_keep H rfl rfl rfl rfl rfl rfl⟩
    have hlm : lm_beat c f 2 a1 a2 = some (1, c, f) := by
      unfold lm_beat
      rw [if_neg (by decide), if_neg (by decide), if_pos rfl, if_neg k0, if_neg k1, if_neg k2]
    have e2 := OUT_beat2 (th := th) (v := v) k0 k1 k2 vw vs vh (k := 2) (by omega) a2
    rw [s2_] at e2
    exact ⟨1, _, _, 0, vw, vs, vh, hlm, e2, fun q => absurd q (by decide), H⟩
  have hlm : lm_beat c f a0 a1 a2 = some (1, c, f) := by
    unfold lm_beat
    rw [if_neg h0, if_neg h1, if_neg h2]
  exact ⟨1, _, _, 0, vw, vs, vh, hlm, OUT_beat h0 h1 h2 vw vs vh a1 a2, fun q => absurd q (by decide), H⟩
theorem LW_digest (H : INV c th v so im ti buf gain size) (w1 w2 w3 w4 w5 w6 w7 w8 w9 w10 : Int32) (z1 z2 z3 z4 z5 z6 : Nat → Int32) : ∃ (o : Int64) (c1 c2 c3 c4 c5 c6 : Int32) (c7 c8 c9 c10 : Nat → Int32) (f1 f2 f3 : Int32) (x1 x2 x3 y4 y5 y6 y7 y8 y9 y10 : Int32) (u1 u2 u3 u4 u5 u6 : Nat → Int32),
    mX4_digest c.gain c.il c.ic c.dn c.dm c.dj c.dt c.dx c.dy c.dr c.dv c.dw c.dq c.fw c.fs c.fh c.s0.pr c.s0.a c.s0.b c.s0.c c.s0.d c.s0.sp c.s0.mi c.s0.ti c.s0.w c.s0.s c.s0.h c.s0.va c.s0.ra c.s0.ne c.s1.pr c.s1.a c.s1.b c.s1.c c.s1.d c.s1.sp c.s1.mi c.s1.ti c.s1.w c.s1.s c.s1.h c.s1.va c.s1.ra c.s1.ne c.s2.pr c.s2.a c.s2.b c.s2.c c.s2.d c.s2.sp c.s2.mi c.s2.ti c.s2.w c.s2.s c.s2.h c.s2.va c.s2.ra c.s2.ne = some (o, c1, c2, c3, c4, c5, c6, c7, c8, c9, c10, f1, f2, f3) ∧ mX5_digest gain size w1 w2 w3 w4 w5 w6 w7 w8 w9 w10 th v so im ti buf z1 z2 z3 z4 z5 z6 = some (o, 0, x1, x2, x3, y4, y5, y6, y7, y8, y9, y10, o, u1, u2, u3, u4, u5, u6) ∧ ∀ c' : Cls, c'.s0 = c.s0 → c'.s1 = c.s1 → c'.s2 = c.s2 → c'.gain = c.gain → c'.il = c.il → c'.ic = c.ic → INV c' th v so im ti buf gain size := by
  obtain ⟨HS, ⟨g, g0, g1, eg, eg'⟩, n, hn, el, el', hcb⟩ := id H
  obtain ⟨D, P⟩ := AllSI.data HS
  obtain ⟨o, c1, c2, c3, c4, c5, c6, c7, c8, c9, c10, f1, f2, f3, x1, x2, x3, y4, y5, y6, y7, y8, y9, y10, u1, u2, u3, u4, u5, u6, e1, e2⟩ := SX_digest P g0 g1 hn hcb c.dn c.dm c.dj c.dt c.dx c.dy c.dr c.dv c.dw c.dq c.fw c.fs c.fh w1 w2 w3 w4 w5 w6 w7 w8 w9 w10 z1 z2 z3 z4 z5 z6
  rw [← eg, ← el] at e1
  rw [← eg', ← el'] at e2
  exact ⟨o, c1, c2, c3, c4, c5, c6, c7, c8, c9, c10, f1, f2, f3, x1, x2, x3, y4, y5, y6, y7, y8, y9, y10, u1, u2, u3, u4, u5, u6, e1, e2, fun c' h0 h1 h2 h3 h4 h5 => INV_keep H h0 h1 h2 h3 h4 h5⟩
theorem INV_start {c : Cls} {th v so im ti buf : Nat → Int32} (h0 : c.s0.pr = 0) (h1 : c.s1.pr = 0) (h2 : c.s2.pr = 0) (hg : c.gain = 0) (hl : c.il = 0) (t0 : th 0 = 0) (t1 : th 1 = 0) (t2 : th 2 = 0) : INV c th v so im ti buf 0 0 :=
  ⟨three (P := fun j => SI (XC c j) j th v so im ti) (Or.inl ⟨h0, t0⟩) (Or.inl ⟨h1, t1⟩) (Or.inl ⟨h2, t2⟩), ⟨0, by omega, by omega, hg.trans iI_0, iI_0⟩, 0, by omega, hl.trans s0_.symm, s0_.symm, fun i hi => absurd hi (Nat.not_lt_zero i)⟩
end LawCalls2
-- ===== the star that the input's reader keeps is 0 or 1 =====
theorem star_z {ph mi a : Int32} {x y z : Int32} (h : mX1_takeStar ph mi a = some (x, y, z)) (hm : isZ mi) : isZ z := by
  unfold mX1_takeStar at h
  split at h
  · injection h with h; injection h with _ h; injection h with _ h; rw [← h]; first | exact Or.inr rfl | exact hm
  · injection h with h; injection h with _ h; injection h with _ h; rw [← h]; first | exact hm | exact Or.inr rfl
theorem take_z {ph pt ng sp mi a : Int32} {pA : Nat → Int32} {p0 p1 p2 p3 p4 p5 : Int32} {p6 : Nat → Int32} (h : mX1_take ph pt ng sp mi pA a = some (p0, p1, p2, p3, p4, p5, p6)) (hm : isZ mi) : isZ p5 := by
  have fin : ∀ {a0 a1 a2 a3 a4 a5 : Int32} {a6 : Nat → Int32}, some (a0, a1, a2, a3, a4, a5, a6) = some (p0, p1, p2, p3, p4, p5, p6) → isZ a5 → isZ p5 := by
    intro a0 a1 a2 a3 a4 a5 a6 q hz
    injection q with q; injection q with _ q; injection q with _ q; injection q with _ q; injection q with _ q; injection q with _ q; injection q with q _
    rw [← q]; exact hz
  unfold mX1_take at h
  split at h
  · obtain ⟨r0, r1, r2, e, h⟩ := bnd3_e h
    split at h
    · obtain ⟨s0, s1, s2, e', h⟩ := bnd3_e h
      split at h
      · exact fin h hm
      · exact fin h hm
    · exact fin h hm
  · split at h
    · obtain ⟨r0, r1, r2, e, h⟩ := bnd3_e h
      exact fin h hm
    · split at h
      · split at h
        · obtain ⟨r0, r1, r2, e, h⟩ := bnd3_e h
          exact fin h hm
        · obtain ⟨r0, r1, r2, r3, e, h⟩ := bnd4_e h
          exact fin h hm
      · split at h
        · obtain ⟨r0, r1, r2, e, h⟩ := bnd3_e h
          exact fin h (star_z e hm)
        · exact fin h hm
theorem read_z (len : Int32) (codes : Nat → Int32) : ∀ (fu : Nat) (i ph pt ng sp mi : Int32) (pA : Nat → Int32) (p0 p1 p2 p3 p4 p5 : Int32) (p6 : Nat → Int32), mX1_read_L27 len codes fu i ph pt ng sp mi pA = some (p0, p1, p2, p3, p4, p5, p6) → isZ mi → isZ p5 := by
  intro fu
  induction fu with
  | zero => intro i ph pt ng sp mi pA p0 p1 p2 p3 p4 p5 p6 h; exact absurd h (by simp [mX1_read_L27])
  | succ fu ih =>
    intro i ph pt ng sp mi pA p0 p1 p2 p3 p4 p5 p6 h hm
    have fin : ∀ {a0 a1 a2 a3 a4 a5 : Int32} {a6 : Nat → Int32}, some (a0, a1, a2, a3, a4, a5, a6) = some (p0, p1, p2, p3, p4, p5, p6) → isZ a5 → isZ p5 := by
      intro a0 a1 a2 a3 a4 a5 a6 q hz
      injection q with q; injection q with _ q; injection q with _ q; injection q with _ q; injection q with _ q; injection q with _ q; injection q with q _
      rw [← q]; exact hz
    rw [mX1_read_L27] at h
    split at h
    · exact fin h hm
    · obtain ⟨r3, e3, h⟩ := bnd1_e h
      obtain ⟨r0, r1, r2, r3, r4, r5, r6, e4, h⟩ := bnd7_e h
      have hz := take_z e4 hm
      split at h
      · exact fin h hz
      · exact ih _ _ _ _ _ _ _ _ _ _ _ _ _ _ h hz
theorem complete_z {len : Int32} {codes pA : Nat → Int32} {p0 p1 p2 p3 p4 p5 : Int32} {p6 : Nat → Int32} (h : mX1_isComplete len codes pA = some (p0, p1, p2, p3, p4, p5, p6)) : isZ p5 := by
  have fin : ∀ {a0 a1 a2 a3 a4 a5 : Int32} {a6 : Nat → Int32}, some (a0, a1, a2, a3, a4, a5, a6) = some (p0, p1, p2, p3, p4, p5, p6) → isZ a5 → isZ p5 := by
    intro a0 a1 a2 a3 a4 a5 a6 q hz
    injection q with q; injection q with _ q; injection q with _ q; injection q with _ q; injection q with _ q; injection q with _ q; injection q with q _
    rw [← q]; exact hz
  unfold mX1_isComplete at h
  obtain ⟨r0, r1, r2, r3, r4, r5, r6, e4, h⟩ := bnd7_e h
  unfold mX1_read at e4
  have hz := read_z _ _ _ _ _ _ _ _ _ _ _ _ _ _ _ _ _ e4 (Or.inl rfl)
  split at h
  · split at h
    · exact fin h hz
    · split at h
      · exact fin h hz
      · exact fin h hz
  · exact fin h hz
