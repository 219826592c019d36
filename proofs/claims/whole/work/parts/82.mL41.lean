set_option maxHeartbeats 4000000
-- ===== the law, call by call: both sides answer alike and stay alike (laid by lwgen.py) =====
section LawCalls
variable {c : Cls} {th v so im ti buf : Nat → Int32} {gain size : Int32}
theorem LW_load (H : INV c th v so im ti buf gain size) (f : Nat → Int64) (a0 : Int32)  (part : Nat → Int32) :
    ∃ (r : Int32) (c' : Cls) (f' : Nat → Int64) (b : Int32) (size' : Int32) (s1' : Int32) (s2' : Int32) (s3' : Int32) (s4' : Int32) (s5' : Int32) (th' : Nat → Int32) (v' : Nat → Int32) (so' : Nat → Int32) (im' : Nat → Int32) (ti' : Nat → Int32) (part' : Nat → Int32), lm_load c f a0 = some (r, c', f') ∧ mX5_load size th v so im ti buf part a0 = some (b, r, size', s1', s2', s3', s4', s5', th', v', so', im', ti', part') ∧ (r = 0 → f' 0 = b.toInt64) ∧ INV c' th' v' so' im' ti' buf gain size' := by
  obtain ⟨HS, ⟨g, g0, g1, eg, eg'⟩, n, hn, el, el', hcb⟩ := id H
  by_cases h0 : a0 = 0
  · subst h0
    have hlm : lm_load c f 0 = lq (β := Int32 × Cls × (Nat → Int64)) (mxX4_load c.il c.ic c.iq) (fun (k, t1, t2, t3, t4, t5, t6) => if k = 1 then some (3, (mkC c.gain c.il t1 t2 t3 t4 t5 c.ic t6 c.dn c.dm c.dj c.dt c.dx c.dy c.dr c.dv c.dw c.dq c.fw c.fs c.fh c.s0 c.s1 c.s2), f) else if k = 2 then some (2, (mkC c.gain c.il t1 t2 t3 t4 t5 c.ic t6 c.dn c.dm c.dj c.dt c.dx c.dy c.dr c.dv c.dw c.dq c.fw c.fs c.fh c.s0 c.s1 c.s2), f) else if k = 3 then some (1, (mkC c.gain c.il t1 t2 t3 t4 t5 c.ic t6 c.dn c.dm c.dj c.dt c.dx c.dy c.dr c.dv c.dw c.dq c.fw c.fs c.fh c.s0 c.s1 c.s2), f) else none) (bnd25 (mX4_load c.il c.ic c.iq c.s0.va c.s0.ov c.s0.ra c.s0.ol c.s0.od c.s0.ne) (fun o0 o1 o2 o3 o4 o5 o6 o7 o8 o9 o10 o11 o12 o13 o14 o15 o16 o17 o18 o19 o20 o21 o22 o23 o24 => some (0, (mkC c.gain o1 o2 o3 o4 o5 o6 c.ic o7 c.dn c.dm c.dj c.dt c.dx c.dy c.dr c.dv c.dw c.dq c.fw c.fs c.fh (mkS o8 o9 o10 o11 o12 o13 o14 o15 o16 o17 o18 o19 o20 o21 o22 o23 o24) c.s1 c.s2), (vp_updL f ((0 : Int32).toNatClampNeg) o0.toInt64)))) := by
      unfold lm_load
      rw [if_pos rfl]
    rcases SX_load (β := Int32 × Cls × (Nat → Int64)) (th := th) (v := v) (so := so) (im := im) (ti := ti) (k := 0) (by omega) hn hcb c.iq part c.s0.va c.s0.ov c.s0.ra c.s0.ol c.s0.od c.s0.ne (fun (k, t1, t2, t3, t4, t5, t6) => if k = 1 then some (3, (mkC c.gain c.il t1 t2 t3 t4 t5 c.ic t6 c.dn c.dm c.dj c.dt c.dx c.dy c.dr c.dv c.dw c.dq c.fw c.fs c.fh c.s0 c.s1 c.s2), f) else if k = 2 then some (2, (mkC c.gain c.il t1 t2 t3 t4 t5 c.ic t6 c.dn c.dm c.dj c.dt c.dx c.dy c.dr c.dv c.dw c.dq c.fw c.fs c.fh c.s0 c.s1 c.s2), f) else if k = 3 then some (1, (mkC c.gain c.il t1 t2 t3 t4 t5 c.ic t6 c.dn c.dm c.dj c.dt c.dx c.dy c.dr c.dv c.dw c.dq c.fw c.fs c.fh c.s0 c.s1 c.s2), f) else none) (fun o0 o1 o2 o3 o4 o5 o6 o7 o8 o9 o10 o11 o12 o13 o14 o15 o16 o17 o18 o19 o20 o21 o22 o23 o24 => some (0, (mkC c.gain o1 o2 o3 o4 o5 o6 c.ic o7 c.dn c.dm c.dj c.dt c.dx c.dy c.dr c.dv c.dw c.dq c.fw c.fs c.fh (mkS o8 o9 o10 o11 o12 o13 o14 o15 o16 o17 o18 o19 o20 o21 o22 o23 o24) c.s1 c.s2), (vp_updL f ((0 : Int32).toNatClampNeg) o0.toInt64))) with ⟨kk, t1, t2, t3, t4, t5, t6, b, t, q1, q2, q3, q4, q5, part1, e1, e2, hc⟩ | ⟨o, o2, o3, o4, o5, o6, o7, o8, o9, o10, o11, o12, o13, o14, o15, o16, o17, o18, o19, o20, o21, o22, o23, o24, s1, s2, s3, s4, s5, th1, v1, so1, im1, ti1, part1, e1, e2, hS, hf1, hf2, hf3, hf4, hf5⟩
    · rw [s0_] at e2
      rw [← el] at e1
      rw [← el'] at e2
      rcases hc with ⟨rfl, rfl⟩ | ⟨rfl, rfl⟩
      · exact ⟨3, _, _, b, size, q1, q2, q3, q4, q5, th, v, so, im, ti, part1, hlm.trans e1, e2, fun q => absurd q (by decide), INV_keep H rfl rfl rfl rfl rfl rfl⟩
      · exact ⟨2, _, _, b, size, q1, q2, q3, q4, q5, th, v, so, im, ti, part1, hlm.trans e1, e2, fun q => absurd q (by decide), INV_keep H rfl rfl rfl rfl rfl rfl⟩
    · rw [s0_] at e2
      rw [← el] at e1
      rw [← el'] at e2
      have HH := INV_upd (c' := mkC c.gain c.il c.ip c.ia c.ig c.is c.im c.ic c.iq c.dn c.dm c.dj c.dt c.dx c.dy c.dr c.dv c.dw c.dq c.fw c.fs c.fh (mkS o8 o9 o10 o11 o12 o13 o14 o15 o16 o17 o18 o19 o20 o21 o22 o23 o24) c.s1 c.s2) H rfl rfl rfl (k := 0) (three (P := fun j => j ≠ 0 → _) (fun z => absurd rfl z) (fun z => rfl) (fun z => rfl)) hS hf1 hf2 hf3 hf4 hf5
      exact ⟨0, _, _, o, 0, s1, s2, s3, s4, s5, th1, v1, so1, im1, ti1, part1, hlm.trans e1, e2, fun _ => upd0L _ _, ⟨HH.1, HH.2.1, 0, by omega, s0_.symm, s0_.symm, fun i hi => absurd hi (Nat.not_lt_zero i)⟩⟩
  by_cases h1 : a0 = 1
  · subst h1
    have hlm : lm_load c f 1 = lq (β := Int32 × Cls × (Nat → Int64)) (mxX4_load c.il c.ic c.iq) (fun (k, t1, t2, t3, t4, t5, t6) => if k = 1 then some (3, (mkC c.gain c.il t1 t2 t3 t4 t5 c.ic t6 c.dn c.dm c.dj c.dt c.dx c.dy c.dr c.dv c.dw c.dq c.fw c.fs c.fh c.s0 c.s1 c.s2), f) else if k = 2 then some (2, (mkC c.gain c.il t1 t2 t3 t4 t5 c.ic t6 c.dn c.dm c.dj c.dt c.dx c.dy c.dr c.dv c.dw c.dq c.fw c.fs c.fh c.s0 c.s1 c.s2), f) else if k = 3 then some (1, (mkC c.gain c.il t1 t2 t3 t4 t5 c.ic t6 c.dn c.dm c.dj c.dt c.dx c.dy c.dr c.dv c.dw c.dq c.fw c.fs c.fh c.s0 c.s1 c.s2), f) else none) (bnd25 (mX4_load c.il c.ic c.iq c.s1.va c.s1.ov c.s1.ra c.s1.ol c.s1.od c.s1.ne) (fun o0 o1 o2 o3 o4 o5 o6 o7 o8 o9 o10 o11 o12 o13 o14 o15 o16 o17 o18 o19 o20 o21 o22 o23 o24 => some (0, (mkC c.gain o1 o2 o3 o4 o5 o6 c.ic o7 c.dn c.dm c.dj c.dt c.dx c.dy c.dr c.dv c.dw c.dq c.fw c.fs c.fh c.s0 (mkS o8 o9 o10 o11 o12 o13 o14 o15 o16 o17 o18 o19 o20 o21 o22 o23 o24) c.s2), (vp_updL f ((0 : Int32).toNatClampNeg) o0.toInt64)))) := by
      unfold lm_load
      rw [if_neg (by decide), if_pos rfl]
    rcases SX_load (β := Int32 × Cls × (Nat → Int64)) (th := th) (v := v) (so := so) (im := im) (ti := ti) (k := 1) (by omega) hn hcb c.iq part c.s1.va c.s1.ov c.s1.ra c.s1.ol c.s1.od c.s1.ne (fun (k, t1, t2, t3, t4, t5, t6) => if k = 1 then some (3, (mkC c.gain c.il t1 t2 t3 t4 t5 c.ic t6 c.dn c.dm c.dj c.dt c.dx c.dy c.dr c.dv c.dw c.dq c.fw c.fs c.fh c.s0 c.s1 c.s2), f) else if k = 2 then some (2, (mkC c.gain c.il t1 t2 t3 t4 t5 c.ic t6 c.dn c.dm c.dj c.dt c.dx c.dy c.dr c.dv c.dw c.dq c.fw c.fs c.fh c.s0 c.s1 c.s2), f) else if k = 3 then some (1, (mkC c.gain c.il t1 t2 t3 t4 t5 c.ic t6 c.dn c.dm c.dj c.dt c.dx c.dy c.dr c.dv c.dw c.dq c.fw c.fs c.fh c.s0 c.s1 c.s2), f) else none) (fun o0 o1 o2 o3 o4 o5 o6 o7 o8 o9 o10 o11 o12 o13 o14 o15 o16 o17 o18 o19 o20 o21 o22 o23 o24 => some (0, (mkC c.gain o1 o2 o3 o4 o5 o6 c.ic o7 c.dn c.dm c.dj c.dt c.dx c.dy c.dr c.dv c.dw c.dq c.fw c.fs c.fh c.s0 (mkS o8 o9 o10 o11 o12 o13 o14 o15 o16 o17 o18 o19 o20 o21 o22 o23 o24) c.s2), (vp_updL f ((0 : Int32).toNatClampNeg) o0.toInt64))) with ⟨kk, t1, t2, t3, t4, t5, t6, b, t, q1, q2, q3, q4, q5, part1, e1, e2, hc⟩ | ⟨o, o2, o3, o4, o5, o6, o7, o8, o9, o10, o11, o12, o13, o14, o15, o16, o17, o18, o19, o20, o21, o22, o23, o24, s1, s2, s3, s4, s5, th1, v1, so1, im1, ti1, part1, e1, e2, hS, hf1, hf2, hf3, hf4, hf5⟩
    · rw [s1_] at e2
      rw [← el] at e1
      rw [← el'] at e2
      rcases hc with ⟨rfl, rfl⟩ | ⟨rfl, rfl⟩
      · exact ⟨3, _, _, b, size, q1, q2, q3, q4, q5, th, v, so, im, ti, part1, hlm.trans e1, e2, fun q => absurd q (by decide), INV_keep H rfl rfl rfl rfl rfl rfl⟩
      · exact ⟨2, _, _, b, size, q1, q2, q3, q4, q5, th, v, so, im, ti, part1, hlm.trans e1, e2, fun q => absurd q (by decide), INV_keep H rfl rfl rfl rfl rfl rfl⟩
    · rw [s1_] at e2
      rw [← el] at e1
      rw [← el'] at e2
      have HH := INV_upd (c' := mkC c.gain c.il c.ip c.ia c.ig c.is c.im c.ic c.iq c.dn c.dm c.dj c.dt c.dx c.dy c.dr c.dv c.dw c.dq c.fw c.fs c.fh c.s0 (mkS o8 o9 o10 o11 o12 o13 o14 o15 o16 o17 o18 o19 o20 o21 o22 o23 o24) c.s2) H rfl rfl rfl (k := 1) (three (P := fun j => j ≠ 1 → _) (fun z => rfl) (fun z => absurd rfl z) (fun z => rfl)) hS hf1 hf2 hf3 hf4 hf5
      exact ⟨0, _, _, o, 0, s1, s2, s3, s4, s5, th1, v1, so1, im1, ti1, part1, hlm.trans e1, e2, fun _ => upd0L _ _, ⟨HH.1, HH.2.1, 0, by omega, s0_.symm, s0_.symm, fun i hi => absurd hi (Nat.not_lt_zero i)⟩⟩
  by_cases h2 : a0 = 2
  · subst h2
    have hlm : lm_load c f 2 = lq (β := Int32 × Cls × (Nat → Int64)) (mxX4_load c.il c.ic c.iq) (fun (k, t1, t2, t3, t4, t5, t6) => if k = 1 then some (3, (mkC c.gain c.il t1 t2 t3 t4 t5 c.ic t6 c.dn c.dm c.dj c.dt c.dx c.dy c.dr c.dv c.dw c.dq c.fw c.fs c.fh c.s0 c.s1 c.s2), f) else if k = 2 then some (2, (mkC c.gain c.il t1 t2 t3 t4 t5 c.ic t6 c.dn c.dm c.dj c.dt c.dx c.dy c.dr c.dv c.dw c.dq c.fw c.fs c.fh c.s0 c.s1 c.s2), f) else if k = 3 then some (1, (mkC c.gain c.il t1 t2 t3 t4 t5 c.ic t6 c.dn c.dm c.dj c.dt c.dx c.dy c.dr c.dv c.dw c.dq c.fw c.fs c.fh c.s0 c.s1 c.s2), f) else none) (bnd25 (mX4_load c.il c.ic c.iq c.s2.va c.s2.ov c.s2.ra c.s2.ol c.s2.od c.s2.ne) (fun o0 o1 o2 o3 o4 o5 o6 o7 o8 o9 o10 o11 o12 o13 o14 o15 o16 o17 o18 o19 o20 o21 o22 o23 o24 => some (0, (mkC c.gain o1 o2 o3 o4 o5 o6 c.ic o7 c.dn c.dm c.dj c.dt c.dx c.dy c.dr c.dv c.dw c.dq c.fw c.fs c.fh c.s0 c.s1 (mkS o8 o9 o10 o11 o12 o13 o14 o15 o16 o17 o18 o19 o20 o21 o22 o23 o24)), (vp_updL f ((0 : Int32).toNatClampNeg) o0.toInt64)))) := by
      unfold lm_load
      rw [if_neg (by decide), if_neg (by decide), if_pos rfl]
    rcases SX_load (β := Int32 × Cls × (Nat → Int64)) (th := th) (v := v) (so := so) (im := im) (ti := ti) (k := 2) (by omega) hn hcb c.iq part c.s2.va c.s2.ov c.s2.ra c.s2.ol c.s2.od c.s2.ne (fun (k, t1, t2, t3, t4, t5, t6) => if k = 1 then some (3, (mkC c.gain c.il t1 t2 t3 t4 t5 c.ic t6 c.dn c.dm c.dj c.dt c.dx c.dy c.dr c.dv c.dw c.dq c.fw c.fs c.fh c.s0 c.s1 c.s2), f) else if k = 2 then some (2, (mkC c.gain c.il t1 t2 t3 t4 t5 c.ic t6 c.dn c.dm c.dj c.dt c.dx c.dy c.dr c.dv c.dw c.dq c.fw c.fs c.fh c.s0 c.s1 c.s2), f) else if k = 3 then some (1, (mkC c.gain c.il t1 t2 t3 t4 t5 c.ic t6 c.dn c.dm c.dj c.dt c.dx c.dy c.dr c.dv c.dw c.dq c.fw c.fs c.fh c.s0 c.s1 c.s2), f) else none) (fun o0 o1 o2 o3 o4 o5 o6 o7 o8 o9 o10 o11 o12 o13 o14 o15 o16 o17 o18 o19 o20 o21 o22 o23 o24 => some (0, (mkC c.gain o1 o2 o3 o4 o5 o6 c.ic o7 c.dn c.dm c.dj c.dt c.dx c.dy c.dr c.dv c.dw c.dq c.fw c.fs c.fh c.s0 c.s1 (mkS o8 o9 o10 o11 o12 o13 o14 o15 o16 o17 o18 o19 o20 o21 o22 o23 o24)), (vp_updL f ((0 : Int32).toNatClampNeg) o0.toInt64))) with ⟨kk, t1, t2, t3, t4, t5, t6, b, t, q1, q2, q3, q4, q5, part1, e1, e2, hc⟩ | ⟨o, o2, o3, o4, o5, o6, o7, o8, o9, o10, o11, o12, o13, o14, o15, o16, o17, o18, o19, o20, o21, o22, o23, o24, s1, s2, s3, s4, s5, th1, v1, so1, im1, ti1, part1, e1, e2, hS, hf1, hf2, hf3, hf4, hf5⟩
    · rw [s2_] at e2
      rw [← el] at e1
      rw [← el'] at e2
      rcases hc with ⟨rfl, rfl⟩ | ⟨rfl, rfl⟩
      · exact ⟨3, _, _, b, size, q1, q2, q3, q4, q5, th, v, so, im, ti, part1, hlm.trans e1, e2, fun q => absurd q (by decide), INV_keep H rfl rfl rfl rfl rfl rfl⟩
      · exact ⟨2, _, _, b, size, q1, q2, q3, q4, q5, th, v, so, im, ti, part1, hlm.trans e1, e2, fun q => absurd q (by decide), INV_keep H rfl rfl rfl rfl rfl rfl⟩
    · rw [s2_] at e2
      rw [← el] at e1
      rw [← el'] at e2
      have HH := INV_upd (c' := mkC c.gain c.il c.ip c.ia c.ig c.is c.im c.ic c.iq c.dn c.dm c.dj c.dt c.dx c.dy c.dr c.dv c.dw c.dq c.fw c.fs c.fh c.s0 c.s1 (mkS o8 o9 o10 o11 o12 o13 o14 o15 o16 o17 o18 o19 o20 o21 o22 o23 o24)) H rfl rfl rfl (k := 2) (three (P := fun j => j ≠ 2 → _) (fun z => rfl) (fun z => rfl) (fun z => absurd rfl z)) hS hf1 hf2 hf3 hf4 hf5
      exact ⟨0, _, _, o, 0, s1, s2, s3, s4, s5, th1, v1, so1, im1, ti1, part1, hlm.trans e1, e2, fun _ => upd0L _ _, ⟨HH.1, HH.2.1, 0, by omega, s0_.symm, s0_.symm, fun i hi => absurd hi (Nat.not_lt_zero i)⟩⟩
  have hlm : lm_load c f a0 = some (1, c, f) := by
    unfold lm_load
    rw [if_neg h0, if_neg h1, if_neg h2]
  obtain ⟨q1, q2, q3, q4, q5, part1, e2⟩ := OUT_load (th := th) (v := v) (so := so) (im := im) (ti := ti) h0 h1 h2 hn hcb part
  rw [← el'] at e2
  exact ⟨1, _, _, 0, size, q1, q2, q3, q4, q5, th, v, so, im, ti, part1, hlm, e2, fun q => absurd q (by decide), H⟩
theorem LW_setScreen (H : INV c th v so im ti buf gain size) (f : Nat → Int64) (a0 a1 a2 a3 a4 a5 : Int32)   :
    ∃ (r : Int32) (c' : Cls) (f' : Nat → Int64) (b : Int32) (th' : Nat → Int32) (v' : Nat → Int32) (so' : Nat → Int32) (im' : Nat → Int32) (ti' : Nat → Int32), lm_setScreen c f a0 a1 a2 a3 a4 a5 = some (r, c', f') ∧ mX5_setScreen th v so im ti a0 a1 a2 a3 a4 a5 = some (b, r, th', v', so', im', ti') ∧ (r = 0 → f' 0 = b.toInt64) ∧ INV c' th' v' so' im' ti' buf gain size := by
  obtain ⟨HS, ⟨g, g0, g1, eg, eg'⟩, n, hn, el, el', hcb⟩ := id H
  by_cases h0 : a0 = 0
  · subst h0
    have hlm : lm_setScreen c f 0 a1 a2 a3 a4 a5 = lq (β := Int32 × Cls × (Nat → Int64)) (mxX4_setScreen a1 a2 a3 a4 a5) (fun k => if k = 1 then some (2, c, f) else if k = 3 then some (1, c, f) else none) (bnd18 (mX4_setScreen c.s0.va c.s0.ov c.s0.ra c.s0.ol c.s0.od c.s0.ne a1 a2 a3 a4 a5) (fun o0 o1 o2 o3 o4 o5 o6 o7 o8 o9 o10 o11 o12 o13 o14 o15 o16 o17 => some (0, (mkC c.gain c.il c.ip c.ia c.ig c.is c.im c.ic c.iq c.dn c.dm c.dj c.dt c.dx c.dy c.dr c.dv c.dw c.dq c.fw c.fs c.fh (mkS o1 o2 o3 o4 o5 o6 o7 o8 o9 o10 o11 o12 o13 o14 o15 o16 o17) c.s1 c.s2), (vp_updL f ((0 : Int32).toNatClampNeg) o0.toInt64)))) := by
      unfold lm_setScreen
      rw [if_pos rfl]
    rcases SX_setScreen (β := Int32 × Cls × (Nat → Int64)) (th := th) (v := v) (so := so) (im := im) (ti := ti) (k := 0) (by omega) c.s0.va c.s0.ov c.s0.ra c.s0.ol c.s0.od c.s0.ne a1 a2 a3 a4 a5 (fun k => if k = 1 then some (2, c, f) else if k = 3 then some (1, c, f) else none) (fun o0 o1 o2 o3 o4 o5 o6 o7 o8 o9 o10 o11 o12 o13 o14 o15 o16 o17 => some (0, (mkC c.gain c.il c.ip c.ia c.ig c.is c.im c.ic c.iq c.dn c.dm c.dj c.dt c.dx c.dy c.dr c.dv c.dw c.dq c.fw c.fs c.fh (mkS o1 o2 o3 o4 o5 o6 o7 o8 o9 o10 o11 o12 o13 o14 o15 o16 o17) c.s1 c.s2), (vp_updL f ((0 : Int32).toNatClampNeg) o0.toInt64))) with ⟨b, t, e1, e2, hc⟩ | ⟨o, o1, o2, o3, o4, o5, o6, o7, o8, o9, o10, o11, o12, o13, o14, o15, o16, o17, th1, v1, so1, im1, ti1, e1, e2, hS, hf1, hf2, hf3, hf4, hf5⟩
    · rw [s0_] at e2
      subst hc
      exact ⟨2, _, _, b, th, v, so, im, ti, hlm.trans e1, e2, fun q => absurd q (by decide), H⟩
    · rw [s0_] at e2
      exact ⟨0, _, _, o, th1, v1, so1, im1, ti1, hlm.trans e1, e2, fun _ => upd0L _ _, INV_upd H rfl rfl rfl (k := 0) (three (P := fun j => j ≠ 0 → _) (fun z => absurd rfl z) (fun z => rfl) (fun z => rfl)) hS hf1 hf2 hf3 hf4 hf5⟩
  by_cases h1 : a0 = 1
  · subst h1
    have hlm : lm_setScreen c f 1 a1 a2 a3 a4 a5 = lq (β := Int32 × Cls × (Nat → Int64)) (mxX4_setScreen a1 a2 a3 a4 a5) (fun k => if k = 1 then some (2, c, f) else if k = 3 then some (1, c, f) else none) (bnd18 (mX4_setScreen c.s1.va c.s1.ov c.s1.ra c.s1.ol c.s1.od c.s1.ne a1 a2 a3 a4 a5) (fun o0 o1 o2 o3 o4 o5 o6 o7 o8 o9 o10 o11 o12 o13 o14 o15 o16 o17 => some (0, (mkC c.gain c.il c.ip c.ia c.ig c.is c.im c.ic c.iq c.dn c.dm c.dj c.dt c.dx c.dy c.dr c.dv c.dw c.dq c.fw c.fs c.fh c.s0 (mkS o1 o2 o3 o4 o5 o6 o7 o8 o9 o10 o11 o12 o13 o14 o15 o16 o17) c.s2), (vp_updL f ((0 : Int32).toNatClampNeg) o0.toInt64)))) := by
      unfold lm_setScreen
      rw [if_neg (by decide), if_pos rfl]
    rcases SX_setScreen (β := Int32 × Cls × (Nat → Int64)) (th := th) (v := v) (so := so) (im := im) (ti := ti) (k := 1) (by omega) c.s1.va c.s1.ov c.s1.ra c.s1.ol c.s1.od c.s1.ne a1 a2 a3 a4 a5 (fun k => if k = 1 then some (2, c, f) else if k = 3 then some (1, c, f) else none) (fun o0 o1 o2 o3 o4 o5 o6 o7 o8 o9 o10 o11 o12 o13 o14 o15 o16 o17 => some (0, (mkC c.gain c.il c.ip c.ia c.ig c.is c.im c.ic c.iq c.dn c.dm c.dj c.dt c.dx c.dy c.dr c.dv c.dw c.dq c.fw c.fs c.fh c.s0 (mkS o1 o2 o3 o4 o5 o6 o7 o8 o9 o10 o11 o12 o13 o14 o15 o16 o17) c.s2), (vp_updL f ((0 : Int32).toNatClampNeg) o0.toInt64))) with ⟨b, t, e1, e2, hc⟩ | ⟨o, o1, o2, o3, o4, o5, o6, o7, o8, o9, o10, o11, o12, o13, o14, o15, o16, o17, th1, v1, so1, im1, ti1, e1, e2, hS, hf1, hf2, hf3, hf4, hf5⟩
    · rw [s1_] at e2
      subst hc
      exact ⟨2, _, _, b, th, v, so, im, ti, hlm.trans e1, e2, fun q => absurd q (by decide), H⟩
    · rw [s1_] at e2
      exact ⟨0, _, _, o, th1, v1, so1, im1, ti1, hlm.trans e1, e2, fun _ => upd0L _ _, INV_upd H rfl rfl rfl (k := 1) (three (P := fun j => j ≠ 1 → _) (fun z => rfl) (fun z => absurd rfl z) (fun z => rfl)) hS hf1 hf2 hf3 hf4 hf5⟩
  by_cases h2 : a0 = 2
  · subst h2
    have hlm : lm_setScreen c f 2 a1 a2 a3 a4 a5 = lq (β := Int32 × Cls × (Nat → Int64)) (mxX4_setScreen a1 a2 a3 a4 a5) (fun k => if k = 1 then some (2, c, f) else if k = 3 then some (1, c, f) else none) (bnd18 (mX4_setScreen c.s2.va c.s2.ov c.s2.ra c.s2.ol c.s2.od c.s2.ne a1 a2 a3 a4 a5) (fun o0 o1 o2 o3 o4 o5 o6 o7 o8 o9 o10 o11 o12 o13 o14 o15 o16 o17 => some (0, (mkC c.gain c.il c.ip c.ia c.ig c.is c.im c.ic c.iq c.dn c.dm c.dj c.dt c.dx c.dy c.dr c.dv c.dw c.dq c.fw c.fs c.fh c.s0 c.s1 (mkS o1 o2 o3 o4 o5 o6 o7 o8 o9 o10 o11 o12 o13 o14 o15 o16 o17)), (vp_updL f ((0 : Int32).toNatClampNeg) o0.toInt64)))) := by
      unfold lm_setScreen
      rw [if_neg (by decide), if_neg (by decide), if_pos rfl]
    rcases SX_setScreen (β := Int32 × Cls × (Nat → Int64)) (th := th) (v := v) (so := so) (im := im) (ti := ti) (k := 2) (by omega) c.s2.va c.s2.ov c.s2.ra c.s2.ol c.s2.od c.s2.ne a1 a2 a3 a4 a5 (fun k => if k = 1 then some (2, c, f) else if k = 3 then some (1, c, f) else none) (fun o0 o1 o2 o3 o4 o5 o6 o7 o8 o9 o10 o11 o12 o13 o14 o15 o16 o17 => some (0, (mkC c.gain c.il c.ip c.ia c.ig c.is c.im c.ic c.iq c.dn c.dm c.dj c.dt c.dx c.dy c.dr c.dv c.dw c.dq c.fw c.fs c.fh c.s0 c.s1 (mkS o1 o2 o3 o4 o5 o6 o7 o8 o9 o10 o11 o12 o13 o14 o15 o16 o17)), (vp_updL f ((0 : Int32).toNatClampNeg) o0.toInt64))) with ⟨b, t, e1, e2, hc⟩ | ⟨o, o1, o2, o3, o4, o5, o6, o7, o8, o9, o10, o11, o12, o13, o14, o15, o16, o17, th1, v1, so1, im1, ti1, e1, e2, hS, hf1, hf2, hf3, hf4, hf5⟩
    · rw [s2_] at e2
      subst hc
      exact ⟨2, _, _, b, th, v, so, im, ti, hlm.trans e1, e2, fun q => absurd q (by decide), H⟩
    · rw [s2_] at e2
      exact ⟨0, _, _, o, th1, v1, so1, im1, ti1, hlm.trans e1, e2, fun _ => upd0L _ _, INV_upd H rfl rfl rfl (k := 2) (three (P := fun j => j ≠ 2 → _) (fun z => rfl) (fun z => rfl) (fun z => absurd rfl z)) hS hf1 hf2 hf3 hf4 hf5⟩
  have hlm : lm_setScreen c f a0 a1 a2 a3 a4 a5 = some (1, c, f) := by
    unfold lm_setScreen
    rw [if_neg h0, if_neg h1, if_neg h2]
  exact ⟨1, _, _, 0, th, v, so, im, ti, hlm, OUT_setScreen h0 h1 h2 a1 a2 a3 a4 a5, fun q => absurd q (by decide), H⟩
theorem LW_setCenter (H : INV c th v so im ti buf gain size) (f : Nat → Int64) (a0 a1 : Int32) {m : Int} (hm : m = 0 ∨ m = 1) (ea : a1 = iI m) (vw : Int32) (vs : Int32) (vh : Int32) (vl : Int32) (val : Nat → Int32) (rk : Nat → Int32) (old : Nat → Int32) :
    ∃ (r : Int32) (c' : Cls) (f' : Nat → Int64) (b : Int32) (vw' : Int32) (vs' : Int32) (vh' : Int32) (vl' : Int32) (im' : Nat → Int32) (val' : Nat → Int32) (rk' : Nat → Int32) (old' : Nat → Int32), lm_setCenter c f a0 a1 = some (r, c', f') ∧ mX5_setCenter vw vs vh vl th v so im val rk old a0 a1 = some (b, r, vw', vs', vh', vl', im', val', rk', old') ∧ (r = 0 → f' 0 = b.toInt64) ∧ INV c' th v so im' ti buf gain size := by
  subst ea
  obtain ⟨HS, ⟨g, g0, g1, eg, eg'⟩, n, hn, el, el', hcb⟩ := id H
  by_cases h0 : a0 = 0
  · subst h0
    have hlm : lm_setCenter c f 0 (iI m) = lq (β := Int32 × Cls × (Nat → Int64)) (mxX4_setCenter c.s0.pr) (fun k => if k = 2 then some (2, c, f) else if k = 3 then some (1, c, f) else none) (bnd11 (mX4_setCenter c.s0.pr c.s0.a c.s0.b c.s0.c c.s0.d c.s0.sp c.s0.va c.s0.ov c.s0.ra c.s0.ol c.s0.od c.s0.ne (iI m)) (fun o0 o1 o2 o3 o4 o5 o6 o7 o8 o9 o10 => some (0, (mkC c.gain c.il c.ip c.ia c.ig c.is c.im c.ic c.iq c.dn c.dm c.dj c.dt c.dx c.dy c.dr c.dv c.dw c.dq c.fw c.fs c.fh (mkS c.s0.pr c.s0.a c.s0.b c.s0.c c.s0.d c.s0.sp o1 c.s0.ti o2 o3 o4 o5 o6 o7 o8 o9 o10) c.s1 c.s2), (vp_updL f ((0 : Int32).toNatClampNeg) o0.toInt64)))) := by
      unfold lm_setCenter
      rw [if_pos rfl]
    rcases SX_setCenter (x := c.s0) (β := Int32 × Cls × (Nat → Int64)) (k := 0) (by omega) (HS 0 (by omega)) hm vw vs vh vl val rk old (fun k => if k = 2 then some (2, c, f) else if k = 3 then some (1, c, f) else none) (fun o0 o1 o2 o3 o4 o5 o6 o7 o8 o9 o10 => some (0, (mkC c.gain c.il c.ip c.ia c.ig c.is c.im c.ic c.iq c.dn c.dm c.dj c.dt c.dx c.dy c.dr c.dv c.dw c.dq c.fw c.fs c.fh (mkS c.s0.pr c.s0.a c.s0.b c.s0.c c.s0.d c.s0.sp o1 c.s0.ti o2 o3 o4 o5 o6 o7 o8 o9 o10) c.s1 c.s2), (vp_updL f ((0 : Int32).toNatClampNeg) o0.toInt64))) with ⟨b, t, e1, e2, hc⟩ | ⟨o, o1, o2, o3, o4, o5, o6, o7, o8, o9, o10, w1, w2, w3, w4, im1, z1, z2, z3, e1, e2, hS, hf4⟩
    · rw [s0_] at e2
      subst hc
      exact ⟨2, _, _, b, vw, vs, vh, vl, im, val, rk, old, hlm.trans e1, e2, fun q => absurd q (by decide), H⟩
    · rw [s0_] at e2
      exact ⟨0, _, _, o, w1, w2, w3, w4, im1, z1, z2, z3, hlm.trans e1, e2, fun _ => upd0L _ _, INV_upd H rfl rfl rfl (k := 0) (three (P := fun j => j ≠ 0 → _) (fun z => absurd rfl z) (fun z => rfl) (fun z => rfl)) hS (fun _ _ => rfl) (fun _ _ => rfl) (fun _ _ => rfl) hf4 (fun _ _ => rfl)⟩
  by_cases h1 : a0 = 1
  · subst h1
    have hlm : lm_setCenter c f 1 (iI m) = lq (β := Int32 × Cls × (Nat → Int64)) (mxX4_setCenter c.s1.pr) (fun k => if k = 2 then some (2, c, f) else if k = 3 then some (1, c, f) else none) (bnd11 (mX4_setCenter c.s1.pr c.s1.a c.s1.b c.s1.c c.s1.d c.s1.sp c.s1.va c.s1.ov c.s1.ra c.s1.ol c.s1.od c.s1.ne (iI m)) (fun o0 o1 o2 o3 o4 o5 o6 o7 o8 o9 o10 => some (0, (mkC c.gain c.il c.ip c.ia c.ig c.is c.im c.ic c.iq c.dn c.dm c.dj c.dt c.dx c.dy c.dr c.dv c.dw c.dq c.fw c.fs c.fh c.s0 (mkS c.s1.pr c.s1.a c.s1.b c.s1.c c.s1.d c.s1.sp o1 c.s1.ti o2 o3 o4 o5 o6 o7 o8 o9 o10) c.s2), (vp_updL f ((0 : Int32).toNatClampNeg) o0.toInt64)))) := by
      unfold lm_setCenter
      rw [if_neg (by decide), if_pos rfl]
    rcases SX_setCenter (x := c.s1) (β := Int32 × Cls × (Nat → Int64)) (k := 1) (by omega) (HS 1 (by omega)) hm vw vs vh vl val rk old (fun k => if k = 2 then some (2, c, f) else if k = 3 then some (1, c, f) else none) (fun o0 o1 o2 o3 o4 o5 o6 o7 o8 o9 o10 => some (0, (mkC c.gain c.il c.ip c.ia c.ig c.is c.im c.ic c.iq c.dn c.dm c.dj c.dt c.dx c.dy c.dr c.dv c.dw c.dq c.fw c.fs c.fh c.s0 (mkS c.s1.pr c.s1.a c.s1.b c.s1.c c.s1.d c.s1.sp o1 c.s1.ti o2 o3 o4 o5 o6 o7 o8 o9 o10) c.s2), (vp_updL f ((0 : Int32).toNatClampNeg) o0.toInt64))) with ⟨b, t, e1, e2, hc⟩ | ⟨o, o1, o2, o3, o4, o5, o6, o7, o8, o9, o10, w1, w2, w3, w4, im1, z1, z2, z3, e1, e2, hS, hf4⟩
    · rw [s1_] at e2
      subst hc
      exact ⟨2, _, _, b, vw, vs, vh, vl, im, val, rk, old, hlm.trans e1, e2, fun q => absurd q (by decide), H⟩
    · rw [s1_] at e2
      exact ⟨0, _, _, o, w1, w2, w3, w4, im1, z1, z2, z3, hlm.trans e1, e2, fun _ => upd0L _ _, INV_upd H rfl rfl rfl (k := 1) (three (P := fun j => j ≠ 1 → _) (fun z => rfl) (fun z => absurd rfl z) (fun z => rfl)) hS (fun _ _ => rfl) (fun _ _ => rfl) (fun _ _ => rfl) hf4 (fun _ _ => rfl)⟩
  by_cases h2 : a0 = 2
  · subst h2
    have hlm : lm_setCenter c f 2 (iI m) = lq (β := Int32 × Cls × (Nat → Int64)) (mxX4_setCenter c.s2.pr) (fun k => if k = 2 then some (2, c, f) else if k = 3 then some (1, c, f) else none) (bnd11 (mX4_setCenter c.s2.pr c.s2.a c.s2.b c.s2.c c.s2.d c.s2.sp c.s2.va c.s2.ov c.s2.ra c.s2.ol c.s2.od c.s2.ne (iI m)) (fun o0 o1 o2 o3 o4 o5 o6 o7 o8 o9 o10 => some (0, (mkC c.gain c.il c.ip c.ia c.ig c.is c.im c.ic c.iq c.dn c.dm c.dj c.dt c.dx c.dy c.dr c.dv c.dw c.dq c.fw c.fs c.fh c.s0 c.s1 (mkS c.s2.pr c.s2.a c.s2.b c.s2.c c.s2.d c.s2.sp o1 c.s2.ti o2 o3 o4 o5 o6 o7 o8 o9 o10)), (vp_updL f ((0 : Int32).toNatClampNeg) o0.toInt64)))) := by
      unfold lm_setCenter
      rw [if_neg (by decide), if_neg (by decide), if_pos rfl]
    rcases SX_setCenter (x := c.s2) (β := Int32 × Cls × (Nat → Int64)) (k := 2) (by omega) (HS 2 (by omega)) hm vw vs vh vl val rk old (fun k => if k = 2 then some (2, c, f) else if k = 3 then some (1, c, f) else none) (fun o0 o1 o2 o3 o4 o5 o6 o7 o8 o9 o10 => some (0, (mkC c.gain c.il c.ip c.ia c.ig c.is c.im c.ic c.iq c.dn c.dm c.dj c.dt c.dx c.dy c.dr c.dv c.dw c.dq c.fw c.fs c.fh c.s0 c.s1 (mkS c.s2.pr c.s2.a c.s2.b c.s2.c c.s2.d c.s2.sp o1 c.s2.ti o2 o3 o4 o5 o6 o7 o8 o9 o10)), (vp_updL f ((0 : Int32).toNatClampNeg) o0.toInt64))) with ⟨b, t, e1, e2, hc⟩ | ⟨o, o1, o2, o3, o4, o5, o6, o7, o8, o9, o10, w1, w2, w3, w4, im1, z1, z2, z3, e1, e2, hS, hf4⟩
    · rw [s2_] at e2
      subst hc
      exact ⟨2, _, _, b, vw, vs, vh, vl, im, val, rk, old, hlm.trans e1, e2, fun q => absurd q (by decide), H⟩
    · rw [s2_] at e2
      exact ⟨0, _, _, o, w1, w2, w3, w4, im1, z1, z2, z3, hlm.trans e1, e2, fun _ => upd0L _ _, INV_upd H rfl rfl rfl (k := 2) (three (P := fun j => j ≠ 2 → _) (fun z => rfl) (fun z => rfl) (fun z => absurd rfl z)) hS (fun _ _ => rfl) (fun _ _ => rfl) (fun _ _ => rfl) hf4 (fun _ _ => rfl)⟩
  have hlm : lm_setCenter c f a0 (iI m) = some (1, c, f) := by
    unfold lm_setCenter
    rw [if_neg h0, if_neg h1, if_neg h2]
  exact ⟨1, _, _, 0, vw, vs, vh, vl, im, val, rk, old, hlm, OUT_setCenter h0 h1 h2 vw vs vh vl val rk old (iI m), fun q => absurd q (by decide), H⟩
theorem LW_turn (H : INV c th v so im ti buf gain size) (f : Nat → Int64) (a0 a1 : Int32)  (vw : Int32) (vs : Int32) (vh : Int32) (vl : Int32) (val : Nat → Int32) (rk : Nat → Int32) (old : Nat → Int32) :
    ∃ (r : Int32) (c' : Cls) (f' : Nat → Int64) (b : Int32) (vw' : Int32) (vs' : Int32) (vh' : Int32) (vl' : Int32) (v' : Nat → Int32) (val' : Nat → Int32) (rk' : Nat → Int32) (old' : Nat → Int32), lm_turn c f a0 a1 = some (r, c', f') ∧ mX5_turn vw vs vh vl th v so im val rk old a0 a1 = some (b, r, vw', vs', vh', vl', v', val', rk', old') ∧ (r = 0 → f' 0 = b.toInt64) ∧ INV c' th v' so im ti buf gain size := by
  obtain ⟨HS, ⟨g, g0, g1, eg, eg'⟩, n, hn, el, el', hcb⟩ := id H
  by_cases h0 : a0 = 0
  · subst h0
    have hlm : lm_turn c f 0 a1 = lq (β := Int32 × Cls × (Nat → Int64)) (mxX4_turn c.s0.pr a1) (fun k => if k = 1 then some (2, c, f) else if k = 2 then some (3, c, f) else if k = 3 then some (1, c, f) else none) (bnd14 (mX4_turn c.s0.pr c.s0.a c.s0.b c.s0.c c.s0.d c.s0.sp c.s0.mi c.s0.va c.s0.ov c.s0.ra c.s0.ol c.s0.od c.s0.ne a1) (fun o0 o1 o2 o3 o4 o5 o6 o7 o8 o9 o10 o11 o12 o13 => some (0, (mkC c.gain c.il c.ip c.ia c.ig c.is c.im c.ic c.iq c.dn c.dm c.dj c.dt c.dx c.dy c.dr c.dv c.dw c.dq c.fw c.fs c.fh (mkS c.s0.pr o1 o2 o3 o4 c.s0.sp c.s0.mi c.s0.ti o5 o6 o7 o8 o9 o10 o11 o12 o13) c.s1 c.s2), (vp_updL f ((0 : Int32).toNatClampNeg) o0.toInt64)))) := by
      unfold lm_turn
      rw [if_pos rfl]
    rcases SX_turn (x := c.s0) (β := Int32 × Cls × (Nat → Int64)) (k := 0) (by omega) (HS 0 (by omega)) a1 vw vs vh vl val rk old (fun k => if k = 1 then some (2, c, f) else if k = 2 then some (3, c, f) else if k = 3 then some (1, c, f) else none) (fun o0 o1 o2 o3 o4 o5 o6 o7 o8 o9 o10 o11 o12 o13 => some (0, (mkC c.gain c.il c.ip c.ia c.ig c.is c.im c.ic c.iq c.dn c.dm c.dj c.dt c.dx c.dy c.dr c.dv c.dw c.dq c.fw c.fs c.fh (mkS c.s0.pr o1 o2 o3 o4 c.s0.sp c.s0.mi c.s0.ti o5 o6 o7 o8 o9 o10 o11 o12 o13) c.s1 c.s2), (vp_updL f ((0 : Int32).toNatClampNeg) o0.toInt64))) with ⟨kk, b, t, e1, e2, hc⟩ | ⟨o, o1, o2, o3, o4, o5, o6, o7, o8, o9, o10, o11, o12, o13, w1, w2, w3, w4, v1, z1, z2, z3, e1, e2, hS, hf2⟩
    · rw [s0_] at e2
      rcases hc with ⟨rfl, rfl⟩ | ⟨rfl, rfl⟩
      · exact ⟨2, _, _, b, vw, vs, vh, vl, v, val, rk, old, hlm.trans e1, e2, fun q => absurd q (by decide), H⟩
      · exact ⟨3, _, _, b, vw, vs, vh, vl, v, val, rk, old, hlm.trans e1, e2, fun q => absurd q (by decide), H⟩
    · rw [s0_] at e2
      exact ⟨0, _, _, o, w1, w2, w3, w4, v1, z1, z2, z3, hlm.trans e1, e2, fun _ => upd0L _ _, INV_upd H rfl rfl rfl (k := 0) (three (P := fun j => j ≠ 0 → _) (fun z => absurd rfl z) (fun z => rfl) (fun z => rfl)) hS (fun _ _ => rfl) hf2 (fun _ _ => rfl) (fun _ _ => rfl) (fun _ _ => rfl)⟩
  by_cases h1 : a0 = 1
  · subst h1
    have hlm : lm_turn c f 1 a1 = lq (β := Int32 × Cls × (Nat → Int64)) (mxX4_turn c.s1.pr a1) (fun k => if k = 1 then some (2, c, f) else if k = 2 then some (3, c, f) else if k = 3 then some (1, c, f) else none) (bnd14 (mX4_turn c.s1.pr c.s1.a c.s1.b c.s1.c c.s1.d c.s1.sp c.s1.mi c.s1.va c.s1.ov c.s1.ra c.s1.ol c.s1.od c.s1.ne a1) (fun o0 o1 o2 o3 o4 o5 o6 o7 o8 o9 o10 o11 o12 o13 => some (0, (mkC c.gain c.il c.ip c.ia c.ig c.is c.im c.ic c.iq c.dn c.dm c.dj c.dt c.dx c.dy c.dr c.dv c.dw c.dq c.fw c.fs c.fh c.s0 (mkS c.s1.pr o1 o2 o3 o4 c.s1.sp c.s1.mi c.s1.ti o5 o6 o7 o8 o9 o10 o11 o12 o13) c.s2), (vp_updL f ((0 : Int32).toNatClampNeg) o0.toInt64)))) := by
      unfold lm_turn
      rw [if_neg (by decide), if_pos rfl]
    rcases SX_turn (x := c.s1) (β := Int32 × Cls × (Nat → Int64)) (k := 1) (by omega) (HS 1 (by omega)) a1 vw vs vh vl val rk old (fun k => if k = 1 then some (2, c, f) else if k = 2 then some (3, c, f) else if k = 3 then some (1, c, f) else none) (fun o0 o1 o2 o3 o4 o5 o6 o7 o8 o9 o10 o11 o12 o13 => some (0, (mkC c.gain c.il c.ip c.ia c.ig c.is c.im c.ic c.iq c.dn c.dm c.dj c.dt c.dx c.dy c.dr c.dv c.dw c.dq c.fw c.fs c.fh c.s0 (mkS c.s1.pr o1 o2 o3 o4 c.s1.sp c.s1.mi c.s1.ti o5 o6 o7 o8 o9 o10 o11 o12 o13) c.s2), (vp_updL f ((0 : Int32).toNatClampNeg) o0.toInt64))) with ⟨kk, b, t, e1, e2, hc⟩ | ⟨o, o1, o2, o3, o4, o5, o6, o7, o8, o9, o10, o11, o12, o13, w1, w2, w3, w4, v1, z1, z2, z3, e1, e2, hS, hf2⟩
    · rw [s1_] at e2
      rcases hc with ⟨rfl, rfl⟩ | ⟨rfl, rfl⟩
      · exact ⟨2, _, _, b, vw, vs, vh, vl, v, val, rk, old, hlm.trans e1, e2, fun q => absurd q (by decide), H⟩
      · exact ⟨3, _, _, b, vw, vs, vh, vl, v, val, rk, old, hlm.trans e1, e2, fun q => absurd q (by decide), H⟩
    · rw [s1_] at e2
      exact ⟨0, _, _, o, w1, w2, w3, w4, v1, z1, z2, z3, hlm.trans e1, e2, fun _ => upd0L _ _, INV_upd H rfl rfl rfl (k := 1) (three (P := fun j => j ≠ 1 → _) (fun z => rfl) (fun z => absurd rfl z) (fun z => rfl)) hS (fun _ _ => rfl) hf2 (fun _ _ => rfl) (fun _ _ => rfl) (fun _ _ => rfl)⟩
  by_cases h2 : a0 = 2
  · subst h2
    have hlm : lm_turn c f 2 a1 = lq (β := Int32 × Cls × (Nat → Int64)) (mxX4_turn c.s2.pr a1) (fun k => if k = 1 then some (2, c, f) else if k = 2 then some (3, c, f) else if k = 3 then some (1, c, f) else none) (bnd14 (mX4_turn c.s2.pr c.s2.a c.s2.b c.s2.c c.s2.d c.s2.sp c.s2.mi c.s2.va c.s2.ov c.s2.ra c.s2.ol c.s2.od c.s2.ne a1) (fun o0 o1 o2 o3 o4 o5 o6 o7 o8 o9 o10 o11 o12 o13 => some (0, (mkC c.gain c.il c.ip c.ia c.ig c.is c.im c.ic c.iq c.dn c.dm c.dj c.dt c.dx c.dy c.dr c.dv c.dw c.dq c.fw c.fs c.fh c.s0 c.s1 (mkS c.s2.pr o1 o2 o3 o4 c.s2.sp c.s2.mi c.s2.ti o5 o6 o7 o8 o9 o10 o11 o12 o13)), (vp_updL f ((0 : Int32).toNatClampNeg) o0.toInt64)))) := by
      unfold lm_turn
      rw [if_neg (by decide), if_neg (by decide), if_pos rfl]
    rcases SX_turn (x := c.s2) (β := Int32 × Cls × (Nat → Int64)) (k := 2) (by omega) (HS 2 (by omega)) a1 vw vs vh vl val rk old (fun k => if k = 1 then some (2, c, f) else if k = 2 then some (3, c, f) else if k = 3 then some (1, c, f) else none) (fun o0 o1 o2 o3 o4 o5 o6 o7 o8 o9 o10 o11 o12 o13 => some (0, (mkC c.gain c.il c.ip c.ia c.ig c.is c.im c.ic c.iq c.dn c.dm c.dj c.dt c.dx c.dy c.dr c.dv c.dw c.dq c.fw c.fs c.fh c.s0 c.s1 (mkS c.s2.pr o1 o2 o3 o4 c.s2.sp c.s2.mi c.s2.ti o5 o6 o7 o8 o9 o10 o11 o12 o13)), (vp_updL f ((0 : Int32).toNatClampNeg) o0.toInt64))) with ⟨kk, b, t, e1, e2, hc⟩ | ⟨o, o1, o2, o3, o4, o5, o6, o7, o8, o9, o10, o11, o12, o13, w1, w2, w3, w4, v1, z1, z2, z3, e1, e2, hS, hf2⟩
    · rw [s2_] at e2
      rcases hc with ⟨rfl, rfl⟩ | ⟨rfl, rfl⟩
      · exact ⟨2, _, _, b, vw, vs, vh, vl, v, val, rk, old, hlm.trans e1, e2, fun q => absurd q (by decide), H⟩
      · exact ⟨3, _, _, b, vw, vs, vh, vl, v, val, rk, old, hlm.trans e1, e2, fun q => absurd q (by decide), H⟩
    · rw [s2_] at e2
      exact ⟨0, _, _, o, w1, w2, w3, w4, v1, z1, z2, z3, hlm.trans e1, e2, fun _ => upd0L _ _, INV_upd H rfl rfl rfl (k := 2) (three (P := fun j => j ≠ 2 → _) (fun z => rfl) (fun z => rfl) (fun z => absurd rfl z)) hS (fun _ _ => rfl) hf2 (fun _ _ => rfl) (fun _ _ => rfl) (fun _ _ => rfl)⟩
  have hlm : lm_turn c f a0 a1 = some (1, c, f) := by
    unfold lm_turn
    rw [if_neg h0, if_neg h1, if_neg h2]
  exact ⟨1, _, _, 0, vw, vs, vh, vl, v, val, rk, old, hlm, OUT_turn h0 h1 h2 vw vs vh vl val rk old a1, fun q => absurd q (by decide), H⟩
theorem LW_shorten (H : INV c th v so im ti buf gain size) (f : Nat → Int64) (a0 : Int32)   :
    ∃ (r : Int32) (c' : Cls) (f' : Nat → Int64) (b : Int32) (v' : Nat → Int32), lm_shorten c f a0 = some (r, c', f') ∧ mX5_shorten th v a0 = some (b, r, v') ∧ (r = 0 → f' 0 = b.toInt64) ∧ INV c' th v' so im ti buf gain size := by
  obtain ⟨HS, ⟨g, g0, g1, eg, eg'⟩, n, hn, el, el', hcb⟩ := id H
  by_cases h0 : a0 = 0
  · subst h0
    have hlm : lm_shorten c f 0 = lq (β := Int32 × Cls × (Nat → Int64)) (mxX4_shorten c.s0.pr) (fun k => if k = 2 then some (2, c, f) else if k = 3 then some (1, c, f) else none) (bnd14 (mX4_shorten c.s0.pr c.s0.a c.s0.b c.s0.c c.s0.d c.s0.sp c.s0.mi c.s0.va c.s0.ov c.s0.ra c.s0.ol c.s0.od c.s0.ne) (fun o0 o1 o2 o3 o4 o5 o6 o7 o8 o9 o10 o11 o12 o13 => some (0, (mkC c.gain c.il c.ip c.ia c.ig c.is c.im c.ic c.iq c.dn c.dm c.dj c.dt c.dx c.dy c.dr c.dv c.dw c.dq c.fw c.fs c.fh (mkS c.s0.pr o1 o2 o3 o4 c.s0.sp c.s0.mi c.s0.ti o5 o6 o7 o8 o9 o10 o11 o12 o13) c.s1 c.s2), (vp_updL f ((0 : Int32).toNatClampNeg) o0.toInt64)))) := by
      unfold lm_shorten
      rw [if_pos rfl]
    rcases SX_shorten (x := c.s0) (β := Int32 × Cls × (Nat → Int64)) (k := 0) (by omega) (HS 0 (by omega)) (fun k => if k = 2 then some (2, c, f) else if k = 3 then some (1, c, f) else none) (fun o0 o1 o2 o3 o4 o5 o6 o7 o8 o9 o10 o11 o12 o13 => some (0, (mkC c.gain c.il c.ip c.ia c.ig c.is c.im c.ic c.iq c.dn c.dm c.dj c.dt c.dx c.dy c.dr c.dv c.dw c.dq c.fw c.fs c.fh (mkS c.s0.pr o1 o2 o3 o4 c.s0.sp c.s0.mi c.s0.ti o5 o6 o7 o8 o9 o10 o11 o12 o13) c.s1 c.s2), (vp_updL f ((0 : Int32).toNatClampNeg) o0.toInt64))) with ⟨b, t, e1, e2, hc⟩ | ⟨o, o1, o2, o3, o4, o5, o6, o7, o8, o9, o10, o11, o12, o13, v1, e1, e2, hS, hf2⟩
    · rw [s0_] at e2
      subst hc
      exact ⟨2, _, _, b, v, hlm.trans e1, e2, fun q => absurd q (by decide), H⟩
    · rw [s0_] at e2
      exact ⟨0, _, _, o, v1, hlm.trans e1, e2, fun _ => upd0L _ _, INV_upd H rfl rfl rfl (k := 0) (three (P := fun j => j ≠ 0 → _) (fun z => absurd rfl z) (fun z => rfl) (fun z => rfl)) hS (fun _ _ => rfl) hf2 (fun _ _ => rfl) (fun _ _ => rfl) (fun _ _ => rfl)⟩
  by_cases h1 : a0 = 1
  · subst h1
    have hlm : lm_shorten c f 1 = lq (β := Int32 × Cls × (Nat → Int64)) (mxX4_shorten c.s1.pr) (fun k => if k = 2 then some (2, c, f) else if k = 3 then some (1, c, f) else none) (bnd14 (mX4_shorten c.s1.pr c.s1.a c.s1.b c.s1.c c.s1.d c.s1.sp c.s1.mi c.s1.va c.s1.ov c.s1.ra c.s1.ol c.s1.od c.s1.ne) (fun o0 o1 o2 o3 o4 o5 o6 o7 o8 o9 o10 o11 o12 o13 => some (0, (mkC c.gain c.il c.ip c.ia c.ig c.is c.im c.ic c.iq c.dn c.dm c.dj c.dt c.dx c.dy c.dr c.dv c.dw c.dq c.fw c.fs c.fh c.s0 (mkS c.s1.pr o1 o2 o3 o4 c.s1.sp c.s1.mi c.s1.ti o5 o6 o7 o8 o9 o10 o11 o12 o13) c.s2), (vp_updL f ((0 : Int32).toNatClampNeg) o0.toInt64)))) := by
      unfold lm_shorten
      rw [if_neg (by decide), if_pos rfl]
    rcases SX_shorten (x := c.s1) (β := Int32 × Cls × (Nat → Int64)) (k := 1) (by omega) (HS 1 (by omega)) (fun k => if k = 2 then some (2, c, f) else if k = 3 then some (1, c, f) else none) (fun o0 o1 o2 o3 o4 o5 o6 o7 o8 o9 o10 o11 o12 o13 => some (0, (mkC c.gain c.il c.ip c.ia c.ig c.is c.im c.ic c.iq c.dn c.dm c.dj c.dt c.dx c.dy c.dr c.dv c.dw c.dq c.fw c.fs c.fh c.s0 (mkS c.s1.pr o1 o2 o3 o4 c.s1.sp c.s1.mi c.s1.ti o5 o6 o7 o8 o9 o10 o11 o12 o13) c.s2), (vp_updL f ((0 : Int32).toNatClampNeg) o0.toInt64))) with ⟨b, t, e1, e2, hc⟩ | ⟨o, o1, o2, o3, o4, o5, o6, o7, o8, o9, o10, o11, o12, o13, v1, e1, e2, hS, hf2⟩
    · rw [s1_] at e2
      subst hc
      exact ⟨2, _, _, b, v, hlm.trans e1, e2, fun q => absurd q (by decide), H⟩
    · rw [s1_] at e2
      exact ⟨0, _, _, o, v1, hlm.trans e1, e2, fun _ => upd0L _ _, INV_upd H rfl rfl rfl (k := 1) (three (P := fun j => j ≠ 1 → _) (fun z => rfl) (fun z => absurd rfl z) (fun z => rfl)) hS (fun _ _ => rfl) hf2 (fun _ _ => rfl) (fun _ _ => rfl) (fun _ _ => rfl)⟩
  by_cases h2 : a0 = 2
  · subst h2
    have hlm : lm_shorten c f 2 = lq (β := Int32 × Cls × (Nat → Int64)) (mxX4_shorten c.s2.pr) (fun k => if k = 2 then some (2, c, f) else if k = 3 then some (1, c, f) else none) (bnd14 (mX4_shorten c.s2.pr c.s2.a c.s2.b c.s2.c c.s2.d c.s2.sp c.s2.mi c.s2.va c.s2.ov c.s2.ra c.s2.ol c.s2.od c.s2.ne) (fun o0 o1 o2 o3 o4 o5 o6 o7 o8 o9 o10 o11 o12 o13 => some (0, (mkC c.gain c.il c.ip c.ia c.ig c.is c.im c.ic c.iq c.dn c.dm c.dj c.dt c.dx c.dy c.dr c.dv c.dw c.dq c.fw c.fs c.fh c.s0 c.s1 (mkS c.s2.pr o1 o2 o3 o4 c.s2.sp c.s2.mi c.s2.ti o5 o6 o7 o8 o9 o10 o11 o12 o13)), (vp_updL f ((0 : Int32).toNatClampNeg) o0.toInt64)))) := by
      unfold lm_shorten
      rw [if_neg (by decide), if_neg (by decide), if_pos rfl]
    rcases SX_shorten (x := c.s2) (β := Int32 × Cls × (Nat → Int64)) (k := 2) (by omega) (HS 2 (by omega)) (fun k => if k = 2 then some (2, c, f) else if k = 3 then some (1, c, f) else none) (fun o0 o1 o2 o3 o4 o5 o6 o7 o8 o9 o10 o11 o12 o13 => some (0, (mkC c.gain c.il c.ip c.ia c.ig c.is c.im c.ic c.iq c.dn c.dm c.dj c.dt c.dx c.dy c.dr c.dv c.dw c.dq c.fw c.fs c.fh c.s0 c.s1 (mkS c.s2.pr o1 o2 o3 o4 c.s2.sp c.s2.mi c.s2.ti o5 o6 o7 o8 o9 o10 o11 o12 o13)), (vp_updL f ((0 : Int32).toNatClampNeg) o0.toInt64))) with ⟨b, t, e1, e2, hc⟩ | ⟨o, o1, o2, o3, o4, o5, o6, o7, o8, o9, o10, o11, o12, o13, v1, e1, e2, hS, hf2⟩
    · rw [s2_] at e2
      subst hc
      exact ⟨2, _, _, b, v, hlm.trans e1, e2, fun q => absurd q (by decide), H⟩
    · rw [s2_] at e2
      exact ⟨0, _, _, o, v1, hlm.trans e1, e2, fun _ => upd0L _ _, INV_upd H rfl rfl rfl (k := 2) (three (P := fun j => j ≠ 2 → _) (fun z => rfl) (fun z => rfl) (fun z => absurd rfl z)) hS (fun _ _ => rfl) hf2 (fun _ _ => rfl) (fun _ _ => rfl) (fun _ _ => rfl)⟩
  have hlm : lm_shorten c f a0 = some (1, c, f) := by
    unfold lm_shorten
    rw [if_neg h0, if_neg h1, if_neg h2]
  exact ⟨1, _, _, 0, v, hlm, OUT_shorten h0 h1 h2 , fun q => absurd q (by decide), H⟩
theorem LW_setTint (H : INV c th v so im ti buf gain size) (f : Nat → Int64) (a0 a1 : Int32)   :
    ∃ (r : Int32) (c' : Cls) (f' : Nat → Int64) (b : Int32) (ti' : Nat → Int32), lm_setTint c f a0 a1 = some (r, c', f') ∧ mX5_setTint th v ti a0 a1 = some (b, r, ti') ∧ (r = 0 → f' 0 = b.toInt64) ∧ INV c' th v so im ti' buf gain size := by
  obtain ⟨HS, ⟨g, g0, g1, eg, eg'⟩, n, hn, el, el', hcb⟩ := id H
  by_cases h0 : a0 = 0
  · subst h0
    have hlm : lm_setTint c f 0 a1 = lq (β := Int32 × Cls × (Nat → Int64)) (mxX4_setTint c.s0.pr c.s0.w c.s0.h a1) (fun k => if k = 1 then some (3, c, f) else if k = 2 then some (2, c, f) else if k = 3 then some (1, c, f) else none) (bnd2 (mX4_setTint c.s0.pr c.s0.ti c.s0.w c.s0.h a1) (fun o0 o1 => some (0, (mkC c.gain c.il c.ip c.ia c.ig c.is c.im c.ic c.iq c.dn c.dm c.dj c.dt c.dx c.dy c.dr c.dv c.dw c.dq c.fw c.fs c.fh (mkS c.s0.pr c.s0.a c.s0.b c.s0.c c.s0.d c.s0.sp c.s0.mi o1 c.s0.w c.s0.s c.s0.h c.s0.va c.s0.ov c.s0.ra c.s0.ol c.s0.od c.s0.ne) c.s1 c.s2), (vp_updL f ((0 : Int32).toNatClampNeg) o0.toInt64)))) := by
      unfold lm_setTint
      rw [if_pos rfl]
    rcases SX_setTint (x := c.s0) (β := Int32 × Cls × (Nat → Int64)) (k := 0) (by omega) (HS 0 (by omega)) a1 (fun k => if k = 1 then some (3, c, f) else if k = 2 then some (2, c, f) else if k = 3 then some (1, c, f) else none) (fun o0 o1 => some (0, (mkC c.gain c.il c.ip c.ia c.ig c.is c.im c.ic c.iq c.dn c.dm c.dj c.dt c.dx c.dy c.dr c.dv c.dw c.dq c.fw c.fs c.fh (mkS c.s0.pr c.s0.a c.s0.b c.s0.c c.s0.d c.s0.sp c.s0.mi o1 c.s0.w c.s0.s c.s0.h c.s0.va c.s0.ov c.s0.ra c.s0.ol c.s0.od c.s0.ne) c.s1 c.s2), (vp_updL f ((0 : Int32).toNatClampNeg) o0.toInt64))) with ⟨kk, b, t, e1, e2, hc⟩ | ⟨o, o1, ti1, e1, e2, hS, hf5⟩
    · rw [s0_] at e2
      rcases hc with ⟨rfl, rfl⟩ | ⟨rfl, rfl⟩
      · exact ⟨3, _, _, b, ti, hlm.trans e1, e2, fun q => absurd q (by decide), H⟩
      · exact ⟨2, _, _, b, ti, hlm.trans e1, e2, fun q => absurd q (by decide), H⟩
    · rw [s0_] at e2
      exact ⟨0, _, _, o, ti1, hlm.trans e1, e2, fun _ => upd0L _ _, INV_upd H rfl rfl rfl (k := 0) (three (P := fun j => j ≠ 0 → _) (fun z => absurd rfl z) (fun z => rfl) (fun z => rfl)) hS (fun _ _ => rfl) (fun _ _ => rfl) (fun _ _ => rfl) (fun _ _ => rfl) hf5⟩
  by_cases h1 : a0 = 1
  · subst h1
    have hlm : lm_setTint c f 1 a1 = lq (β := Int32 × Cls × (Nat → Int64)) (mxX4_setTint c.s1.pr c.s1.w c.s1.h a1) (fun k => if k = 1 then some (3, c, f) else if k = 2 then some (2, c, f) else if k = 3 then some (1, c, f) else none) (bnd2 (mX4_setTint c.s1.pr c.s1.ti c.s1.w c.s1.h a1) (fun o0 o1 => some (0, (mkC c.gain c.il c.ip c.ia c.ig c.is c.im c.ic c.iq c.dn c.dm c.dj c.dt c.dx c.dy c.dr c.dv c.dw c.dq c.fw c.fs c.fh c.s0 (mkS c.s1.pr c.s1.a c.s1.b c.s1.c c.s1.d c.s1.sp c.s1.mi o1 c.s1.w c.s1.s c.s1.h c.s1.va c.s1.ov c.s1.ra c.s1.ol c.s1.od c.s1.ne) c.s2), (vp_updL f ((0 : Int32).toNatClampNeg) o0.toInt64)))) := by
      unfold lm_setTint
      rw [if_neg (by decide), if_pos rfl]
    rcases SX_setTint (x := c.s1) (β := Int32 × Cls × (Nat → Int64)) (k := 1) (by omega) (HS 1 (by omega)) a1 (fun k => if k = 1 then some (3, c, f) else if k = 2 then some (2, c, f) else if k = 3 then some (1, c, f) else none) (fun o0 o1 => some (0, (mkC c.gain c.il c.ip c.ia c.ig c.is c.im c.ic c.iq c.dn c.dm c.dj c.dt c.dx c.dy c.dr c.dv c.dw c.dq c.fw c.fs c.fh c.s0 (mkS c.s1.pr c.s1.a c.s1.b c.s1.c c.s1.d c.s1.sp c.s1.mi o1 c.s1.w c.s1.s c.s1.h c.s1.va c.s1.ov c.s1.ra c.s1.ol c.s1.od c.s1.ne) c.s2), (vp_updL f ((0 : Int32).toNatClampNeg) o0.toInt64))) with ⟨kk, b, t, e1, e2, hc⟩ | ⟨o, o1, ti1, e1, e2, hS, hf5⟩
    · rw [s1_] at e2
      rcases hc with ⟨rfl, rfl⟩ | ⟨rfl, rfl⟩
      · exact ⟨3, _, _, b, ti, hlm.trans e1, e2, fun q => absurd q (by decide), H⟩
      · exact ⟨2, _, _, b, ti, hlm.trans e1, e2, fun q => absurd q (by decide), H⟩
    · rw [s1_] at e2
      exact ⟨0, _, _, o, ti1, hlm.trans e1, e2, fun _ => upd0L _ _, INV_upd H rfl rfl rfl (k := 1) (three (P := fun j => j ≠ 1 → _) (fun z => rfl) (fun z => absurd rfl z) (fun z => rfl)) hS (fun _ _ => rfl) (fun _ _ => rfl) (fun _ _ => rfl) (fun _ _ => rfl) hf5⟩
  by_cases h2 : a0 = 2
  · subst h2
    have hlm : lm_setTint c f 2 a1 = lq (β := Int32 × Cls × (Nat → Int64)) (mxX4_setTint c.s2.pr c.s2.w c.s2.h a1) (fun k => if k = 1 then some (3, c, f) else if k = 2 then some (2, c, f) else if k = 3 then some (1, c, f) else none) (bnd2 (mX4_setTint c.s2.pr c.s2.ti c.s2.w c.s2.h a1) (fun o0 o1 => some (0, (mkC c.gain c.il c.ip c.ia c.ig c.is c.im c.ic c.iq c.dn c.dm c.dj c.dt c.dx c.dy c.dr c.dv c.dw c.dq c.fw c.fs c.fh c.s0 c.s1 (mkS c.s2.pr c.s2.a c.s2.b c.s2.c c.s2.d c.s2.sp c.s2.mi o1 c.s2.w c.s2.s c.s2.h c.s2.va c.s2.ov c.s2.ra c.s2.ol c.s2.od c.s2.ne)), (vp_updL f ((0 : Int32).toNatClampNeg) o0.toInt64)))) := by
      unfold lm_setTint
      rw [if_neg (by decide), if_neg (by decide), if_pos rfl]
    rcases SX_setTint (x := c.s2) (β := Int32 × Cls × (Nat → Int64)) (k := 2) (by omega) (HS 2 (by omega)) a1 (fun k => if k = 1 then some (3, c, f) else if k = 2 then some (2, c, f) else if k = 3 then some (1, c, f) else none) (fun o0 o1 => some (0, (mkC c.gain c.il c.ip c.ia c.ig c.is c.im c.ic c.iq c.dn c.dm c.dj c.dt c.dx c.dy c.dr c.dv c.dw c.dq c.fw c.fs c.fh c.s0 c.s1 (mkS c.s2.pr c.s2.a c.s2.b c.s2.c c.s2.d c.s2.sp c.s2.mi o1 c.s2.w c.s2.s c.s2.h c.s2.va c.s2.ov c.s2.ra c.s2.ol c.s2.od c.s2.ne)), (vp_updL f ((0 : Int32).toNatClampNeg) o0.toInt64))) with ⟨kk, b, t, e1, e2, hc⟩ | ⟨o, o1, ti1, e1, e2, hS, hf5⟩
    · rw [s2_] at e2
      rcases hc with ⟨rfl, rfl⟩ | ⟨rfl, rfl⟩
      · exact ⟨3, _, _, b, ti, hlm.trans e1, e2, fun q => absurd q (by decide), H⟩
      · exact ⟨2, _, _, b, ti, hlm.trans e1, e2, fun q => absurd q (by decide), H⟩
    · rw [s2_] at e2
      exact ⟨0, _, _, o, ti1, hlm.trans e1, e2, fun _ => upd0L _ _, INV_upd H rfl rfl rfl (k := 2) (three (P := fun j => j ≠ 2 → _) (fun z => rfl) (fun z => rfl) (fun z => absurd rfl z)) hS (fun _ _ => rfl) (fun _ _ => rfl) (fun _ _ => rfl) (fun _ _ => rfl) hf5⟩
  have hlm : lm_setTint c f a0 a1 = some (1, c, f) := by
    unfold lm_setTint
    rw [if_neg h0, if_neg h1, if_neg h2]
  exact ⟨1, _, _, 0, ti, hlm, OUT_setTint h0 h1 h2 a1, fun q => absurd q (by decide), H⟩
theorem LW_screen (H : INV c th v so im ti buf gain size) (f : Nat → Int64) (a0 a1 : Int32)  (vw : Int32) (vs : Int32) (vh : Int32) :
    ∃ (r : Int32) (c' : Cls) (f' : Nat → Int64) (b : Int32) (vw' : Int32) (vs' : Int32) (vh' : Int32), lm_screen c f a0 a1 = some (r, c', f') ∧ mX5_screen vw vs vh th v so im ti a0 a1 = some (b, r, vw', vs', vh') ∧ (r = 0 → f' 0 = b.toInt64) ∧ INV c' th v so im ti buf gain size := by
  obtain ⟨HS, ⟨g, g0, g1, eg, eg'⟩, n, hn, el, el', hcb⟩ := id H
  by_cases h0 : a0 = 0
  · subst h0
    have hlm : lm_screen c f 0 a1 = lq (β := Int32 × Cls × (Nat → Int64)) (mxX4_screen c.s0.pr a1) (fun k => if k = 1 then some (2, c, f) else if k = 2 then some (3, c, f) else if k = 3 then some (1, c, f) else none) (bnd1 (mX4_screen c.s0.pr c.s0.a c.s0.b c.s0.c c.s0.d c.s0.sp c.s0.mi c.s0.ti c.s0.w c.s0.s c.s0.h a1) (fun o0 => some (0, c, (vp_updL f ((0 : Int32).toNatClampNeg) o0.toInt64)))) := by
      unfold lm_screen
      rw [if_pos rfl]
    rcases SX_screen (x := c.s0) (β := Int32 × Cls × (Nat → Int64)) (k := 0) (by omega) (HS 0 (by omega)) a1 vw vs vh (fun k => if k = 1 then some (2, c, f) else if k = 2 then some (3, c, f) else if k = 3 then some (1, c, f) else none) (fun o0 => some (0, c, (vp_updL f ((0 : Int32).toNatClampNeg) o0.toInt64))) with ⟨kk, b, t, e1, e2, hc⟩ | ⟨o, w1, w2, w3, e1, e2⟩
    · rw [s0_] at e2
      rcases hc with ⟨rfl, rfl⟩ | ⟨rfl, rfl⟩
      · exact ⟨2, _, _, b, vw, vs, vh, hlm.trans e1, e2, fun q => absurd q (by decide), H⟩
      · exact ⟨3, _, _, b, vw, vs, vh, hlm.trans e1, e2, fun q => absurd q (by decide), H⟩
    · rw [s0_] at e2
      exact ⟨0, _, _, o, w1, w2, w3, hlm.trans e1, e2, fun _ => upd0L _ _, H⟩
  by_cases h1 : a0 = 1
  · subst h1
    have hlm : lm_screen c f 1 a1 = lq (β := Int32 × Cls × (Nat → Int64)) (mxX4_screen c.s1.pr a1) (fun k => if k = 1 then some (2, c, f) else if k = 2 then some (3, c, f) else if k = 3 then some (1, c, f) else none) (bnd1 (mX4_screen c.s1.pr c.s1.a c.s1.b c.s1.c c.s1.d c.s1.sp c.s1.mi c.s1.ti c.s1.w c.s1.s c.s1.h a1) (fun o0 => some (0, c, (vp_updL f ((0 : Int32).toNatClampNeg) o0.toInt64)))) := by
      unfold lm_screen
      rw [if_neg (by decide), if_pos rfl]
    rcases SX_screen (x := c.s1) (β := Int32 × Cls × (Nat → Int64)) (k := 1) (by omega) (HS 1 (by omega)) a1 vw vs vh (fun k => if k = 1 then some (2, c, f) else if k = 2 then some (3, c, f) else if k = 3 then some (1, c, f) else none) (fun o0 => some (0, c, (vp_updL f ((0 : Int32).toNatClampNeg) o0.toInt64))) with ⟨kk, b, t, e1, e2, hc⟩ | ⟨o, w1, w2, w3, e1, e2⟩
    · rw [s1_] at e2
      rcases hc with ⟨rfl, rfl⟩ | ⟨rfl, rfl⟩
      · exact ⟨2, _, _, b, vw, vs, vh, hlm.trans e1, e2, fun q => absurd q (by decide), H⟩
      · exact ⟨3, _, _, b, vw, vs, vh, hlm.trans e1, e2, fun q => absurd q (by decide), H⟩
    · rw [s1_] at e2
      exact ⟨0, _, _, o, w1, w2, w3, hlm.trans e1, e2, fun _ => upd0L _ _, H⟩
  by_cases h2 : a0 = 2
  · subst h2
    have hlm : lm_screen c f 2 a1 = lq (β := Int32 × Cls × (Nat → Int64)) (mxX4_screen c.s2.pr a1) (fun k => if k = 1 then some (2, c, f) else if k = 2 then some (3, c, f) else if k = 3 then some (1, c, f) else none) (bnd1 (mX4_screen c.s2.pr c.s2.a c.s2.b c.s2.c c.s2.d c.s2.sp c.s2.mi c.s2.ti c.s2.w c.s2.s c.s2.h a1) (fun o0 => some (0, c, (vp_updL f ((0 : Int32).toNatClampNeg) o0.toInt64)))) := by
      unfold lm_screen
      rw [if_neg (by decide), if_neg (by decide), if_pos rfl]
    rcases SX_screen (x := c.s2) (β := Int32 × Cls × (Nat → Int64)) (k := 2) (by omega) (HS 2 (by omega)) a1 vw vs vh (fun k => if k = 1 then some (2, c, f) else if k = 2 then some (3, c, f) else if k = 3 then some (1, c, f) else none) (fun o0 => some (0, c, (vp_updL f ((0 : Int32).toNatClampNeg) o0.toInt64))) with ⟨kk, b, t, e1, e2, hc⟩ | ⟨o, w1, w2, w3, e1, e2⟩
    · rw [s2_] at e2
      rcases hc with ⟨rfl, rfl⟩ | ⟨rfl, rfl⟩
      · exact ⟨2, _, _, b, vw, vs, vh, hlm.trans e1, e2, fun q => absurd q (by decide), H⟩
      · exact ⟨3, _, _, b, vw, vs, vh, hlm.trans e1, e2, fun q => absurd q (by decide), H⟩
    · rw [s2_] at e2
      exact ⟨0, _, _, o, w1, w2, w3, hlm.trans e1, e2, fun _ => upd0L _ _, H⟩
  have hlm : lm_screen c f a0 a1 = some (1, c, f) := by
    unfold lm_screen
    rw [if_neg h0, if_neg h1, if_neg h2]
  exact ⟨1, _, _, 0, vw, vs, vh, hlm, OUT_screen h0 h1 h2 vw vs vh a1, fun q => absurd q (by decide), H⟩
theorem LW_place (H : INV c th v so im ti buf gain size) (f : Nat → Int64) (a0 a1 a2 : Int32)  (vw : Int32) (vs : Int32) (vh : Int32) :
    ∃ (r : Int32) (c' : Cls) (f' : Nat → Int64) (b : Int32) (vw' : Int32) (vs' : Int32) (vh' : Int32), lm_place c f a0 a1 a2 = some (r, c', f') ∧ mX5_place vw vs vh th v a0 a1 a2 = some (b, r, vw', vs', vh') ∧ (r = 0 → f' 0 = b.toInt64) ∧ INV c' th v so im ti buf gain size := by
  obtain ⟨HS, ⟨g, g0, g1, eg, eg'⟩, n, hn, el, el', hcb⟩ := id H
  by_cases h0 : a0 = 0
  · subst h0
    have hlm : lm_place c f 0 a1 a2 = lq (β := Int32 × Cls × (Nat → Int64)) (mxX4_place c.s0.pr a1 a2) (fun k => if k = 1 then some (2, c, f) else if k = 2 then some (3, c, f) else if k = 3 then some (1, c, f) else none) (bnd1 (mX4_place c.s0.pr c.s0.w c.s0.s c.s0.h a1 a2) (fun o0 => some (0, c, (vp_updL f ((0 : Int32).toNatClampNeg) o0.toInt64)))) := by
      unfold lm_place
      rw [if_pos rfl]
    rcases SX_place (x := c.s0) (β := Int32 × Cls × (Nat → Int64)) (k := 0) (by omega) (HS 0 (by omega)) a1 a2 vw vs vh (fun k => if k = 1 then some (2, c, f) else if k = 2 then some (3, c, f) else if k = 3 then some (1, c, f) else none) (fun o0 => some (0, c, (vp_updL f ((0 : Int32).toNatClampNeg) o0.toInt64))) with ⟨kk, b, t, e1, e2, hc⟩ | ⟨o, w1, w2, w3, e1, e2⟩
    · rw [s0_] at e2
      rcases hc with ⟨rfl, rfl⟩ | ⟨rfl, rfl⟩
      · exact ⟨2, _, _, b, vw, vs, vh, hlm.trans e1, e2, fun q => absurd q (by decide), H⟩
      · exact ⟨3, _, _, b, vw, vs, vh, hlm.trans e1, e2, fun q => absurd q (by decide), H⟩
    · rw [s0_] at e2
      exact ⟨0, _, _, o, w1, w2, w3, hlm.trans e1, e2, fun _ => upd0L _ _, H⟩
  by_cases h1 : a0 = 1
  · subst h1
    have hlm : lm_place c f 1 a1 a2 = lq (β := Int32 × Cls × (Nat → Int64)) (mxX4_place c.s1.pr a1 a2) (fun k => if k = 1 then some (2, c, f) else if k = 2 then some (3, c, f) else if k = 3 then some (1, c, f) else none) (bnd1 (mX4_place c.s1.pr c.s1.w c.s1.s c.s1.h a1 a2) (fun o0 => some (0, c, (vp_updL f ((0 : Int32).toNatClampNeg) o0.toInt64)))) := by
      unfold lm_place
      rw [if_neg (by decide), if_pos rfl]
    rcases SX_place (x := c.s1) (β := Int32 × Cls × (Nat → Int64)) (k := 1) (by omega) (HS 1 (by omega)) a1 a2 vw vs vh (fun k => if k = 1 then some (2, c, f) else if k = 2 then some (3, c, f) else if k = 3 then some (1, c, f) else none) (fun o0 => some (0, c, (vp_updL f ((0 : Int32).toNatClampNeg) o0.toInt64))) with ⟨kk, b, t, e1, e2, hc⟩ | ⟨o, w1, w2, w3, e1, e2⟩
    · rw [s1_] at e2
      rcases hc with ⟨rfl, rfl⟩ | ⟨rfl, rfl⟩
      · exact ⟨2, _, _, b, vw, vs, vh, hlm.trans e1, e2, fun q => absurd q (by decide), H⟩
      · exact ⟨3, _, _, b, vw, vs, vh, hlm.trans e1, e2, fun q => absurd q (by decide), H⟩
    · rw [s1_] at e2
      exact ⟨0, _, _, o, w1, w2, w3, hlm.trans e1, e2, fun _ => upd0L _ _, H⟩
  by_cases h2 : a0 = 2
  · subst h2
    have hlm : lm_place c f 2 a1 a2 = lq (β := Int32 × Cls × (Nat → Int64)) (mxX4_place c.s2.pr a1 a2) (fun k => if k = 1 then some (2, c, f) else if k = 2 then some (3, c, f) else if k = 3 then some (1, c, f) else none) (bnd1 (mX4_place c.s2.pr c.s2.w c.s2.s c.s2.h a1 a2) (fun o0 => some (0, c, (vp_updL f ((0 : Int32).toNatClampNeg) o0.toInt64)))) := by
      unfold lm_place
      rw [if_neg (by decide), if_neg (by decide), if_pos rfl]
    rcases SX_place (x := c.s2) (β := Int32 × Cls × (Nat → Int64)) (k := 2) (by omega) (HS 2 (by omega)) a1 a2 vw vs vh (fun k => if k = 1 then some (2, c, f) else if k = 2 then some (3, c, f) else if k = 3 then some (1, c, f) else none) (fun o0 => some (0, c, (vp_updL f ((0 : Int32).toNatClampNeg) o0.toInt64))) with ⟨kk, b, t, e1, e2, hc⟩ | ⟨o, w1, w2, w3, e1, e2⟩
    · rw [s2_] at e2
      rcases hc with ⟨rfl, rfl⟩ | ⟨rfl, rfl⟩
      · exact ⟨2, _, _, b, vw, vs, vh, hlm.trans e1, e2, fun q => absurd q (by decide), H⟩
      · exact ⟨3, _, _, b, vw, vs, vh, hlm.trans e1, e2, fun q => absurd q (by decide), H⟩
    · rw [s2_] at e2
      exact ⟨0, _, _, o, w1, w2, w3, hlm.trans e1, e2, fun _ => upd0L _ _, H⟩
  have hlm : lm_place c f a0 a1 a2 = some (1, c, f) := by
    unfold lm_place
    rw [if_neg h0, if_neg h1, if_neg h2]
  exact ⟨1, _, _, 0, vw, vs, vh, hlm, OUT_place h0 h1 h2 vw vs vh a1 a2, fun q => absurd q (by decide), H⟩
theorem LW_growth (H : INV c th v so im ti buf gain size) (f : Nat → Int64) (a0 a1 a2 : Int32)  (vw : Int32) (vs : Int32) (vh : Int32) (vl : Int32) (val : Nat → Int32) (rk : Nat → Int32) :
    ∃ (r : Int32) (c' : Cls) (f' : Nat → Int64) (b : Int32) (vw' : Int32) (vs' : Int32) (vh' : Int32) (vl' : Int32) (val' : Nat → Int32) (rk' : Nat → Int32), lm_growth c f a0 a1 a2 = some (r, c', f') ∧ mX5_growth vw vs vh vl th v so im val rk a0 a1 a2 = some (b, r, vw', vs', vh', vl', val', rk') ∧ (r = 0 → f' 0 = b.toInt64) ∧ INV c' th v so im ti buf gain size := by
  obtain ⟨HS, ⟨g, g0, g1, eg, eg'⟩, n, hn, el, el', hcb⟩ := id H
  by_cases h0 : a0 = 0
  · subst h0
    have hlm : lm_growth c f 0 a1 a2 = lq (β := Int32 × Cls × (Nat → Int64)) (mxX4_growth c.s0.pr c.s0.w c.s0.h a1 a2) (fun k => if k = 1 then some (2, c, f) else if k = 2 then some (3, c, f) else if k = 3 then some (1, c, f) else none) (bnd1 (mX4_growth c.s0.pr c.s0.w c.s0.h c.s0.va c.s0.ra a1 a2) (fun o0 => some (0, c, (vp_updL f ((0 : Int32).toNatClampNeg) o0.toInt64)))) := by
      unfold lm_growth
      rw [if_pos rfl]
    rcases SX_growth (x := c.s0) (β := Int32 × Cls × (Nat → Int64)) (k := 0) (by omega) (HS 0 (by omega)) a1 a2 vw vs vh vl val rk (fun k => if k = 1 then some (2, c, f) else if k = 2 then some (3, c, f) else if k = 3 then some (1, c, f) else none) (fun o0 => some (0, c, (vp_updL f ((0 : Int32).toNatClampNeg) o0.toInt64))) with ⟨kk, b, t, e1, e2, hc⟩ | ⟨o, w1, w2, w3, w4, w5, w6, e1, e2⟩
    · rw [s0_] at e2
      rcases hc with ⟨rfl, rfl⟩ | ⟨rfl, rfl⟩
      · exact ⟨2, _, _, b, vw, vs, vh, vl, val, rk, hlm.trans e1, e2, fun q => absurd q (by decide), H⟩
      · exact ⟨3, _, _, b, vw, vs, vh, vl, val, rk, hlm.trans e1, e2, fun q => absurd q (by decide), H⟩
    · rw [s0_] at e2
      exact ⟨0, _, _, o, w1, w2, w3, w4, w5, w6, hlm.trans e1, e2, fun _ => upd0L _ _, H⟩
  by_cases h1 : a0 = 1
  · subst h1
    have hlm : lm_growth c f 1 a1 a2 = lq (β := Int32 × Cls × (Nat → Int64)) (mxX4_growth c.s1.pr c.s1.w c.s1.h a1 a2) (fun k => if k = 1 then some (2, c, f) else if k = 2 then some (3, c, f) else if k = 3 then some (1, c, f) else none) (bnd1 (mX4_growth c.s1.pr c.s1.w c.s1.h c.s1.va c.s1.ra a1 a2) (fun o0 => some (0, c, (vp_updL f ((0 : Int32).toNatClampNeg) o0.toInt64)))) := by
      unfold lm_growth
      rw [if_neg (by decide), if_pos rfl]
    rcases SX_growth (x := c.s1) (β := Int32 × Cls × (Nat → Int64)) (k := 1) (by omega) (HS 1 (by omega)) a1 a2 vw vs vh vl val rk (fun k => if k = 1 then some (2, c, f) else if k = 2 then some (3, c, f) else if k = 3 then some (1, c, f) else none) (fun o0 => some (0, c, (vp_updL f ((0 : Int32).toNatClampNeg) o0.toInt64))) with ⟨kk, b, t, e1, e2, hc⟩ | ⟨o, w1, w2, w3, w4, w5, w6, e1, e2⟩
    · rw [s1_] at e2
      rcases hc with ⟨rfl, rfl⟩ | ⟨rfl, rfl⟩
      · exact ⟨2, _, _, b, vw, vs, vh, vl, val, rk, hlm.trans e1, e2, fun q => absurd q (by decide), H⟩
      · exact ⟨3, _, _, b, vw, vs, vh, vl, val, rk, hlm.trans e1, e2, fun q => absurd q (by decide), H⟩
    · rw [s1_] at e2
      exact ⟨0, _, _, o, w1, w2, w3, w4, w5, w6, hlm.trans e1, e2, fun _ => upd0L _ _, H⟩
  by_cases h2 : a0 = 2
  · subst h2
    have hlm : lm_growth c f 2 a1 a2 = lq (β := Int32 × Cls × (Nat → Int64)) (mxX4_growth c.s2.pr c.s2.w c.s2.h a1 a2) (fun k => if k = 1 then some (2, c, f) else if k = 2 then some (3, c, f) else if k = 3 then some (1, c, f) else none) (bnd1 (mX4_growth c.s2.pr c.s2.w c.s2.h c.s2.va c.s2.ra a1 a2) (fun o0 => some (0, c, (vp_updL f ((0 : Int32).toNatClampNeg) o0.toInt64)))) := by
      unfold lm_growth
      rw [if_neg (by decide), if_neg (by decide), if_pos rfl]
    rcases SX_growth (x := c.s2) (β := Int32 × Cls × (Nat → Int64)) (k := 2) (by omega) (HS 2 (by omega)) a1 a2 vw vs vh vl val rk (fun k => if k = 1 then some (2, c, f) else if k = 2 then some (3, c, f) else if k = 3 then some (1, c, f) else none) (fun o0 => some (0, c, (vp_updL f ((0 : Int32).toNatClampNeg) o0.toInt64))) with ⟨kk, b, t, e1, e2, hc⟩ | ⟨o, w1, w2, w3, w4, w5, w6, e1, e2⟩
    · rw [s2_] at e2
      rcases hc with ⟨rfl, rfl⟩ | ⟨rfl, rfl⟩
      · exact ⟨2, _, _, b, vw, vs, vh, vl, val, rk, hlm.trans e1, e2, fun q => absurd q (by decide), H⟩
      · exact ⟨3, _, _, b, vw, vs, vh, vl, val, rk, hlm.trans e1, e2, fun q => absurd q (by decide), H⟩
    · rw [s2_] at e2
      exact ⟨0, _, _, o, w1, w2, w3, w4, w5, w6, hlm.trans e1, e2, fun _ => upd0L _ _, H⟩
  have hlm : lm_growth c f a0 a1 a2 = some (1, c, f) := by
    unfold lm_growth
    rw [if_neg h0, if_neg h1, if_neg h2]
  exact ⟨1, _, _, 0, vw, vs, vh, vl, val, rk, hlm, OUT_growth h0 h1 h2 vw vs vh vl val rk a1 a2, fun q => absurd q (by decide), H⟩
theorem LW_placeOf (H : INV c th v so im ti buf gain size) (f : Nat → Int64) (a0 a1 : Int32)  (vw : Int32) (vs : Int32) (vh : Int32) (vl : Int32) (val : Nat → Int32) (rk : Nat → Int32) :
    ∃ (r : Int32) (c' : Cls) (f' : Nat → Int64) (b : Int32) (vw' : Int32) (vs' : Int32) (vh' : Int32) (vl' : Int32) (val' : Nat → Int32) (rk' : Nat → Int32), lm_placeOf c f a0 a1 = some (r, c', f') ∧ mX5_placeOf vw vs vh vl th v so im val rk a0 a1 = some (b, r, vw', vs', vh', vl', val', rk') ∧ (r = 0 → f' 0 = b.toInt64) ∧ INV c' th v so im ti buf gain size := by
  obtain ⟨HS, ⟨g, g0, g1, eg, eg'⟩, n, hn, el, el', hcb⟩ := id H
  by_cases h0 : a0 = 0
  · subst h0
    have hlm : lm_placeOf c f 0 a1 = lq (β := Int32 × Cls × (Nat → Int64)) (mxX4_placeOf c.s0.pr c.s0.w c.s0.h a1) (fun k => if k = 2 then some (2, c, f) else if k = 3 then some (1, c, f) else none) (bnd1 (mX4_placeOf c.s0.pr c.s0.w c.s0.h c.s0.od a1) (fun o0 => some (0, c, (vp_updL f ((0 : Int32).toNatClampNeg) o0.toInt64)))) := by
      unfold lm_placeOf
      rw [if_pos rfl]
    rcases SX_placeOf (x := c.s0) (β := Int32 × Cls × (Nat → Int64)) (k := 0) (by omega) (HS 0 (by omega)) a1 vw vs vh vl val rk (fun k => if k = 2 then some (2, c, f) else if k = 3 then some (1, c, f) else none) (fun o0 => some (0, c, (vp_updL f ((0 : Int32).toNatClampNeg) o0.toInt64))) with ⟨kk, b, t, e1, e2, hc⟩ | ⟨o, w1, w2, w3, w4, w5, w6, e1, e2⟩
    · rw [s0_] at e2
      obtain ⟨rfl, rfl⟩ := hc
      exact ⟨2, _, _, b, vw, vs, vh, vl, val, rk, hlm.trans e1, e2, fun q => absurd q (by decide), H⟩
    · rw [s0_] at e2
      exact ⟨0, _, _, o, w1, w2, w3, w4, w5, w6, hlm.trans e1, e2, fun _ => upd0L _ _, H⟩
  by_cases h1 : a0 = 1
  · subst h1
    have hlm : lm_placeOf c f 1 a1 = lq (β := Int32 × Cls × (Nat → Int64)) (mxX4_placeOf c.s1.pr c.s1.w c.s1.h a1) (fun k => if k = 2 then some (2, c, f) else if k = 3 then some (1, c, f) else none) (bnd1 (mX4_placeOf c.s1.pr c.s1.w c.s1.h c.s1.od a1) (fun o0 => some (0, c, (vp_updL f ((0 : Int32).toNatClampNeg) o0.toInt64)))) := by
      unfold lm_placeOf
      rw [if_neg (by decide), if_pos rfl]
    rcases SX_placeOf (x := c.s1) (β := Int32 × Cls × (Nat → Int64)) (k := 1) (by omega) (HS 1 (by omega)) a1 vw vs vh vl val rk (fun k => if k = 2 then some (2, c, f) else if k = 3 then some (1, c, f) else none) (fun o0 => some (0, c, (vp_updL f ((0 : Int32).toNatClampNeg) o0.toInt64))) with ⟨kk, b, t, e1, e2, hc⟩ | ⟨o, w1, w2, w3, w4, w5, w6, e1, e2⟩
    · rw [s1_] at e2
      obtain ⟨rfl, rfl⟩ := hc
      exact ⟨2, _, _, b, vw, vs, vh, vl, val, rk, hlm.trans e1, e2, fun q => absurd q (by decide), H⟩
    · rw [s1_] at e2
      exact ⟨0, _, _, o, w1, w2, w3, w4, w5, w6, hlm.trans e1, e2, fun _ => upd0L _ _, H⟩
  by_cases h2 : a0 = 2
  · subst h2
    have hlm : lm_placeOf c f 2 a1 = lq (β := Int32 × Cls × (Nat → Int64)) (mxX4_placeOf c.s2.pr c.s2.w c.s2.h a1) (fun k => if k = 2 then some (2, c, f) else if k = 3 then some (1, c, f) else none) (bnd1 (mX4_placeOf c.s2.pr c.s2.w c.s2.h c.s2.od a1) (fun o0 => some (0, c, (vp_updL f ((0 : Int32).toNatClampNeg) o0.toInt64)))) := by
      unfold lm_placeOf
      rw [if_neg (by decide), if_neg (by decide), if_pos rfl]
    rcases SX_placeOf (x := c.s2) (β := Int32 × Cls × (Nat → Int64)) (k := 2) (by omega) (HS 2 (by omega)) a1 vw vs vh vl val rk (fun k => if k = 2 then some (2, c, f) else if k = 3 then some (1, c, f) else none) (fun o0 => some (0, c, (vp_updL f ((0 : Int32).toNatClampNeg) o0.toInt64))) with ⟨kk, b, t, e1, e2, hc⟩ | ⟨o, w1, w2, w3, w4, w5, w6, e1, e2⟩
    · rw [s2_] at e2
      obtain ⟨rfl, rfl⟩ := hc
      exact ⟨2, _, _, b, vw, vs, vh, vl, val, rk, hlm.trans e1, e2, fun q => absurd q (by decide), H⟩
    · rw [s2_] at e2
      exact ⟨0, _, _, o, w1, w2, w3, w4, w5, w6, hlm.trans e1, e2, fun _ => upd0L _ _, H⟩
  have hlm : lm_placeOf c f a0 a1 = some (1, c, f) := by
    unfold lm_placeOf
    rw [if_neg h0, if_neg h1, if_neg h2]
  exact ⟨1, _, _, 0, vw, vs, vh, vl, val, rk, hlm, OUT_placeOf h0 h1 h2 vw vs vh vl val rk a1, fun q => absurd q (by decide), H⟩
theorem LW_inked (H : INV c th v so im ti buf gain size) (f : Nat → Int64) (a0 a1 a2 a3 a4 : Int32)  (vw : Int32) (vs : Int32) (vh : Int32) (vl : Int32) (val : Nat → Int32) (rk : Nat → Int32) (aR : Nat → Int32) (ba : Nat → Int32) :
    ∃ (r : Int32) (c' : Cls) (f' : Nat → Int64) (b : Int32) (vw' : Int32) (vs' : Int32) (vh' : Int32) (vl' : Int32) (val' : Nat → Int32) (rk' : Nat → Int32) (aR' : Nat → Int32) (ba' : Nat → Int32), lm_inked c f a0 a1 a2 a3 a4 = some (r, c', f') ∧ mX5_inked vw vs vh vl th v so im ti val rk aR ba a0 a1 a2 a3 a4 = some (b, r, vw', vs', vh', vl', val', rk', aR', ba') ∧ (r = 0 → f' 0 = b.toInt64) ∧ INV c' th v so im ti buf gain size := by
  obtain ⟨HS, ⟨g, g0, g1, eg, eg'⟩, n, hn, el, el', hcb⟩ := id H
  obtain ⟨D, P⟩ := AllSI.data HS
  by_cases h0 : a0 = 0
  · subst h0
    have hlm : lm_inked c f 0 a1 a2 a3 a4 = lq (β := Int32 × Cls × (Nat → Int64)) (mxX4_inked c.s0.pr a1 a2 a3 a4) (fun k => if k = 1 then some (2, c, f) else if k = 2 then some (3, c, f) else if k = 3 then some (1, c, f) else none) (bnd1 (mX4_inked c.s0.pr c.s0.ti c.s0.w c.s0.s c.s0.h c.s0.ra a1 a2 a3 a4) (fun o0 => some (0, c, (vp_updL f ((0 : Int32).toNatClampNeg) o0.toInt64)))) := by
      unfold lm_inked
      rw [if_pos rfl]
    rcases SX_inked (β := Int32 × Cls × (Nat → Int64)) P HS (k := 0) (by omega) a1 a2 a3 a4 vw vs vh vl val rk aR ba (fun k => if k = 1 then some (2, c, f) else if k = 2 then some (3, c, f) else if k = 3 then some (1, c, f) else none) (fun o0 => some (0, c, (vp_updL f ((0 : Int32).toNatClampNeg) o0.toInt64))) with ⟨kk, b, t, e1, e2, hc⟩ | ⟨o, w1, w2, w3, w4, w5, w6, w7, w8, e1, e2⟩
    · rw [s0_] at e2
      rcases hc with ⟨rfl, rfl⟩ | ⟨rfl, rfl⟩
      · exact ⟨2, _, _, b, vw, vs, vh, vl, val, rk, aR, ba, hlm.trans e1, e2, fun q => absurd q (by decide), H⟩
      · exact ⟨3, _, _, b, vw, vs, vh, vl, val, rk, aR, ba, hlm.trans e1, e2, fun q => absurd q (by decide), H⟩
    · rw [s0_] at e2
      exact ⟨0, _, _, o, w1, w2, w3, w4, w5, w6, w7, w8, hlm.trans e1, e2, fun _ => upd0L _ _, H⟩
  by_cases h1 : a0 = 1
  · subst h1
    have hlm : lm_inked c f 1 a1 a2 a3 a4 = lq (β := Int32 × Cls × (Nat → Int64)) (mxX4_inked c.s1.pr a1 a2 a3 a4) (fun k => if k = 1 then some (2, c, f) else if k = 2 then some (3, c, f) else if k = 3 then some (1, c, f) else none) (bnd1 (mX4_inked c.s1.pr c.s1.ti c.s1.w c.s1.s c.s1.h c.s1.ra a1 a2 a3 a4) (fun o0 => some (0, c, (vp_updL f ((0 : Int32).toNatClampNeg) o0.toInt64)))) := by
      unfold lm_inked
      rw [if_neg (by decide), if_pos rfl]
    rcases SX_inked (β := Int32 × Cls × (Nat → Int64)) P HS (k := 1) (by omega) a1 a2 a3 a4 vw vs vh vl val rk aR ba (fun k => if k = 1 then some (2, c, f) else if k = 2 then some (3, c, f) else if k = 3 then some (1, c, f) else none) (fun o0 => some (0, c, (vp_updL f ((0 : Int32).toNatClampNeg) o0.toInt64))) with ⟨kk, b, t, e1, e2, hc⟩ | ⟨o, w1, w2, w3, w4, w5, w6, w7, w8, e1, e2⟩
    · rw [s1_] at e2
      rcases hc with ⟨rfl, rfl⟩ | ⟨rfl, rfl⟩
      · exact ⟨2, _, _, b, vw, vs, vh, vl, val, rk, aR, ba, hlm.trans e1, e2, fun q => absurd q (by decide), H⟩
      · exact ⟨3, _, _, b, vw, vs, vh, vl, val, rk, aR, ba, hlm.trans e1, e2, fun q => absurd q (by decide), H⟩
    · rw [s1_] at e2
      exact ⟨0, _, _, o, w1, w2, w3, w4, w5, w6, w7, w8, hlm.trans e1, e2, fun _ => upd0L _ _, H⟩
  by_cases h2 : a0 = 2
  · subst h2
    have hlm : lm_inked c f 2 a1 a2 a3 a4 = lq (β := Int32 × Cls × (Nat → Int64)) (mxX4_inked c.s2.pr a1 a2 a3 a4) (fun k => if k = 1 then some (2, c, f) else if k = 2 then some (3, c, f) else if k = 3 then some (1, c, f) else none) (bnd1 (mX4_inked c.s2.pr c.s2.ti c.s2.w c.s2.s c.s2.h c.s2.ra a1 a2 a3 a4) (fun o0 => some (0, c, (vp_updL f ((0 : Int32).toNatClampNeg) o0.toInt64)))) := by
      unfold lm_inked
      rw [if_neg (by decide), if_neg (by decide), if_pos rfl]
    rcases SX_inked (β := Int32 × Cls × (Nat → Int64)) P HS (k := 2) (by omega) a1 a2 a3 a4 vw vs vh vl val rk aR ba (fun k => if k = 1 then some (2, c, f) else if k = 2 then some (3, c, f) else if k = 3 then some (1, c, f) else none) (fun o0 => some (0, c, (vp_updL f ((0 : Int32).toNatClampNeg) o0.toInt64))) with ⟨kk, b, t, e1, e2, hc⟩ | ⟨o, w1, w2, w3, w4, w5, w6, w7, w8, e1, e2⟩
    · rw [s2_] at e2
      rcases hc with ⟨rfl, rfl⟩ | ⟨rfl, rfl⟩
      · exact ⟨2, _, _, b, vw, vs, vh, vl, val, rk, aR, ba, hlm.trans e1, e2, fun q => absurd q (by decide), H⟩
      · exact ⟨3, _, _, b, vw, vs, vh, vl, val, rk, aR, ba, hlm.trans e1, e2, fun q => absurd q (by decide), H⟩
    · rw [s2_] at e2
      exact ⟨0, _, _, o, w1, w2, w3, w4, w5, w6, w7, w8, hlm.trans e1, e2, fun _ => upd0L _ _, H⟩
  have hlm : lm_inked c f a0 a1 a2 a3 a4 = some (1, c, f) := by
    unfold lm_inked
    rw [if_neg h0, if_neg h1, if_neg h2]
  exact ⟨1, _, _, 0, vw, vs, vh, vl, val, rk, aR, ba, hlm, OUT_inked h0 h1 h2 vw vs vh vl val rk aR ba a1 a2 a3 a4, fun q => absurd q (by decide), H⟩
theorem LW_dots (H : INV c th v so im ti buf gain size) (f : Nat → Int64) (a0 a1 : Int32)  (vw : Int32) (vs : Int32) (vh : Int32) (vl : Int32) (u1 : Int32) (u2 : Int32) (u3 : Int32) (u4 : Int32) (u5 : Int32) (u6 : Int32) (val : Nat → Int32) (rk : Nat → Int32) (u7 : Nat → Int32) (u8 : Nat → Int32) (u9 : Nat → Int32) (u10 : Nat → Int32) :
    ∃ (r : Int32) (c' : Cls) (f' : Nat → Int64) (b : Int32) (vw' : Int32) (vs' : Int32) (vh' : Int32) (vl' : Int32) (u1' : Int32) (u2' : Int32) (u3' : Int32) (u4' : Int32) (u5' : Int32) (u6' : Int32) (val' : Nat → Int32) (rk' : Nat → Int32) (u7' : Nat → Int32) (u8' : Nat → Int32) (u9' : Nat → Int32) (u10' : Nat → Int32), lm_dots c f a0 a1 = some (r, c', f') ∧ mX5_dots vw vs vh vl u1 u2 u3 u4 u5 u6 th v so im val rk u7 u8 u9 u10 a0 a1 = some (b, r, vw', vs', vh', vl', u1', u2', u3', u4', u5', u6', val', rk', u7', u8', u9', u10') ∧ (r = 0 → f' 0 = b.toInt64) ∧ INV c' th v so im ti buf gain size := by
  obtain ⟨HS, ⟨g, g0, g1, eg, eg'⟩, n, hn, el, el', hcb⟩ := id H
  by_cases h0 : a0 = 0
  · subst h0
    have hlm : lm_dots c f 0 a1 = lq (β := Int32 × Cls × (Nat → Int64)) (mxX4_dots c.s0.pr c.s0.w c.s0.h a1) (fun k => if k = 1 then some (3, c, f) else if k = 2 then some (2, c, f) else if k = 3 then some (1, c, f) else none) (bnd11 (mX4_dots c.dn c.dt c.dx c.dy c.dr c.dv c.dw c.dq c.s0.pr c.s0.w c.s0.h c.s0.ra c.s0.ne a1) (fun o0 o1 o2 o3 o4 o5 o6 o7 o8 o9 o10 => some (0, (mkC c.gain c.il c.ip c.ia c.ig c.is c.im c.ic c.iq o1 o2 o3 o4 o5 o6 o7 o8 o9 o10 c.fw c.fs c.fh c.s0 c.s1 c.s2), (vp_updL f ((0 : Int32).toNatClampNeg) o0.toInt64)))) := by
      unfold lm_dots
      rw [if_pos rfl]
    rcases SX_dots (x := c.s0) (β := Int32 × Cls × (Nat → Int64)) (k := 0) (by omega) (HS 0 (by omega)) a1 c.dn c.dt c.dx c.dy c.dr c.dv c.dw c.dq vw vs vh vl u1 u2 u3 u4 u5 u6 val rk u7 u8 u9 u10 (fun k => if k = 1 then some (3, c, f) else if k = 2 then some (2, c, f) else if k = 3 then some (1, c, f) else none) (fun o0 o1 o2 o3 o4 o5 o6 o7 o8 o9 o10 => some (0, (mkC c.gain c.il c.ip c.ia c.ig c.is c.im c.ic c.iq o1 o2 o3 o4 o5 o6 o7 o8 o9 o10 c.fw c.fs c.fh c.s0 c.s1 c.s2), (vp_updL f ((0 : Int32).toNatClampNeg) o0.toInt64))) with ⟨kk, b, t, e1, e2, hc⟩ | ⟨o, o1, o2, o3, o4, o5, o6, o7, o8, o9, o10, w1, w2, w3, w4, w5, w6, w7, w8, w9, w10, z1, z2, z3, z4, z5, z6, e1, e2⟩
    · rw [s0_] at e2
      rcases hc with ⟨rfl, rfl⟩ | ⟨rfl, rfl⟩
      · exact ⟨3, _, _, b, vw, vs, vh, vl, u1, u2, u3, u4, u5, u6, val, rk, u7, u8, u9, u10, hlm.trans e1, e2, fun q => absurd q (by decide), H⟩
      · exact ⟨2, _, _, b, vw, vs, vh, vl, u1, u2, u3, u4, u5, u6, val, rk, u7, u8, u9, u10, hlm.trans e1, e2, fun q => absurd q (by decide), H⟩
    · rw [s0_] at e2
      exact ⟨0, _, _, o, w1, w2, w3, w4, w5, w6, w7, w8, w9, w10, z1, z2, z3, z4, z5, z6, hlm.trans e1, e2, fun _ => upd0L _ _, INV_keep H rfl rfl rfl rfl rfl rfl⟩
  by_cases h1 : a0 = 1
  · subst h1
    have hlm : lm_dots c f 1 a1 = lq (β := Int32 × Cls × (Nat → Int64)) (mxX4_dots c.s1.pr c.s1.w c.s1.h a1) (fun k => if k = 1 then some (3, c, f) else if k = 2 then some (2, c, f) else if k = 3 then some (1, c, f) else none) (bnd11 (mX4_dots c.dn c.dt c.dx c.dy c.dr c.dv c.dw c.dq c.s1.pr c.s1.w c.s1.h c.s1.ra c.s1.ne a1) (fun o0 o1 o2 o3 o4 o5 o6 o7 o8 o9 o10 => some (0, (mkC c.gain c.il c.ip c.ia c.ig c.is c.im c.ic c.iq o1 o2 o3 o4 o5 o6 o7 o8 o9 o10 c.fw c.fs c.fh c.s0 c.s1 c.s2), (vp_updL f ((0 : Int32).toNatClampNeg) o0.toInt64)))) := by
      unfold lm_dots
      rw [if_neg (by decide), if_pos rfl]
    rcases SX_dots (x := c.s1) (β := Int32 × Cls × (Nat → Int64)) (k := 1) (by omega) (HS 1 (by omega)) a1 c.dn c.dt c.dx c.dy c.dr c.dv c.dw c.dq vw vs vh vl u1 u2 u3 u4 u5 u6 val rk u7 u8 u9 u10 (fun k => if k = 1 then some (3, c, f) else if k = 2 then some (2, c, f) else if k = 3 then some (1, c, f) else none) (fun o0 o1 o2 o3 o4 o5 o6 o7 o8 o9 o10 => some (0, (mkC c.gain c.il c.ip c.ia c.ig c.is c.im c.ic c.iq o1 o2 o3 o4 o5 o6 o7 o8 o9 o10 c.fw c.fs c.fh c.s0 c.s1 c.s2), (vp_updL f ((0 : Int32).toNatClampNeg) o0.toInt64))) with ⟨kk, b, t, e1, e2, hc⟩ | ⟨o, o1, o2, o3, o4, o5, o6, o7, o8, o9, o10, w1, w2, w3, w4, w5, w6, w7, w8, w9, w10, z1, z2, z3, z4, z5, z6, e1, e2⟩
    · rw [s1_] at e2
      rcases hc with ⟨rfl, rfl⟩ | ⟨rfl, rfl⟩
      · exact ⟨3, _, _, b, vw, vs, vh, vl, u1, u2, u3, u4, u5, u6, val, rk, u7, u8, u9, u10, hlm.trans e1, e2, fun q => absurd q (by decide), H⟩
      · exact ⟨2, _, _, b, vw, vs, vh, vl, u1, u2, u3, u4, u5, u6, val, rk, u7, u8, u9, u10, hlm.trans e1, e2, fun q => absurd q (by decide), H⟩
    · rw [s1_] at e2
      exact ⟨0, _, _, o, w1, w2, w3, w4, w5, w6, w7, w8, w9, w10, z1, z2, z3, z4, z5, z6, hlm.trans e1, e2, fun _ => upd0L _ _, INV_keep H rfl rfl rfl rfl rfl rfl⟩
  by_cases h2 : a0 = 2
  · subst h2
    have hlm : lm_dots c f 2 a1 = lq (β := Int32 × Cls × (Nat → Int64)) (mxX4_dots c.s2.pr c.s2.w c.s2.h a1) (fun k => if k = 1 then some (3, c, f) else if k = 2 then some (2, c, f) else if k = 3 then some (1, c, f) else none) (bnd11 (mX4_dots c.dn c.dt c.dx c.dy c.dr c.dv c.dw c.dq c.s2.pr c.s2.w c.s2.h c.s2.ra c.s2.ne a1) (fun o0 o1 o2 o3 o4 o5 o6 o7 o8 o9 o10 => some (0, (mkC c.gain c.il c.ip c.ia c.ig c.is c.im c.ic c.iq o1 o2 o3 o4 o5 o6 o7 o8 o9 o10 c.fw c.fs c.fh c.s0 c.s1 c.s2), (vp_updL f ((0 : Int32).toNatClampNeg) o0.toInt64)))) := by
      unfold lm_dots
      rw [if_neg (by decide), if_neg (by decide), if_pos rfl]
    rcases SX_dots (x := c.s2) (β := Int32 × Cls × (Nat → Int64)) (k := 2) (by omega) (HS 2 (by omega)) a1 c.dn c.dt c.dx c.dy c.dr c.dv c.dw c.dq vw vs vh vl u1 u2 u3 u4 u5 u6 val rk u7 u8 u9 u10 (fun k => if k = 1 then some (3, c, f) else if k = 2 then some (2, c, f) else if k = 3 then some (1, c, f) else none) (fun o0 o1 o2 o3 o4 o5 o6 o7 o8 o9 o10 => some (0, (mkC c.gain c.il c.ip c.ia c.ig c.is c.im c.ic c.iq o1 o2 o3 o4 o5 o6 o7 o8 o9 o10 c.fw c.fs c.fh c.s0 c.s1 c.s2), (vp_updL f ((0 : Int32).toNatClampNeg) o0.toInt64))) with ⟨kk, b, t, e1, e2, hc⟩ | ⟨o, o1, o2, o3, o4, o5, o6, o7, o8, o9, o10, w1, w2, w3, w4, w5, w6, w7, w8, w9, w10, z1, z2, z3, z4, z5, z6, e1, e2⟩
    · rw [s2_] at e2
      rcases hc with ⟨rfl, rfl⟩ | ⟨rfl, rfl⟩
      · exact ⟨3, _, _, b, vw, vs, vh, vl, u1, u2, u3, u4, u5, u6, val, rk, u7, u8, u9, u10, hlm.trans e1, e2, fun q => absurd q (by decide), H⟩
      · exact ⟨2, _, _, b, vw, vs, vh, vl, u1, u2, u3, u4, u5, u6, val, rk, u7, u8, u9, u10, hlm.trans e1, e2, fun q => absurd q (by decide), H⟩
    · rw [s2_] at e2
      exact ⟨0, _, _, o, w1, w2, w3, w4, w5, w6, w7, w8, w9, w10, z1, z2, z3, z4, z5, z6, hlm.trans e1, e2, fun _ => upd0L _ _, INV_keep H rfl rfl rfl rfl rfl rfl⟩
  have hlm : lm_dots c f a0 a1 = some (1, c, f) := by
    unfold lm_dots
    rw [if_neg h0, if_neg h1, if_neg h2]
  exact ⟨1, _, _, 0, vw, vs, vh, vl, u1, u2, u3, u4, u5, u6, val, rk, u7, u8, u9, u10, hlm, OUT_dots h0 h1 h2 vw vs vh vl u1 u2 u3 u4 u5 u6 val rk u7 u8 u9 u10 a1, fun q => absurd q (by decide), H⟩
theorem LW_joined (H : INV c th v so im ti buf gain size) (f : Nat → Int64) (a0 a1 : Int32)  (vw : Int32) (vs : Int32) (vh : Int32) (vl : Int32) (u1 : Int32) (u2 : Int32) (u3 : Int32) (u4 : Int32) (u5 : Int32) (u6 : Int32) (val : Nat → Int32) (rk : Nat → Int32) (u7 : Nat → Int32) (u8 : Nat → Int32) (u9 : Nat → Int32) (u10 : Nat → Int32) :
    ∃ (r : Int32) (c' : Cls) (f' : Nat → Int64) (b : Int32) (vw' : Int32) (vs' : Int32) (vh' : Int32) (vl' : Int32) (u1' : Int32) (u2' : Int32) (u3' : Int32) (u4' : Int32) (u5' : Int32) (u6' : Int32) (val' : Nat → Int32) (rk' : Nat → Int32) (u7' : Nat → Int32) (u8' : Nat → Int32) (u9' : Nat → Int32) (u10' : Nat → Int32), lm_joined c f a0 a1 = some (r, c', f') ∧ mX5_joined vw vs vh vl u1 u2 u3 u4 u5 u6 th v so im val rk u7 u8 u9 u10 a0 a1 = some (b, r, vw', vs', vh', vl', u1', u2', u3', u4', u5', u6', val', rk', u7', u8', u9', u10') ∧ (r = 0 → f' 0 = b.toInt64) ∧ INV c' th v so im ti buf gain size := by
  obtain ⟨HS, ⟨g, g0, g1, eg, eg'⟩, n, hn, el, el', hcb⟩ := id H
  by_cases h0 : a0 = 0
  · subst h0
    have hlm : lm_joined c f 0 a1 = lq (β := Int32 × Cls × (Nat → Int64)) (mxX4_joined c.s0.pr c.s0.w c.s0.h a1) (fun k => if k = 1 then some (3, c, f) else if k = 2 then some (2, c, f) else if k = 3 then some (1, c, f) else none) (bnd11 (mX4_joined c.dn c.dt c.dx c.dy c.dr c.dv c.dw c.dq c.s0.pr c.s0.w c.s0.h c.s0.ra c.s0.ne a1) (fun o0 o1 o2 o3 o4 o5 o6 o7 o8 o9 o10 => some (0, (mkC c.gain c.il c.ip c.ia c.ig c.is c.im c.ic c.iq o1 o2 o3 o4 o5 o6 o7 o8 o9 o10 c.fw c.fs c.fh c.s0 c.s1 c.s2), (vp_updL f ((0 : Int32).toNatClampNeg) o0.toInt64)))) := by
      unfold lm_joined
      rw [if_pos rfl]
    rcases SX_joined (x := c.s0) (β := Int32 × Cls × (Nat → Int64)) (k := 0) (by omega) (HS 0 (by omega)) a1 c.dn c.dt c.dx c.dy c.dr c.dv c.dw c.dq vw vs vh vl u1 u2 u3 u4 u5 u6 val rk u7 u8 u9 u10 (fun k => if k = 1 then some (3, c, f) else if k = 2 then some (2, c, f) else if k = 3 then some (1, c, f) else none) (fun o0 o1 o2 o3 o4 o5 o6 o7 o8 o9 o10 => some (0, (mkC c.gain c.il c.ip c.ia c.ig c.is c.im c.ic c.iq o1 o2 o3 o4 o5 o6 o7 o8 o9 o10 c.fw c.fs c.fh c.s0 c.s1 c.s2), (vp_updL f ((0 : Int32).toNatClampNeg) o0.toInt64))) with ⟨kk, b, t, e1, e2, hc⟩ | ⟨o, o1, o2, o3, o4, o5, o6, o7, o8, o9, o10, w1, w2, w3, w4, w5, w6, w7, w8, w9, w10, z1, z2, z3, z4, z5, z6, e1, e2⟩
    · rw [s0_] at e2
      rcases hc with ⟨rfl, rfl⟩ | ⟨rfl, rfl⟩
      · exact ⟨3, _, _, b, vw, vs, vh, vl, u1, u2, u3, u4, u5, u6, val, rk, u7, u8, u9, u10, hlm.trans e1, e2, fun q => absurd q (by decide), H⟩
      · exact ⟨2, _, _, b, vw, vs, vh, vl, u1, u2, u3, u4, u5, u6, val, rk, u7, u8, u9, u10, hlm.trans e1, e2, fun q => absurd q (by decide), H⟩
    · rw [s0_] at e2
      exact ⟨0, _, _, o, w1, w2, w3, w4, w5, w6, w7, w8, w9, w10, z1, z2, z3, z4, z5, z6, hlm.trans e1, e2, fun _ => upd0L _ _, INV_keep H rfl rfl rfl rfl rfl rfl⟩
  by_cases h1 : a0 = 1
  · subst h1
    have hlm : lm_joined c f 1 a1 = lq (β := Int32 × Cls × (Nat → Int64)) (mxX4_joined c.s1.pr c.s1.w c.s1.h a1) (fun k => if k = 1 then some (3, c, f) else if k = 2 then some (2, c, f) else if k = 3 then some (1, c, f) else none) (bnd11 (mX4_joined c.dn c.dt c.dx c.dy c.dr c.dv c.dw c.dq c.s1.pr c.s1.w c.s1.h c.s1.ra c.s1.ne a1) (fun o0 o1 o2 o3 o4 o5 o6 o7 o8 o9 o10 => some (0, (mkC c.gain c.il c.ip c.ia c.ig c.is c.im c.ic c.iq o1 o2 o3 o4 o5 o6 o7 o8 o9 o10 c.fw c.fs c.fh c.s0 c.s1 c.s2), (vp_updL f ((0 : Int32).toNatClampNeg) o0.toInt64)))) := by
      unfold lm_joined
      rw [if_neg (by decide), if_pos rfl]
    rcases SX_joined (x := c.s1) (β := Int32 × Cls × (Nat → Int64)) (k := 1) (by omega) (HS 1 (by omega)) a1 c.dn c.dt c.dx c.dy c.dr c.dv c.dw c.dq vw vs vh vl u1 u2 u3 u4 u5 u6 val rk u7 u8 u9 u10 (fun k => if k = 1 then some (3, c, f) else if k = 2 then some (2, c, f) else if k = 3 then some (1, c, f) else none) (fun o0 o1 o2 o3 o4 o5 o6 o7 o8 o9 o10 => some (0, (mkC c.gain c.il c.ip c.ia c.ig c.is c.im c.ic c.iq o1 o2 o3 o4 o5 o6 o7 o8 o9 o10 c.fw c.fs c.fh c.s0 c.s1 c.s2), (vp_updL f ((0 : Int32).toNatClampNeg) o0.toInt64))) with ⟨kk, b, t, e1, e2, hc⟩ | ⟨o, o1, o2, o3, o4, o5, o6, o7, o8, o9, o10, w1, w2, w3, w4, w5, w6, w7, w8, w9, w10, z1, z2, z3, z4, z5, z6, e1, e2⟩
    · rw [s1_] at e2
      rcases hc with ⟨rfl, rfl⟩ | ⟨rfl, rfl⟩
      · exact ⟨3, _, _, b, vw, vs, vh, vl, u1, u2, u3, u4, u5, u6, val, rk, u7, u8, u9, u10, hlm.trans e1, e2, fun q => absurd q (by decide), H⟩
      · exact ⟨2, _, _, b, vw, vs, vh, vl, u1, u2, u3, u4, u5, u6, val, rk, u7, u8, u9, u10, hlm.trans e1, e2, fun q => absurd q (by decide), H⟩
    · rw [s1_] at e2
      exact ⟨0, _, _, o, w1, w2, w3, w4, w5, w6, w7, w8, w9, w10, z1, z2, z3, z4, z5, z6, hlm.trans e1, e2, fun _ => upd0L _ _, INV_keep H rfl rfl rfl rfl rfl rfl⟩
  by_cases h2 : a0 = 2
  · subst h2
    have hlm : lm_joined c f 2 a1 = lq (β := Int32 × Cls × (Nat → Int64)) (mxX4_joined c.s2.pr c.s2.w c.s2.h a1) (fun k => if k = 1 then some (3, c, f) else if k = 2 then some (2, c, f) else if k = 3 then some (1, c, f) else none) (bnd11 (mX4_joined c.dn c.dt c.dx c.dy c.dr c.dv c.dw c.dq c.s2.pr c.s2.w c.s2.h c.s2.ra c.s2.ne a1) (fun o0 o1 o2 o3 o4 o5 o6 o7 o8 o9 o10 => some (0, (mkC c.gain c.il c.ip c.ia c.ig c.is c.im c.ic c.iq o1 o2 o3 o4 o5 o6 o7 o8 o9 o10 c.fw c.fs c.fh c.s0 c.s1 c.s2), (vp_updL f ((0 : Int32).toNatClampNeg) o0.toInt64)))) := by
      unfold lm_joined
      rw [if_neg (by decide), if_neg (by decide), if_pos rfl]
    rcases SX_joined (x := c.s2) (β := Int32 × Cls × (Nat → Int64)) (k := 2) (by omega) (HS 2 (by omega)) a1 c.dn c.dt c.dx c.dy c.dr c.dv c.dw c.dq vw vs vh vl u1 u2 u3 u4 u5 u6 val rk u7 u8 u9 u10 (fun k => if k = 1 then some (3, c, f) else if k = 2 then some (2, c, f) else if k = 3 then some (1, c, f) else none) (fun o0 o1 o2 o3 o4 o5 o6 o7 o8 o9 o10 => some (0, (mkC c.gain c.il c.ip c.ia c.ig c.is c.im c.ic c.iq o1 o2 o3 o4 o5 o6 o7 o8 o9 o10 c.fw c.fs c.fh c.s0 c.s1 c.s2), (vp_updL f ((0 : Int32).toNatClampNeg) o0.toInt64))) with ⟨kk, b, t, e1, e2, hc⟩ | ⟨o, o1, o2, o3, o4, o5, o6, o7, o8, o9, o10, w1, w2, w3, w4, w5, w6, w7, w8, w9, w10, z1, z2, z3, z4, z5, z6, e1, e2⟩
    · rw [s2_] at e2
      rcases hc with ⟨rfl, rfl⟩ | ⟨rfl, rfl⟩
      · exact ⟨3, _, _, b, vw, vs, vh, vl, u1, u2, u3, u4, u5, u6, val, rk, u7, u8, u9, u10, hlm.trans e1, e2, fun q => absurd q (by decide), H⟩
      · exact ⟨2, _, _, b, vw, vs, vh, vl, u1, u2, u3, u4, u5, u6, val, rk, u7, u8, u9, u10, hlm.trans e1, e2, fun q => absurd q (by decide), H⟩
    · rw [s2_] at e2
      exact ⟨0, _, _, o, w1, w2, w3, w4, w5, w6, w7, w8, w9, w10, z1, z2, z3, z4, z5, z6, hlm.trans e1, e2, fun _ => upd0L _ _, INV_keep H rfl rfl rfl rfl rfl rfl⟩
  have hlm : lm_joined c f a0 a1 = some (1, c, f) := by
    unfold lm_joined
    rw [if_neg h0, if_neg h1, if_neg h2]
  exact ⟨1, _, _, 0, vw, vs, vh, vl, u1, u2, u3, u4, u5, u6, val, rk, u7, u8, u9, u10, hlm, OUT_joined h0 h1 h2 vw vs vh vl u1 u2 u3 u4 u5 u6 val rk u7 u8 u9 u10 a1, fun q => absurd q (by decide), H⟩
theorem LW_firstJoined (H : INV c th v so im ti buf gain size) (f : Nat → Int64) (a0 a1 : Int32)  (vw : Int32) (vs : Int32) (vh : Int32) (vl : Int32) (u1 : Int32) (u2 : Int32) (u3 : Int32) (u4 : Int32) (u5 : Int32) (u6 : Int32) (val : Nat → Int32) (rk : Nat → Int32) (u7 : Nat → Int32) (u8 : Nat → Int32) (u9 : Nat → Int32) (u10 : Nat → Int32) :
    ∃ (r : Int32) (c' : Cls) (f' : Nat → Int64) (b : Int32) (vw' : Int32) (vs' : Int32) (vh' : Int32) (vl' : Int32) (u1' : Int32) (u2' : Int32) (u3' : Int32) (u4' : Int32) (u5' : Int32) (u6' : Int32) (val' : Nat → Int32) (rk' : Nat → Int32) (u7' : Nat → Int32) (u8' : Nat → Int32) (u9' : Nat → Int32) (u10' : Nat → Int32), lm_firstJoined c f a0 a1 = some (r, c', f') ∧ mX5_firstJoined vw vs vh vl u1 u2 u3 u4 u5 u6 th v so im val rk u7 u8 u9 u10 a0 a1 = some (b, r, vw', vs', vh', vl', u1', u2', u3', u4', u5', u6', val', rk', u7', u8', u9', u10') ∧ (r = 0 → f' 0 = b.toInt64) ∧ INV c' th v so im ti buf gain size := by
  obtain ⟨HS, ⟨g, g0, g1, eg, eg'⟩, n, hn, el, el', hcb⟩ := id H
  by_cases h0 : a0 = 0
  · subst h0
    have hlm : lm_firstJoined c f 0 a1 = lq (β := Int32 × Cls × (Nat → Int64)) (mxX4_firstJoined c.s0.pr a1) (fun k => if k = 1 then some (2, c, f) else if k = 2 then some (3, c, f) else if k = 3 then some (1, c, f) else none) (bnd11 (mX4_firstJoined c.dn c.dm c.dj c.dt c.dx c.dy c.dr c.dv c.dw c.dq c.s0.pr c.s0.w c.s0.h c.s0.ra c.s0.ne a1) (fun o0 o1 o2 o3 o4 o5 o6 o7 o8 o9 o10 => some (0, (mkC c.gain c.il c.ip c.ia c.ig c.is c.im c.ic c.iq o1 o2 o3 o4 o5 o6 o7 o8 o9 o10 c.fw c.fs c.fh c.s0 c.s1 c.s2), (vp_updL f ((0 : Int32).toNatClampNeg) o0.toInt64)))) := by
      unfold lm_firstJoined
      rw [if_pos rfl]
    rcases SX_first (x := c.s0) (β := Int32 × Cls × (Nat → Int64)) (k := 0) (by omega) (HS 0 (by omega)) a1 c.dn c.dm c.dj c.dt c.dx c.dy c.dr c.dv c.dw c.dq vw vs vh vl u1 u2 u3 u4 u5 u6 val rk u7 u8 u9 u10 (fun k => if k = 1 then some (2, c, f) else if k = 2 then some (3, c, f) else if k = 3 then some (1, c, f) else none) (fun o0 o1 o2 o3 o4 o5 o6 o7 o8 o9 o10 => some (0, (mkC c.gain c.il c.ip c.ia c.ig c.is c.im c.ic c.iq o1 o2 o3 o4 o5 o6 o7 o8 o9 o10 c.fw c.fs c.fh c.s0 c.s1 c.s2), (vp_updL f ((0 : Int32).toNatClampNeg) o0.toInt64))) with ⟨kk, b, t, e1, e2, hc⟩ | ⟨o, o1, o2, o3, o4, o5, o6, o7, o8, o9, o10, w1, w2, w3, w4, w5, w6, w7, w8, w9, w10, z1, z2, z3, z4, z5, z6, e1, e2⟩
    · rw [s0_] at e2
      rcases hc with ⟨rfl, rfl⟩ | ⟨rfl, rfl⟩
      · exact ⟨2, _, _, b, vw, vs, vh, vl, u1, u2, u3, u4, u5, u6, val, rk, u7, u8, u9, u10, hlm.trans e1, e2, fun q => absurd q (by decide), H⟩
      · exact ⟨3, _, _, b, vw, vs, vh, vl, u1, u2, u3, u4, u5, u6, val, rk, u7, u8, u9, u10, hlm.trans e1, e2, fun q => absurd q (by decide), H⟩
    · rw [s0_] at e2
      exact ⟨0, _, _, o, w1, w2, w3, w4, w5, w6, w7, w8, w9, w10, z1, z2, z3, z4, z5, z6, hlm.trans e1, e2, fun _ => upd0L _ _, INV_keep H rfl rfl rfl rfl rfl rfl⟩
  by_cases h1 : a0 = 1
  · subst h1
    have hlm : lm_firstJoined c f 1 a1 = lq (β := Int32 × Cls × (Nat → Int64)) (mxX4_firstJoined c.s1.pr a1) (fun k => if k = 1 then some (2, c, f) else if k = 2 then some (3, c, f) else if k = 3 then some (1, c, f) else none) (bnd11 (mX4_firstJoined c.dn c.dm c.dj c.dt c.dx c.dy c.dr c.dv c.dw c.dq c.s1.pr c.s1.w c.s1.h c.s1.ra c.s1.ne a1) (fun o0 o1 o2 o3 o4 o5 o6 o7 o8 o9 o10 => some (0, (mkC c.gain c.il c.ip c.ia c.ig c.is c.im c.ic c.iq o1 o2 o3 o4 o5 o6 o7 o8 o9 o10 c.fw c.fs c.fh c.s0 c.s1 c.s2), (vp_updL f ((0 : Int32).toNatClampNeg) o0.toInt64)))) := by
      unfold lm_firstJoined
      rw [if_neg (by decide), if_pos rfl]
    rcases SX_first (x := c.s1) (β := Int32 × Cls × (Nat → Int64)) (k := 1) (by omega) (HS 1 (by omega)) a1 c.dn c.dm c.dj c.dt c.dx c.dy c.dr c.dv c.dw c.dq vw vs vh vl u1 u2 u3 u4 u5 u6 val rk u7 u8 u9 u10 (fun k => if k = 1 then some (2, c, f) else if k = 2 then some (3, c, f) else if k = 3 then some (1, c, f) else none) (fun o0 o1 o2 o3 o4 o5 o6 o7 o8 o9 o10 => some (0, (mkC c.gain c.il c.ip c.ia c.ig c.is c.im c.ic c.iq o1 o2 o3 o4 o5 o6 o7 o8 o9 o10 c.fw c.fs c.fh c.s0 c.s1 c.s2), (vp_updL f ((0 : Int32).toNatClampNeg) o0.toInt64))) with ⟨kk, b, t, e1, e2, hc⟩ | ⟨o, o1, o2, o3, o4, o5, o6, o7, o8, o9, o10, w1, w2, w3, w4, w5, w6, w7, w8, w9, w10, z1, z2, z3, z4, z5, z6, e1, e2⟩
    · rw [s1_] at e2
      rcases hc with ⟨rfl, rfl⟩ | ⟨rfl, rfl⟩
      · exact ⟨2, _, _, b, vw, vs, vh, vl, u1, u2, u3, u4, u5, u6, val, rk, u7, u8, u9, u10, hlm.trans e1, e2, fun q => absurd q (by decide), H⟩
      · exact ⟨3, _, _, b, vw, vs, vh, vl, u1, u2, u3, u4, u5, u6, val, rk, u7, u8, u9, u10, hlm.trans e1, e2, fun q => absurd q (by decide), H⟩
    · rw [s1_] at e2
      exact ⟨0, _, _, o, w1, w2, w3, w4, w5, w6, w7, w8, w9, w10, z1, z2, z3, z4, z5, z6, hlm.trans e1, e2, fun _ => upd0L _ _, INV_keep H rfl rfl rfl rfl rfl rfl⟩
  by_cases h2 : a0 = 2
  · subst h2
    have hlm : lm_firstJoined c f 2 a1 = lq (β := Int32 × Cls × (Nat → Int64)) (mxX4_firstJoined c.s2.pr a1) (fun k => if k = 1 then some (2, c, f) else if k = 2 then some (3, c, f) else if k = 3 then some (1, c, f) else none) (bnd11 (mX4_firstJoined c.dn c.dm c.dj c.dt c.dx c.dy c.dr c.dv c.dw c.dq c.s2.pr c.s2.w c.s2.h c.s2.ra c.s2.ne a1) (fun o0 o1 o2 o3 o4 o5 o6 o7 o8 o9 o10 => some (0, (mkC c.gain c.il c.ip c.ia c.ig c.is c.im c.ic c.iq o1 o2 o3 o4 o5 o6 o7 o8 o9 o10 c.fw c.fs c.fh c.s0 c.s1 c.s2), (vp_updL f ((0 : Int32).toNatClampNeg) o0.toInt64)))) := by
      unfold lm_firstJoined
      rw [if_neg (by decide), if_neg (by decide), if_pos rfl]
    rcases SX_first (x := c.s2) (β := Int32 × Cls × (Nat → Int64)) (k := 2) (by omega) (HS 2 (by omega)) a1 c.dn c.dm c.dj c.dt c.dx c.dy c.dr c.dv c.dw c.dq vw vs vh vl u1 u2 u3 u4 u5 u6 val rk u7 u8 u9 u10 (fun k => if k = 1 then some (2, c, f) else if k = 2 then some (3, c, f) else if k = 3 then some (1, c, f) else none) (fun o0 o1 o2 o3 o4 o5 o6 o7 o8 o9 o10 => some (0, (mkC c.gain c.il c.ip c.ia c.ig c.is c.im c.ic c.iq o1 o2 o3 o4 o5 o6 o7 o8 o9 o10 c.fw c.fs c.fh c.s0 c.s1 c.s2), (vp_updL f ((0 : Int32).toNatClampNeg) o0.toInt64))) with ⟨kk, b, t, e1, e2, hc⟩ | ⟨o, o1, o2, o3, o4, o5, o6, o7, o8, o9, o10, w1, w2, w3, w4, w5, w6, w7, w8, w9, w10, z1, z2, z3, z4, z5, z6, e1, e2⟩
    · rw [s2_] at e2
      rcases hc with ⟨rfl, rfl⟩ | ⟨rfl, rfl⟩
      · exact ⟨2, _, _, b, vw, vs, vh, vl, u1, u2, u3, u4, u5, u6, val, rk, u7, u8, u9, u10, hlm.trans e1, e2, fun q => absurd q (by decide), H⟩
      · exact ⟨3, _, _, b, vw, vs, vh, vl, u1, u2, u3, u4, u5, u6, val, rk, u7, u8, u9, u10, hlm.trans e1, e2, fun q => absurd q (by decide), H⟩
    · rw [s2_] at e2
      exact ⟨0, _, _, o, w1, w2, w3, w4, w5, w6, w7, w8, w9, w10, z1, z2, z3, z4, z5, z6, hlm.trans e1, e2, fun _ => upd0L _ _, INV_keep H rfl rfl rfl rfl rfl rfl⟩
  have hlm : lm_firstJoined c f a0 a1 = some (1, c, f) := by
    unfold lm_firstJoined
    rw [if_neg h0, if_neg h1, if_neg h2]
  exact ⟨1, _, _, 0, vw, vs, vh, vl, u1, u2, u3, u4, u5, u6, val, rk, u7, u8, u9, u10, hlm, OUT_firstJoined h0 h1 h2 vw vs vh vl u1 u2 u3 u4 u5 u6 val rk u7 u8 u9 u10 a1, fun q => absurd q (by decide), H⟩
theorem LW_strength (H : INV c th v so im ti buf gain size) (f : Nat → Int64) (a0 a1 : Int32)  (vw : Int32) (vs : Int32) (vh : Int32) (vl : Int32) (val : Nat → Int32) (rk : Nat → Int32) :
    ∃ (r : Int32) (c' : Cls) (f' : Nat → Int64) (b : Int32) (vw' : Int32) (vs' : Int32) (vh' : Int32) (vl' : Int32) (val' : Nat → Int32) (rk' : Nat → Int32), lm_strength c f a0 a1 = some (r, c', f') ∧ mX5_strength gain vw vs vh vl th v so im val rk a0 a1 = some (b, r, vw', vs', vh', vl', val', rk') ∧ (r = 0 → f' 0 = b.toInt64) ∧ INV c' th v so im ti buf gain size := by
  obtain ⟨HS, ⟨g, g0, g1, eg, eg'⟩, n, hn, el, el', hcb⟩ := id H
  by_cases h0 : a0 = 0
  · subst h0
    have hlm : lm_strength c f 0 a1 = lq (β := Int32 × Cls × (Nat → Int64)) (mxX4_strength c.s0.pr c.s0.w c.s0.h a1) (fun k => if k = 1 then some (3, c, f) else if k = 2 then some (2, c, f) else if k = 3 then some (1, c, f) else none) (bnd1 (mX4_strength c.gain c.s0.pr c.s0.w c.s0.h c.s0.ra c.s0.ne a1) (fun o0 => some (0, c, (vp_updL f ((0 : Int32).toNatClampNeg) o0.toInt64)))) := by
      unfold lm_strength
      rw [if_pos rfl]
    rcases SX_strength (x := c.s0) (β := Int32 × Cls × (Nat → Int64)) (k := 0) (by omega) (HS 0 (by omega)) g0 g1 a1 vw vs vh vl val rk (fun k => if k = 1 then some (3, c, f) else if k = 2 then some (2, c, f) else if k = 3 then some (1, c, f) else none) (fun o0 => some (0, c, (vp_updL f ((0 : Int32).toNatClampNeg) o0.toInt64))) with ⟨kk, b, t, e1, e2, hc⟩ | ⟨o, w1, w2, w3, w4, w5, w6, e1, e2⟩
    · rw [s0_] at e2
      rw [← eg] at e1
      rw [← eg'] at e2
      rcases hc with ⟨rfl, rfl⟩ | ⟨rfl, rfl⟩
      · exact ⟨3, _, _, b, vw, vs, vh, vl, val, rk, hlm.trans e1, e2, fun q => absurd q (by decide), H⟩
      · exact ⟨2, _, _, b, vw, vs, vh, vl, val, rk, hlm.trans e1, e2, fun q => absurd q (by decide), H⟩
    · rw [s0_] at e2
      rw [← eg] at e1
      rw [← eg'] at e2
      exact ⟨0, _, _, o, w1, w2, w3, w4, w5, w6, hlm.trans e1, e2, fun _ => upd0L _ _, H⟩
  by_cases h1 : a0 = 1
  · subst h1
    have hlm : lm_strength c f 1 a1 = lq (β := Int32 × Cls × (Nat → Int64)) (mxX4_strength c.s1.pr c.s1.w c.s1.h a1) (fun k => if k = 1 then some (3, c, f) else if k = 2 then some (2, c, f) else if k = 3 then some (1, c, f) else none) (bnd1 (mX4_strength c.gain c.s1.pr c.s1.w c.s1.h c.s1.ra c.s1.ne a1) (fun o0 => some (0, c, (vp_updL f ((0 : Int32).toNatClampNeg) o0.toInt64)))) := by
      unfold lm_strength
      rw [if_neg (by decide), if_pos rfl]
    rcases SX_strength (x := c.s1) (β := Int32 × Cls × (Nat → Int64)) (k := 1) (by omega) (HS 1 (by omega)) g0 g1 a1 vw vs vh vl val rk (fun k => if k = 1 then some (3, c, f) else if k = 2 then some (2, c, f) else if k = 3 then some (1, c, f) else none) (fun o0 => some (0, c, (vp_updL f ((0 : Int32).toNatClampNeg) o0.toInt64))) with ⟨kk, b, t, e1, e2, hc⟩ | ⟨o, w1, w2, w3, w4, w5, w6, e1, e2⟩
    · rw [s1_] at e2
      rw [← eg] at e1
      rw [← eg'] at e2
      rcases hc with ⟨rfl, rfl⟩ | ⟨rfl, rfl⟩
      · exact ⟨3, _, _, b, vw, vs, vh, vl, val, rk, hlm.trans e1, e2, fun q => absurd q (by decide), H⟩
      · exact ⟨2, _, _, b, vw, vs, vh, vl, val, rk, hlm.trans e1, e2, fun q => absurd q (by decide), H⟩
    · rw [s1_] at e2
      rw [← eg] at e1
      rw [← eg'] at e2
      exact ⟨0, _, _, o, w1, w2, w3, w4, w5, w6, hlm.trans e1, e2, fun _ => upd0L _ _, H⟩
  by_cases h2 : a0 = 2
  · subst h2
    have hlm : lm_strength c f 2 a1 = lq (β := Int32 × Cls × (Nat → Int64)) (mxX4_strength c.s2.pr c.s2.w c.s2.h a1) (fun k => if k = 1 then some (3, c, f) else if k = 2 then some (2, c, f) else if k = 3 then some (1, c, f) else none) (bnd1 (mX4_strength c.gain c.s2.pr c.s2.w c.s2.h c.s2.ra c.s2.ne a1) (fun o0 => some (0, c, (vp_updL f ((0 : Int32).toNatClampNeg) o0.toInt64)))) := by
      unfold lm_strength
      rw [if_neg (by decide), if_neg (by decide), if_pos rfl]
    rcases SX_strength (x := c.s2) (β := Int32 × Cls × (Nat → Int64)) (k := 2) (by omega) (HS 2 (by omega)) g0 g1 a1 vw vs vh vl val rk (fun k => if k = 1 then some (3, c, f) else if k = 2 then some (2, c, f) else if k = 3 then some (1, c, f) else none) (fun o0 => some (0, c, (vp_updL f ((0 : Int32).toNatClampNeg) o0.toInt64))) with ⟨kk, b, t, e1, e2, hc⟩ | ⟨o, w1, w2, w3, w4, w5, w6, e1, e2⟩
    · rw [s2_] at e2
      rw [← eg] at e1
      rw [← eg'] at e2
      rcases hc with ⟨rfl, rfl⟩ | ⟨rfl, rfl⟩
      · exact ⟨3, _, _, b, vw, vs, vh, vl, val, rk, hlm.trans e1, e2, fun q => absurd q (by decide), H⟩
      · exact ⟨2, _, _, b, vw, vs, vh, vl, val, rk, hlm.trans e1, e2, fun q => absurd q (by decide), H⟩
    · rw [s2_] at e2
      rw [← eg] at e1
      rw [← eg'] at e2
      exact ⟨0, _, _, o, w1, w2, w3, w4, w5, w6, hlm.trans e1, e2, fun _ => upd0L _ _, H⟩
  have hlm : lm_strength c f a0 a1 = some (1, c, f) := by
    unfold lm_strength
    rw [if_neg h0, if_neg h1, if_neg h2]
  exact ⟨1, _, _, 0, vw, vs, vh, vl, val, rk, hlm, OUT_strength h0 h1 h2 gain vw vs vh vl val rk a1, fun q => absurd q (by decide), H⟩
theorem LW_meanStrength (H : INV c th v so im ti buf gain size) (f : Nat → UInt64) (a0 : Int32)  (vw : Int32) (vs : Int32) (vh : Int32) (vl : Int32) (val : Nat → Int32) (rk : Nat → Int32) :
    ∃ (r : Int32) (c' : Cls) (f' : Nat → UInt64) (b : UInt64) (vw' : Int32) (vs' : Int32) (vh' : Int32) (vl' : Int32) (val' : Nat → Int32) (rk' : Nat → Int32), lm_meanStrength c f a0 = some (r, c', f') ∧ mX5_meanStrength gain vw vs vh vl th v so im ti val rk a0 = some (b, r, vw', vs', vh', vl', val', rk') ∧ (r = 0 → f' 0 = b) ∧ (r = 0 → ∃ y z : Int32, b = FP.ddiv (FP.i2d y) (FP.i2d z) ∧ ¬ z = 0) ∧ INV c' th v so im ti buf gain size := by
  obtain ⟨HS, ⟨g, g0, g1, eg, eg'⟩, n, hn, el, el', hcb⟩ := id H
  by_cases h0 : a0 = 0
  · subst h0
    have hlm : lm_meanStrength c f 0 = lq (β := Int32 × Cls × (Nat → UInt64)) (mxX4_meanStrength c.s0.pr) (fun k => if k = 2 then some (2, c, f) else if k = 3 then some (1, c, f) else none) (bnd1 (mX4_meanStrength c.gain c.s0.pr c.s0.ti c.s0.w c.s0.h c.s0.ra c.s0.ne) (fun o0 => some (0, c, (vf_upd f ((0 : Int32).toNatClampNeg) o0)))) := by
      unfold lm_meanStrength
      rw [if_pos rfl]
    rcases SX_mean (x := c.s0) (β := Int32 × Cls × (Nat → UInt64)) (k := 0) (by omega) (HS 0 (by omega)) g0 g1 vw vs vh vl val rk (fun k => if k = 2 then some (2, c, f) else if k = 3 then some (1, c, f) else none) (fun o0 => some (0, c, (vf_upd f ((0 : Int32).toNatClampNeg) o0))) with ⟨kk, b, t, e1, e2, hc⟩ | ⟨o, y, z, w1, w2, w3, w4, w5, w6, e1, e2, hd, hz⟩
    · rw [s0_] at e2
      rw [← eg] at e1
      rw [← eg'] at e2
      obtain ⟨rfl, rfl⟩ := hc
      exact ⟨2, _, _, b, vw, vs, vh, vl, val, rk, hlm.trans e1, e2, fun q => absurd q (by decide), fun q => absurd q (by decide), H⟩
    · rw [s0_] at e2
      rw [← eg] at e1
      rw [← eg'] at e2
      exact ⟨0, _, _, o, w1, w2, w3, w4, w5, w6, hlm.trans e1, e2, fun _ => upd0D _ _, fun _ => ⟨y, z, hd, hz⟩, H⟩
  by_cases h1 : a0 = 1
  · subst h1
    have hlm : lm_meanStrength c f 1 = lq (β := Int32 × Cls × (Nat → UInt64)) (mxX4_meanStrength c.s1.pr) (fun k => if k = 2 then some (2, c, f) else if k = 3 then some (1, c, f) else none) (bnd1 (mX4_meanStrength c.gain c.s1.pr c.s1.ti c.s1.w c.s1.h c.s1.ra c.s1.ne) (fun o0 => some (0, c, (vf_upd f ((0 : Int32).toNatClampNeg) o0)))) := by
      unfold lm_meanStrength
      rw [if_neg (by decide), if_pos rfl]
    rcases SX_mean (x := c.s1) (β := Int32 × Cls × (Nat → UInt64)) (k := 1) (by omega) (HS 1 (by omega)) g0 g1 vw vs vh vl val rk (fun k => if k = 2 then some (2, c, f) else if k = 3 then some (1, c, f) else none) (fun o0 => some (0, c, (vf_upd f ((0 : Int32).toNatClampNeg) o0))) with ⟨kk, b, t, e1, e2, hc⟩ | ⟨o, y, z, w1, w2, w3, w4, w5, w6, e1, e2, hd, hz⟩
    · rw [s1_] at e2
      rw [← eg] at e1
      rw [← eg'] at e2
      obtain ⟨rfl, rfl⟩ := hc
      exact ⟨2, _, _, b, vw, vs, vh, vl, val, rk, hlm.trans e1, e2, fun q => absurd q (by decide), fun q => absurd q (by decide), H⟩
    · rw [s1_] at e2
      rw [← eg] at e1
      rw [← eg'] at e2
      exact ⟨0, _, _, o, w1, w2, w3, w4, w5, w6, hlm.trans e1, e2, fun _ => upd0D _ _, fun _ => ⟨y, z, hd, hz⟩, H⟩
  by_cases h2 : a0 = 2
  · subst h2
    have hlm : lm_meanStrength c f 2 = lq (β := Int32 × Cls × (Nat → UInt64)) (mxX4_meanStrength c.s2.pr) (fun k => if k = 2 then some (2, c, f) else if k = 3 then some (1, c, f) else none) (bnd1 (mX4_meanStrength c.gain c.s2.pr c.s2.ti c.s2.w c.s2.h c.s2.ra c.s2.ne) (fun o0 => some (0, c, (vf_upd f ((0 : Int32).toNatClampNeg) o0)))) := by
      unfold lm_meanStrength
      rw [if_neg (by decide), if_neg (by decide), if_pos rfl]
    rcases SX_mean (x := c.s2) (β := Int32 × Cls × (Nat → UInt64)) (k := 2) (by omega) (HS 2 (by omega)) g0 g1 vw vs vh vl val rk (fun k => if k = 2 then some (2, c, f) else if k = 3 then some (1, c, f) else none) (fun o0 => some (0, c, (vf_upd f ((0 : Int32).toNatClampNeg) o0))) with ⟨kk, b, t, e1, e2, hc⟩ | ⟨o, y, z, w1, w2, w3, w4, w5, w6, e1, e2, hd, hz⟩
    · rw [s2_] at e2
      rw [← eg] at e1
      rw [← eg'] at e2
      obtain ⟨rfl, rfl⟩ := hc
      exact ⟨2, _, _, b, vw, vs, vh, vl, val, rk, hlm.trans e1, e2, fun q => absurd q (by decide), fun q => absurd q (by decide), H⟩
    · rw [s2_] at e2
      rw [← eg] at e1
      rw [← eg'] at e2
      exact ⟨0, _, _, o, w1, w2, w3, w4, w5, w6, hlm.trans e1, e2, fun _ => upd0D _ _, fun _ => ⟨y, z, hd, hz⟩, H⟩
  have hlm : lm_meanStrength c f a0 = some (1, c, f) := by
    unfold lm_meanStrength
    rw [if_neg h0, if_neg h1, if_neg h2]
  exact ⟨1, _, _, FP.dconst0, vw, vs, vh, vl, val, rk, hlm, OUT_meanStrength h0 h1 h2 gain vw vs vh vl val rk, fun q => absurd q (by decide), fun q => absurd q (by decide), H⟩
theorem LW_compensated (H : INV c th v so im ti buf gain size) (f : Nat → Int64) (a0 a1 : Int32)  (vw : Int32) (vs : Int32) (vh : Int32) (vl : Int32) (val : Nat → Int32) (rk : Nat → Int32) :
    ∃ (r : Int32) (c' : Cls) (f' : Nat → Int64) (b : Int32) (vw' : Int32) (vs' : Int32) (vh' : Int32) (vl' : Int32) (val' : Nat → Int32) (rk' : Nat → Int32), lm_compensated c f a0 a1 = some (r, c', f') ∧ mX5_compensated gain vw vs vh vl th v so im val rk a0 a1 = some (b, r, vw', vs', vh', vl', val', rk') ∧ (r = 0 → f' 0 = b.toInt64) ∧ INV c' th v so im ti buf gain size := by
  obtain ⟨HS, ⟨g, g0, g1, eg, eg'⟩, n, hn, el, el', hcb⟩ := id H
  by_cases h0 : a0 = 0
  · subst h0
    have hlm : lm_compensated c f 0 a1 = lq (β := Int32 × Cls × (Nat → Int64)) (mxX4_compensated c.s0.pr a1) (fun k => if k = 1 then some (2, c, f) else if k = 2 then some (3, c, f) else if k = 3 then some (1, c, f) else none) (bnd1 (mX4_compensated c.gain c.s0.pr c.s0.w c.s0.h c.s0.ra c.s0.ne a1) (fun o0 => some (0, c, (vp_updL f ((0 : Int32).toNatClampNeg) o0.toInt64)))) := by
      unfold lm_compensated
      rw [if_pos rfl]
    rcases SX_comp (x := c.s0) (β := Int32 × Cls × (Nat → Int64)) (k := 0) (by omega) (HS 0 (by omega)) g0 g1 a1 vw vs vh vl val rk (fun k => if k = 1 then some (2, c, f) else if k = 2 then some (3, c, f) else if k = 3 then some (1, c, f) else none) (fun o0 => some (0, c, (vp_updL f ((0 : Int32).toNatClampNeg) o0.toInt64))) with ⟨kk, b, t, e1, e2, hc⟩ | ⟨o, w1, w2, w3, w4, w5, w6, e1, e2⟩
    · rw [s0_] at e2
      rw [← eg] at e1
      rw [← eg'] at e2
      rcases hc with ⟨rfl, rfl⟩ | ⟨rfl, rfl⟩
      · exact ⟨2, _, _, b, vw, vs, vh, vl, val, rk, hlm.trans e1, e2, fun q => absurd q (by decide), H⟩
      · exact ⟨3, _, _, b, vw, vs, vh, vl, val, rk, hlm.trans e1, e2, fun q => absurd q (by decide), H⟩
    · rw [s0_] at e2
      rw [← eg] at e1
      rw [← eg'] at e2
      exact ⟨0, _, _, o, w1, w2, w3, w4, w5, w6, hlm.trans e1, e2, fun _ => upd0L _ _, H⟩
  by_cases h1 : a0 = 1
  · subst h1
    have hlm : lm_compensated c f 1 a1 = lq (β := Int32 × Cls × (Nat → Int64)) (mxX4_compensated c.s1.pr a1) (fun k => if k = 1 then some (2, c, f) else if k = 2 then some (3, c, f) else if k = 3 then some (1, c, f) else none) (bnd1 (mX4_compensated c.gain c.s1.pr c.s1.w c.s1.h c.s1.ra c.s1.ne a1) (fun o0 => some (0, c, (vp_updL f ((0 : Int32).toNatClampNeg) o0.toInt64)))) := by
      unfold lm_compensated
      rw [if_neg (by decide), if_pos rfl]
    rcases SX_comp (x := c.s1) (β := Int32 × Cls × (Nat → Int64)) (k := 1) (by omega) (HS 1 (by omega)) g0 g1 a1 vw vs vh vl val rk (fun k => if k = 1 then some (2, c, f) else if k = 2 then some (3, c, f) else if k = 3 then some (1, c, f) else none) (fun o0 => some (0, c, (vp_updL f ((0 : Int32).toNatClampNeg) o0.toInt64))) with ⟨kk, b, t, e1, e2, hc⟩ | ⟨o, w1, w2, w3, w4, w5, w6, e1, e2⟩
    · rw [s1_] at e2
      rw [← eg] at e1
      rw [← eg'] at e2
      rcases hc with ⟨rfl, rfl⟩ | ⟨rfl, rfl⟩
      · exact ⟨2, _, _, b, vw, vs, vh, vl, val, rk, hlm.trans e1, e2, fun q => absurd q (by decide), H⟩
      · exact ⟨3, _, _, b, vw, vs, vh, vl, val, rk, hlm.trans e1, e2, fun q => absurd q (by decide), H⟩
    · rw [s1_] at e2
      rw [← eg] at e1
      rw [← eg'] at e2
      exact ⟨0, _, _, o, w1, w2, w3, w4, w5, w6, hlm.trans e1, e2, fun _ => upd0L _ _, H⟩
  by_cases h2 : a0 = 2
  · subst h2
    have hlm : lm_compensated c f 2 a1 = lq (β := Int32 × Cls × (Nat → Int64)) (mxX4_compensated c.s2.pr a1) (fun k => if k = 1 then some (2, c, f) else if k = 2 then some (3, c, f) else if k = 3 then some (1, c, f) else none) (bnd1 (mX4_compensated c.gain c.s2.pr c.s2.w c.s2.h c.s2.ra c.s2.ne a1) (fun o0 => some (0, c, (vp_updL f ((0 : Int32).toNatClampNeg) o0.toInt64)))) := by
      unfold lm_compensated
      rw [if_neg (by decide), if_neg (by decide), if_pos rfl]
    rcases SX_comp (x := c.s2) (β := Int32 × Cls × (Nat → Int64)) (k := 2) (by omega) (HS 2 (by omega)) g0 g1 a1 vw vs vh vl val rk (fun k => if k = 1 then some (2, c, f) else if k = 2 then some (3, c, f) else if k = 3 then some (1, c, f) else none) (fun o0 => some (0, c, (vp_updL f ((0 : Int32).toNatClampNeg) o0.toInt64))) with ⟨kk, b, t, e1, e2, hc⟩ | ⟨o, w1, w2, w3, w4, w5, w6, e1, e2⟩
    · rw [s2_] at e2
      rw [← eg] at e1
      rw [← eg'] at e2
      rcases hc with ⟨rfl, rfl⟩ | ⟨rfl, rfl⟩
      · exact ⟨2, _, _, b, vw, vs, vh, vl, val, rk, hlm.trans e1, e2, fun q => absurd q (by decide), H⟩
      · exact ⟨3, _, _, b, vw, vs, vh, vl, val, rk, hlm.trans e1, e2, fun q => absurd q (by decide), H⟩
    · rw [s2_] at e2
      rw [← eg] at e1
      rw [← eg'] at e2
      exact ⟨0, _, _, o, w1, w2, w3, w4, w5, w6, hlm.trans e1, e2, fun _ => upd0L _ _, H⟩
  have hlm : lm_compensated c f a0 a1 = some (1, c, f) := by
    unfold lm_compensated
    rw [if_neg h0, if_neg h1, if_neg h2]
  exact ⟨1, _, _, 0, vw, vs, vh, vl, val, rk, hlm, OUT_compensated h0 h1 h2 gain vw vs vh vl val rk a1, fun q => absurd q (by decide), H⟩
end LawCalls
