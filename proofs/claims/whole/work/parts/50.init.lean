-- ===== constructors =====
theorem ty_same {D : va_G} {cl : List vw_C} {tys : List (ClassId × FieldType)} {s : State} {c1 c2 : ClassId} {ty : FieldType} {i j : Nat} (hK : va_K D cl tys s) (h1 : tys[i]? = some (c1, ty)) (h2 : tys[j]? = some (c2, ty)) : c1 = c2 := by
  have a := (hK.2 i _ h1).2
  have b := (hK.2 j _ h2).2
  cases ty with
  | object C =>
    obtain ⟨-, -, -, -, -, a4⟩ := a
    obtain ⟨-, -, -, -, -, b4⟩ := b
    exact Option.some.inj (a4.symm.trans b4)
  | _ => exact Option.some.inj ((show s.vm.findClass _ = some c1 from a).symm.trans (show s.vm.findClass _ = some c2 from b))
/-- a constructor's end: new cells at some addresses -/
def QiA (G : GG) (A : Nat → Prop) (wf : (Nat → Nat) → va_W) : Array Value → State → Outcome → State → Prop := fun _ st oc t => oc = .returned none ∧ ∃ ad : Nat → Nat, va_P G.1 vwCl (wf ad) t.heap ∧ va_D A (wf ad) ∧ va_F A st t
def PreI (G : GG) (sz : Nat) (wc : va_W) (X : State → Prop) (U : State) : Prop := U.heap.size = sz ∧ va_P G.1 vwCl wc U.heap ∧ va_D (fun _ => True) wc ∧ KK G U ∧ X U
theorem PreI.blind {G : GG} {sz : Nat} {wc : va_W} {X : State → Prop} {av : List Value} (hX : XBlind X) : FrameBlind (va_Pc av (PreI G sz wc X)) := fun a U g mk h => ⟨h.1, h.2.1, h.2.2.1, h.2.2.2.1, KK.same (s := U) (U := U.calling g mk a) rfl h.2.2.2.2.1, hX U g mk a h.2.2.2.2.2⟩
section MyInit
variable {l : Launch} {y : MethodName} {ws ws' : List Cond} {rm : Room} {cc : ByteArray} {maxL : Nat} {av : List Value} {G : GG} {wc : va_W}
theorem of_in {wf : (Nat → Nat) → va_W} {X : State → Prop} {sz mc ms : Nat} (hy : plainFor y = true) (hw : ws = Cond.code y cc maxL none :: ws') (hlen : (lg_sl av).length ≤ maxL) (hnm : y.name = "<init>")
    (body : ∀ (p : Program) (e : Env) (s : State) (m : MethodId) (args : Array Value) (below : List Frame) (meth : Method) (c : Code) (ls : Array Slot) (Q : State → Prop) (A : Nat → Prop), CallFix p m c cc maxL s args ws y.cls → meth.name = "<init>" → lv_has ls maxL (lv_args 0 av) → va_P G.1 vwCl wc s.heap → va_D A wc → va_S A s.heap s.heap [] → (∀ q, s.heap.size ≤ q → A q) → KK G s → X s →
      (∀ (pc : Nat) (ls : Array Slot) (H : Heap) (locs : List Loc) (ad : Nat → Nat), va_P G.1 vwCl (wf ad) H → va_D A (wf ad) → va_S A s.heap H locs → decode cc pc = .ok (.return_, 1) → W p l e rm s m args below meth c H locs mc ms Q (F0 m pc ls [])) →
      W p l e rm s m args below meth c s.heap [] 0 0 Q (F0 m 0 ls [])) : Met l y ws rm (va_Pc av (PreI G sz wc X)) (QiA G (va_A wc sz) wf) mc ms (va_A wc sz) := by
  refine ofWF (cc := cc) (maxL := maxL) (ret := none) hy hw ?_
  intro p e s m args below meth c s₁ BB hml hv
  obtain ⟨rfl, hsz, hP, hD, hK, hX⟩ := hv
  subst hsz
  have hts := atoms_spec (ws := ws) BB.pre
  have hown : s.vm.findClass y.cls = some m.cls := findClass_of_methodNamed BB.named
  have hin : meth.name = "<init>" := ((name_of_methodNamed BB.named BB.method).1).trans hnm
  have hl := lv_entry av (n := maxL) hlen
  rw [lg_entry_eq]
  generalize (lg_sl av ++ List.replicate (maxL - (lg_sl av).length) Slot.unset).toArray = ls at hl ⊢
  exact body p e s m av.toArray below meth c ls _ _ ⟨BB.exec, BB.bytes, hml, hown, hts⟩ hin hl hP hD.self va_S.rf (fun q h => Or.inr h) hK hX (fun pc ls H locs ad hP hD hS hd =>
    W.vret BB.exec BB.bytes BB.returns (fun t ht _ => ⟨rfl, ad, by rw [ht]; exact hP, hD, hS.F ht⟩) hS.2.2 hd BB.notSynchronized)
end MyInit
section MyInitCall
variable {p : Program} {l : Launch} {e : Env} {R : Room} {s : State} {m : MethodId} {args : Array Value} {below : List Frame} {meth : Method} {c : Code} {H : Heap} {locs : List Loc} {cells slots : Nat} {Q : State → Prop}
variable {y : MethodName} {bytes cc : ByteArray} {maxL nL n index pc mc ms : Nat} {ls : Array Slot} {ws : List Cond} {rm : Room} {Ts : List Cond} {own host : String} {b : Addr} {As rest st0 : List Value} {G : GG} {wc wr : va_W} {A0 : Nat → Prop} {H0 : Heap}
theorem nwa {ty : FieldType} {atype : ArrayType} {k : Nat} (hexec : p.tables.exec = Jvm.exec) (hb : c.code = cc) (harr : (Cond.arrayClass (newarray.typeOf atype)).before args s = true) (hty : newarray.typeOf atype = ty) (hK : KK G s) (hk : (tyG G)[k]? = some (G.2 k, ty)) (hk5 : k < 5) (hP : va_P G.1 vwCl wc H) (hD : va_D A0 wc) (hS : va_S A0 H0 H locs) (hA : ∀ q, H0.size ≤ q → A0 q)
    {n : Int32} {N' : Nat} {a0 : vp_A} (ha : ∀ cA : ClassId, vp_cell cA a0 = arrV cA N' (fun _ => defaultValue ty)) (hn : ¬ n < 0) (hN : n.toNatClampNeg = N') (hbytes : N' * componentBytes ty ≤ 536870912) (hcells : cells + 1 ≤ R.cells) (hslots : slots + N' ≤ R.slots) (hdg : decode cc pc = .ok (.newarray atype, 2))
    (kk : ∀ (q : Nat) (H1 : Heap), va_P G.1 vwCl (wc ++ [(q, .inl (G.2 k, a0))]) H1 → va_D A0 (wc ++ [(q, .inl (G.2 k, a0))]) → va_S A0 H0 H1 locs →
      W p l e R s m args below meth c H1 locs (cells + 1) (slots + N') Q (F0 m (pc + 2) ls (.ref q :: rest))) : W p l e R s m args below meth c H locs cells slots Q (F0 m pc ls (.int n :: rest)) :=
  va_newa hexec hb harr hty hK.1 hP hD hS hA ha hn hN hbytes hcells hslots hdg (fun q cA H1 hK2 hP hD hS => by
    have e : G.2 k = cA := ty_same hK2 (i := k) (j := 5) (by rw [List.getElem?_append_left (show k < (tyG G).length from hk5)]; exact hk) rfl
    rw [← e] at hP hD
    exact kk q H1 hP hD hS)
theorem nwq (hexec : p.tables.exec = Jvm.exec) (hb : c.code = cc) {own : String} {index : Nat} (hown : s.vm.findClass own = some m.cls) (hclink : (Cond.classLink own index "HalftoneScreens$Screen").before args s = true) (hover : va_AO "HalftoneScreens$Screen" s) (hK : KK G s) (hP : va_P G.1 vwCl wc H) (hD : va_D A0 wc) (hS : va_S A0 H0 H locs) (hA : ∀ q, H0.size ≤ q → A0 q)
    {n : Int32} {N' : Nat} (hn : ¬ n < 0) (hN : n.toNatClampNeg = N') (hbytes : N' * 4 ≤ 536870912) (hcells : cells + 1 ≤ R.cells) (hslots : slots + N' ≤ R.slots) (hdg : decode cc pc = .ok (.anewarray index, 3))
    (kk : ∀ (q : Nat) (H1 : Heap), va_P G.1 vwCl (wc ++ [(q, .inl (G.2 2, N', .inr (.inr (.inr (.inr (fun _ => none))))))]) H1 → va_D A0 (wc ++ [(q, .inl (G.2 2, N', .inr (.inr (.inr (.inr (fun _ => none))))))]) → va_S A0 H0 H1 locs →
      W p l e R s m args below meth c H1 locs (cells + 1) (slots + N') Q (F0 m (pc + 3) ls (.ref q :: rest))) : W p l e R s m args below meth c H locs cells slots Q (F0 m pc ls (.int n :: rest)) :=
  va_newq hexec hb hown hclink hover hK.1 hP hD hS hA hn hN hbytes hcells hslots hdg (fun q cA H1 hK2 hP hD hS => by
    have e : G.2 2 = cA := ty_same hK2 (i := 2) (j := 5) rfl rfl
    rw [← e] at hP hD
    exact kk q H1 hP hD hS)
/-- behind a constructor of the last cell made -/
theorem in_back {wf : (Nat → Nat) → va_W} {a : Array Value} (hr : va_Run p l e R s m args below meth c H locs cells slots mc ms (F0 m pc ls st0) rest (QiA G (va_A wc H.size) wf a) (va_A wc H.size)) (hP : va_P G.1 vwCl (wr ++ wc) H) (hD : va_D A0 (wr ++ wc)) (hS : va_S A0 H0 H locs) (hA : ∀ q, H0.size ≤ q → A0 q)
    (kk : ∀ (ad : Nat → Nat) (H1 : Heap) (locs1 : List Loc), va_P G.1 vwCl (wr ++ wf ad) H1 → va_D A0 (wr ++ wf ad) → va_S A0 H0 H1 locs1 → W p l e R s m args below meth c H1 locs1 (cells + mc) (slots + ms) Q (F0 m (pc + 3) ls rest)) : W p l e R s m args below meth c H locs cells slots Q (F0 m pc ls st0) := by
  intro T hT X
  obtain ⟨v, st₀, t, T', L, h0, X', hL, e1, e2, ⟨hv, ad, hP1, hD1, hz, hk⟩, st⟩ := hr T hT X
  cases hv
  rw [h0] at hz hk
  have hAA : ∀ q, va_A wc H.size q → A0 q := by
    rintro q (⟨k, e, hq⟩ | hq)
    · exact hD.2 (wr.length + k) (q, e) (by rw [List.getElem?_append_right (by omega), Nat.add_sub_cancel_left]; exact hq)
    · exact hA q (Nat.le_trans hS.1 hq)
  have apart : ∀ (k : Nat) (q : Nat × va_E), wr[k]? = some q → q.1 < H.size ∧ ¬ va_A wc H.size q.1 := by
    intro k q hq
    have hkl : k < wr.length := (List.getElem?_eq_some_iff.mp hq).1
    have h2 : (wr ++ wc)[k]? = some q := by rw [List.getElem?_append_left hkl]; exact hq
    have hlt := (hP k q h2).lt
    refine ⟨hlt, ?_⟩
    rintro (⟨k2, e, h3⟩ | h3)
    · have h4 : (wr ++ wc)[wr.length + k2]? = some (q.1, e) := by rw [List.getElem?_append_right (by omega), Nat.add_sub_cancel_left]; exact h3
      have := hD.1 k (wr.length + k2) q (q.1, e) h2 h4 rfl
      omega
    · omega
  have hPr : va_P G.1 vwCl wr t.heap := by
    intro k q hq
    have hkl : k < wr.length := (List.getElem?_eq_some_iff.mp hq).1
    exact (hP k q (by rw [List.getElem?_append_left hkl]; exact hq)).kept (hk q.1 (apart k q hq).1 (apart k q hq).2)
  have hDr : va_D A0 wr := ⟨fun i j x y hi hj hxy => hD.1 i j x y (by rw [List.getElem?_append_left (List.getElem?_eq_some_iff.mp hi).1]; exact hi) (by rw [List.getElem?_append_left (List.getElem?_eq_some_iff.mp hj).1]; exact hj) hxy, fun k q hq => hD.2 k q (by rw [List.getElem?_append_left (List.getElem?_eq_some_iff.mp hq).1]; exact hq)⟩
  have hS1 : va_S A0 H0 t.heap (locs ++ L) := ⟨Nat.le_trans hS.1 hz, fun q h1 h2 => by
      rw [hk q (Nat.lt_of_lt_of_le h1 hS.1) (fun z => h2 (hAA q z))]
      exact hS.2.1 q h1 h2, fun q hq => by
      rcases List.mem_append.mp hq with h | h
      · exact hS.2.2 q h
      · exact hAA _ (hL q h)⟩
  obtain ⟨t2, a1, b1⟩ := kk ad t.heap (locs ++ L) (va_P.app hPr hP1) (va_D.app hDr (hD1.weaken fun k q _ h => hAA q.1 h) (fun i j x y hx hy hxy => (apart i x hx).2 (by rw [hxy]; exact hD1.2 j y hy))) hS1 T' e1 X'
  exact ⟨t2, st t2 a1, b1⟩
theorem PreI.mk {U : State} {X : State → Prop} (hK : KK G s) (hP : va_P G.1 vwCl (wr ++ wc) H) (hD : va_D A0 (wr ++ wc)) (hX : X U) (hU : U.heap = H) (hW : s.WarmedH U.vm) : PreI G H.size wc X U := by
  refine ⟨by rw [hU], ?_, ?_, hK.warm hW, hX⟩
  · rw [hU]
    intro k q hq
    exact hP (wr.length + k) q (by rw [List.getElem?_append_right (by omega), Nat.add_sub_cancel_left]; exact hq)
  · refine ⟨fun i j x y hi hj hxy => ?_, fun _ _ _ => trivial⟩
    have := hD.1 (wr.length + i) (wr.length + j) x y (by rw [List.getElem?_append_right (by omega), Nat.add_sub_cancel_left]; exact hi) (by rw [List.getElem?_append_right (by omega), Nat.add_sub_cancel_left]; exact hj) hxy
    omega
/-- a nest mate's constructor -/
theorem inN {wf : (Nat → Nat) → va_W} {X : State → Prop} (S : CallFix p m c cc nL s args Ts own) (hM : Met l y ws rm (va_Pc (.ref b :: As) (PreI G H.size wc X)) (QiA G (va_A wc H.size) wf) mc ms (va_A wc H.size)) (cw : va_CN R s args own index y host bytes maxL none ws rm mc ms n ∧ y.name = "<init>" ∧ (Cond.instanceMethod y).before args s = true) (hK : KK G s) (hP : va_P G.1 vwCl (wr ++ wc) H) (hD : va_D A0 (wr ++ wc)) (hS : va_S A0 H0 H locs) (hA : ∀ q, H0.size ≤ q → A0 q) (hXb : XBlind X) (hX : ∀ U : State, U.heap = H → s.WarmedH U.vm → X U)
    (hn : As.length = n) (hsz : ls.size = nL) (hst : st0 = As.reverse ++ .ref b :: rest) (hW : (rest.map fun v => v.category).sum ≤ 8) (hdg : decode cc pc = .ok (.invokespecial index, 3)) (hcs : cells + mc ≤ R.cells ∧ slots + ms ≤ R.slots)
    (kk : ∀ (ad : Nat → Nat) (H1 : Heap) (locs1 : List Loc), va_P G.1 vwCl (wr ++ wf ad) H1 → va_D A0 (wr ++ wf ad) → va_S A0 H0 H1 locs1 → W p l e R s m args below meth c H1 locs1 (cells + mc) (slots + ms) Q (F0 m (pc + 3) ls rest)) : W p l e R s m args below meth c H locs cells slots Q (F0 m pc ls st0) :=
  in_back (va_runIN (g := F0 m pc ls st0) S hM cw ⟨PreI.blind hXb, fun U hU hW => ⟨rfl, PreI.mk hK hP hD (hX U hU hW) hU hW⟩⟩ rfl hn hsz hst (lv_room hW) hdg hcs) hP hD hS hA kk
theorem inI {wf : (Nat → Nat) → va_W} {X : State → Prop} (S : CallFix p m c cc nL s args Ts own) (hM : Met l y ws rm (va_Pc (.ref b :: As) (PreI G H.size wc X)) (QiA G (va_A wc H.size) wf) mc ms (va_A wc H.size)) (cw : CallB R s args own index y bytes maxL none ws rm mc ms n ∧ y.name = "<init>" ∧ (Cond.instanceMethod y).before args s = true) (hK : KK G s) (hP : va_P G.1 vwCl (wr ++ wc) H) (hD : va_D A0 (wr ++ wc)) (hS : va_S A0 H0 H locs) (hA : ∀ q, H0.size ≤ q → A0 q) (hXb : XBlind X) (hX : ∀ U : State, U.heap = H → s.WarmedH U.vm → X U)
    (hn : As.length = n) (hsz : ls.size = nL) (hst : st0 = As.reverse ++ .ref b :: rest) (hW : (rest.map fun v => v.category).sum ≤ 8) (hdg : decode cc pc = .ok (.invokespecial index, 3)) (hcs : cells + mc ≤ R.cells ∧ slots + ms ≤ R.slots)
    (kk : ∀ (ad : Nat → Nat) (H1 : Heap) (locs1 : List Loc), va_P G.1 vwCl (wr ++ wf ad) H1 → va_D A0 (wr ++ wf ad) → va_S A0 H0 H1 locs1 → W p l e R s m args below meth c H1 locs1 (cells + mc) (slots + ms) Q (F0 m (pc + 3) ls rest)) : W p l e R s m args below meth c H locs cells slots Q (F0 m pc ls st0) :=
  in_back (va_runI (g := F0 m pc ls st0) S hM cw ⟨PreI.blind hXb, fun U hU hW => ⟨rfl, PreI.mk hK hP hD (hX U hU hW) hU hW⟩⟩ rfl hn hsz hst (lv_room hW) hdg hcs) hP hD hS hA kk
end MyInitCall
theorem scF_up (a b c : Nat) : va_up (va_up (va_up (fun _ => none) ((0 : Int32).toNatClampNeg) (some a)) ((1 : Int32).toNatClampNeg) (some b)) ((2 : Int32).toNatClampNeg) (some c) = scF a b c := by
  funext j
  show (if j = 2 then some c else if j = 1 then some b else if j = 0 then some a else none) = (if j = 0 then some a else if j = 1 then some b else if j = 2 then some c else none)
  by_cases h0 : j = 0
  · subst h0; rfl
  · by_cases h1 : j = 1
    · subst h1; rfl
    · by_cases h2 : j = 2
      · subst h2; rfl
      · simp [h0, h1, h2]
