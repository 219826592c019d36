-- ===== calls that throw: what stands of the tables and the heap for a throw, the three ends, their passing on =====
def exn (k : Nat) : String := if k = 1 then "java/lang/IllegalArgumentException" else if k = 2 then "java/lang/IllegalStateException" else "java/lang/IndexOutOfBoundsException"
def exnNames : List String := ["java/lang/RuntimeException", "java/lang/Exception"]
def thL : List Cond := [.castable "java/lang/IllegalArgumentException" "java/lang/IllegalArgumentException", .castable "java/lang/IllegalStateException" "java/lang/IllegalStateException", .castable "java/lang/IndexOutOfBoundsException" "java/lang/IndexOutOfBoundsException",
  .declares ⟨"java/lang/RuntimeException", "<init>", "(Ljava/lang/String;)V"⟩, .declares ⟨"java/lang/Exception", "<init>", "(Ljava/lang/String;)V"⟩, .declares ⟨"java/lang/Throwable", "<init>", "(Ljava/lang/String;)V"⟩]
def TT (A : Nat → Prop) (U : State) (H : Heap) : Prop :=
  (∀ w ∈ thL, va_Nw w U) ∧ (∃ a, vk_R RX4 229 "an argument is out of range" a U) ∧ (∃ a, vk_R RX4 236 "the state does not allow this call" a U) ∧ (∃ a, vk_R RX4 241 "there is no such slot" a U) ∧
  vx_Zq Bundle.tN "UNASSIGNED_STACK" Bundle.steD A U H ∧ vx_Zq Bundle.tN "SUPPRESSED_SENTINEL" Bundle.listD A U H
theorem TT.warm {A : Nat → Prop} {s U : State} {H : Heap} (hW : s.WarmedH U.vm) (h : TT A s H) : TT A U H := by
  obtain ⟨h1, ⟨a2, h2⟩, ⟨a3, h3⟩, ⟨a4, h4⟩, h5, h6⟩ := h
  refine ⟨fun w hw => ?_, ⟨a2, vk_R.warm hW h2⟩, ⟨a3, vk_R.warm hW h3⟩, ⟨a4, vk_R.warm hW h4⟩, h5.moved hW.alike, h6.moved hW.alike⟩
  have g := h1 w hw
  simp only [thL, List.mem_cons, List.not_mem_nil, or_false] at hw
  rcases hw with rfl | rfl | rfl | rfl | rfl | rfl
  · exact va_Nw.warmC hW g
  · exact va_Nw.warmC hW g
  · exact va_Nw.warmC hW g
  · exact va_Nw.warmD hW g
  · exact va_Nw.warmD hW g
  · exact va_Nw.warmD hW g
theorem TT.same {A : Nat → Prop} {u U : State} {H : Heap} (e : u.vm = U.vm) (h : TT A u H) : TT A U H := by
  obtain ⟨h1, ⟨a2, h2⟩, ⟨a3, h3⟩, ⟨a4, h4⟩, h5, h6⟩ := h
  have al : u.vm.Alike U.vm := by rw [e]; exact Vm.Alike.refl _
  refine ⟨fun w hw => ?_, ⟨a2, vk_R.same e.symm h2⟩, ⟨a3, vk_R.same e.symm h3⟩, ⟨a4, vk_R.same e.symm h4⟩, h5.moved al, h6.moved al⟩
  have g := h1 w hw
  simp only [thL, List.mem_cons, List.not_mem_nil, or_false] at hw
  rcases hw with rfl | rfl | rfl | rfl | rfl | rfl <;> exact va_Nw.same rfl e g
theorem TT.kept {A : Nat → Prop} {U : State} {H H1 : Heap} (h : TT A U H) (hq : ∀ a : Nat, a < H.size → ¬ A a → H1[a]? = H[a]?) : TT A U H1 := ⟨h.1, h.2.1, h.2.2.1, h.2.2.2.1, h.2.2.2.2.1.kept hq, h.2.2.2.2.2.kept hq⟩
theorem TT.narrow {A B : Nat → Prop} {U : State} {H : Heap} (h : TT A U H) (hAB : ∀ q, B q → A q) : TT B U H := ⟨h.1, h.2.1, h.2.2.1, h.2.2.2.1, h.2.2.2.2.1.narrow hAB, h.2.2.2.2.2.narrow hAB⟩
/-- the heap goes on: what was there is there -/
def KH (H0 H : Heap) : Prop := H0.size ≤ H.size ∧ ∀ q : Nat, q < H0.size → H[q]? = H0[q]?
theorem KH.refl (H : Heap) : KH H H := ⟨Nat.le_refl _, fun _ _ => rfl⟩
theorem KH.trans {H0 H1 H2 : Heap} (h1 : KH H0 H1) (h2 : KH H1 H2) : KH H0 H2 := ⟨Nat.le_trans h1.1 h2.1, fun q hq => (h2.2 q (Nat.lt_of_lt_of_le hq h1.1)).trans (h1.2 q hq)⟩
theorem KH.P {D : va_G} {cl : List vw_C} {ws : va_W} {H H1 : Heap} (hk : KH H H1) (h : va_P D cl ws H) : va_P D cl ws H1 := h.kept fun k q hq => hk.2 q.1 (h k q hq).lt
theorem KH.S {A : Nat → Prop} {H0 H H1 : Heap} {locs locs1 : List Loc} (hk : KH H H1) (h : va_S A H0 H locs) (hl : ∀ z ∈ locs1, z ∈ locs) : va_S A H0 H1 locs1 := ⟨Nat.le_trans h.1 hk.1, fun q h1 h2 => (hk.2 q (Nat.lt_of_lt_of_le h1 h.1)).trans (h.2.1 q h1 h2), fun z hz => h.2.2 z (hl z hz)⟩
/-- thrown: the exception k, the heap gone on -/
def XT0 (k : Nat) : String → State → State → Prop := fun E st t => E = exn k ∧ KH st.heap t.heap
/-- thrown: the exception k, a world changed -/
def XTw (G : GG) (A : Nat → Prop) (w1 : va_W) (k : Nat) : String → State → State → Prop := fun E st t => E = exn k ∧ va_P G.1 vwCl w1 t.heap ∧ va_D A w1 ∧ va_F A st t
def PreT (G : GG) (wc : va_W) (U : State) : Prop := PreW G wc U ∧ TT (fun _ => False) U U.heap
theorem PreT.blind {G : GG} {wc : va_W} {av : List Value} : FrameBlind (va_Pc av (PreT G wc)) := fun a U g mk h => ⟨h.1, (PreW.blind (av := av) a U g mk ⟨h.1, h.2.1⟩).2, TT.same (u := U) (U := U.calling g mk a) rfl h.2.2⟩
def PreX (G : GG) (wc : va_W) (U : State) : Prop := PreD G wc (fun _ => True) U ∧ TT (va_A0 wc) U U.heap
theorem PreX.blind {G : GG} {wc : va_W} {av : List Value} : FrameBlind (va_Pc av (PreX G wc)) := fun a U g mk h => ⟨h.1, (PreD.blind xb_triv (av := av) a U g mk ⟨h.1, h.2.1⟩).2, TT.same (u := U) (U := U.calling g mk a) rfl h.2.2⟩
abbrev NoQ : Array Value → State → Outcome → State → Prop := fun _ _ _ _ => False
section MyThr
variable {l : Launch} {y : MethodName} {ws ws' : List Cond} {rm : Room} {cc : ByteArray} {maxL : Nat} {ret : Option FieldType} {av : List Value} {G : GG} {wc : va_W}
theorem of_thr {B : State → Prop} {XC : String → State → State → Prop} {mc ms : Nat} {free : Addr → Prop}
    (hy : plainName y.cls = true) (hw : ws = Cond.code y cc maxL ret :: ws') (hlen : (lg_sl av).length ≤ maxL)
    (body : ∀ (p : Program) (e : Env) (s : State) (m : MethodId) (args : Array Value) (below : List Frame) (meth : Method) (c : Code) (ls : Array Slot), CallFix p m c cc maxL s args ws y.cls → meth.locks = false → (∀ x ∈ c.exceptionTable.toList, False) → lv_has ls maxL (lv_args 0 av) → B s →
      W p l e rm s m args below meth c s.heap [] 0 0 (vx_MQ below NoQ XC args s mc ms free) (F0 m 0 ls [])) : vx_Met l y ws rm (va_Pc av B) NoQ XC mc ms free := by
  refine vx_ofW (cc := cc) (maxL := maxL) (ret := ret) hy hw ?_
  intro p e s m args below meth c s₁ BB hml htab hv
  obtain ⟨rfl, hB⟩ := hv
  have hts := atoms_spec (ws := ws) BB.pre
  have hown : s.vm.findClass y.cls = some m.cls := findClass_of_methodNamed BB.named
  have hl := lv_entry av (n := maxL) hlen
  rw [lg_entry_eq]
  generalize (lg_sl av ++ List.replicate (maxL - (lg_sl av).length) Slot.unset).toArray = ls at hl ⊢
  exact body p e s m av.toArray below meth c ls ⟨BB.exec, BB.bytes, hml, hown, hts⟩ BB.notSynchronized htab hl hB
/-- a method that reads and throws -/
theorem of_tr {k0 : Nat} (hy : plainName y.cls = true) (hw : ws = Cond.code y cc maxL ret :: ws') (hlen : (lg_sl av).length ≤ maxL)
    (body : ∀ (p : Program) (e : Env) (s : State) (m : MethodId) (args : Array Value) (below : List Frame) (meth : Method) (c : Code) (ls : Array Slot) (Q : State → Prop), CallFix p m c cc maxL s args ws y.cls → lv_has ls maxL (lv_args 0 av) → va_P G.1 vwCl wc s.heap → KK G s → TT (fun _ => False) s s.heap →
      (∀ (pc : Nat) (ls : Array Slot) (rest : List Value) (k : Nat) (H : Heap) (locs : List Loc) (q : Addr) (ce : Cell), k = k0 → KH s.heap H → (∀ z ∈ locs, z ∈ ([] : List Loc)) → H[q]? = some ce → ce.vm = .none → s.vm.findClass (exn k) = some ce.cls → vx_W p l e rm s m args below meth c H locs 1 6 Q (F0 m pc ls rest) q) →
      W p l e rm s m args below meth c s.heap [] 0 0 Q (F0 m 0 ls [])) : vx_Met l y ws rm (va_Pc av (PreT G wc)) NoQ (XT0 k0) 1 6 (fun _ => False) := by
  refine of_thr hy hw hlen ?_
  intro p e s m args below meth c ls S hlocks htab hl hB
  refine body p e s m args below meth c ls _ S hl hB.1.1 hB.1.2 hB.2 (fun pc ls rest k H locs q ce hk hH hlo h1 h2 h3 => ?_)
  subst hk
  exact vx_out (fun x hx => (htab x hx).elim) hlocks h1 h2 h3 (fun t ht _ => ⟨rfl, by rw [ht]; exact hH⟩) (fun z hz => nomatch hlo z hz) (Nat.le_refl _) (Nat.le_refl _)
/-- a method that writes and throws -/
theorem of_tw {k0 : Nat} {w1 : va_W} (hy : plainName y.cls = true) (hw : ws = Cond.code y cc maxL ret :: ws') (hlen : (lg_sl av).length ≤ maxL)
    (body : ∀ (p : Program) (e : Env) (s : State) (m : MethodId) (args : Array Value) (below : List Frame) (meth : Method) (c : Code) (ls : Array Slot) (Q : State → Prop) (A : Nat → Prop), CallFix p m c cc maxL s args ws y.cls → lv_has ls maxL (lv_args 0 av) → va_P G.1 vwCl wc s.heap → va_D A wc → va_S A s.heap s.heap [] → KK G s → TT A s s.heap → A = va_A0 wc →
      (∀ (pc : Nat) (ls : Array Slot) (rest : List Value) (k : Nat) (H : Heap) (locs : List Loc) (q : Addr) (ce : Cell), k = k0 → va_P G.1 vwCl w1 H → va_D A w1 → va_S A s.heap H locs → H[q]? = some ce → ce.vm = .none → s.vm.findClass (exn k) = some ce.cls → vx_W p l e rm s m args below meth c H locs 1 6 Q (F0 m pc ls rest) q) →
      W p l e rm s m args below meth c s.heap [] 0 0 Q (F0 m 0 ls [])) : vx_Met l y ws rm (va_Pc av (PreX G wc)) NoQ (XTw G (va_A0 wc) w1 k0) 1 6 (va_A0 wc) := by
  refine of_thr hy hw hlen ?_
  intro p e s m args below meth c ls S hlocks htab hl hB
  have hD : va_D (va_A0 wc) wc := ⟨hB.1.2.1.1, fun k q hk => ⟨k, q.2, hk⟩⟩
  refine body p e s m args below meth c ls _ _ S hl hB.1.1 hD va_S.rf hB.1.2.2.1 hB.2 rfl (fun pc ls rest k H locs q ce hk hP hD hS h1 h2 h3 => ?_)
  subst hk
  exact vx_out (fun x hx => (htab x hx).elim) hlocks h1 h2 h3 (fun t ht _ => ⟨rfl, by rw [ht]; exact hP, hD, hS.F ht⟩) hS.2.2 (Nat.le_refl _) (Nat.le_refl _)
end MyThr
section MyPass
variable {p : Program} {l : Launch} {e : Env} {R : Room} {s : State} {m : MethodId} {args : Array Value} {below : List Frame} {meth : Method} {c : Code} {H : Heap} {locs : List Loc} {Q : State → Prop}
variable {y : MethodName} {bytes cc : ByteArray} {maxL nL n index pc : Nat} {ls : Array Slot} {ret : Option FieldType} {ws : List Cond} {rm : Room} {Ts : List Cond} {own C : String} {b : Addr} {As rest st0 : List Value} {G : GG} {wc wl : va_W} {B : State → Prop} {k : Nat}
theorem thr_run {a : Array Value} (hr : vx_Run p l e R s m args below meth c H locs 0 0 1 6 (F0 m pc ls st0) rest (NoQ a) (XT0 k) (fun _ => False))
    (kx : ∀ (H1 : Heap) (locs1 : List Loc) (q : Addr) (ce : Cell), KH H H1 → (∀ z ∈ locs1, z ∈ locs) → H1[q]? = some ce → ce.vm = .none → s.vm.findClass (exn k) = some ce.cls → vx_W p l e R s m args below meth c H1 locs1 1 6 Q (F0 m pc ls rest) q) :
    W p l e R s m args below meth c H locs 0 0 Q (F0 m pc ls st0) := by
  intro T hT X
  rcases hr T hT X with ⟨v, st₀, t, T', L, h0, X', hL, e1, e2, hq, st⟩ | ⟨q, st₀, t, T', L, E, ce, h0, X', hL, e1, e2, ⟨hE, hk⟩, hce, hcv, hcl, st⟩
  · exact hq.elim
  · subst hE
    rw [h0] at hk
    obtain ⟨t2, a1, b1⟩ := kx T'.heap (locs ++ L) q ce (by rw [e1]; exact hk) (fun z hz => (List.mem_append.mp hz).elim id (fun h => (hL z h).elim)) (by rw [e1]; exact hce) hcv hcl T' rfl X'
    exact ⟨t2, st.trans a1, b1⟩
theorem thrS (S : CallFix p m c cc nL s args Ts own) (hM : vx_Met l y ws rm (va_Pc As B) NoQ (XT0 k) 1 6 (fun _ => False)) (cw : CallB R s args own index y bytes maxL ret ws rm 1 6 n ∧ (Cond.static y).before args s = true) (hbl : FrameBlind (va_Pc As B)) (hB : ∀ U : State, U.heap = H → s.WarmedH U.vm → B U)
    (hn : As.length = n) (hsz : ls.size = nL) (hst : st0 = As.reverse ++ rest) (hW : (rest.map fun v => v.category).sum ≤ 8) (hdg : decode cc pc = .ok (.invokestatic index, 3)) (hcs : 1 ≤ R.cells ∧ 6 ≤ R.slots)
    (kx : ∀ (H1 : Heap) (locs1 : List Loc) (q : Addr) (ce : Cell), KH H H1 → (∀ z ∈ locs1, z ∈ locs) → H1[q]? = some ce → ce.vm = .none → s.vm.findClass (exn k) = some ce.cls → vx_W p l e R s m args below meth c H1 locs1 1 6 Q (F0 m pc ls rest) q) :
    W p l e R s m args below meth c H locs 0 0 Q (F0 m pc ls st0) :=
  thr_run (vx_runS (g := F0 m pc ls st0) S hM cw ⟨hbl, fun U hU hW => ⟨rfl, hB U hU hW⟩⟩ rfl hn hsz hst (lv_room hW) hdg (by rw [Nat.zero_add, Nat.zero_add]; exact hcs)) kx
theorem thrV (S : CallFix p m c cc nL s args Ts own) (hM : vx_Met l y ws rm (va_Pc (.ref b :: As) (PreT G wc)) NoQ (XT0 k) 1 6 (fun _ => False)) (cw : CallW R s args own C index y bytes maxL ret ws rm 1 6 n) (hK : KK G s) (hT : TT (fun _ => False) s H) (hP : va_P G.1 vwCl wl H) (is : List Nat) (hs : is.filterMap (fun i => wl[i]?) = wc)
    (q0 ci : Nat) {fs : List Value} {q : vw_C} (he : wl[q0]? = some (b, .inr (ci, fs))) (hc : vwCl[ci]? = some q) (hC : q.1 = C)
    (hn : As.length = n) (hsz : ls.size = nL) (hst : st0 = As.reverse ++ .ref b :: rest) (hW : (rest.map fun v => v.category).sum ≤ 8) (hdg : decode cc pc = .ok (.invokevirtual index, 3)) (hcs : 1 ≤ R.cells ∧ 6 ≤ R.slots)
    (kx : ∀ (H1 : Heap) (locs1 : List Loc) (q : Addr) (ce : Cell), KH H H1 → (∀ z ∈ locs1, z ∈ locs) → H1[q]? = some ce → ce.vm = .none → s.vm.findClass (exn k) = some ce.cls → vx_W p l e R s m args below meth c H1 locs1 1 6 Q (F0 m pc ls rest) q) :
    W p l e R s m args below meth c H locs 0 0 Q (F0 m pc ls st0) := by
  subst hC
  exact thr_run (vx_runV (g := F0 m pc ls st0) S hM cw ⟨PreT.blind, va_recv hK.1 hP hc he, fun U hU hW => ⟨rfl, PreW.mk hK hP is hs hU hW, by rw [hU]; exact hT.warm hW⟩⟩ rfl hn hsz hst (lv_room hW) hdg (by rw [Nat.zero_add, Nat.zero_add]; exact hcs)) kx
end MyPass
abbrev rxX4_needArgument : Room := { frames := 6, cells := 1, slots := 6, locals := 90 }
abbrev rxX4_needState : Room := { frames := 6, cells := 1, slots := 6, locals := 90 }
abbrev rxX4_inSlot : Room := { frames := 6, cells := 1, slots := 6, locals := 90 }
theorem exn_good1 : ∀ w ∈ Cond.classLink RX4 227 "java/lang/IllegalArgumentException" :: Cond.initialized "java/lang/IllegalArgumentException" :: vx_atS RX4 231 "java/lang/IllegalArgumentException" exnNames, vx_ot w = true := by decide +kernel
theorem exn_good2 : ∀ w ∈ Cond.classLink RX4 234 "java/lang/IllegalStateException" :: Cond.initialized "java/lang/IllegalStateException" :: vx_atS RX4 238 "java/lang/IllegalStateException" exnNames, vx_ot w = true := by decide +kernel
theorem exn_good3 : ∀ w ∈ Cond.classLink RX4 239 "java/lang/IndexOutOfBoundsException" :: Cond.initialized "java/lang/IndexOutOfBoundsException" :: vx_atS RX4 243 "java/lang/IndexOutOfBoundsException" exnNames, vx_ot w = true := by decide +kernel
theorem exn_bad1 : ∀ w ∈ (vx_atS RX4 231 "java/lang/IllegalArgumentException" exnNames).filter (fun w => !goodWord w), w ∈ thL := by decide +kernel
theorem exn_bad2 : ∀ w ∈ (vx_atS RX4 238 "java/lang/IllegalStateException" exnNames).filter (fun w => !goodWord w), w ∈ thL := by decide +kernel
theorem exn_bad3 : ∀ w ∈ (vx_atS RX4 243 "java/lang/IndexOutOfBoundsException" exnNames).filter (fun w => !goodWord w), w ∈ thL := by decide +kernel
theorem thL_tabs : ∀ w ∈ thL, w.onTables = true := by decide +kernel
theorem TT.words {A : Nat → Prop} {s : State} {H : Heap} {args : Array Value} (h : TT A s H) : ∀ w ∈ thL, w.before args s = true := fun w hw => va_Nw.use (thL_tabs w hw) (h.1 w hw)
set_option maxHeartbeats 4000000 in
set_option maxRecDepth 100000 in
theorem cxX4_needArgument (l : Launch) (hfl : l.stackTraces = false) : vx_Met l yX4_needArgument wsX4_needArgument rxX4_needArgument (va_Pc [.int 0] (fun U => TT (fun _ => False) U U.heap)) NoQ (XT0 1) 1 6 (fun _ => False) := by
  refine of_thr (cc := cX4_needArgument) (maxL := 1) (ret := none) (by decide) rfl (Nat.le_of_ble_eq_true rfl) ?_
  intro p e s m args below meth c ls S hlocks htab hl hT
  have S : CallFix p m c cX4_needArgument 1 s args wsX4_needArgument RX4 := S
  obtain ⟨hx, hb, hml, hown, hts⟩ := id S
  have hl : lv_has ls 1 [(0, .int 0)] := hl
  obtain ⟨-, ⟨sa, hstr⟩, -, -, hU, hN⟩ := id hT
  refine lv_iload_n hx hb dX4_needArgument_0 rfl (lv_at hl 0 rfl) ?_
  refine lv_if_ne (tgt := 14) hx hb dX4_needArgument_1 (by decide) (fun c1 => absurd rfl c1) (fun _ => ?_)
  exact vx_throwS (names := exnNames) hx hb hfl hown (by decide +kernel) (by decide +kernel) (hts _ (List.mem_of_getElem? (i := 1) rfl)) (hts _ (List.mem_of_getElem? (i := 2) rfl)) hstr
    (vx_hat (fun w hw => hts w (List.mem_cons_of_mem _ (List.mem_append_right _ hw))) exn_bad1 hT.words) exn_good1 hU hN va_S.rf (hl.1.trans hml.symm)
    dX4_needArgument_4 dX4_needArgument_7 dX4_needArgument_8 dX4_needArgument_10 dX4_needArgument_13 (fun x hx => (htab x hx).elim) (by decide) (by decide) (by decide) (by decide) hlocks
    (fun t _ h1 h2 => ⟨rfl, h1, h2⟩) (fun z hz => nomatch hz) (by decide) (by decide)
set_option maxHeartbeats 4000000 in
set_option maxRecDepth 100000 in
theorem cxX4_needState (l : Launch) (hfl : l.stackTraces = false) : vx_Met l yX4_needState wsX4_needState rxX4_needState (va_Pc [.int 0] (fun U => TT (fun _ => False) U U.heap)) NoQ (XT0 2) 1 6 (fun _ => False) := by
  refine of_thr (cc := cX4_needState) (maxL := 1) (ret := none) (by decide) rfl (Nat.le_of_ble_eq_true rfl) ?_
  intro p e s m args below meth c ls S hlocks htab hl hT
  have S : CallFix p m c cX4_needState 1 s args wsX4_needState RX4 := S
  obtain ⟨hx, hb, hml, hown, hts⟩ := id S
  have hl : lv_has ls 1 [(0, .int 0)] := hl
  obtain ⟨-, -, ⟨sa, hstr⟩, -, hU, hN⟩ := id hT
  refine lv_iload_n hx hb dX4_needState_0 rfl (lv_at hl 0 rfl) ?_
  refine lv_if_ne (tgt := 14) hx hb dX4_needState_1 (by decide) (fun c1 => absurd rfl c1) (fun _ => ?_)
  exact vx_throwS (names := exnNames) hx hb hfl hown (by decide +kernel) (by decide +kernel) (hts _ (List.mem_of_getElem? (i := 1) rfl)) (hts _ (List.mem_of_getElem? (i := 2) rfl)) hstr
    (vx_hat (fun w hw => hts w (List.mem_cons_of_mem _ (List.mem_append_right _ hw))) exn_bad2 hT.words) exn_good2 hU hN va_S.rf (hl.1.trans hml.symm)
    dX4_needState_4 dX4_needState_7 dX4_needState_8 dX4_needState_10 dX4_needState_13 (fun x hx => (htab x hx).elim) (by decide) (by decide) (by decide) (by decide) hlocks
    (fun t _ h1 h2 => ⟨rfl, h1, h2⟩) (fun z hz => nomatch hz) (by decide) (by decide)
set_option maxHeartbeats 4000000 in
set_option maxRecDepth 100000 in
theorem cxX4_inSlot (l : Launch) (hfl : l.stackTraces = false) (G : GG) (q0 q1 ui ud uf us0 us1 us2 : Nat) (gain a0 : Int32) (ho : a0 < 0 ∨ 3 ≤ a0) : vx_Met l yX4_inSlot wsX4_inSlot rxX4_inSlot (va_Pc [.ref q0, .int a0] (PreT G (wdX4 G q0 q1 ui ud uf us0 us1 us2 gain))) NoQ (XT0 3) 1 6 (fun _ => False) := by
  refine of_thr (cc := cX4_inSlot) (maxL := 2) (ret := some (.object "HalftoneScreens$Screen")) (by decide) rfl (Nat.le_of_ble_eq_true rfl) ?_
  intro p e s m args below meth c ls S hlocks htab hl hB
  have S : CallFix p m c cX4_inSlot 2 s args wsX4_inSlot RX4 := S
  obtain ⟨hx, hb, hml, hown, hts⟩ := id S
  have hl : lv_has ls 2 [(0, .ref q0), (1, .int a0)] := hl
  obtain ⟨⟨hP, hK⟩, hT⟩ := hB
  obtain ⟨-, -, -, ⟨sa, hstr⟩, hU, hN⟩ := id hT
  have fin : W p l e rxX4_inSlot s m args below meth c s.heap [] 0 0 (vx_MQ below NoQ (XT0 3) args s 1 6 (fun _ => False)) (F0 m 22 ls []) :=
    vx_throwS (names := exnNames) hx hb hfl hown (by decide +kernel) (by decide +kernel) (hts _ (List.mem_of_getElem? (i := 1) rfl)) (hts _ (List.mem_of_getElem? (i := 2) rfl)) hstr
      (vx_hat (fun w hw => hts w (List.mem_cons_of_mem _ (List.mem_append_right _ hw))) exn_bad3 hT.words) exn_good3 hU hN va_S.rf (hl.1.trans hml.symm)
      dX4_inSlot_22 dX4_inSlot_25 dX4_inSlot_26 dX4_inSlot_28 dX4_inSlot_31 (fun x hx => (htab x hx).elim) (by decide) (by decide) (by decide) (by decide) hlocks
      (fun t _ h1 h2 => ⟨rfl, h1, h2⟩) (fun z hz => nomatch hz) (by decide) (by decide)
  refine lv_iload_n hx hb dX4_inSlot_0 rfl (lv_at hl 1 rfl) ?_
  refine lv_if_lt (tgt := 22) hx hb dX4_inSlot_1 (by decide) (fun _ => fin) (fun c1 => ?_)
  refine lv_iload_n hx hb dX4_inSlot_4 rfl (lv_at hl 1 rfl) ?_
  refine lv_aload_n hx hb dX4_inSlot_5 rfl (lv_at hl 0 rfl) ?_
  refine va_get (D := G.1) (ci := 4) (v := .ref q1) (C := RX4) (T := TX4) (N := 5) hx hb hts fw_X4_inSlot_X4 hown hK.1 hP 0 rfl rfl 0 (by decide) (hts _ lk_X4_inSlot_f11) (fun _ h9 => h9) rfl dX4_inSlot_6 ?_
  refine va_alen (v := 3) hx hb hK.1 hP 1 2 rfl rfl rfl dX4_inSlot_9 ?_
  exact lv_icmp_ge (tgt := 22) hx hb dX4_inSlot_10 (by decide) (fun _ => fin) (fun c2 => (ho.elim (fun h => absurd h c1) (fun h => absurd h c2)))
