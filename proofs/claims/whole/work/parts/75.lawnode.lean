/-! GroupTreesLaw.node (by program) -/
def NCs (U : State) : Prop := ∃ cI cN : ClassId, U.vm.findClass "java/lang/IndexOutOfBoundsException" = some cI ∧ U.vm.findClass "java/util/NoSuchElementException" = some cN ∧ U.vm.assignable cI cI = true ∧ U.vm.assignable cN cN = true ∧ U.vm.assignable cN cI = false
theorem NCs.moved {s U : State} (hW : s.WarmedH U.vm) (h : NCs s) : NCs U := by
  obtain ⟨cI, cN, h1, h2, h3, h4, h5⟩ := h
  exact ⟨cI, cN, by rw [hW.alike.findClass]; exact h1, by rw [hW.alike.findClass]; exact h2, by rw [hW.alike.assignable]; exact h3, by rw [hW.alike.assignable]; exact h4, by rw [hW.alike.assignable]; exact h5⟩
section
variable {e : Env} {S : State} {g : JFrame} {a : Addr} {meth : Method} {c : Code} {ce : Cell} {cI cN : ClassId}
theorem nl_tab (hh : c.exceptionTable.toList.map (fun h => (h.startPc, h.endPc, h.handlerPc, h.catchType)) = [(0, 10, 13, 13), (0, 10, 17, 15)]) : ∃ y1 y2 : ExceptionTableEntry, c.exceptionTable.toList = [y1, y2] ∧ (y1.startPc = 0 ∧ y1.endPc = 10 ∧ y1.handlerPc = 13 ∧ y1.catchType = 13) ∧ (y2.startPc = 0 ∧ y2.endPc = 10 ∧ y2.handlerPc = 17 ∧ y2.catchType = 15) := by
  generalize c.exceptionTable.toList = ys at hh ⊢
  match ys, hh with
  | [], hh => cases hh
  | [y1], hh => simp at hh
  | [y1, y2], hh =>
    simp only [List.map_cons, List.map_nil, List.cons.injEq, Prod.mk.injEq, and_true] at hh
    exact ⟨y1, y2, rfl, hh.1, hh.2⟩
  | y1 :: y2 :: y3 :: r, hh => simp at hh
theorem nl_f1 (hm : S.vm.method? g.method = some meth) (hcd : meth.code = some c) (hh : c.exceptionTable.toList.map (fun h => (h.startPc, h.endPc, h.handlerPc, h.catchType)) = [(0, 10, 13, 13), (0, 10, 17, 15)]) (hpc : g.pc = 5) (hcell : S.heap[a]? = some ce) (hvm : ce.vm = .none) (hl : S.vm.ClassLinks e.platform g.method.cls 13 cI)
    {vm1 : Vm} (hv1 : vm1 = S.vm.noted g.method.cls 13 (.cls cI)) (hk : ∃ k, vm1.classes[ce.cls]? = some k) (hc : ∃ k, vm1.classes[cI]? = some k) (ha : vm1.assignable ce.cls cI = true) : FindsC e S g a (.found 13) (S.setVm vm1) := by
  obtain ⟨y1, y2, ht, ⟨a1, a2, a3, a4⟩, -⟩ := nl_tab hh
  intro Q E d acts
  rw [W.findHandler_eq hm hcd, ht, th_go (x := y1) (vm' := vm1) (cT := cI) (by simp [covers, a1, a2, hpc]) (by rw [a4]; decide) (by rw [a4]; exact hl) (by rw [a4]; exact hv1) hcell (fun k h => by rw [hvm] at h; cases h) hk hc, if_pos ha, a3]
theorem nl_f2 (hm : S.vm.method? g.method = some meth) (hcd : meth.code = some c) (hh : c.exceptionTable.toList.map (fun h => (h.startPc, h.endPc, h.handlerPc, h.catchType)) = [(0, 10, 13, 13), (0, 10, 17, 15)]) (hpc : g.pc = 5) (hcell : S.heap[a]? = some ce) (hvm : ce.vm = .none) (hl : S.vm.ClassLinks e.platform g.method.cls 13 cI)
    {vm1 vm2 : Vm} (hv1 : vm1 = S.vm.noted g.method.cls 13 (.cls cI)) (hk : ∃ k, vm1.classes[ce.cls]? = some k) (hc : ∃ k, vm1.classes[cI]? = some k) (ha : vm1.assignable ce.cls cI = false)
    (hl2 : vm1.ClassLinks e.platform g.method.cls 15 cN) (hv2 : vm2 = vm1.noted g.method.cls 15 (.cls cN)) (hk2 : ∃ k, vm2.classes[ce.cls]? = some k) (hc2 : ∃ k, vm2.classes[cN]? = some k) (ha2 : vm2.assignable ce.cls cN = true) : FindsC e S g a (.found 17) (S.setVm vm2) := by
  obtain ⟨y1, y2, ht, ⟨a1, a2, a3, a4⟩, b1, b2, b3, b4⟩ := nl_tab hh
  intro Q E d acts
  rw [W.findHandler_eq hm hcd, ht, th_go (x := y1) (vm' := vm1) (cT := cI) (by simp [covers, a1, a2, hpc]) (by rw [a4]; decide) (by rw [a4]; exact hl) (by rw [a4]; exact hv1) hcell (fun k h => by rw [hvm] at h; cases h) hk hc, if_neg (by rw [ha]; decide),
    th_go (s := S.setVm vm1) (x := y2) (vm' := vm2) (cT := cN) (by simp [covers, b1, b2, hpc]) (by rw [b4]; decide) (by rw [b4]; exact hl2) (by rw [b4]; exact hv2) hcell (fun k h => by rw [hvm] at h; cases h) hk2 hc2, if_pos ha2, b3]
  rfl
end
section
variable {p : Program} {l : Launch} {e : Env} {s : State} {m : MethodId} {args : Array Value} {below : List Frame} {meth : Method} {c : Code} {D : va_G} {cy : Nat → ClassId} {base b : Nat} {M : AM} {ls : Array Slot} {Q : State → Prop}
theorem nl_throw (hx : p.tables.exec = Jvm.exec) (hb : c.code = cL_node) (hml : c.maxLocals = ls.size) (hh : c.exceptionTable.toList.map (fun h => (h.startPc, h.endPc, h.handlerPc, h.catchType)) = [(0, 10, 13, 13), (0, 10, 17, 15)]) (hts : ∀ w ∈ TBg, w.before args s = true) (hown : s.vm.findClass RL = some m.cls) (hK : Kn D cy s) (hN : NCs s) (hZ : TSt base s) (hR : Rep D cy base b M s.heap)
    {x1 x2 : Int32} {cls : String} {pcH o : Nat} (hM : MetFree l yX9_node (headSpec (.code yX9_node cX9_node 3 (some .int) :: TBg) ({ frames := 6, cells := 1, slots := 6, locals := 100 } : Room)) (PcN D cy base b M x1 x2) (fun _ _ _ _ _ => True) (QcN D cy base b M cls)) (hcl : cls = "java/lang/IndexOutOfBoundsException" ∧ pcH = 13 ∨ cls = "java/util/NoSuchElementException" ∧ pcH = 17)
    (kk : ∀ (H1 : Heap) (locs1 : List Loc) (a : Nat), Rep D cy base b M H1 → (∀ q, q < base ∨ base + 128 ≤ q → q < s.heap.size → H1[q]? = s.heap[q]?) → (∀ z ∈ locs1, frW base z.base) → W p l e ({ frames := 7, cells := 1, slots := 6, locals := 130 } : Room) s m args below meth c H1 locs1 1 6 Q (F0 m pcH ls [.ref a])) :
    W p l e ({ frames := 7, cells := 1, slots := 6, locals := 130 } : Room) s m args below meth c s.heap [] 0 0 Q (F0 m 5 ls [.int x2, .int x1, .ref (adr base b 0), .int 0, .ref o]) := by
  intro T hT X
  have hpl : e.platform.magicAccessors = ({} : Platform).magicAccessors := by rw [X.admits.platform]
  have hws : WS D cy base b s.heap M s.heap [] := ⟨hR, fun _ _ => rfl, fun z hz => by cases hz⟩
  obtain ⟨hadr, cellB, q1, q2, q3, -⟩ := rep_obj hws cf_all (k9 := 9) (q := (RX9, TX9, 14)) rfl (a := 0) (by decide)
  obtain ⟨hS9, hfc, kC, hkC, hkind⟩ := hK.1 9 (RX9, TX9, 14) rfl
  have hy : yX9_node.cls ≠ "java/lang/invoke/MethodHandle" ∧ yX9_node.cls ≠ "java/lang/invoke/VarHandle" := ⟨by decide +kernel, by decide +kernel⟩
  have pay : ∀ w ∈ (Cond.code yX9_node cX9_node 3 (some .int) :: TBg), ∀ (a' : Array Value) (V : State), s.WarmedH V.vm → w.before a' V = true := pay_in hts (good_tb (tw6 (i := 6) rfl rfl))
  obtain ⟨mk, methM, hnamed, hmethM, hstM, habM⟩ := Cond.instanceMethod_spec (hts (.instanceMethod yX9_node) (tw6 (i := 4) rfl rfl))
  obtain ⟨methM', cM, hmethM', hcM, -, hlM, -, -, -, hsigM⟩ := Cond.code_spec hnamed (hts (.code yX9_node cX9_node 3 (some .int)) (tw6 (i := 6) rfl rfl))
  cases hmethM.symm.trans hmethM'
  obtain ⟨c2, r2, m2, w1, w2, w3, w4, kP, hkP, hkPi⟩ := Cond.selects_spec (hts (.selects RX9 yX9_node yX9_node) (tw6 (i := 5) rfl rfl))
  have hcls : s.vm.findClass RX9 = some cellB.cls := by rw [q2]; exact hfc
  cases hcls.symm.trans w1
  cases (State.methodFound?_of_named hnamed hy).symm.trans w2
  cases hnamed.symm.trans w3
  have hselP : selectMethod e.platform s.vm cellB.cls mk = .method mk := by rw [Launch.admits_selectMethod X.admits]; exact w4
  have hlen : ([.int x1, .int x2] : List Value).length = methM.sig.parameters.length := by
    have h9 : (parseMethodDescriptor yX9_node.desc).map (fun d => d.parameters.length) = some 2 := by decide +kernel
    rw [hsigM] at h9
    exact (Option.some.inj h9).symm
  obtain ⟨vm₁, X₁, hstep₁⟩ := X.invokevirtual hx hown (hts (.methodLink RL 7 yX9_node) (tw6 (i := 3) rfl rfl)) hnamed hmethM hstM hkP hkPi hy (a := adr base b 0) (cell := cellB) (by rw [hT, hadr]; exact q1)
    (fun z h => by rw [q3] at h; cases h) hselP hmethM habM hkP hkPi (g := F0 m 5 ls [.int x2, .int x1, .ref (adr base b 0), .int 0, .ref o]) rfl (argsL := [.int x1, .int x2]) (rest := [.int 0, .ref o]) hlen rfl (by rw [hb]; exact (by decide +kernel : decode cL_node 5 = .ok (.invokevirtual 7, 3)))
  generalize hU : T.setVm vm₁ = U at X₁ hstep₁
  have hUh : U.heap = s.heap := by rw [← hU]; exact hT
  have h : At U m c below := X₁.here
  have hn1 := X₁.named hnamed
  obtain ⟨kY, hkY, -⟩ := className_of_methodNamed hn1
  have hinitY : kY.init = .initialized := Cond.initialized_spec (findClass_of_methodNamed hn1) hkY (pay (.initialized RX9) (List.mem_cons_of_mem _ (tw1 (i := 1) rfl rfl)) #[] U X₁.warmed)
  have hdg : decode c.code (F0 m 5 ls [.int 0, .ref o]).pc = .ok (.invokevirtual 7, 3) := by rw [hb]; exact (by decide +kernel : decode cL_node 5 = .ok (.invokevirtual 7, 3))
  have happ : (headSpec (.code yX9_node cX9_node 3 (some .int) :: TBg) ({ frames := 6, cells := 1, slots := 6, locals := 100 } : Room)).appliesLoose yX9_node e.platform (U.calling (F0 m 5 ls [.int 0, .ref o]) mk ([.ref (adr base b 0), .int x1, .int x2] : List Value).toArray) = true :=
    Spec.appliesLoose_calling (g := F0 m 5 ls [.int 0, .ref o]) h hdg hn1 hkY hinitY
      (X₁.room_calling (g := F0 m 5 ls [.int 0, .ref o]) (R' := ({ frames := 6, cells := 1, slots := 6, locals := 100 } : Room)) hml.symm (by rw [X₁.warmed.alike.method?]; exact hmethM) hcM (by decide) (by rw [hlM]; show 2 * 0 + (1 + (1 + 0)) + (3 + 11) + 100 ≤ 130; decide) (by decide) (by decide)) (atoms_intro fun w hw => pay w hw _ _ X₁.warmed)
  obtain ⟨mid, hmid⟩ := h.above
  have hfr : (U.setTop (F0 m 5 ls [.int 0, .ref o])).frames = (.java (F0 m 5 ls [.int 0, .ref o]) :: mid) ++ below := by rw [State.frames_setTop' _ h.top, hmid]; rfl
  obtain ⟨oc, s₂, hsteps, -, hend, hq⟩ := Steps.callFree hM p X₁.admits X₁.cas X₁.clock (acts := []) hfr happ
    ⟨rfl, by show Rep D cy base b M U.heap; rw [hUh]; exact hR, (hK.moved X₁.warmed).calling, (hZ.kept X₁.warmed (fun q _ => by rw [hUh])).calling⟩ trivial
  have hq' : QcN D cy base b M cls ([.ref (adr base b 0), .int x1, .int x2] : List Value).toArray (U.calling (F0 m 5 ls [.int 0, .ref o]) mk ([.ref (adr base b 0), .int x1, .int x2] : List Value).toArray) oc s₂ := hq
  obtain ⟨ce, cX, L, ho, e1, e2, e3, e4, hW2, hsame, hL, hR2, hz2, hf2⟩ := hq'
  subst ho
  have hst : (U.calling (F0 m 5 ls [.int 0, .ref o]) mk ([.ref (adr base b 0), .int x1, .int x2] : List Value).toArray).heap = U.heap := rfl
  rw [hst] at e1 hend hz2 hf2
  rw [State.frames_setTop' _ h.top] at hend
  have hend : s₂.frames = .throwing U.heap.size :: .java (F0 m 5 ls [.int 0, .ref o]) :: U.frames.tail := hend
  obtain ⟨g1, g2, g3, g4, g5, g6⟩ := hsame
  have hW' : U.WarmedH s₂.vm := hW2
  have e5 : s₂ = ({ (U.calling (F0 m 5 ls [.int 0, .ref o]) mk ([.ref (adr base b 0), .int x1, .int x2] : List Value).toArray).setFrames s₂.frames with heap := s₂.heap, slotsUsed := s₂.slotsUsed } : State).setVm s₂.vm := by
    have : s₂ = ({ s₂ with vm := (U.calling (F0 m 5 ls [.int 0, .ref o]) mk ([.ref (adr base b 0), .int x1, .int x2] : List Value).toArray).vm } : State).setVm s₂.vm := rfl
    rw [g1] at this
    exact this
  obtain ⟨g₀, hg0⟩ := Option.isSome_iff_exists.mp h.top
  obtain ⟨r, hr⟩ := State.topJava?_eq_some.mp hg0
  have hsame2 : U.sameButNew ({ U with heap := s₂.heap, slotsUsed := s₂.slotsUsed } : State) L 1 6 := by
    refine ⟨?_, g2, g3, g4, g5, g6⟩
    obtain ⟨t, ht, -⟩ := State.frames_cons hr
    show ({ U with heap := s₂.heap, slotsUsed := s₂.slotsUsed } : State) = { U.setFrames U.frames with heap := s₂.heap, slotsUsed := s₂.slotsUsed }
    rw [State.setFrames_self ht]
  have X2 : Stand p l e ({ frames := 7, cells := 1, slots := 6, locals := 130 } : Room) s m args below meth c (({ U with heap := s₂.heap, slotsUsed := s₂.slotsUsed } : State).setVm s₂.vm) ([] ++ L) (0 + 1) (0 + 6) :=
    ⟨X₁.admits, X₁.cas, X₁.clock, X₁.frames, X₁.room, X₁.hears, X₁.method, X₁.code, (X₁.here.setHeapUsed s₂.heap s₂.slotsUsed).setVm hW'.alike, X₁.tail, State.WarmedH.trans X₁.warmed hW', X₁.limits, X₁.bytes, X₁.same.trans (hsame2.setVm s.vm)⟩
  generalize hS2 : (({ U with heap := s₂.heap, slotsUsed := s₂.slotsUsed } : State).setVm s₂.vm) = S2 at X2
  have hs2 : s₂ = (S2.setTop (F0 m 5 ls [.int 0, .ref o])).pushFrame (.throwing U.heap.size) := by
    have hr' : S2.frames = .java g₀ :: r := by rw [← hS2]; exact hr
    rw [State.pushFrame, State.setTop_of_frames _ hr', State.setFrames_setFrames]
    refine e5.trans ?_
    rw [hend, State.calling_eq h.top, State.setFrames_setFrames, hr, State.frames_setFrames _ (State.cur_lt_of_frames hr')]
    subst hS2
    rfl
  have hS2h : S2.heap = s₂.heap := by rw [← hS2]; rfl
  have hce : S2.heap[U.heap.size]? = some ce := by rw [hS2h]; exact e1
  obtain ⟨cI, cN, n1, n2, n3, n4, n5⟩ := hN
  obtain ⟨c1, hc1, hcl1⟩ := Cond.classLink_spec hown (hts (.classLink RL 13 "java/lang/IndexOutOfBoundsException") (tw6 (i := 1) rfl rfl)) e.platform hpl
  cases n1.symm.trans hc1
  obtain ⟨c3, hc3, hcl3⟩ := Cond.classLink_spec hown (hts (.classLink RL 15 "java/util/NoSuchElementException") (tw6 (i := 2) rfl rfl)) e.platform hpl
  cases n2.symm.trans hc3
  obtain ⟨dk, _, _, kt, hd, _, _, _, _, hkt, _, hopen⟩ := hcl1.here
  obtain ⟨dk3, _, _, kt3, hd3, _, _, _, _, hkt3, _, hopen3⟩ := hcl3.here
  have hW1 : s.WarmedH (S2.vm.noted m.cls 13 (.cls cI)) := X2.warmed.noted hd hopen (State.rightAt_cls hcl1)
  have hW3 : s.WarmedH ((S2.vm.noted m.cls 13 (.cls cI)).noted m.cls 15 (.cls cN)) := hW1.noted hd3 hopen3 (State.rightAt_cls hcl3)
  have hcX : s.vm.findClass cls = some cX := by rw [← X₁.warmed.alike.findClass]; exact e4
  have hcl9 : ∀ {vm' : Vm} {cZ : ClassId} {kZ : Class}, s.WarmedH vm' → s.vm.classes[cZ]? = some kZ → ∃ k, vm'.classes[cZ]? = some k := fun hW hk => by
    obtain ⟨k', hk', -⟩ := hW.alike.2.2 _ _ hk
    exact ⟨k', hk'⟩
  have hrep : Rep D cy base b M S2.heap := by rw [hS2h]; exact hR2
  have hfrm : ∀ q, q < base ∨ base + 128 ≤ q → q < s.heap.size → S2.heap[q]? = s.heap[q]? := fun q hq hq2 => by rw [hS2h, hf2 q hq (by rw [hUh]; exact hq2), hUh]
  rcases hcl with ⟨rfl, rfl⟩ | ⟨rfl, rfl⟩
  · obtain rfl : cX = cI := Option.some.inj (hcX.symm.trans n1)
    obtain ⟨t, a1, b1⟩ := kk S2.heap ([] ++ L) U.heap.size hrep hfrm hL (S2.setVm (S2.vm.noted m.cls 13 (.cls cX))) rfl (X2.noted hW1)
    refine ⟨t, hstep₁ _ fun acts => ?_, b1⟩
    rw [doInvoke_state]
    refine hsteps.trans ?_
    rw [hs2]
    exact th_caught (vm' := S2.vm.noted m.cls 13 (.cls cX)) (g := F0 m 5 ls [.int 0, .ref o]) X2.here (nl_f1 (S := ((S2.setTop (F0 m 5 ls [.int 0, .ref o])).pushFrame (.throwing U.heap.size))) (g := F0 m 5 ls [.int 0, .ref o]) (vm1 := S2.vm.noted m.cls 13 (.cls cX)) X2.method' X2.code hh rfl hce e3 (X2.warmed.classLinks hcl1) rfl (by rw [e2]; exact hcl9 hW1 hkt) (hcl9 hW1 hkt) (by rw [e2, hW1.alike.assignable]; exact n3)) a1
  · obtain rfl : cX = cN := Option.some.inj (hcX.symm.trans n2)
    obtain ⟨t, a1, b1⟩ := kk S2.heap ([] ++ L) U.heap.size hrep hfrm hL (S2.setVm ((S2.vm.noted m.cls 13 (.cls cI)).noted m.cls 15 (.cls cX))) rfl (X2.noted hW3)
    refine ⟨t, hstep₁ _ fun acts => ?_, b1⟩
    rw [doInvoke_state]
    refine hsteps.trans ?_
    rw [hs2]
    exact th_caught (vm' := (S2.vm.noted m.cls 13 (.cls cI)).noted m.cls 15 (.cls cX)) (g := F0 m 5 ls [.int 0, .ref o]) X2.here (nl_f2 (S := ((S2.setTop (F0 m 5 ls [.int 0, .ref o])).pushFrame (.throwing U.heap.size))) (g := F0 m 5 ls [.int 0, .ref o]) (vm1 := S2.vm.noted m.cls 13 (.cls cI)) (vm2 := (S2.vm.noted m.cls 13 (.cls cI)).noted m.cls 15 (.cls cX)) X2.method' X2.code hh rfl hce e3 (X2.warmed.classLinks hcl1) rfl (by rw [e2]; exact hcl9 hW1 hkt3) (hcl9 hW1 hkt) (by rw [e2, hW1.alike.assignable]; exact n5)
      (hW1.classLinks hcl3) rfl (by rw [e2]; exact hcl9 hW3 hkt3) (hcl9 hW3 hkt3) (by rw [e2, hW3.alike.assignable]; exact n4)) a1
end
