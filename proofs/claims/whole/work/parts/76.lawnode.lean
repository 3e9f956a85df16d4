/-! GroupTreesLaw.node: its contract (by program); a static call of a method with handlers -/
theorem arr1 (c : ClassId) (f : Nat → Value) (x : Value) : (arrV c 1 f).setSlot 0 x = arrV c 1 (fun _ => x) := by
  rw [arrV_store]
  have h : (fun j : Fin 1 => updV f 0 x j.val) = fun _ => x := funext fun j => by
    have hj : j.val = 0 := by omega
    simp [updV, hj]
  show ({ cls := c, slots := Array.ofFn (n := 1) (fun j => updV f 0 x j.val), vm := .none } : Cell) = { cls := c, slots := Array.ofFn (n := 1) (fun _ => x), vm := .none }
  rw [h]
def HHn : List (Nat × Nat × Nat × Nat) := [(0, 10, 13, 13), (0, 10, 17, 15)]
def frG (base : Nat) (q : Addr) : Prop := base ≤ q
def PcL (D : va_G) (cy : Nat → ClassId) (base b : Nat) (M : AM) (x1 x2 : Int32) : Array Value → State → Prop := fun a U => a = ([.ref (adr base b 0), .int x1, .int x2, .ref (base + 128)] : List Value).toArray ∧ Rep D cy base b M U.heap ∧ Kn D cy U ∧ NCs U ∧ TSt base U ∧ ∃ v, U.heap[base + 128]? = some (arrV (cy 13) 1 (fun _ => .long v))
def QcL (D : va_G) (cy : Nat → ClassId) (base b : Nat) (M : AM) (k : Nat) (v : Int32) : Array Value → State → Outcome → State → Prop := fun _ st o t =>
  o = .returned (some (.int (nI k))) ∧ Rep D cy base b M t.heap ∧ (∀ q, q < base → t.heap[q]? = st.heap[q]?) ∧ ∃ w, t.heap[base + 128]? = some (arrV (cy 13) 1 (fun _ => .long w)) ∧ (k = 0 → w = v.toInt64)
theorem blind_pcl {D : va_G} {cy : Nat → ClassId} {base b : Nat} {M : AM} {x1 x2 : Int32} : FrameBlind (PcL D cy base b M x1 x2) := fun _ _ _ _ h => ⟨h.1, h.2.1, h.2.2.1.calling, h.2.2.2.1, h.2.2.2.2.1.calling, h.2.2.2.2.2⟩
set_option maxRecDepth 20000 in
theorem nl_of {l : Launch} {D : va_G} {cy : Nat → ClassId} {base b : Nat} {M : AM} {x1 x2 : Int32} {Qc : Array Value → State → Outcome → State → Prop}
    (body : ∀ (p : Program) (e : Env) (s : State) (m : MethodId) (below : List Frame) (meth : Method) (c : Code) (ls : Array Slot), p.tables.exec = Jvm.exec → c.code = cL_node → c.maxLocals = ls.size → meth.sig.returnType = some .int → meth.locks = false → c.exceptionTable.toList.map (fun h => (h.startPc, h.endPc, h.handlerPc, h.catchType)) = [(0, 10, 13, 13), (0, 10, 17, 15)] →
      (∀ w ∈ TBg, w.before ([.ref (adr base b 0), .int x1, .int x2, .ref (base + 128)] : List Value).toArray s = true) → s.vm.findClass RL = some m.cls → PcL D cy base b M x1 x2 ([.ref (adr base b 0), .int x1, .int x2, .ref (base + 128)] : List Value).toArray s → lv_has ls 5 (lv_args 0 ([.ref (adr base b 0), .int x1, .int x2, .ref (base + 128)] : List Value)) →
      W p l e ({ frames := 7, cells := 1, slots := 6, locals := 130 } : Room) s m ([.ref (adr base b 0), .int x1, .int x2, .ref (base + 128)] : List Value).toArray below meth c s.heap [] 0 0 (MQ below Qc ([.ref (adr base b 0), .int x1, .int x2, .ref (base + 128)] : List Value).toArray s 1 6 (frG base)) (F0 m 5 ls [.int x2, .int x1, .ref (adr base b 0), .int 0, .ref (base + 128)])) :
    Met l yL_node (.codeWith yL_node cL_node 5 (some .int) HHn :: TBg) ({ frames := 7, cells := 1, slots := 6, locals := 130 } : Room) (PcL D cy base b M x1 x2) Qc 1 6 (frG base) := by
  refine va_MetW (cc := cL_node) (maxL := 5) (ret := some .int) (hh := HHn) (by decide +kernel) rfl ?_
  intro p e s m args below meth c s₁ B hml hP
  have hcode := atoms_spec (ws := .codeWith yL_node cL_node 5 (some .int) HHn :: TBg) B.pre
  have hex : c.exceptionTable.toList.map (fun h => (h.startPc, h.endPc, h.handlerPc, h.catchType)) = [(0, 10, 13, 13), (0, 10, 17, 15)] := by
    obtain ⟨m9, meth2, c2, hn9, h1, h2, -, -, h7, -⟩ := Cond.codeWith_spec (hcode _ List.mem_cons_self)
    cases B.named.symm.trans hn9
    cases h1.symm.trans B.method
    cases h2.symm.trans (Stand.of_body B).code
    exact h7
  obtain ⟨rfl, hP2⟩ := hP
  have hts : ∀ w ∈ TBg, w.before ([.ref (adr base b 0), .int x1, .int x2, .ref (base + 128)] : List Value).toArray s = true := fun w hw => hcode w (List.mem_cons_of_mem _ hw)
  have hown : s.vm.findClass RL = some m.cls := findClass_of_methodNamed B.named
  have hx := B.exec
  have hb := B.bytes
  have hl := lv_entry ([.ref (adr base b 0), .int x1, .int x2, .ref (base + 128)] : List Value) (n := 5) (Nat.le_of_ble_eq_true rfl)
  rw [lg_entry_eq]
  generalize (lg_sl ([.ref (adr base b 0), .int x1, .int x2, .ref (base + 128)] : List Value) ++ List.replicate (5 - (lg_sl ([.ref (adr base b 0), .int x1, .int x2, .ref (base + 128)] : List Value)).length) Slot.unset).toArray = ls at hl ⊢
  refine lv_aload_n hx hb (by decide +kernel : decode cL_node 0 = .ok (.aload_n 3, 1)) rfl (lv_at hl 3 rfl) ?_
  refine lv_iconst (v := 0) hx hb (by decide +kernel : decode cL_node 1 = .ok (.iconst 0, 1)) (by decide) ?_
  refine lv_aload_n hx hb (by decide +kernel : decode cL_node 2 = .ok (.aload_n 0, 1)) rfl (lv_at hl 0 rfl) ?_
  refine lv_iload_n hx hb (by decide +kernel : decode cL_node 3 = .ok (.iload_n 1, 1)) rfl (lv_at hl 1 rfl) ?_
  refine lv_iload_n hx hb (by decide +kernel : decode cL_node 4 = .ok (.iload_n 2, 1)) rfl (lv_at hl 2 rfl) ?_
  exact body p e s m below meth c ls hx hb (hml.trans hl.1.symm) B.returns B.notSynchronized hex hts hown ⟨rfl, hP2⟩ hl
set_option maxRecDepth 20000 in
/-- node, by the law's own method and by the reference -/
theorem nl_met (l : Launch) (hfl : l.stackTraces = false) (D : va_G) (cy : Nat → ClassId) (base b : Nat) {P : PL} {i : Nat → Nat → Int32} {l0 : Nat → Nat → Int64} {s0 r0 p0 : Nat} (hI : INV P i l0 s0 r0 p0) (x1 x2 : Int32) :
    ∃ (k : Nat) (v : Int32) (i' : Nat → Nat → Int32) (w : Int32), Met l yL_node (.codeWith yL_node cL_node 5 (some .int) HHn :: TBg) ({ frames := 7, cells := 1, slots := 6, locals := 130 } : Room) (PcL D cy base b (i, l0, Rp s0 r0 p0) x1 x2) (QcL D cy base b (i, l0, Rp s0 r0 p0) k v) 1 6 (frG base) ∧
      Mo_node x1 x2 (i, l0, Rp s0 r0 p0) = some (some (.int w), (i', l0, Rp s0 r0 p0)) ∧ i' 82 2 = nI k ∧ (nI k = 0 → k = 0) ∧ (k = 0 → w = v) ∧ INV P i' l0 s0 r0 p0 := by
  rcases node_pr hI x1 x2 with ⟨v, e1, e2⟩ | ⟨e1, w, e2⟩ | ⟨e1, e3, w, e2⟩
  · refine ⟨0, v, _, v, nl_of ?_, e2, u2_s _ _ _ _, fun _ => rfl, fun _ => rfl, INV_82 hI (nI 0)⟩
    intro p e s m below meth c ls hx hb hml hret hlk hex hts hown hP hl
    obtain ⟨-, hR, hK, hN, hZ, v0, hv0⟩ := hP
    have hws : WS D cy base b s.heap (i, l0, Rp s0 r0 p0) s.heap [] := ⟨hR, fun _ _ => rfl, fun z hz => by cases hz⟩
    refine rw_callV (As := [.int x1, .int x2]) (rest := [.int 0, .ref (base + 128)]) hx hb hml hts cf_all hown hK hws ⟨by decide, by decide⟩ (show CO l ({ frames := 7, cells := 1, slots := 6, locals := 130 } : Room) RL 7 (0, 9, 3, mD C_GT_node) from ⟨yX9_node, cX9_node, 3, some .int, ({ frames := 1, cells := 0, slots := 0, locals := 23 } : Room), (RX9, TX9, 14), ct_GT_node l, ⟨rfl, rfl, by decide, by decide⟩, tw6 (i := 6) rfl rfl, tw1 (i := 1) rfl rfl, tw6 (i := 3) rfl rfl, ⟨by decide +kernel, by decide +kernel, by decide +kernel⟩, tw6 (i := 4) rfl rfl, rfl, tw6 (i := 5) rfl rfl⟩) (by decide) rfl e1 (by simp [Value.category]) (by decide +kernel : decode cL_node 5 = .ok (.invokevirtual 7, 3)) (fun H1 locs1 hws1 => ?_)
    refine lv_i2l (v := v.toInt64) hx hb (by decide +kernel : decode cL_node 8 = .ok (.i2l, 1)) rfl ?_
    have hc1 : H1[base + 128]? = some (arrV (cy 13) 1 (fun _ => .long v0)) := (hws1.2.1 (base + 128) (Or.inr (Nat.le_refl _))).trans hv0
    refine W.last hx hb hc1 ((hK.2.1 13 (by omega) (by omega)).1 _ _) (fun q => by cases q) (by rw [arrV_size]; decide) rfl rfl (by decide +kernel : decode cL_node 9 = .ok (.lastore, 1)) (fun H2 g1 _ g3 => ?_)
    refine lv_goto hx hb (by decide +kernel : decode cL_node 10 = .ok (.goto 11, 3)) (tgt := 21) rfl ?_
    refine lv_iconst (v := nI 0) hx hb (by decide +kernel : decode cL_node 21 = .ok (.iconst 0, 1)) (by decide) ?_
    refine W.widen (k := 1) (n := 6) (by decide) (by decide) ?_
    have k1 : Rep D cy base b (i, l0, Rp s0 r0 p0) H2 := fun z hz => reC_kept (hws1.1 z hz) rfl rfl rfl (g3 _ (Nat.ne_of_lt (Nat.add_lt_add_left (show z < 128 from hz) base)))
    have k2 : ∀ q, q < base → H2[q]? = s.heap[q]? := fun q hq => (g3 q (Nat.ne_of_lt (show q < base + 128 by omega))).trans (hws1.2.1 q (Or.inl hq))
    have k3 : H2[base + 128]? = some (arrV (cy 13) 1 (fun _ => .long v.toInt64)) := by rw [g1, show Int32.toNatClampNeg 0 = 0 by decide, arr1]
    exact W.iret hx hb hret (fun t ht _ => ⟨rfl, by rw [ht]; exact k1, fun q hq => by rw [ht]; exact k2 q hq, v.toInt64, by rw [ht]; exact k3, fun _ => rfl⟩) (fun q hq => (List.mem_append.mp hq).elim (fun h => (hws1.2.2 q h).1) (fun h => by rw [List.mem_singleton.mp h]; exact Nat.le_add_right _ _)) (by decide +kernel : decode cL_node 22 = .ok (.ireturn, 1)) hlk
  · refine ⟨1, 0, _, w, nl_of ?_, e2, u2_s _ _ _ _, fun h => absurd h (by decide), fun h => absurd h (by decide), INV_82 (INV_82 hI (nI 0)) (nI 1)⟩
    intro p e s m below meth c ls hx hb hml hret hlk hex hts hown hP hl
    obtain ⟨-, hR, hK, hN, hZ, v0, hv0⟩ := hP
    have hlt := (Array.getElem?_eq_some_iff.mp hv0).1
    refine nl_throw (cls := "java/lang/IndexOutOfBoundsException") (pcH := 13) (o := base + 128) hx hb hml hex hts hown hK hN hZ hR (nd_met l hfl D cy base b (P := P) e1 (Or.inl ⟨by decide, rfl⟩)) (Or.inl ⟨rfl, rfl⟩) (fun H1 locs1 a hR1 hf1 hl1 => ?_)
    refine lv_astore hx hb (by decide +kernel : decode cL_node 13 = .ok (.astore 4, 2)) hl (by decide) rfl (fun ls hl => ?_)
    refine lv_iconst (v := nI 1) hx hb (by decide +kernel : decode cL_node 15 = .ok (.iconst 1, 1)) (by decide) ?_
    exact W.iret hx hb hret (fun t ht _ => ⟨rfl, by rw [ht]; exact hR1, fun q hq => by rw [ht]; exact hf1 q (Or.inl hq) (by omega), v0, by rw [ht, hf1 (base + 128) (Or.inr (Nat.le_refl _)) hlt]; exact hv0, fun h => absurd h (by decide)⟩) (fun q hq => (hl1 q hq).1) (by decide +kernel : decode cL_node 16 = .ok (.ireturn, 1)) hlk
  · refine ⟨2, 0, _, w, nl_of ?_, e2, u2_s _ _ _ _, fun h => absurd h (by decide), fun h => absurd h (by decide), INV_82 (INV_82 hI (nI 0)) (nI 2)⟩
    intro p e s m below meth c ls hx hb hml hret hlk hex hts hown hP hl
    obtain ⟨-, hR, hK, hN, hZ, v0, hv0⟩ := hP
    have hlt := (Array.getElem?_eq_some_iff.mp hv0).1
    refine nl_throw (cls := "java/util/NoSuchElementException") (pcH := 17) (o := base + 128) hx hb hml hex hts hown hK hN hZ hR (nd_met l hfl D cy base b (P := P) e1 (Or.inr ⟨by decide, e3, rfl⟩)) (Or.inr ⟨rfl, rfl⟩) (fun H1 locs1 a hR1 hf1 hl1 => ?_)
    refine lv_astore hx hb (by decide +kernel : decode cL_node 17 = .ok (.astore 4, 2)) hl (by decide) rfl (fun ls hl => ?_)
    refine lv_iconst (v := nI 2) hx hb (by decide +kernel : decode cL_node 19 = .ok (.iconst 2, 1)) (by decide) ?_
    exact W.iret hx hb hret (fun t ht _ => ⟨rfl, by rw [ht]; exact hR1, fun q hq => by rw [ht]; exact hf1 q (Or.inl hq) (by omega), v0, by rw [ht, hf1 (base + 128) (Or.inr (Nat.le_refl _)) hlt]; exact hv0, fun h => absurd h (by decide)⟩) (fun q hq => (hl1 q hq).1) (by decide +kernel : decode cL_node 20 = .ok (.ireturn, 1)) hlk
section
variable {p : Program} {l : Launch} {e : Env} {R : Room} {s : State} {m : MethodId} {args : Array Value} {below : List Frame} {meth : Method} {c : Code} {H : Heap} {locs : List Loc} {cells slots : Nat} {Q : State → Prop}
theorem nl_runW {y : MethodName} {bytes cc : ByteArray} {maxL nL mc ms n index : Nat} {ret : Option FieldType} {hh : List (Nat × Nat × Nat × Nat)} {ws : List Cond} {rm : Room} {Pc : Array Value → State → Prop} {Qc : Array Value → State → Outcome → State → Prop} {free : Addr → Prop} {Ts : List Cond} {own : String} {As rest : List Value} {g : JFrame}
    (S : CallFix p m c cc nL s args Ts own) (hM : Met l y ws rm Pc Qc mc ms free) (hrc : rm.cells = mc) (hrs : rm.slots = ms) (hfr : rm.frames + 1 ≤ R.frames) (hlo : 8 + (maxL + 11) + rm.locals ≤ R.locals) (hws : ∀ w ∈ ws, ∀ (a' : Array Value) (U : State), s.WarmedH U.vm → w.before a' U = true) (hcw : Cond.codeWith y bytes maxL ret hh ∈ ws)
    (hini : (Cond.initialized y.cls).before args s = true) (hlink : (Cond.methodLink own index y).before args s = true) (hstat : (Cond.static y).before args s = true) (hcode : (Cond.codeWith y bytes maxL ret hh).before args s = true) (hy : y.cls ≠ "java/lang/invoke/MethodHandle" ∧ y.cls ≠ "java/lang/invoke/VarHandle") (hlen : (parseMethodDescriptor y.desc).map (fun d => d.parameters.length) = some As.length) (hp : PreS s H Pc As)
    (hg : g.method = m) (hsize : g.locals.size = nL) (hstack : g.stack = As.reverse ++ rest) (hW : 2 * g.monitorRoom + (rest.map fun v => v.category).sum ≤ 8) (hdg : decode cc g.pc = .ok (.invokestatic index, 3)) (hf : cells + mc ≤ R.cells ∧ slots + ms ≤ R.slots) :
    va_Run p l e R s m args below meth c H locs cells slots mc ms g rest (Qc As.toArray) (free) := by
  have hK : Back l R p e below s args y 3 8 (PreOf R mc ms Pc) (PostOf Qc mc ms free) := va_backW (hh := hh) (bytes := bytes) (maxL := maxL) (ret := ret) hM hp.1 hrc hrs hfr hlo hws hcw (fun a' U hW => word_at hW (Or.inl (by first | rfl | simp [Cond.onTables, Cond.keeps, Cond.steady])) hini)
  obtain ⟨hx, hb, hml, ho, -⟩ := S
  intro T hT X
  obtain ⟨mk, methM, cM, hnamed, hmethM, hcM, -, -, -, -, -, hsigM⟩ := Cond.codeWith_spec hcode
  have hstatic : methM.isStatic = true := Cond.static_spec hnamed hmethM hstat
  obtain ⟨kP, hkP, -⟩ := className_of_methodNamed hnamed
  have hinitP : kP.init = .initialized := Cond.initialized_spec (findClass_of_methodNamed hnamed) hkP hini
  have hl2 : As.length = methM.sig.parameters.length := by
    rw [hsigM] at hlen
    exact (Option.some.inj hlen).symm
  obtain ⟨vm₁, X₁, hstep₁⟩ := X.invokestatic hx ho hlink hnamed hmethM hstatic hkP hinitP hy (g := g) hg (argsL := As) (rest := rest) hl2 hstack (by rw [hb]; exact hdg)
  obtain ⟨v, ⟨U', l2, c2, s2⟩, X', ⟨g', mk2, t, L, e1, e2, hq, h1, hL, h2, h3⟩, hsteps⟩ := hK m meth c ⟨T.setVm vm₁, locs, cells, slots⟩ { g with stack := rest } (.invokestatic index) mk As.toArray X₁ hg (hsize.trans hml.symm) (by rw [hb]; exact hdg) hW (X₁.named hnamed) ⟨hf.1, hf.2, hp.2 (T.setVm vm₁) hT X₁.warmed⟩
  dsimp only [Pt.U, Pt.locs, Pt.cells, Pt.slots] at X' e1 e2 h1 h2 h3 hsteps
  subst h1; subst h2; subst h3
  exact ⟨v, (T.setVm vm₁).calling g' mk2 As.toArray, t, U', L, hT, X', hL, e1, e2, hq, fun target h => hstep₁ _ fun acts => by rw [doInvoke_state]; exact hsteps.trans h⟩
theorem nl_after {D : va_G} {cy : Nat → ClassId} {base b kn : Nat} {M : AM} {v : Int32} {Av : Array Value} {g : JFrame} {rest : List Value} (hr : va_Run p l e R s m args below meth c H [] cells slots 1 6 g rest (QcL D cy base b M kn v Av) (frG base))
    (kk : ∀ (H1 : Heap) (locs1 : List Loc) (w : Int64), Rep D cy base b M H1 → (∀ q, q < base → H1[q]? = H[q]?) → H1[base + 128]? = some (arrV (cy 13) 1 (fun _ => .long w)) → (kn = 0 → w = v.toInt64) → (∀ z ∈ locs1, base ≤ z.base) → W p l e R s m args below meth c H1 locs1 (cells + 1) (slots + 6) Q { g with pc := g.pc + 3, stack := .int (nI kn) :: rest }) :
    W p l e R s m args below meth c H [] cells slots Q g := by
  intro T hT X
  obtain ⟨rv, st₀, t, T', L, h0, X', hL, e1, e2, ⟨hv, hR, hfr, w, hw, hk0⟩, st⟩ := hr T hT X
  cases hv
  obtain ⟨t2, a1, b1⟩ := kk T'.heap ([] ++ L) w (by rw [e1]; exact hR) (fun q hq => by rw [e1, hfr q hq, h0]) (by rw [e1]; exact hw) hk0 (fun z hz => hL z hz) T' rfl X'
  exact ⟨t2, st t2 a1, b1⟩
end
