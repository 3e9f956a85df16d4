/-! GroupTrees.node where it throws (by program) -/
def Sx (n d : String) (base : Nat) (U : State) : Prop := ∃ (c : ClassId) (k : Class) (i : Nat) (f : Field) (a : Nat) (cell : Cell) (v : Value), U.vm.findClass Bundle.tN = some c ∧ U.fieldFound? Bundle.tN n d = some (c, k, i, f) ∧ f.isStatic = true ∧ k.statics = some a ∧ U.heap[a]? = some cell ∧ cell.vm.isStatics = true ∧ cell.cls = c ∧ f.slot < cell.slots.size ∧ k.staticTypes[f.slot]? = some f.type ∧ cell.slots[f.slot]? = some v ∧ v.isRef = true ∧ a < base
theorem Sx.kept {n d : String} {base : Nat} {s U : State} (h : Sx n d base s) (hW : s.WarmedH U.vm) (hq : ∀ q, q < base → U.heap[q]? = s.heap[q]?) : Sx n d base U := by
  obtain ⟨c, k, i, f, a, cell, v, h1, h2, h3, h4, h5, h6, h7, h8, h9, h10, h11, h12⟩ := h
  obtain ⟨k', hi', he⟩ := State.fieldFound?_setVm hW.alike h2
  exact ⟨c, k', i, f, a, cell, v, by rw [hW.alike.findClass]; exact h1, hi', h3, by rw [he]; exact h4, by rw [hq a h12]; exact h5, h6, h7, h8, by rw [he]; exact h9, h10, h11, h12⟩
theorem Sx.lays {n d : String} {base : Nat} {s : State} {args : Array Value} (h : Sx n d base s) : (Cond.laysStatic Bundle.tN n d).before args s = true := by
  obtain ⟨c, k, i, f, a, cell, v, h1, h2, h3, h4, h5, h6, h7, h8, h9, h10, h11, h12⟩ := h
  exact Cond.laysStatic_of h1 h2 h3 h4 h5 h6 h7 h8 h9
theorem Sx.isR {n d : String} {base : Nat} {s : State} {args : Array Value} (h : Sx n d base s) : (Cond.isRef (.static Bundle.tN n d)).before args s = true := by
  obtain ⟨c, k, i, f, a, cell, v, h1, h2, h3, h4, h5, h6, h7, h8, h9, h10, h11, h12⟩ := h
  cases v <;> first | (cases h11; done) | simp [Cond.before, Cond.holds, Cond.value, Term.eval, State.fieldNamed?, h2, h3, h4, h5, h6, h10]
theorem Sx.of {n d : String} {s : State} {args : Array Value} (hl : (Cond.laysStatic Bundle.tN n d).before args s = true) (hr : (Cond.isRef (.static Bundle.tN n d)).before args s = true) : Sx n d s.heap.size s := by
  obtain ⟨c, k, i, f, a, cell, hc, hi, hst, ha, hcell, hs, hcls, hlt, hty⟩ := Cond.laysStatic_spec hl
  obtain ⟨v, hv, hvr⟩ := Cond.isRef_spec hr
  obtain ⟨hst', a', cell', ha', hcell', -, hslot⟩ := Term.static_spec hi hv
  cases ha.symm.trans ha'
  cases hcell.symm.trans hcell'
  exact ⟨c, k, i, f, a, cell, v, hc, hi, hst, ha, hcell, hs, hcls, hlt, hty, hslot, hvr, (Array.getElem?_eq_some_iff.mp hcell).1⟩
def TSw : List Cond := [.declares (Bundle.initS "java/lang/RuntimeException"), .declares (Bundle.initS "java/lang/Exception"), .declares (Bundle.initS "java/lang/Throwable")]
/-- what a throw stands on -/
def TSt (base : Nat) (U : State) : Prop := Sx "UNASSIGNED_STACK" Bundle.steD base U ∧ Sx "SUPPRESSED_SENTINEL" Bundle.listD base U ∧ (∀ w ∈ TSw, va_Nw w U) ∧ (∃ q, vk_R RX9 151 "no such node" q U) ∧ ∃ q, vk_R RX9 174 "no such what" q U
theorem TSt.kept {base : Nat} {s U : State} (h : TSt base s) (hW : s.WarmedH U.vm) (hq : ∀ q, q < base → U.heap[q]? = s.heap[q]?) : TSt base U := by
  obtain ⟨h1, h2, h3, ⟨q4, h4⟩, q5, h5⟩ := h
  refine ⟨h1.kept hW hq, h2.kept hW hq, ?_, ⟨q4, h4.warm hW⟩, q5, h5.warm hW⟩
  exact List.forall_mem_cons.mpr ⟨va_Nw.warmD hW (h3 _ (List.mem_of_getElem? (i := 0) rfl)), List.forall_mem_cons.mpr ⟨va_Nw.warmD hW (h3 _ (List.mem_of_getElem? (i := 1) rfl)), List.forall_mem_cons.mpr ⟨va_Nw.warmD hW (h3 _ (List.mem_of_getElem? (i := 2) rfl)), fun _ h => absurd h List.not_mem_nil⟩⟩⟩
theorem TSt.calling {base : Nat} {U : State} {g : JFrame} {mk : MethodId} {a : Array Value} (h : TSt base U) : TSt base (U.calling g mk a) := by
  obtain ⟨h1, h2, h3, ⟨q4, h4⟩, q5, h5⟩ := h
  refine ⟨h1, h2, ?_, ⟨q4, vk_R.same (u := U) (U := U.calling g mk a) rfl h4⟩, q5, vk_R.same (u := U) (U := U.calling g mk a) rfl h5⟩
  exact List.forall_mem_cons.mpr ⟨va_Nw.same rfl (u := U) (U := U.calling g mk a) rfl (h3 _ (List.mem_of_getElem? (i := 0) rfl)), List.forall_mem_cons.mpr ⟨va_Nw.same rfl (u := U) (U := U.calling g mk a) rfl (h3 _ (List.mem_of_getElem? (i := 1) rfl)), List.forall_mem_cons.mpr ⟨va_Nw.same rfl (u := U) (U := U.calling g mk a) rfl (h3 _ (List.mem_of_getElem? (i := 2) rfl)), fun _ h => absurd h List.not_mem_nil⟩⟩⟩
section
variable {args : Array Value} {s : State}
theorem th_T (hts : ∀ w ∈ TBg, w.before args s = true) {base : Nat} (hZ : TSt base s) : ∀ w ∈ Bundle.throwableAtoms, w.before args s = true := List.forall_mem_cons.mpr ⟨hts _ (tw1 (i := 18) rfl rfl), List.forall_mem_cons.mpr ⟨hts _ (tw6 (i := 29) rfl rfl), List.forall_mem_cons.mpr ⟨hts _ (tw6 (i := 38) rfl rfl), List.forall_mem_cons.mpr ⟨hts _ (tw6 (i := 41) rfl rfl), List.forall_mem_cons.mpr ⟨hts _ (tw6 (i := 44) rfl rfl), List.forall_mem_cons.mpr ⟨hts _ (tw6 (i := 46) rfl rfl), List.forall_mem_cons.mpr ⟨hts _ (tw6 (i := 30) rfl rfl), List.forall_mem_cons.mpr ⟨hts _ (tw6 (i := 31) rfl rfl), List.forall_mem_cons.mpr ⟨hts _ (tw1 (i := 31) rfl rfl), List.forall_mem_cons.mpr ⟨hts _ (tw1 (i := 32) rfl rfl), List.forall_mem_cons.mpr ⟨hts _ (tw6 (i := 32) rfl rfl), List.forall_mem_cons.mpr ⟨hts _ (tw6 (i := 37) rfl rfl), List.forall_mem_cons.mpr ⟨hts _ (tw6 (i := 42) rfl rfl), List.forall_mem_cons.mpr ⟨hts _ (tw6 (i := 62) rfl rfl), List.forall_mem_cons.mpr ⟨hts _ (tw6 (i := 19) rfl rfl), List.forall_mem_cons.mpr ⟨hts _ (tw6 (i := 63) rfl rfl), List.forall_mem_cons.mpr ⟨hts _ (tw6 (i := 21) rfl rfl), List.forall_mem_cons.mpr ⟨hts _ (tw6 (i := 64) rfl rfl), List.forall_mem_cons.mpr ⟨hts _ (tw6 (i := 23) rfl rfl), List.forall_mem_cons.mpr ⟨hts _ (tw6 (i := 33) rfl rfl), List.forall_mem_cons.mpr ⟨hZ.1.lays, List.forall_mem_cons.mpr ⟨hts _ (tw6 (i := 35) rfl rfl), List.forall_mem_cons.mpr ⟨hZ.2.1.lays, List.forall_mem_cons.mpr ⟨hts _ (tw6 (i := 25) rfl rfl), fun _ h => absurd h List.not_mem_nil⟩⟩⟩⟩⟩⟩⟩⟩⟩⟩⟩⟩⟩⟩⟩⟩⟩⟩⟩⟩⟩⟩⟩⟩
theorem th_TS (hts : ∀ w ∈ TBg, w.before args s = true) : ∀ w ∈ Bundle.throwableSAtoms, w.before args s = true := List.forall_mem_cons.mpr ⟨hts _ (tw6 (i := 58) rfl rfl), List.forall_mem_cons.mpr ⟨hts _ (tw6 (i := 59) rfl rfl), List.forall_mem_cons.mpr ⟨hts _ (tw6 (i := 61) rfl rfl), List.forall_mem_cons.mpr ⟨hts _ (tw6 (i := 25) rfl rfl), fun _ h => absurd h List.not_mem_nil⟩⟩⟩⟩
theorem th_A1 (hts : ∀ w ∈ TBg, w.before args s = true) : ∀ w ∈ thA RX9 153 "java/lang/IndexOutOfBoundsException" prog_17_method_2_code, w.before args s = true := List.forall_mem_cons.mpr ⟨hts _ (tw6 (i := 48) rfl rfl), List.forall_mem_cons.mpr ⟨hts _ (tw6 (i := 49) rfl rfl), List.forall_mem_cons.mpr ⟨hts _ (tw6 (i := 50) rfl rfl), List.forall_mem_cons.mpr ⟨hts _ (tw6 (i := 8) rfl rfl), List.forall_mem_cons.mpr ⟨hts _ (tw6 (i := 16) rfl rfl), List.forall_mem_cons.mpr ⟨hts _ (tw6 (i := 17) rfl rfl), List.forall_mem_cons.mpr ⟨hts _ (tw6 (i := 18) rfl rfl), List.forall_mem_cons.mpr ⟨hts _ (tw6 (i := 20) rfl rfl), List.forall_mem_cons.mpr ⟨hts _ (tw6 (i := 22) rfl rfl), List.forall_mem_cons.mpr ⟨hts _ (tw6 (i := 24) rfl rfl), List.forall_mem_cons.mpr ⟨hts _ (tw6 (i := 28) rfl rfl), List.forall_mem_cons.mpr ⟨hts _ (tw6 (i := 27) rfl rfl), List.forall_mem_cons.mpr ⟨hts _ (tw6 (i := 26) rfl rfl), fun _ h => absurd h List.not_mem_nil⟩⟩⟩⟩⟩⟩⟩⟩⟩⟩⟩⟩⟩
theorem th_A2 (hts : ∀ w ∈ TBg, w.before args s = true) : ∀ w ∈ thA RX9 176 "java/util/NoSuchElementException" prog_29_method_4_code, w.before args s = true := List.forall_mem_cons.mpr ⟨hts _ (tw6 (i := 87) rfl rfl), List.forall_mem_cons.mpr ⟨hts _ (tw6 (i := 88) rfl rfl), List.forall_mem_cons.mpr ⟨hts _ (tw6 (i := 89) rfl rfl), List.forall_mem_cons.mpr ⟨hts _ (tw6 (i := 78) rfl rfl), List.forall_mem_cons.mpr ⟨hts _ (tw6 (i := 80) rfl rfl), List.forall_mem_cons.mpr ⟨hts _ (tw6 (i := 40) rfl rfl), List.forall_mem_cons.mpr ⟨hts _ (tw6 (i := 81) rfl rfl), List.forall_mem_cons.mpr ⟨hts _ (tw6 (i := 82) rfl rfl), List.forall_mem_cons.mpr ⟨hts _ (tw6 (i := 83) rfl rfl), List.forall_mem_cons.mpr ⟨hts _ (tw6 (i := 84) rfl rfl), List.forall_mem_cons.mpr ⟨hts _ (tw6 (i := 28) rfl rfl), List.forall_mem_cons.mpr ⟨hts _ (tw6 (i := 27) rfl rfl), List.forall_mem_cons.mpr ⟨hts _ (tw6 (i := 85) rfl rfl), fun _ h => absurd h List.not_mem_nil⟩⟩⟩⟩⟩⟩⟩⟩⟩⟩⟩⟩⟩
theorem th_S {base : Nat} (hZ : TSt base s) : ∀ w ∈ thS, w.before args s = true := List.forall_mem_cons.mpr ⟨hZ.1.isR, List.forall_mem_cons.mpr ⟨hZ.2.1.isR, fun _ h => absurd h List.not_mem_nil⟩⟩
theorem th_ch (hts : ∀ w ∈ TBg, w.before args s = true) {base : Nat} (hZ : TSt base s) : ∀ w ∈ Bundle.chainSAtoms "java/lang/RuntimeException" ["java/lang/Exception"], w.before args s = true := List.forall_mem_append.mpr ⟨List.forall_mem_cons.mpr ⟨hts _ (tw6 (i := 52) rfl rfl), List.forall_mem_cons.mpr ⟨hts _ (tw6 (i := 53) rfl rfl), List.forall_mem_cons.mpr ⟨hts _ (tw6 (i := 54) rfl rfl), List.forall_mem_cons.mpr ⟨hts _ (tw6 (i := 55) rfl rfl), List.forall_mem_cons.mpr ⟨va_Nw.use rfl (hZ.2.2.1 _ (List.mem_of_getElem? (i := 1) rfl)), fun _ h => absurd h List.not_mem_nil⟩⟩⟩⟩⟩, List.forall_mem_cons.mpr ⟨hts _ (tw6 (i := 55) rfl rfl), List.forall_mem_cons.mpr ⟨hts _ (tw6 (i := 56) rfl rfl), List.forall_mem_cons.mpr ⟨hts _ (tw6 (i := 57) rfl rfl), List.forall_mem_cons.mpr ⟨hts _ (tw6 (i := 58) rfl rfl), List.forall_mem_cons.mpr ⟨va_Nw.use rfl (hZ.2.2.1 _ (List.mem_of_getElem? (i := 2) rfl)), fun _ h => absurd h List.not_mem_nil⟩⟩⟩⟩⟩⟩
theorem th_p1 (hts : ∀ w ∈ TBg, w.before args s = true) {base : Nat} (hZ : TSt base s) : ∀ w ∈ Bundle.passSAtoms "java/lang/IndexOutOfBoundsException" "java/lang/RuntimeException" 7 prog_17_method_2_code, w.before args s = true := List.forall_mem_cons.mpr ⟨hts _ (tw6 (i := 49) rfl rfl), List.forall_mem_cons.mpr ⟨hts _ (tw6 (i := 50) rfl rfl), List.forall_mem_cons.mpr ⟨hts _ (tw6 (i := 51) rfl rfl), List.forall_mem_cons.mpr ⟨hts _ (tw6 (i := 52) rfl rfl), List.forall_mem_cons.mpr ⟨va_Nw.use rfl (hZ.2.2.1 _ (List.mem_of_getElem? (i := 0) rfl)), fun _ h => absurd h List.not_mem_nil⟩⟩⟩⟩⟩
theorem th_p2 (hts : ∀ w ∈ TBg, w.before args s = true) {base : Nat} (hZ : TSt base s) : ∀ w ∈ Bundle.passSAtoms "java/util/NoSuchElementException" "java/lang/RuntimeException" 13 prog_29_method_4_code, w.before args s = true := List.forall_mem_cons.mpr ⟨hts _ (tw6 (i := 88) rfl rfl), List.forall_mem_cons.mpr ⟨hts _ (tw6 (i := 89) rfl rfl), List.forall_mem_cons.mpr ⟨hts _ (tw6 (i := 90) rfl rfl), List.forall_mem_cons.mpr ⟨hts _ (tw6 (i := 52) rfl rfl), List.forall_mem_cons.mpr ⟨va_Nw.use rfl (hZ.2.2.1 _ (List.mem_of_getElem? (i := 0) rfl)), fun _ h => absurd h List.not_mem_nil⟩⟩⟩⟩⟩
theorem th_C {e : Env} (hpl : e.platform.magicAccessors = ({} : Platform).magicAccessors) (hts : ∀ w ∈ TBg, w.before args s = true) {base : Nat} (hZ : TSt base s) {X : String} {bytes : ByteArray} {i : Nat} (hX : plainName X = true)
    (h0 : decode bytes 0 = .ok (.aload_n 0, 1)) (h1 : decode bytes 1 = .ok (.aload_n 1, 1)) (h2 : decode bytes 2 = .ok (.invokespecial i, 3)) (h5 : decode bytes 5 = .ok (.return_, 1)) (hp : ∀ w ∈ Bundle.passSAtoms X "java/lang/RuntimeException" i bytes, w.before args s = true) : thC e s X := by
  intro top htop
  obtain ⟨P, L, hm, hs⟩ := PassC.ofS_atoms (args := args) hpl hX (by decide) h0 h1 h2 h5 hp
  obtain ⟨P1, Ps, hlen, L1, hL, hP1, hl1, hl2⟩ := Bundle.chainS (args := args) hpl htop ["java/lang/Exception"] "java/lang/RuntimeException" (by decide +kernel) (by decide +kernel) (th_ch hts hZ)
  refine ⟨P, P1 :: Ps, by rw [List.length_cons, hlen]; rfl, L, fun Q hQ => ?_, hm, Option.some.inj (hs.symm.trans hP1), hl1, hl2⟩
  rcases List.mem_cons.mp hQ with rfl | hQ
  · exact L1
  · exact hL Q hQ
end
theorem WS_sz {D : va_G} {cy : Nat → ClassId} {base b : Nat} {H0 : Heap} {M : AM} {H : Heap} {locs : List Loc} (h : WS D cy base b H0 M H locs) (hz : base + 128 ≤ H0.size) : H.size = H0.size := by
  have h1 : H[H0.size]? = none := (h.2.1 H0.size (Or.inr hz)).trans (Array.getElem?_eq_none (Nat.le_refl _))
  have h2 : H.size ≤ H0.size := by
    rcases Nat.lt_or_ge H0.size H.size with x | x
    · rw [Array.getElem?_eq_getElem x] at h1
      cases h1
    · exact x
  rcases Nat.eq_or_lt_of_le hz with x | x
  · have h3 := h.1 127 (by decide)
    unfold reC at h3
    rw [if_neg (by decide), if_neg (by decide)] at h3
    have h4 := (Array.getElem?_eq_some_iff.mp h3).1
    omega
  · have h3 := h.2.1 (H0.size - 1) (Or.inr (by show base + 128 ≤ _; omega))
    have h5 : H0.size - 1 < H0.size := by omega
    rw [Array.getElem?_eq_getElem h5] at h3
    have h4 := (Array.getElem?_eq_some_iff.mp h3).1
    omega
theorem Rep_sz {D : va_G} {cy : Nat → ClassId} {base b : Nat} {M : AM} {H : Heap} (h : Rep D cy base b M H) : base + 128 ≤ H.size := by
  have h3 := h 127 (by decide)
  unfold reC at h3
  rw [if_neg (by decide), if_neg (by decide)] at h3
  have h4 := (Array.getElem?_eq_some_iff.mp h3).1
  omega
theorem Rep_ns {D : va_G} {cy : Nat → ClassId} {base b : Nat} {M : AM} {H : Heap} (h : Rep D cy base b M H) {q : Nat} (hq : frW base q) {cell : Cell} (hc : H[q]? = some cell) : cell.vm.isStatics = false := by
  obtain ⟨h1, h2⟩ := hq
  obtain ⟨i, rfl⟩ : ∃ i, q = base + i := ⟨q - base, by omega⟩
  have h2 : base + i < base + 128 := h2
  have h3 := h i (show i < 128 by omega)
  unfold reC at h3
  split at h3
  · obtain ⟨c2, e1, -, e2, -⟩ := h3
    cases hc.symm.trans e1
    rw [e2]
    rfl
  · split at h3
    · cases hc.symm.trans h3
      rfl
    · cases hc.symm.trans h3
      rfl
/-- what node asks, and what a throw of it leaves -/
def PcN (D : va_G) (cy : Nat → ClassId) (base b : Nat) (M : AM) (x1 x2 : Int32) : Array Value → State → Prop := fun a U => a = ([.ref (adr base b 0), .int x1, .int x2] : List Value).toArray ∧ Rep D cy base b M U.heap ∧ Kn D cy U ∧ TSt base U
def QcN (D : va_G) (cy : Nat → ClassId) (base b : Nat) (M : AM) (cls : String) : Array Value → State → Outcome → State → Prop := fun _ st o t =>
  ∃ (ce : Cell) (cX : ClassId) (L : List Loc), o = .threw st.heap.size ∧ t.heap[st.heap.size]? = some ce ∧ ce.cls = cX ∧ ce.vm = .none ∧ st.vm.findClass cls = some cX ∧ st.WarmedH t.vm ∧ st.sameButNew ({ t with vm := st.vm } : State) L 1 6 ∧ (∀ z ∈ L, frW base z.base) ∧
    Rep D cy base b M t.heap ∧ t.heap.size = st.heap.size + 1 ∧ ∀ q, q < base ∨ base + 128 ≤ q → q < st.heap.size → t.heap[q]? = st.heap[q]?
section
variable {p : Program} {l : Launch} {e : Env} {s : State} {m : MethodId} {args : Array Value} {below : List Frame} {meth : Method} {c : Code} {H : Heap} {locs : List Loc} {D : va_G} {cy : Nat → ClassId} {base b : Nat} {M : AM} {ls : Array Slot}
theorem nd_throw (hx : p.tables.exec = Jvm.exec) (hb : c.code = cX9_node) (hml : c.maxLocals = ls.size) (hlk : meth.locks = false) (hex : c.exceptionTable.isEmpty = true) (hfl : l.stackTraces = false) (hts : ∀ w ∈ TBg, w.before args s = true) (hown : s.vm.findClass RX9 = some m.cls) (hR0 : Rep D cy base b M s.heap) (hZ : TSt base s) (hws : WS D cy base b s.heap M H locs)
    {pc idx is ic q : Nat} {cls tx : String} {bytes : ByteArray} (hlink : Cond.classLink RX9 idx cls ∈ TBg) (hins : Cond.instantiable cls 6 ∈ TBg) (hini : Cond.initialized cls ∈ TBg) (hnot : cls ≠ "java/lang/invoke/MethodHandle" ∧ cls ≠ "java/lang/invoke/VarHandle")
    (hA : ∀ w ∈ thA RX9 ic cls bytes, w.before args s = true) (hC : e.platform.magicAccessors = ({} : Platform).magicAccessors → thC e s cls) (hS : vk_R RX9 is tx q s)
    (d0 : decode cX9_node pc = .ok (.new idx, 3)) (d1 : decode cX9_node (pc + 3) = .ok (.dup, 1)) (d2 : decode cX9_node (pc + 4) = .ok (.ldc is, 2)) (d3 : decode cX9_node (pc + 6) = .ok (.invokespecial ic, 3)) (d4 : decode cX9_node (pc + 9) = .ok (.athrow, 1)) :
    W p l e ({ frames := 6, cells := 1, slots := 6, locals := 100 } : Room) s m args below meth c H locs 0 0 (fun t => ∃ o, t.status = .running ∧ Ended t below o ∧ QcN D cy base b M cls args s o t) (F0 m pc ls []) := by
  obtain ⟨cX, kX, hfX, hkX, -⟩ := Cond.instantiable_spec (hts _ hins)
  have hz0 : base + 128 ≤ s.heap.size := Rep_sz hR0
  have hz : H.size = s.heap.size := WS_sz hws hz0
  refine W.newcK hx hb hown (hts _ hlink) (hts _ hins) (hts _ hini) rfl d0 (by decide) (by decide) hfX hz fun H1 kC hkC e1 z1 o1 => ?_
  refine lv_dup hx hb d1 rfl ?_
  refine va_ldcS hx hb hown hS d2 ?_
  intro T hT X
  have hpl : e.platform.magicAccessors = ({} : Platform).magicAccessors := by rw [X.admits.platform]
  obtain ⟨V, v1, v2, v3, v4, v5, ⟨ce, v6, v7, v8⟩, v9, v10⟩ := th_throw (U := T) (a := s.heap.size) (cX := cX) (kX := kC) (msg := .ref q) (rest := []) X hx (by rw [X.admits.platform]; exact hfl) hown hnot (th_T hts hZ) (th_TS hts) hA (th_S hZ) (hC hpl)
    (fun z hz9 cell hc9 => Rep_ns hR0 (hws.2.2 z hz9) hc9) hfX hkC (by rw [hT]; exact e1) (Nat.le_refl _) rfl (g := F0 m (pc + 6) ls [.ref q, .ref s.heap.size, .ref s.heap.size]) rfl hml.symm rfl rfl rfl (by rw [hb]; exact d3) (by rw [hb]; exact d4)
    (fun y hy => by
      have : c.exceptionTable.toList = [] := by
        have := Array.isEmpty_iff.mp hex
        rw [this]
      rw [this] at hy
      cases hy) (by decide) (show 2 * 0 + (1 + 0) + 81 ≤ 100 by decide) hlk
  have hVH : ∀ q, q < s.heap.size → V.heap[q]? = H[q]? := fun q hq => by rw [v10 q (Nat.ne_of_lt hq), hT]; exact o1 q hq
  refine ⟨V, v1, _, v2, v3, ce, cX, locs, rfl, v6, v7, v8, hfX, v4, v5, hws.2.2, fun i hi => reC_kept (hws.1 i hi) rfl rfl rfl (hVH _ (by have : i < 128 := hi; omega)), by rw [v9, hT]; exact z1, fun q hq hq2 => ?_⟩
  rw [hVH q hq2]
  exact hws.2.1 q hq
end

set_option maxRecDepth 20000 in
theorem nd_met (l : Launch) (hfl : l.stackTraces = false) (D : va_G) (cy : Nat → ClassId) (base b : Nat) {P : PL} {i : Nat → Nat → Int32} {l0 : Nat → Nat → Int64} {s0 r0 p0 : Nat} {x1 x2 : Int32} {cls : String} {v : Int32} (hv : GT_isNode x1 (i, l0, Rp s0 r0 p0) = some (some (.int v), (i, l0, Rp s0 r0 p0)))
    (hcl : v = 0 ∧ cls = "java/lang/IndexOutOfBoundsException" ∨ v ≠ 0 ∧ (∀ k, k < 5 → x2 ≠ nI k) ∧ cls = "java/util/NoSuchElementException") :
    MetFree l yX9_node (headSpec (.code yX9_node cX9_node 3 (some .int) :: TBg) ({ frames := 6, cells := 1, slots := 6, locals := 100 } : Room)) (PcN D cy base b (i, l0, Rp s0 r0 p0) x1 x2) (fun _ _ _ _ _ => True) (QcN D cy base b (i, l0, Rp s0 r0 p0) cls) := by
  refine MetFree.of_bodyS (code := cX9_node) (maxLocals := 3) (ret := some .int) (by decide +kernel) ?_ ?_
  · intro args s m h hn
    obtain ⟨meth, c, h1, h2, h3, h4, h5, h6, -, -⟩ := Cond.code_spec hn (atoms_spec (ws := .code yX9_node cX9_node 3 (some .int) :: TBg) h _ List.mem_cons_self)
    exact ⟨meth, c, h1, h2, h3, h4, h5, h6⟩
  · intro p e s m args below meth c s₁ B hml hP _
    obtain ⟨rfl, hR0, hK, hZ⟩ := hP
    have hh0 : s₁.heap = s.heap := by rw [B.state]; rfl
    have hcode := atoms_spec (ws := .code yX9_node cX9_node 3 (some .int) :: TBg) B.pre
    have hts : ∀ w ∈ TBg, w.before ([.ref (adr base b 0), .int x1, .int x2] : List Value).toArray s = true := fun w hw => hcode w (List.mem_cons_of_mem _ hw)
    have hown : s.vm.findClass RX9 = some m.cls := findClass_of_methodNamed B.named
    have hx := B.exec
    have hb := B.bytes
    have hex : c.exceptionTable.isEmpty = true := by
      obtain ⟨meth2, c2, h1, h2, -, -, -, -, h7, -⟩ := Cond.code_spec B.named (hcode _ List.mem_cons_self)
      cases h1.symm.trans B.method
      cases h2.symm.trans (Stand.of_body B).code
      exact h7
    have K : W p l e ({ frames := 6, cells := 1, slots := 6, locals := 100 } : Room) s m ([.ref (adr base b 0), .int x1, .int x2] : List Value).toArray below meth c s.heap [] 0 0 (fun t => ∃ o, t.status = .running ∧ Ended t below o ∧ QcN D cy base b (i, l0, Rp s0 r0 p0) cls ([.ref (adr base b 0), .int x1, .int x2] : List Value).toArray s o t) (entryFrame m ([.ref (adr base b 0), .int x1, .int x2] : List Value).toArray 3) := by
      have hl := lv_entry ([.ref (adr base b 0), .int x1, .int x2]) (n := 3) (Nat.le_of_ble_eq_true rfl)
      rw [lg_entry_eq]
      generalize (lg_sl ([.ref (adr base b 0), .int x1, .int x2]) ++ List.replicate (3 - (lg_sl ([.ref (adr base b 0), .int x1, .int x2])).length) Slot.unset).toArray = ls at hl ⊢
      have hws : WS D cy base b s.heap (i, l0, Rp s0 r0 p0) s.heap [] := ⟨hR0, fun _ _ => rfl, fun z hz => by cases hz⟩
      refine lv_aload_n hx hb (by decide +kernel : decode cX9_node 0 = .ok (.aload_n 0, 1)) rfl (lv_at hl 0 rfl) ?_
      refine lv_iload_n hx hb (by decide +kernel : decode cX9_node 1 = .ok (.iload_n 1, 1)) rfl (lv_at hl 1 rfl) ?_
      refine rw_callV (As := [.int x1]) (rest := []) hx hb (hml.trans hl.1.symm) hts cf_all hown hK hws ⟨by decide, by decide⟩ (show CO l ({ frames := 6, cells := 1, slots := 6, locals := 100 } : Room) RX9 145 (0, 9, 2, mD C_GT_isNode) from ⟨yX9_isNode, cX9_isNode, 2, some .boolean, ({ frames := 0, cells := 0, slots := 0, locals := 0 } : Room), (RX9, TX9, 14), ct_GT_isNode l, ⟨rfl, rfl, by decide, by decide⟩, yf_GT_isNode.1, yf_GT_isNode.2.1, tw4 (i := 72) rfl rfl, yd_GT_isNode, yf_GT_isNode.2.2.1, rfl, yf_GT_isNode.2.2.2⟩) (by decide) rfl hv (by decide) (by decide +kernel : decode cX9_node 2 = .ok (.invokevirtual 145, 3)) (fun H1 locs1 hws1 => ?_)
      rcases hcl with ⟨hv0, rfl⟩ | ⟨hv1, hx2, rfl⟩
      · refine lv_if_ne hx hb (by decide +kernel : decode cX9_node 5 = .ok (.ifCond .ne 13, 3)) (tgt := 18) rfl (fun q => absurd hv0 q) (fun _ => ?_)
        obtain ⟨q, hq⟩ := hZ.2.2.2.1
        exact nd_throw (pc := 8) hx hb (hml.trans hl.1.symm) B.notSynchronized hex hfl hts hown hR0 hZ hws1 (tw6 (i := 7) rfl rfl) (tw6 (i := 8) rfl rfl) (tw1 (i := 21) rfl rfl) (by decide) (th_A1 hts) (fun hpl => th_C hpl hts hZ (by decide +kernel) (by decide +kernel) (by decide +kernel) (by decide +kernel) (by decide +kernel) (th_p1 hts hZ)) hq (by decide +kernel : decode cX9_node 8 = .ok (.new 149, 3)) (by decide +kernel : decode cX9_node 11 = .ok (.dup, 1)) (by decide +kernel : decode cX9_node 12 = .ok (.ldc 151, 2)) (by decide +kernel : decode cX9_node 14 = .ok (.invokespecial 153, 3)) (by decide +kernel : decode cX9_node 17 = .ok (.athrow, 1))
      · refine lv_if_ne hx hb (by decide +kernel : decode cX9_node 5 = .ok (.ifCond .ne 13, 3)) (tgt := 18) rfl (fun _ => ?_) (fun q => absurd q hv1)
        refine lv_iload_n hx hb (by decide +kernel : decode cX9_node 18 = .ok (.iload_n 2, 1)) rfl (lv_at hl 2 rfl) ?_
        obtain ⟨q, hq⟩ := hZ.2.2.2.2
        refine lv_tableOut hx hb (by decide +kernel : decode cX9_node 19 = .ok (.tableswitch 84 0 4 #[33, 45, 54, 64, 74], 33)) ?_ (tgt := 103) rfl ?_
        · rcases Int.lt_or_le x2.toInt 0 with h | h
          · exact Or.inl h
          · rcases Int.lt_or_le 4 x2.toInt with h' | h'
            · exact Or.inr h'
            · exact absurd (Int32.toInt_inj.mp (by rw [nI_toInt (by omega)]; omega)) (hx2 x2.toInt.toNat (by omega))
        · exact nd_throw (pc := 103) hx hb (hml.trans hl.1.symm) B.notSynchronized hex hfl hts hown hR0 hZ hws1 (tw6 (i := 77) rfl rfl) (tw6 (i := 78) rfl rfl) (tw1 (i := 22) rfl rfl) (by decide) (th_A2 hts) (fun hpl => th_C hpl hts hZ (by decide +kernel) (by decide +kernel) (by decide +kernel) (by decide +kernel) (by decide +kernel) (th_p2 hts hZ)) hq (by decide +kernel : decode cX9_node 103 = .ok (.new 172, 3)) (by decide +kernel : decode cX9_node 106 = .ok (.dup, 1)) (by decide +kernel : decode cX9_node 107 = .ok (.ldc 174, 2)) (by decide +kernel : decode cX9_node 109 = .ok (.invokespecial 176, 3)) (by decide +kernel : decode cX9_node 112 = .ok (.athrow, 1))
    obtain ⟨t, a1, o, b1, b2, b3⟩ := K s₁ hh0 (Stand.of_body B)
    exact ⟨t, o, a1, b1, b2, b3⟩
