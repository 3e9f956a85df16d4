/-! the law: what its cases share -/
theorem bD_get {cc : ByteArray} : ∀ {is : List Ent} {pc : Nat}, bD cc is pc = true → ∀ (j : Nat) {en : Ent} {pc' : Nat}, is[j]? = some en → bL (is.take j) pc = pc' → decode cc pc' = .ok (en.1, en.2.1)
  | [], _, _, j, _, _, h, _ => by simp at h
  | e :: is, pc, hd, 0, _, _, h, hp => by
    unfold bD at hd
    rw [Bool.and_eq_true, Bool.and_eq_true, decide_eq_true_eq] at hd
    cases h
    cases hp
    exact hd.1.1
  | e :: is, pc, hd, j + 1, _, _, h, hp => by
    unfold bD at hd
    rw [Bool.and_eq_true] at hd
    exact bD_get hd.2 j h hp
/-- what holds all along in the law -/
def LC (p : Program) (s : State) (m : MethodId) (args : Array Value) (c : Code) (D : va_G) (cy : Nat → ClassId) (base b L : Nat) (xs : Nat → Int32) : Prop :=
  p.tables.exec = Jvm.exec ∧ c.code = code ∧ c.maxLocals = 7 ∧ (∀ w ∈ TBg, w.before args s = true) ∧ s.vm.findClass RL = some m.cls ∧ Kn D cy s ∧ b < base ∧ va_X b L xs s s.heap ∧ L ≤ 3072
/-- the locals at the loop's head -/
def LL (base b k : Nat) : List (Nat × Value) := [(4, .int (nI k)), (3, .ref (base + 128)), (2, .ref (adr base b 82)), (1, .ref (adr base b 0)), (0, .ref b)]
section
variable {p : Program} {l : Launch} {e : Env} {s : State} {m : MethodId} {args : Array Value} {below : List Frame} {meth : Method} {c : Code} {H : Heap} {locs : List Loc} {cells slots : Nat} {Q : State → Prop} {rest : List Value}
variable {D : va_G} {cy : Nat → ClassId} {base b L : Nat} {xs : Nat → Int32} {H0 : Heap} {M : AM} {ls : Array Slot} {k pc : Nat}
theorem ld5 {j : Nat} {jz : Int} (hC : LC p s m args c D cy base b L xs) (h0 : ∀ q, q < base → H0[q]? = s.heap[q]?) (hws : WS D cy base b H0 M H locs) (hl : lv_has ls 7 (LL base b k)) (hk : k + j < L) (hj : Int32.ofInt jz = nI j)
    (d0 : decode code pc = .ok (.aload_n 0, 1)) (d1 : decode code (pc + 1) = .ok (.iload 4, 2)) (d2 : decode code (pc + 3) = .ok (.iconst jz, 1)) (d3 : decode code (pc + 4) = .ok (.iadd, 1)) (d4 : decode code (pc + 5) = .ok (.iaload, 1))
    (kk : W p l e room_1 s m args below meth c H locs cells slots Q (F0 m (pc + 6) ls (.int (xs (k + j)) :: rest))) : W p l e room_1 s m args below meth c H locs cells slots Q (F0 m pc ls rest) := by
  obtain ⟨hx, hb, hml, hts, hown, hK, hbb, ⟨scr, g1, g2, g3, g4, g5⟩, hL⟩ := hC
  refine lv_aload_n hx hb d0 rfl (lv_at hl 4 rfl) ?_
  refine lv_iload hx hb d1 (lv_at hl 0 rfl) ?_
  refine lv_iconst (v := nI j) hx hb d2 hj ?_
  refine lv_iadd hx hb d3 ?_
  rw [nI_add]
  exact W.iald (v := .int (xs (k + j))) hx hb (by rw [hws.2.1 b (Or.inl hbb), h0 b hbb]; exact g1) g2 g3 (by rw [g4]; exact nI_in hk (by omega)) (by rw [nI_clamp (by omega)]; exact g5 _ hk) rfl rfl d4 kk
theorem lw_bool {x : Int32} {o o2 : Int} (hx : p.tables.exec = Jvm.exec) (hb : c.code = code) (d0 : decode code pc = .ok (.ifCond .eq o, 3)) (d1 : decode code (pc + 3) = .ok (.iconst 1, 1)) (d2 : decode code (pc + 4) = .ok (.goto o2, 3)) (d3 : decode code (pc + 7) = .ok (.iconst 0, 1)) (h1 : (pc : Int) + o = ((pc + 7 : Nat) : Int)) (h2 : ((pc + 4 : Nat) : Int) + o2 = ((pc + 8 : Nat) : Int))
    (kk : W p l e room_1 s m args below meth c H locs cells slots Q (F0 m (pc + 8) ls (.int (nI (decide (x ≠ 0)).toNat) :: rest))) : W p l e room_1 s m args below meth c H locs cells slots Q (F0 m pc ls (.int x :: rest)) := by
  refine lv_if_eq hx hb d0 h1 (fun q => ?_) (fun q => ?_)
  · refine lv_iconst (v := nI 0) hx hb d3 (by decide) ?_
    rw [show decide (x ≠ 0) = false by simp [q]] at kk
    exact kk
  · refine lv_iconst (v := nI 1) hx hb d1 (by decide) ?_
    refine lv_goto hx hb d2 h2 ?_
    rw [show decide (x ≠ 0) = true by simp [q]] at kk
    exact kk
theorem lcmp_eq (v : Int64) : lg_cmp v v = 0 := by
  unfold lg_cmp
  simp
end
