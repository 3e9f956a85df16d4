/-! constructors: a small machine that makes cells -/
/-- a constructor that is called: at how many cells, its arguments, how many then, what it does, cells and slots that come -/
abbrev BC : Type := Nat × List Nat × Nat × (AM → AM) × Nat × Nat
def tyA (t : ArrayType) : Nat := match t with
  | .byte => 11
  | .int => 12
  | .long => 13
  | .boolean => 14
  | _ => 0
def bRef (as : List Nat) : List Value → Option (List Value) := fun st => match as with
  | [] => some st
  | a :: r => (match bRef r st with
    | some (.ref x :: st') => if x = a then some st' else none
    | _ => none)
/-- one instruction of a constructor: FL its fields, NL its classes, k0 its own class; n cells, the stack, the memory, cells and slots that came -/
def b1 {α : Type} (lv : LV) (FL : List (Nat × Nat × Nat)) (NL : List (Nat × Nat)) (CB : List BC) (k0 rc rs : Nat) (e : Ent) (n : Nat) (st : List Value) (M : AM) (nc ns : Nat) (k : Nat → List Value → AM → Nat → Nat → Option α) : Option α :=
  match e.1 with
  | .aload_n z => (match lk lv z.val with
    | some (.ref x) => k n (.ref x :: st) M nc ns
    | _ => none)
  | .iconst z => if Int32.ofInt z = cI z then k n (.int (cI z) :: st) M nc ns else none
  | .bipush z => if (Int8.ofInt z).toInt32 = cI z then k n (.int (cI z) :: st) M nc ns else none
  | .sipush z => if (Int16.ofInt z).toInt32 = cI z then k n (.int (cI z) :: st) M nc ns else none
  | .dup => (match st with
    | .ref x :: st => k n (.ref x :: .ref x :: st) M nc ns
    | _ => none)
  | .newarray t => (match st with
    | .int x :: st => if tyA t = gK n ∧ 11 ≤ gK n ∧ gK n ≤ 14 ∧ n < lyN ∧ x = nI (gN n) ∧ gN n < 65536 ∧ nc + 1 ≤ rc ∧ ns + gN n ≤ rs then k (n + 1) (.ref n :: st) M (nc + 1) (ns + gN n) else none
    | _ => none)
  | .new i => if (i, e.2.2.1) ∈ NL ∧ gK n = e.2.2.1 ∧ n < lyN ∧ nc + 1 ≤ rc ∧ ns + cN e.2.2.1 ≤ rs then k (n + 1) (.ref n :: st) M (nc + 1) (ns + cN e.2.2.1) else none
  | .getfield i => (match st with
    | .ref a :: st => if (i, e.2.2.1, e.2.2.2) ∈ FL ∧ obj e.2.2.1 a = true ∧ a < n ∧ e.2.2.2 < cN e.2.2.1 ∧ fk e.2.2.1 e.2.2.2 = 2 then (match M.2.2 a e.2.2.2 with
      | some v => k n (.ref v :: st) M nc ns
      | none => none) else none
    | _ => none)
  | .putfield i => (match st with
    | .int x :: .ref a :: st => if (i, e.2.2.1, e.2.2.2) ∈ FL ∧ e.2.2.1 = k0 ∧ obj e.2.2.1 a = true ∧ a < n ∧ e.2.2.2 < cN e.2.2.1 ∧ (fk e.2.2.1 e.2.2.2 = 0 ∨ fk e.2.2.1 e.2.2.2 = 3 ∧ (x = 0 ∨ x = 1)) then k n st (u2 M.1 a e.2.2.2 x, M.2.1, M.2.2) nc ns else none
    | .ref v :: .ref a :: st => if (i, e.2.2.1, e.2.2.2) ∈ FL ∧ e.2.2.1 = k0 ∧ obj e.2.2.1 a = true ∧ a < n ∧ e.2.2.2 < cN e.2.2.1 ∧ fk e.2.2.1 e.2.2.2 = 2 then k n st (M.1, M.2.1, u2 M.2.2 a e.2.2.2 (some v)) nc ns else none
    | _ => none)
  | .iastore => (match st with
    | .int x :: .int j :: .ref a :: st => if obj 12 a = true ∧ a < n ∧ ¬ j < 0 ∧ j.toNatClampNeg < gN a then k n st (u2 M.1 a j.toNatClampNeg x, M.2.1, M.2.2) nc ns else none
    | _ => none)
  | .invokespecial _ => (match e.2.2.1 with
    | 0 => (match st with
      | .ref _ :: st => if catS st ≤ 8 then k n st M nc ns else none
      | _ => none)
    | j + 1 => (match CB[j]? with
      | some q => (match bRef q.2.1 st with
        | some st => if n = q.1 ∧ catS st ≤ 8 ∧ nc + q.2.2.2.2.1 ≤ rc ∧ ns + q.2.2.2.2.2 ≤ rs then k q.2.2.1 st (q.2.2.2.1 M) (nc + q.2.2.2.2.1) (ns + q.2.2.2.2.2) else none
        | none => none)
      | none => none))
  | _ => none
/-- some instructions, then on -/
def bP {α : Type} (lv : LV) (FL : List (Nat × Nat × Nat)) (NL : List (Nat × Nat)) (CB : List BC) (k0 rc rs : Nat) (k : Nat → List Value → AM → Nat → Nat → Option α) : List Ent → Nat → List Value → AM → Nat → Nat → Option α
  | [], n, st, M, nc, ns => k n st M nc ns
  | e :: r, n, st, M, nc, ns => b1 lv FL NL CB k0 rc rs e n st M nc ns (fun n st M nc ns => bP lv FL NL CB k0 rc rs k r n st M nc ns)
def bL : List Ent → Nat → Nat
  | [], pc => pc
  | e :: r, pc => bL r (pc + e.2.1)
def bE (n : Nat) (st : List Value) (M : AM) (nc ns : Nat) : Option (Nat × List Value × AM × Nat × Nat) := some (n, st, M, nc, ns)
/-- an instruction's length -/
def iLB (i : Instr) : Nat := match i with
  | .newarray _ => 2
  | .new _ => 3
  | .invokespecial _ => 3
  | i => iLen i
def bD (cc : ByteArray) : List Ent → Nat → Bool
  | [], _ => true
  | e :: is, pc => decide (decode cc pc = .ok (e.1, e.2.1)) && Nat.beq e.2.1 (iLB e.1) && bD cc is (pc + e.2.1)
/-- a class that is made -/
def NO1 (own : String) (q : Nat × Nat) : Prop := ∃ r : vw_C, vwCl[q.2]? = some r ∧ Cond.classLink own q.1 r.1 ∈ TBg ∧ Cond.instantiable r.1 (cN q.2) ∈ TBg ∧ Cond.initialized r.1 ∈ TBg
/-- a constructor's contract -/
def PcB (D : va_G) (cy : Nat → ClassId) (base b n : Nat) (As : List Nat) (M : AM) : Array Value → State → Prop := fun a U => a = ((As.map Value.ref).map (cv base b)).toArray ∧ WB0 D cy base b n M U.heap ∧ Kn D cy U ∧ KnI U ∧ SKt base U
def QcB (D : va_G) (cy : Nat → ClassId) (base b n : Nat) (M : AM) : Array Value → State → Outcome → State → Prop := fun _ st o t => o = .returned none ∧ WB0 D cy base b n M t.heap ∧ ∀ q, q < base → t.heap[q]? = st.heap[q]?
def CtI (l : Launch) (y : MethodName) (cc : ByteArray) (maxL : Nat) (rm : Room) (q : BC) : Prop :=
  ∀ (D : va_G) (cy : Nat → ClassId) (base b : Nat) (M : AM), Met l y (.code y cc maxL none :: TBg) rm (PcB D cy base b q.1 q.2.1 M) (QcB D cy base b q.2.2.1 (q.2.2.2.1 M)) q.2.2.2.2.1 q.2.2.2.2.2 (frW base)
/-- a constructor that is called: its link, words and room -/
def CI (l : Launch) (R : Room) (own : String) (idx : Nat) (q : BC) : Prop := ∃ (y : MethodName) (cc : ByteArray) (maxL : Nat) (rm : Room), CtI l y cc maxL rm q ∧ (rm.cells = q.2.2.2.2.1 ∧ rm.slots = q.2.2.2.2.2 ∧ rm.frames + 1 ≤ R.frames ∧ 8 + (maxL + 11) + rm.locals ≤ R.locals) ∧ Cond.code y cc maxL none ∈ TBg ∧ Cond.initialized y.cls ∈ TBg ∧ (Cond.methodLink own idx y ∈ TBg ∨ ∃ host, Cond.methodLinkNest own idx y host ∈ nstI) ∧
  (y.cls ≠ "java/lang/invoke/MethodHandle" ∧ y.cls ≠ "java/lang/invoke/VarHandle" ∧ (parseMethodDescriptor y.desc).map (fun d => d.parameters.length + 1) = some q.2.1.length) ∧ Cond.instanceMethod y ∈ TBg ∧ y.name = "<init>" ∧ 0 < q.2.1.length
theorem bRef_some : ∀ {as : List Nat} {st st' : List Value}, bRef as st = some st' → st = (as.map Value.ref).reverse ++ st'
  | [], st, st', h => by
    unfold bRef at h
    cases h
    rfl
  | a :: r, st, st', h => by
    unfold bRef at h
    split at h
    · rename_i x st2 hr
      split at h
      · rename_i hx
        cases h
        rw [bRef_some hr, hx]
        simp
      · cases h
    · cases h
theorem blind_pcb {D : va_G} {cy : Nat → ClassId} {base b n : Nat} {As : List Nat} {M : AM} : FrameBlind (PcB D cy base b n As M) := fun _ _ _ _ h => ⟨h.1, h.2.1, h.2.2.1.calling, h.2.2.2.1.calling, h.2.2.2.2.calling⟩
section
variable {p : Program} {l : Launch} {e : Env} {R : Room} {s : State} {m : MethodId} {args : Array Value} {below : List Frame} {meth : Method} {c : Code} {H : Heap} {locs : List Loc} {cells slots : Nat} {Q : State → Prop}
variable {cc : ByteArray} {pc : Nat} {ls : Array Slot} {rest : List Value} {D : va_G} {cy : Nat → ClassId} {base b : Nat} {H0 : Heap} {M : AM} {own : String} {n : Nat}
theorem bw_after {n' mc ms : Nat} {M' : AM} {Av : Array Value} {g : JFrame} (hws : WB D cy base b H0 n M H locs) (hr : va_Run p l e R s m args below meth c H locs cells slots mc ms g rest (QcB D cy base b n' M' Av) (frW base))
    (kk : ∀ (H1 : Heap) (locs1 : List Loc), WB D cy base b H0 n' M' H1 locs1 → W p l e R s m args below meth c H1 locs1 (cells + mc) (slots + ms) Q { g with pc := g.pc + 3, stack := rest }) : W p l e R s m args below meth c H locs cells slots Q g := by
  intro T hT X
  obtain ⟨v, st₀, t, T', L, h0, X', hL, e1, e2, ⟨hv, hR, hfr⟩, st⟩ := hr T hT X
  cases hv
  have hw : WB D cy base b H0 n' M' T'.heap (locs ++ L) := by
    refine ⟨by rw [e1]; exact hR, fun q hq => ?_, fun z hz => ?_⟩
    · rw [e1, hfr q hq, h0]
      exact hws.2.1 q hq
    · rcases List.mem_append.mp hz with h | h
      · exact hws.2.2 z h
      · exact hL z h
  obtain ⟨t2, a1, b1⟩ := kk T'.heap (locs ++ L) hw T' rfl X'
  exact ⟨t2, st t2 a1, b1⟩
theorem bw_callI (hx : p.tables.exec = Jvm.exec) (hb : c.code = cc) (hml : c.maxLocals = ls.size) (hts : ∀ w ∈ TBg, w.before args s = true) (hown : s.vm.findClass own = some m.cls) (hK : Kn D cy s) (hKI : KnI s) (hSK : ∀ U : State, (∀ q, q < base → U.heap[q]? = H0[q]?) → s.WarmedH U.vm → SKt base U) {q : BC} (hws : WB D cy base b H0 q.1 M H locs) (hcs : cells + q.2.2.2.2.1 ≤ R.cells ∧ slots + q.2.2.2.2.2 ≤ R.slots) {idx : Nat} (hco : CI l R own idx q)
    (hcat : (rest.map fun v => v.category).sum ≤ 8) (hdg : decode cc pc = .ok (.invokespecial idx, 3))
    (kk : ∀ (H1 : Heap) (locs1 : List Loc), WB D cy base b H0 q.2.2.1 (q.2.2.2.1 M) H1 locs1 → W p l e R s m args below meth c H1 locs1 (cells + q.2.2.2.2.1) (slots + q.2.2.2.2.2) Q (F0 m (pc + 3) ls rest)) :
    W p l e R s m args below meth c H locs cells slots Q (F0 m pc ls (((q.2.1.map Value.ref).map (cv base b)).reverse ++ rest)) := by
  obtain ⟨y, yc, maxL, rm, hCt, ⟨hrc, hrs, hR⟩, hcode, hini, hlink, ⟨hd1, hd2, hd3⟩, hinst, hname, hlen⟩ := hco
  obtain ⟨n0, As, n1, F, mc, ms⟩ := q
  dsimp only at *
  match As, hlen, hd3, hCt with
  | a0 :: As, _, hd3, hCt =>
    have hl2 : (parseMethodDescriptor y.desc).map (fun d => d.parameters.length) = some As.length := by
      cases hp : parseMethodDescriptor y.desc with
      | none => rw [hp] at hd3; cases hd3
      | some d =>
        rw [hp] at hd3
        simp only [Option.map_some, Option.some.injEq, List.length_cons] at hd3 ⊢
        omega
    have hst : (((a0 :: As).map Value.ref).map (cv base b)).reverse ++ rest = ((As.map Value.ref).map (cv base b)).reverse ++ .ref (adr base b a0) :: rest := by
      simp [cv]
    rw [hst]
    have hpre : PreS s H (PcB D cy base b n0 (a0 :: As) M) (.ref (adr base b a0) :: (As.map Value.ref).map (cv base b)) := ⟨blind_pcb, fun U hU hW => ⟨rfl, by rw [hU]; exact hws.1, hK.moved hW, hKI.moved hW, hSK U (fun q hq => by rw [hU]; exact hws.2.1 q hq) hW⟩⟩
    rcases hlink with hlink | ⟨host, hlink⟩
    · exact bw_after (n' := n1) (M' := F M) hws (va_runI (Ts := TBg) (own := own) (As := (As.map Value.ref).map (cv base b)) (rest := rest) (n := As.length) ⟨hx, hb, hml, hown, hts⟩ (hCt D cy base b M) (cwI As.length hts (good_tb hcode) rfl hrc hrs (hts _ hini) (hts _ hlink) (hts _ hinst) hname ⟨hd1, hd2, hl2⟩ hR) hpre rfl (by simp) rfl rfl (lv_room hcat) hdg hcs) kk
    · exact bw_after (n' := n1) (M' := F M) hws (va_runIN (Ts := TBg) (own := own) (host := host) (As := (As.map Value.ref).map (cv base b)) (rest := rest) (n := As.length) ⟨hx, hb, hml, hown, hts⟩ (hCt D cy base b M) ⟨va_cnB As.length hts (good_tb hcode) rfl hrc hrs (hKI _ hlink) (hts _ hini) ⟨hd1, hd2, hl2⟩ hR, hname, hts _ hinst⟩ hpre rfl (by simp) rfl rfl (lv_room hcat) hdg hcs) kk
end
