/-! one instruction: what the abstract machine does, the machine does -/
def tyK (t : FieldType) : Nat := match t with
  | .int => 0
  | .long => 1
  | .object _ => 2
  | .array _ => 2
  | .boolean => 3
  | _ => 9
/-- what is said of the classes by their tables -/
def CF : Prop := ∀ (c : Nat) (q : vw_C), vwCl[c]? = some q → q.2.2 = cN c ∧ c < 11 ∧ (∀ w ∈ u_ws q.1 q.2.1 q.2.2, w ∈ TBg) ∧ (∃ ty : Nat → FieldType, ∀ k, k < q.2.2 → parseFieldDescriptor (q.2.1 k).2.2.1 = some (ty k) ∧ tyK (ty k) = fk c k) ∧
  (∀ a, a < q.2.2 → ∀ d, d < q.2.2 → a ≠ d → (q.2.1 a).2.1 ≠ (q.2.1 d).2.1) ∧ ∀ k, k < q.2.2 → (q.2.1 k).2.2.2 = fFin c k
/-- a field's link -/
def FO (own : String) (idx c k : Nat) : Prop := ∃ q, vwCl[c]? = some q ∧ Cond.fieldLink own idx (q.2.1 k).1 (q.2.1 k).2.1 (q.2.1 k).2.2.1 ∈ TBg
/-- a method's contract: what the abstract method does, it does -/
def Pcx (D : va_G) (cy : Nat → ClassId) (base b : Nat) (As : List Value) (M : AM) : Array Value → State → Prop := fun a U => a = (As.map (cv base b)).toArray ∧ Rep D cy base b M U.heap ∧ Kn D cy U
def Qcx (D : va_G) (cy : Nat → ClassId) (base b : Nat) (r : Option Value) (M' : AM) : Array Value → State → Outcome → State → Prop := fun _ st o t => o = .returned (r.map (cv base b)) ∧ Rep D cy base b M' t.heap ∧ ∀ q, (q < base ∨ base + lyN ≤ q) → t.heap[q]? = st.heap[q]?
def Ct (l : Launch) (y : MethodName) (cc : ByteArray) (maxL : Nat) (ret : Option FieldType) (rm : Room) (Df : DT) : Prop :=
  ∀ (D : va_G) (cy : Nat → ClassId) (base b : Nat) (As : List Value) (M : AM) (r : Option Value) (M' : AM), Df As M = some (r, M') → Met l y (.code y cc maxL ret :: TBg) rm (Pcx D cy base b As M) (Qcx D cy base b r M') 0 0 (frW base)
/-- a callee's link, words and room -/
def CO (l : Launch) (R : Room) (own : String) (idx : Nat) (cal : Cal) : Prop := match cal with
  | (0, c, n, Df) => ∃ (y : MethodName) (cc : ByteArray) (maxL : Nat) (ret : Option FieldType) (rm : Room) (q : vw_C), Ct l y cc maxL ret rm Df ∧ (rm.cells = 0 ∧ rm.slots = 0 ∧ rm.frames + 1 ≤ R.frames ∧ 8 + (maxL + 11) + rm.locals ≤ R.locals) ∧
      Cond.code y cc maxL ret ∈ TBg ∧ Cond.initialized y.cls ∈ TBg ∧ Cond.methodLink own idx y ∈ TBg ∧ (y.cls ≠ "java/lang/invoke/MethodHandle" ∧ y.cls ≠ "java/lang/invoke/VarHandle" ∧ (parseMethodDescriptor y.desc).map (fun d => d.parameters.length + 1) = some n) ∧
      Cond.instanceMethod y ∈ TBg ∧ vwCl[c]? = some q ∧ Cond.selects q.1 y y ∈ TBg
  | (1, _, n, Df) => ∃ (y : MethodName) (cc : ByteArray) (maxL : Nat) (ret : Option FieldType) (rm : Room), Ct l y cc maxL ret rm Df ∧ (rm.cells = 0 ∧ rm.slots = 0 ∧ rm.frames + 1 ≤ R.frames ∧ 8 + (maxL + 11) + rm.locals ≤ R.locals) ∧
      Cond.code y cc maxL ret ∈ TBg ∧ Cond.initialized y.cls ∈ TBg ∧ (Cond.methodLink own idx y ∈ TBg ∨ ∃ host, Cond.methodLinkNest own idx y host ∈ nstW) ∧ (y.cls ≠ "java/lang/invoke/MethodHandle" ∧ y.cls ≠ "java/lang/invoke/VarHandle" ∧ (parseMethodDescriptor y.desc).map (fun d => d.parameters.length) = some n) ∧
      Cond.static y ∈ TBg
  | (2, _, _, _) => 1 ≤ R.frames ∧ 8 + (nativeFrameWords "java/lang/System" "arraycopy" 5 + 11) ≤ R.locals ∧ Cond.methodLink own idx arraycopyName ∈ TBg ∧ Cond.native arraycopyName ∈ TBg ∧ Cond.static arraycopyName ∈ TBg ∧ Cond.initialized "java/lang/System" ∈ TBg
  | (3, _, _, _) => 1 ≤ R.frames ∧ 23 ≤ R.locals ∧ Cond.methodLink own idx Lib.Math.min.name ∈ TBg ∧ Cond.static Lib.Math.min.name ∈ TBg ∧ Cond.initialized "java/lang/Math" ∈ TBg ∧ Cond.code Lib.Math.min.name Lib.Math.min.code 2 (some .int) ∈ TBg
  | (4, _, _, _) => 1 ≤ R.frames ∧ 23 ≤ R.locals ∧ Cond.methodLink own idx Lib.Math.max.name ∈ TBg ∧ Cond.static Lib.Math.max.name ∈ TBg ∧ Cond.initialized "java/lang/Math" ∈ TBg ∧ Cond.code Lib.Math.max.name Lib.Math.max.code 2 (some .int) ∈ TBg
  | (5, _, _, _) => 1 ≤ R.frames ∧ 23 ≤ R.locals ∧ Cond.methodLink own idx Lib.MathLoose.min_long.x ∈ TBg ∧ Cond.static Lib.MathLoose.min_long.x ∈ TBg ∧ Cond.initialized "java/lang/Math" ∈ TBg ∧ Cond.code Lib.MathLoose.min_long.x Lib.MathLoose.min_long.code 4 (some .long) ∈ TBg
  | (6, _, _, _) => 1 ≤ R.frames ∧ 23 ≤ R.locals ∧ Cond.methodLink own idx Lib.MathLoose.max_long.x ∈ TBg ∧ Cond.static Lib.MathLoose.max_long.x ∈ TBg ∧ Cond.initialized "java/lang/Math" ∈ TBg ∧ Cond.code Lib.MathLoose.max_long.x Lib.MathLoose.max_long.code 4 (some .long) ∈ TBg
  | _ => False
/-- the length of an instruction -/
def iLen (i : Instr) : Nat := match i with
  | .bipush _ | .ldc _ | .iload _ | .lload _ | .aload _ | .istore _ | .lstore _ | .astore _ => 2
  | .sipush _ | .ldc2_w _ | .iinc _ _ | .goto _ | .ifCond _ _ | .if_icmp _ _ | .getfield _ | .putfield _ | .invokevirtual _ | .invokestatic _ => 3
  | _ => 1
def swTok (pc : Nat) : Int → List Int → Bool
  | _, [] => true
  | lo, o :: r => decide (0 ≤ (pc : Int) + o) && decide ((cI lo).toInt = lo) && swTok pc (lo + 1) r
def swLok (pc : Nat) : List (Int × Int) → Bool
  | [] => true
  | q :: r => decide (0 ≤ (pc : Int) + q.2) && decide ((cI q.1).toInt = q.1) && swLok pc r
/-- what a program decides of an instruction: its hints, its numbers, its length -/
def eC (FL : List (Nat × Nat × Nat)) (KI KL : List (Nat × Nat)) (CL : List Nat) (pc : Nat) (e : Ent) : Bool := match e.1 with
  | .iconst n => decide (Int32.ofInt n = cI n) && Nat.beq e.2.1 1
  | .bipush n => decide ((Int8.ofInt n).toInt32 = cI n) && Nat.beq e.2.1 2
  | .sipush n => decide ((Int16.ofInt n).toInt32 = cI n) && Nat.beq e.2.1 3
  | .iinc _ n => decide (Int32.ofInt n = cI n) && Nat.beq e.2.1 3
  | .ldc i => KI.contains (i, e.2.2.1) && Nat.beq e.2.1 2
  | .ldc_w i => KI.contains (i, e.2.2.1) && Nat.beq e.2.1 3
  | .ldc2_w i => KL.contains (i, e.2.2.1) && Nat.beq e.2.1 3
  | .getfield i => FL.contains (i, e.2.2.1, e.2.2.2) && Nat.beq e.2.1 3
  | .putfield i => FL.contains (i, e.2.2.1, e.2.2.2) && Nat.beq e.2.1 3
  | .goto o => decide ((pc : Int) + o = (e.2.2.1 : Int)) && Nat.beq e.2.1 3
  | .ifCond _ o => decide ((pc : Int) + o = (e.2.2.1 : Int)) && Nat.beq e.2.1 3
  | .if_icmp _ o => decide ((pc : Int) + o = (e.2.2.1 : Int)) && Nat.beq e.2.1 3
  | .tableswitch d lo hi os => decide (0 ≤ (pc : Int) + d) && decide (hi = lo + os.toList.length - 1) && swTok pc lo os.toList
  | .lookupswitch d ps => decide (0 ≤ (pc : Int) + d) && (ps.toList.zip (ps.toList.drop 1)).all (fun (a, next) => a.1 < next.1) && swLok pc ps.toList
  | .invokevirtual i => decide (CL[e.2.2.1]? = some i) && Nat.beq e.2.1 3
  | .invokestatic i => decide (CL[e.2.2.1]? = some i) && Nat.beq e.2.1 3
  | i => Nat.beq e.2.1 (iLen i)
def chkB (cc : ByteArray) (FL : List (Nat × Nat × Nat)) (KI KL : List (Nat × Nat)) (CL : List Nat) : List Ent → Nat → Bool
  | [], _ => true
  | e :: is, pc => decide (decode cc pc = .ok (e.1, e.2.1)) && eC FL KI KL CL pc e && chkB cc FL KI KL CL is (pc + e.2.1)
section
variable {p : Program} {l : Launch} {e : Env} {R : Room} {s : State} {m : MethodId} {args : Array Value} {below : List Frame} {meth : Method} {c : Code} {H : Heap} {locs : List Loc} {cells slots : Nat} {Q : State → Prop}
variable {cc : ByteArray} {pc : Nat} {ls : Array Slot} {rest : List Value} {D : va_G} {cy : Nat → ClassId} {base b : Nat} {H0 : Heap} {M : AM} {own : String}
theorem rep_obj {a k9 : Nat} (hws : WS D cy base b H0 M H locs) (hcf : CF) {q : vw_C} (hq : vwCl[k9]? = some q) (ho : obj k9 a = true) : adr base b a = base + a ∧ t_OB (base + a) (D.1 k9) q.2.2 (D.2 k9) H (fV base b M a) := by
  obtain ⟨hg, ha⟩ := obj_spec ho
  obtain ⟨hN, hlt, -⟩ := hcf k9 q hq
  have h := hws.1 a ha
  unfold reC at h
  rw [hg, if_pos hlt, ← hN] at h
  exact ⟨adr_id ha, h⟩
theorem rw_get (hx : p.tables.exec = Jvm.exec) (hb : c.code = cc) (hts : ∀ w ∈ TBg, w.before args s = true) (hcf : CF) (hown : s.vm.findClass own = some m.cls) (hK : Kn D cy s) (hws : WS D cy base b H0 M H locs) {a idx k9 k : Nat} (ho : obj k9 a = true) (hk : k < cN k9) (hf : FO own idx k9 k) (hdg : decode cc pc = .ok (.getfield idx, 3))
    (kk : W p l e R s m args below meth c H locs cells slots Q (F0 m (pc + 3) ls (fV base b M a k :: rest))) : W p l e R s m args below meth c H locs cells slots Q (F0 m pc ls (.ref (adr base b a) :: rest)) := by
  obtain ⟨q, hq, hl⟩ := hf
  obtain ⟨hadr, cell, q1, q2, q3, q4⟩ := rep_obj hws hcf hq ho
  obtain ⟨hN, -, hin, -⟩ := hcf k9 q hq
  rw [hadr]
  have hk2 : k < q.2.2 := by rw [hN]; exact hk
  obtain ⟨hS, hfc, kC, hkC, hkind⟩ := hK.1 k9 q hq
  obtain ⟨cf, kf, fi, f, hi, hsl⟩ := hS k hk2
  refine W.getf hx hb hown (hts _ hl) hi (u_facts hfc hkC (u_lays hts hin hk2) hi).1 q1 (by rw [q3]; exact fun h => by cases h) (v := fV base b M a k) ?_ rfl rfl hdg kk
  rw [hsl, q4 k hk2]
theorem rw_put (hx : p.tables.exec = Jvm.exec) (hb : c.code = cc) (hts : ∀ w ∈ TBg, w.before args s = true) (hcf : CF) (hown : s.vm.findClass own = some m.cls) (hK : Kn D cy s) (hws : WS D cy base b H0 M H locs) {a idx k9 k : Nat} (ho : obj k9 a = true) (hk : k < cN k9) (hf : FO own idx k9 k) (hfin : fFin k9 k = false) {v : Value} {M' : AM}
    (hv : ∀ ty, tyK ty = fk k9 k → narrow ty v = v ∧ fits ty v = true) (e1 : ∀ j, j ≠ a → M'.1 j = M.1 j) (e2 : ∀ j, j ≠ a → M'.2.1 j = M.2.1 j) (e3 : ∀ j, j ≠ a → M'.2.2 j = M.2.2 j) (hV : ∀ j, j < cN k9 → updV (fV base b M a) k v j = fV base b M' a j) (hdg : decode cc pc = .ok (.putfield idx, 3))
    (kk : ∀ (H1 : Heap) (locs1 : List Loc), WS D cy base b H0 M' H1 locs1 → W p l e R s m args below meth c H1 locs1 cells slots Q (F0 m (pc + 3) ls rest)) : W p l e R s m args below meth c H locs cells slots Q (F0 m pc ls (v :: .ref (adr base b a) :: rest)) := by
  obtain ⟨q, hq, hl⟩ := hf
  obtain ⟨hadr, cell, q1, q2, q3, q4⟩ := rep_obj hws hcf hq ho
  obtain ⟨hN, hlt, hin, ⟨ty, hty⟩, hnm, hfi⟩ := hcf k9 q hq
  rw [hadr]
  have hk2 : k < q.2.2 := by rw [hN]; exact hk
  obtain ⟨hS, hfc, kC, hkC, hkind⟩ := hK.1 k9 q hq
  have hap : ∀ x y, x < q.2.2 → y < q.2.2 → x ≠ y → (D.2 k9) x ≠ (D.2 k9) y := by
    intro x y hx1 hy1 hne
    obtain ⟨_, _, _, fa, hia, ea⟩ := hS x hx1
    obtain ⟨_, _, _, fb, hib, eb⟩ := hS y hy1
    rw [← ea, ← eb]
    refine u_apart (u_lays hts hin hx1) (u_lays hts hin hy1) hia hib ?_
    rw [(State.fieldFound?_type hia (hty x hx1).1).1, (State.fieldFound?_type hib (hty y hy1).1).1]
    exact hnm x hx1 y hy1 hne
  obtain ⟨cf, kf, fi, f, hi, hsl⟩ := hS k hk2
  have hlay := hts _ (hin _ (u_in_lay hk2))
  unfold u_lay at hlay
  rw [if_neg (by rw [hfi k hk2, hfin]; decide)] at hlay
  have hst := (u_facts hfc hkC (u_lays hts hin hk2) hi).1
  obtain ⟨hn, hfit⟩ := hv _ (hty k hk2).2
  have h6 := u_store hfc hkC hkind hlay hi (hty k hk2).1 hn hfit
  refine W.putK hx hb (f := f) ⟨hown, hts _ hl, ⟨_, _, _, hi⟩, hst⟩ (by rw [q2]; exact h6) q1 q3 (by rw [hsl]; exact k2_hasslot (q4 k hk2)) rfl rfl hdg fun H' g1 g2 g3 => ?_
  rw [hsl] at g1 ⊢
  refine kk H' _ (hws.put (obj_spec ho).2 e1 e2 e3 g3 ?_ (fun z hz => ?_))
  · unfold reC
    rw [(obj_spec ho).1, if_pos hlt, ← hN]
    refine t_OB.to (V := updV (fV base b M a) k v) ⟨_, g1, q2, q3, t_set q4 hap hk2 v⟩ (fun j hj => hV j (by rw [← hN]; exact hj))
  · rcases List.mem_append.mp hz with h | h
    · exact Or.inl h
    · rw [List.mem_singleton.mp h]; exact Or.inr rfl
theorem rep_arr {a n : Nat} (hws : WS D cy base b H0 M H locs) (hn : n = 11 ∨ n = 12 ∨ n = 14) (ho : obj n a = true) : adr base b a = base + a ∧ H[base + a]? = some (arrV (cy n) (gN a) (fun j => .int (M.1 a j))) := by
  obtain ⟨hg, ha⟩ := obj_spec ho
  have h := hws.1 a ha
  unfold reC at h
  rw [hg, if_neg (by omega), if_neg (by omega)] at h
  exact ⟨adr_id ha, h⟩
theorem rep_arrL {a : Nat} (hws : WS D cy base b H0 M H locs) (ho : obj 13 a = true) : adr base b a = base + a ∧ H[base + a]? = some (arrV (cy 13) (gN a) (fun j => .long (M.2.1 a j))) := by
  obtain ⟨hg, ha⟩ := obj_spec ho
  have h := hws.1 a ha
  unfold reC at h
  rw [hg, if_neg (by omega), if_pos rfl] at h
  exact ⟨adr_id ha, h⟩
theorem ws_arr {a n : Nat} (hws : WS D cy base b H0 M H locs) (hn : n = 11 ∨ n = 12 ∨ n = 14) (ho : obj n a = true) {j : Nat} {x : Int32} {H1 : Heap} {locs1 : List Loc} (hc : H1[base + a]? = some ((arrV (cy n) (gN a) (fun j => .int (M.1 a j))).setSlot j (.int x))) (hq : ∀ q, q ≠ base + a → H1[q]? = H[q]?) (hl : ∀ z ∈ locs1, z ∈ locs ∨ z.base = base + a) :
    WS D cy base b H0 (u2 M.1 a j x, M.2.1, M.2.2) H1 locs1 := by
  refine hws.put (obj_spec ho).2 (fun z hz => u2_ne hz) (fun _ _ => rfl) (fun _ _ => rfl) hq ?_ hl
  unfold reC
  rw [(obj_spec ho).1, if_neg (by omega), if_neg (by omega), hc, arrV_store]
  congr 2
  funext z
  show updV _ _ _ z = .int (u2 M.1 a j x a z)
  rw [u2_at]
  unfold updV
  by_cases h : z = j <;> simp [h]
theorem ws_arrL {a : Nat} (hws : WS D cy base b H0 M H locs) (ho : obj 13 a = true) {j : Nat} {x : Int64} {H1 : Heap} {locs1 : List Loc} (hc : H1[base + a]? = some ((arrV (cy 13) (gN a) (fun j => .long (M.2.1 a j))).setSlot j (.long x))) (hq : ∀ q, q ≠ base + a → H1[q]? = H[q]?) (hl : ∀ z ∈ locs1, z ∈ locs ∨ z.base = base + a) :
    WS D cy base b H0 (M.1, u2 M.2.1 a j x, M.2.2) H1 locs1 := by
  refine hws.put (obj_spec ho).2 (fun _ _ => rfl) (fun z hz => u2_ne hz) (fun _ _ => rfl) hq ?_ hl
  unfold reC
  rw [(obj_spec ho).1, if_neg (by omega), if_pos rfl, hc, arrV_store]
  congr 2
  funext z
  show updV _ _ _ z = .long (u2 M.2.1 a j x a z)
  rw [u2_at]
  unfold updV
  by_cases h : z = j <;> simp [h]
theorem loc_app {z : Loc} {a j : Nat} (h : z ∈ locs ++ [⟨base + a, j⟩]) : z ∈ locs ∨ z.base = base + a := by
  rcases List.mem_append.mp h with h | h
  · exact Or.inl h
  · rw [List.mem_singleton.mp h]; exact Or.inr rfl
theorem in_arr {n : Nat} {ci : ClassId} {f : Nat → Value} {i : Int32} (h : inB i n) : ¬ (i < 0 ∨ (arrV ci n f).slots.size ≤ i.toNatClampNeg) := by
  rw [arrV_size]
  exact inB_in h
theorem in_lt {n : Nat} {i : Int32} (h : inB i n) : i.toNatClampNeg < n := Nat.not_le.mp fun q => inB_in h (Or.inr q)
theorem rw_copy (hx : p.tables.exec = Jvm.exec) (hb : c.code = cc) (hml : c.maxLocals = ls.size) {idx : Nat} (hown : s.vm.findClass own = some m.cls) (hlink : (Cond.methodLink own idx arraycopyName).before args s = true) (hnat : (Cond.native arraycopyName).before args s = true) (hstat : (Cond.static arraycopyName).before args s = true) (hini : (Cond.initialized "java/lang/System").before args s = true)
    (hK : Kn D cy s) (hws : WS D cy base b H0 M H locs) {a d : Nat} (ha : obj 12 a = true) (hd : obj 12 d = true) {sp dp n : Int32} (h1 : ¬ sp < 0) (h2 : ¬ dp < 0) (h3 : ¬ n < 0) (h4 : sp.toNatClampNeg + n.toNatClampNeg ≤ gN a) (h5 : dp.toNatClampNeg + n.toNatClampNeg ≤ gN d)
    (hframes : 1 ≤ R.frames) (hlocals : (rest.map fun v => v.category).sum + (nativeFrameWords "java/lang/System" "arraycopy" 5 + 11) ≤ R.locals) (hdg : decode cc pc = .ok (.invokestatic idx, 3))
    (kk : ∀ (H1 : Heap) (locs1 : List Loc), WS D cy base b H0 (cpy2 M.1 a sp.toNatClampNeg d dp.toNatClampNeg n.toNatClampNeg, M.2.1, M.2.2) H1 locs1 → W p l e R s m args below meth c H1 locs1 cells slots Q (F0 m (pc + 3) ls rest)) :
    W p l e R s m args below meth c H locs cells slots Q (F0 m pc ls (.int n :: .int dp :: .ref (adr base b d) :: .int sp :: .ref (adr base b a) :: rest)) := by
  obtain ⟨ea, hca⟩ := rep_arr hws (Or.inr (Or.inl rfl)) ha
  obtain ⟨ed, hcd⟩ := rep_arr hws (Or.inr (Or.inl rfl)) hd
  rw [ea, ed]
  have nn : ∀ z : Int32, ¬ z < 0 → z.toInt = (z.toNatClampNeg : Int) := by
    intro z hz
    have hz0 : (0 : Int) ≤ z.toInt := by
      have := Int32.not_lt.mp hz
      simpa using Int32.le_iff_toInt_le.mp this
    show z.toInt = ((z.toInt.toNat : Nat) : Int)
    omega
  have hAr := (hK.2.1 12 (by omega) (by omega)).1
  obtain ⟨-, k0, hk0, cm0, hkk0⟩ := hAr (gN a) (fun j => .int (M.1 a j))
  obtain ⟨-, k1, hk1, cm1, hkk1⟩ := hAr (gN d) (fun j => .int (M.1 d j))
  intro T hT X
  obtain ⟨vm', X', step⟩ := X.arraycopy hx hown hlink hnat hstat hini (src := base + a) (dst := base + d) (cs := arrV (cy 12) (gN a) (fun j => .int (M.1 a j))) (cd := arrV (cy 12) (gN d) (fun j => .int (M.1 d j))) (srcPos := sp) (destPos := dp) (n := n) (by rw [hT]; exact hca) (by rw [hT]; exact hcd)
    (fun _ h => by cases h) (fun _ h => by cases h) (fun h => by cases h) (fun h => by cases h) hk0 hk1 hkk0 hkk1 (by rfl) h1 h2 h3
    (by rw [nn sp h1, nn n h3, arrV_size]; omega)
    (by rw [nn dp h2, nn n h3, arrV_size]; omega)
    (fun vm₁ _ i hi => by
      have e : (arrV (cy 12) (gN a) (fun j => .int (M.1 a j))).slots.getD (sp.toNatClampNeg + i) .null = .int (M.1 a (sp.toNatClampNeg + i)) := by
        rw [Array.getD_eq_getD_getElem?, arrV_read _ _ (by omega)]
        rfl
      refine ⟨?_, ?_⟩
      · rw [e]; rfl
      · rw [e]; exact trivial)
    (g := F0 m pc ls (.int n :: .int dp :: .ref (base + d) :: .int sp :: .ref (base + a) :: rest)) rfl (by rw [hml]) (rest := rest) rfl (by rw [hb]; exact hdg) hframes (by show 2 * 0 + _ + _ ≤ _; omega)
  have e1 : copied (arrV (cy 12) (gN a) (fun j => .int (M.1 a j))) (arrV (cy 12) (gN d) (fun j => .int (M.1 d j))) sp dp n = arrV (cy 12) (gN d) (fun j => .int (va_cpy (M.1 a) (M.1 d) sp.toNatClampNeg dp.toNatClampNeg n.toNatClampNeg j)) := va_copied (fun z => .int z) (cy 12) (cy 12) (M.1 a) (M.1 d) h4
  rw [e1] at X' step
  have hl : base + d < H.size := (Array.getElem?_eq_some_iff.mp hcd).1
  have hheap : ((T.setVm vm').setCell (base + d) (arrV (cy 12) (gN d) (fun j => .int (va_cpy (M.1 a) (M.1 d) sp.toNatClampNeg dp.toNatClampNeg n.toNatClampNeg j)))).heap = H.setIfInBounds (base + d) (arrV (cy 12) (gN d) (fun j => .int (va_cpy (M.1 a) (M.1 d) sp.toNatClampNeg dp.toNatClampNeg n.toNatClampNeg j))) := by rw [← hT]; rfl
  obtain ⟨t, a1, b1⟩ := kk _ _ (hws.put (i := d) (obj_spec hd).2 (fun z hz => by funext w; simp [cpy2, hz]) (fun _ _ => rfl) (fun _ _ => rfl) (fun q hq => by simp [Array.getElem?_setIfInBounds, Ne.symm hq]) (by
      unfold reC
      rw [(obj_spec hd).1, if_neg (by omega), if_neg (by omega)]
      rw [Array.getElem?_setIfInBounds]
      simp only [hl, if_true]
      congr 2
      funext z
      simp [cpy2, va_cpy]) (fun z hz => by
      rcases List.mem_append.mp hz with h | h
      · exact Or.inl h
      · obtain ⟨w, -, hw⟩ := List.mem_map.mp h
        rw [← hw]
        exact Or.inr rfl)) _ hheap X'
  exact ⟨t, step t a1, b1⟩
end
