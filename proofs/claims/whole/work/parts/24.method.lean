/-! a block, a method: sound -/
def chkM (cc : ByteArray) (FL : List (Nat × Nat × Nat)) (KI KL : List (Nat × Nat)) (CL : List Nat) (bl : List Blk) : Bool := bl.all (fun q => chkB cc FL KI KL CL q.2.2 q.1)
theorem bAt_mem : ∀ {bl : List Blk} {pc : Nat} {q : List Nat × List Ent}, bAt bl pc = some q → (pc, q) ∈ bl
  | [], _, _, h => by cases h
  | x :: r, pc, q, h => by
    unfold bAt at h
    by_cases hx : x.1 = pc
    · rw [if_pos hx] at h
      cases h
      subst hx
      exact List.mem_cons_self
    · rw [if_neg hx] at h
      exact List.mem_cons_of_mem _ (bAt_mem h)
theorem args_cp {base b : Nat} : ∀ (As : List Value) (i : Nat), lv_args i (As.map (cv base b)) = (lv_args i As).map (cp base b)
  | [], _ => rfl
  | v :: r, i => by
    rw [List.map_cons]
    unfold lv_args
    rw [cv_cat, List.map_cons, args_cp r]
    rfl
theorem sl_cv {base b : Nat} : ∀ (As : List Value), (lg_sl (As.map (cv base b))).length = (lg_sl As).length
  | [] => rfl
  | v :: r => by
    have ih := sl_cv (base := base) (b := b) r
    unfold lg_sl at ih ⊢
    rw [List.map_cons, List.flatMap_cons, List.flatMap_cons, List.length_append, List.length_append, ih, cv_cat]
    split <;> rfl
section
variable {p : Program} {l : Launch} {e : Env} {R : Room} {s : State} {m : MethodId} {args : Array Value} {below : List Frame} {meth : Method} {c : Code} {cells slots : Nat} {Qc : Array Value → State → Outcome → State → Prop}
variable {cc : ByteArray} {D : va_G} {cy : Nat → ClassId} {base b : Nat} {H0 : Heap} {own : String}
theorem exB_ok {α : Type} {C : MC} {k : Nat → LV → List Value → AM → Option α} {rt : Option Value → AM → Option α} {r : α} {FL : List (Nat × Nat × Nat)} {KI KL : List (Nat × Nat)} {CL : List Nat}
    (hx : p.tables.exec = Jvm.exec) (hb : c.code = cc) (hml : c.maxLocals = C.1) (hret : meth.sig.returnType = retT C.2.1) (hlocks : meth.locks = false) (hts : ∀ w ∈ TBg, w.before args s = true) (hcf : CF) (hown : s.vm.findClass own = some m.cls) (hK : Kn D cy s) (hcs : cells ≤ R.cells ∧ slots ≤ R.slots)
    (hFL : ∀ q ∈ FL, FO own q.1 q.2.1 q.2.2) (hKI : ∀ q ∈ KI, Cond.constant own q.1 (nI q.2) ∈ TBg) (hKL : ∀ q ∈ KL, Cond.constantLong own q.1 (lN q.2) ∈ TBg) (hCL : ∀ (j : Nat) (cal : Cal) (idx : Nat), C.2.2.1[j]? = some cal → CL[j]? = some idx → CO l R own idx cal)
    (hX : ∀ q, C.2.2.2.2 = some q → b < base ∧ va_X b q.1 q.2 s H0)
    (hk : ∀ (pc' : Nat) (lv' : LV) (st' : List Value) (M' : AM) (H' : Heap) (locs' : List Loc) (ls' : Array Slot), k pc' lv' st' M' = some r → WS D cy base b H0 M' H' locs' → lv_has ls' C.1 (lv'.map (cp base b)) → W p l e R s m args below meth c H' locs' cells slots (MQ below Qc args s cells slots (frW base)) (F0 m pc' ls' (st'.map (cv base b))))
    (hrt : ∀ (v : Option Value) (M' : AM) (H' : Heap) (locs' : List Loc) (t : State), rt v M' = some r → WS D cy base b H0 M' H' locs' → t.heap = H' → s.WarmedH t.vm → Qc args s (.returned (v.map (cv base b))) t) :
    ∀ (is : List Ent) (pc : Nat) (lv : LV) (st : List Value) (M : AM) (H : Heap) (locs : List Loc) (ls : Array Slot), chkB cc FL KI KL CL is pc = true → exB C k rt is pc lv st M = some r → WS D cy base b H0 M H locs → lv_has ls C.1 (lv.map (cp base b)) →
      W p l e R s m args below meth c H locs cells slots (MQ below Qc args s cells slots (frW base)) (F0 m pc ls (st.map (cv base b)))
  | [], pc, lv, st, M, H, locs, ls, _, h, hws, hl => hk _ _ _ _ _ _ _ h hws hl
  | en :: is, pc, lv, st, M, H, locs, ls, hc, h, hws, hl => by
    unfold chkB at hc
    rw [Bool.and_eq_true, Bool.and_eq_true, decide_eq_true_eq] at hc
    unfold exB at h
    exact i1_ok hx hb hml hret hlocks hts hcf hown hK hcs hFL hKI hKL hCL hX hc.1.1 hc.1.2 h hws hl (fun lv' st' M' H' locs' ls' h' hws' hl' => exB_ok hx hb hml hret hlocks hts hcf hown hK hcs hFL hKI hKL hCL hX hk hrt is _ lv' st' M' H' locs' ls' hc.2 h' hws' hl') hk hrt
theorem iF_ok {C : MC} {r : RS} {FL : List (Nat × Nat × Nat)} {KI KL : List (Nat × Nat)} {CL : List Nat}
    (hx : p.tables.exec = Jvm.exec) (hb : c.code = cc) (hml : c.maxLocals = C.1) (hret : meth.sig.returnType = retT C.2.1) (hlocks : meth.locks = false) (hts : ∀ w ∈ TBg, w.before args s = true) (hcf : CF) (hown : s.vm.findClass own = some m.cls) (hK : Kn D cy s) (hcs : cells ≤ R.cells ∧ slots ≤ R.slots)
    (hFL : ∀ q ∈ FL, FO own q.1 q.2.1 q.2.2) (hKI : ∀ q ∈ KI, Cond.constant own q.1 (nI q.2) ∈ TBg) (hKL : ∀ q ∈ KL, Cond.constantLong own q.1 (lN q.2) ∈ TBg) (hCL : ∀ (j : Nat) (cal : Cal) (idx : Nat), C.2.2.1[j]? = some cal → CL[j]? = some idx → CO l R own idx cal)
    (hX : ∀ q, C.2.2.2.2 = some q → b < base ∧ va_X b q.1 q.2 s H0) (hchk : chkM cc FL KI KL CL C.2.2.2.1 = true)
    (hrt : ∀ (H' : Heap) (locs' : List Loc) (t : State), WS D cy base b H0 r.2 H' locs' → t.heap = H' → s.WarmedH t.vm → Qc args s (.returned (r.1.map (cv base b))) t) :
    ∀ (n : Nat) (pc : Nat) (lv : LV) (st : List Value) (M : AM) (H : Heap) (locs : List Loc) (ls : Array Slot), iF C n pc lv st M = some r → WS D cy base b H0 M H locs → lv_has ls C.1 (lv.map (cp base b)) →
      W p l e R s m args below meth c H locs cells slots (MQ below Qc args s cells slots (frW base)) (F0 m pc ls (st.map (cv base b)))
  | 0, _, _, _, _, _, _, _, h, _, _ => by simp [iF] at h
  | n + 1, pc, lv, st, M, H, locs, ls, h, hws, hl => by
    unfold iF at h
    split at h
    · cases h
    · rename_i q hq
      have hc : chkB cc FL KI KL CL q.2 pc = true := List.all_eq_true.mp hchk _ (bAt_mem hq)
      exact exB_ok hx hb hml hret hlocks hts hcf hown hK hcs hFL hKI hKL hCL hX (fun pc' lv' st' M' H' locs' ls' h' hws' hl' => iF_ok hx hb hml hret hlocks hts hcf hown hK hcs hFL hKI hKL hCL hX hchk hrt n pc' lv' st' M' H' locs' ls' h' hws' hl')
        (fun v M' H' locs' t h' hws' ht hW => by cases h'; exact hrt H' locs' t hws' ht hW) q.2 pc (pick q.1 lv) st M H locs ls hc h hws (pick_has q.1 hl)
end
/-- a method whose blocks are its code's, whose callees have their contracts: its contract -/
theorem sound_of {l : Launch} {y : MethodName} {cc : ByteArray} {rm : Room} {C : MC} {ret : Option FieldType} {FL : List (Nat × Nat × Nat)} {KI KL : List (Nat × Nat)} {CL : List Nat} (hcf : CF) (hy : plainName y.cls = true) (hret : ret = retT C.2.1)
    (hFL : ∀ q ∈ FL, FO y.cls q.1 q.2.1 q.2.2) (hKI : ∀ q ∈ KI, Cond.constant y.cls q.1 (nI q.2) ∈ TBg) (hKL : ∀ q ∈ KL, Cond.constantLong y.cls q.1 (lN q.2) ∈ TBg) (hCL : ∀ (j : Nat) (cal : Cal) (idx : Nat), C.2.2.1[j]? = some cal → CL[j]? = some idx → CO l rm y.cls idx cal)
    (hno : C.2.2.2.2 = none) (hchk : chkM cc FL KI KL CL C.2.2.2.1 = true) : Ct l y cc C.1 ret rm (mD C) := by
  intro D cy base b As M r M' hD
  obtain ⟨hlen, hD⟩ := gk_some hD
  rw [Nat.ble_eq] at hlen
  obtain ⟨n, hn⟩ := (it_iff C 0 (lv_args 0 As) [] M (r, M')).mp hD
  refine Met.ofW (cc := cc) (maxL := C.1) (ret := ret) hy rfl ?_
  intro p e s m args below meth c s₁ B hml hv
  obtain ⟨rfl, hRep, hKn⟩ := hv
  have hts : ∀ w ∈ TBg, w.before (As.map (cv base b)).toArray s = true := fun w hw => atoms_spec (ws := .code y cc C.1 ret :: TBg) B.pre w (List.mem_cons_of_mem _ hw)
  have hown : s.vm.findClass y.cls = some m.cls := findClass_of_methodNamed B.named
  have hl := lv_entry (As.map (cv base b)) (n := C.1) (by rw [sl_cv]; exact hlen)
  rw [lg_entry_eq]
  rw [args_cp] at hl
  exact iF_ok (R := rm) (r := (r, M')) (H0 := s.heap) B.exec B.bytes hml (B.returns.trans hret) B.notSynchronized hts hcf hown hKn ⟨Nat.zero_le _, Nat.zero_le _⟩ hFL hKI hKL hCL (fun q hq => by rw [hno] at hq; cases hq) hchk
    (fun H' locs' t hws ht hW => ⟨rfl, by rw [ht]; exact hws.1, fun q hq => by rw [ht]; exact hws.2.1 q hq⟩) n 0 (lv_args 0 As) [] M s.heap [] _ hn ⟨hRep, fun _ _ => rfl, fun z hz => by cases hz⟩ hl
