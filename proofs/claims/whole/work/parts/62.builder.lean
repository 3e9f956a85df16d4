/-! constructors: the small machine is sound -/
section
variable {p : Program} {l : Launch} {e : Env} {R : Room} {s : State} {m : MethodId} {args : Array Value} {below : List Frame} {meth : Method} {c : Code} {locs : List Loc} {Q : State → Prop}
variable {cc : ByteArray} {D : va_G} {cy : Nat → ClassId} {base b : Nat} {H0 : Heap} {own : String}
theorem tyA_ok {t : ArrayType} {k : Nat} (h : tyA t = k) (h1 : 11 ≤ k) : newarray.typeOf t = aTy k := by
  subst h
  cases t <;> first | rfl | (exact absurd h1 (by decide))
theorem b1_ok {α : Type} {lv : LV} {FL : List (Nat × Nat × Nat)} {NL : List (Nat × Nat)} {CB : List BC} {k0 : Nat} {en : Ent} {n nc ns : Nat} {st : List Value} {M : AM} {k : Nat → List Value → AM → Nat → Nat → Option α} {r : α} {H : Heap} {locs : List Loc} {pc : Nat} {ls : Array Slot} {nL : Nat}
    (hx : p.tables.exec = Jvm.exec) (hb : c.code = cc) (hml : c.maxLocals = nL) (hts : ∀ w ∈ TBg, w.before args s = true) (hown : s.vm.findClass own = some m.cls) (hin2 : meth.name = "<init>") (hK : Kn D cy s) (hKI : KnI s) (hSK : ∀ U : State, (∀ q, q < base → U.heap[q]? = H0[q]?) → s.WarmedH U.vm → SKt base U)
    (hfr : 1 ≤ R.frames ∧ 20 ≤ R.locals)
    (hFL : ∀ q ∈ FL, FO own q.1 q.2.1 q.2.2) (hNL : ∀ q ∈ NL, NO1 own q) (hk0 : ∀ q, vwCl[k0]? = some q → ∀ k, k < cN k0 → (q.2.1 k).1 = own)
    (hob : ∀ i, en.1 = .invokespecial i → en.2.2.1 = 0 → Cond.methodLink own i Lib.objectInit ∈ TBg) (hob1 : Cond.instanceMethod Lib.objectInit ∈ TBg ∧ Cond.code Lib.objectInit ⟨#[0xb1]⟩ 1 none ∈ TBg)
    (harr : ∀ k, 11 ≤ k → k ≤ 14 → Cond.arrayClass (aTy k) ∈ TBg)
    (hCB : ∀ i j q, en.1 = .invokespecial i → en.2.2.1 = j + 1 → CB[j]? = some q → CI l R own i q)
    (hd : decode cc pc = .ok (en.1, en.2.1)) (hlen : en.2.1 = iLB en.1)
    (h : b1 lv FL NL CB k0 R.cells R.slots en n st M nc ns k = some r) (hws : WB D cy base b H0 n M H locs) (hl : lv_has ls nL (lv.map (cp base b)))
    (kk : ∀ (n' : Nat) (st' : List Value) (M' : AM) (nc' ns' : Nat) (H' : Heap) (locs' : List Loc), k n' st' M' nc' ns' = some r → WB D cy base b H0 n' M' H' locs' → W p l e R s m args below meth c H' locs' nc' ns' Q (F0 m (pc + en.2.1) ls (st'.map (cv base b)))) :
    W p l e R s m args below meth c H locs nc ns Q (F0 m pc ls (st.map (cv base b))) := by
  obtain ⟨i, ln, h1, h2⟩ := en
  dsimp only at *
  cases i
  case aload_n z =>
    simp only [b1] at h
    obtain rfl : ln = 1 := hlen
    split at h
    · rename_i x hv
      exact lv_aload_n hx hb hd rfl (lk_has hl hv) (kk _ _ _ _ _ _ _ h hws)
    · cases h
  case iconst z =>
    simp only [b1] at h
    obtain rfl : ln = 1 := hlen
    split at h
    · rename_i hv
      exact lv_iconst hx hb hd hv (kk _ _ _ _ _ _ _ h hws)
    · cases h
  case bipush z =>
    simp only [b1] at h
    obtain rfl : ln = 2 := hlen
    split at h
    · rename_i hv
      exact lv_bipush hx hb hd hv (kk _ _ _ _ _ _ _ h hws)
    · cases h
  case sipush z =>
    simp only [b1] at h
    obtain rfl : ln = 3 := hlen
    split at h
    · rename_i hv
      exact lv_sipush hx hb hd hv (kk _ _ _ _ _ _ _ h hws)
    · cases h
  case dup =>
    simp only [b1] at h
    obtain rfl : ln = 1 := hlen
    split at h
    · exact lv_dup hx hb hd rfl (kk _ _ _ _ _ _ _ h hws)
    · cases h
  case newarray z =>
    simp only [b1] at h
    obtain rfl : ln = 2 := hlen
    split at h
    · split at h
      · rename_i x st' hc
        obtain ⟨c1, c2, c3, c4, c5, c6, c7, c8⟩ := hc
        rw [c5]
        exact bw_newa hx hb hts hK hws rfl ⟨c2, c3⟩ c4 (tyA_ok c1 c2) (harr _ c2 c3) c6 c7 c8 hd (fun H1 hw1 => kk _ _ _ _ _ _ _ h hw1)
      · cases h
    · cases h
  case new z =>
    simp only [b1] at h
    obtain rfl : ln = 3 := hlen
    split at h
    · rename_i hc
      obtain ⟨c1, c2, c4, c7, c8⟩ := hc
      obtain ⟨r, hr1, hr2, hr3, hr4⟩ := hNL _ c1
      exact bw_new hx hb hts cf_all hown hK hws hr1 c2 c4 hr2 hr3 hr4 c7 c8 hd (fun H1 hw1 => kk _ _ _ _ _ _ _ h hw1)
    · cases h
  case getfield z =>
    simp only [b1] at h
    obtain rfl : ln = 3 := hlen
    split at h
    · split at h
      · rename_i a st' hc
        obtain ⟨c1, c2, c3, c4, c5⟩ := hc
        split at h
        · rename_i v hv
          refine bw_get hx hb hts cf_all hown hK hws c2 c3 c4 (hFL _ c1) hd ?_
          rw [fV_2 (obj_spec c2).1 c5, hv]
          exact kk _ _ _ _ _ _ _ h hws
        · cases h
      · cases h
    · cases h
  case putfield z =>
    simp only [b1] at h
    obtain rfl : ln = 3 := hlen
    split at h
    · split at h
      · rename_i x a st' hc
        obtain ⟨c1, c0, c2, c3, c4, c5⟩ := hc
        have n1 : fk h1 h2 ≠ 1 ∧ fk h1 h2 ≠ 2 := by omega
        refine bw_put hx hb hts cf_all hown hin2 hK hws c2 c3 c4 (hFL _ c1) (fun q hq => hk0 q (by rw [← c0]; exact hq) _ (by rw [← c0]; exact c4)) (M' := (u2 M.1 a h2 x, M.2.1, M.2.2)) (fun ty hty => ?_) (fun z hz => u2_ne hz) (fun _ _ => rfl) (fun _ _ => rfl) (fun j _ => fV_putI (obj_spec c2).1 n1.1 n1.2 j) hd (fun H1 locs1 hw1 => kk _ _ _ _ _ _ _ h hw1)
        rcases c5 with c5 | ⟨c5, hB⟩
        · rw [c5] at hty
          cases ty <;> first | (exact ⟨rfl, rfl⟩) | (simp [tyK] at hty)
        · rw [c5] at hty
          cases ty <;> first | (exact boolFit hB) | (simp [tyK] at hty)
      · cases h
    · split at h
      · rename_i v a st' hc
        obtain ⟨c1, c0, c2, c3, c4, c5⟩ := hc
        refine bw_put hx hb hts cf_all hown hin2 hK hws c2 c3 c4 (hFL _ c1) (fun q hq => hk0 q (by rw [← c0]; exact hq) _ (by rw [← c0]; exact c4)) (M' := (M.1, M.2.1, u2 M.2.2 a h2 (some v))) (fun ty hty => by rw [c5] at hty; cases ty <;> first | (exact ⟨rfl, rfl⟩) | (simp [tyK] at hty)) (fun _ _ => rfl) (fun _ _ => rfl) (fun z hz => u2_ne hz) (fun j _ => fV_putR (obj_spec c2).1 c5 j) hd (fun H1 locs1 hw1 => kk _ _ _ _ _ _ _ h hw1)
      · cases h
    · cases h
  case iastore =>
    simp only [b1] at h
    obtain rfl : ln = 1 := hlen
    split at h
    · split at h
      · rename_i x j a st' hc
        obtain ⟨c1, c2, c3, c4⟩ := hc
        exact bw_iast hx hb hK hws c1 c2 ⟨c3, c4⟩ hd (fun H1 locs1 hw1 => kk _ _ _ _ _ _ _ h hw1)
      · cases h
    · cases h
  case invokespecial z =>
    simp only [b1] at h
    obtain rfl : ln = 3 := hlen
    split at h
    · split at h
      · split at h
        · rename_i a st' hc
          refine W.objInit hx hb hown (hts _ (hob z rfl rfl)) (hts _ hob1.1) (hts _ hob1.2) rfl (by rw [hml]; exact hl.1) rfl hd hfr.1 ?_ (kk _ _ _ _ _ _ _ h hws)
          show 2 * 0 + _ + 12 ≤ _
          have : ((st'.map (cv base b)).map fun v => v.category).sum = catS st' := by
            unfold catS
            rw [List.map_map]
            congr 1
            exact List.map_congr_left (fun v _ => cv_cat v)
          omega
        · cases h
      · cases h
    · rename_i j
      split at h
      · rename_i q hq
        split at h
        · rename_i st' hr
          split at h
          · rename_i hc
            obtain ⟨c1, c2, c3, c4⟩ := hc
            have hst := bRef_some hr
            subst hst
            subst c1
            have : ((st'.map (cv base b)).map fun v => v.category).sum = catS st' := by
              unfold catS
              rw [List.map_map]
              congr 1
              exact List.map_congr_left (fun v _ => cv_cat v)
            rw [List.map_append, List.map_reverse]
            exact bw_callI hx hb (hml.trans hl.1.symm) hts hown hK hKI hSK hws ⟨c3, c4⟩ (hCB z j q rfl rfl hq) (by rw [this]; exact c2) hd (fun H1 locs1 hw1 => kk _ _ _ _ _ _ _ h hw1)
          · cases h
        · cases h
      · cases h
  all_goals (simp only [b1] at h; cases h)
theorem bP_ok {α : Type} {lv : LV} {FL : List (Nat × Nat × Nat)} {NL : List (Nat × Nat)} {CB : List BC} {k0 : Nat} {ls : Array Slot} {nL : Nat} {k : Nat → List Value → AM → Nat → Nat → Option α} {r : α} {pc' : Nat}
    (hx : p.tables.exec = Jvm.exec) (hb : c.code = cc) (hml : c.maxLocals = nL) (hts : ∀ w ∈ TBg, w.before args s = true) (hown : s.vm.findClass own = some m.cls) (hin2 : meth.name = "<init>") (hK : Kn D cy s) (hKI : KnI s) (hSK : ∀ U : State, (∀ q, q < base → U.heap[q]? = H0[q]?) → s.WarmedH U.vm → SKt base U)
    (hfr : 1 ≤ R.frames ∧ 20 ≤ R.locals)
    (hFL : ∀ q ∈ FL, FO own q.1 q.2.1 q.2.2) (hNL : ∀ q ∈ NL, NO1 own q) (hk0 : ∀ q, vwCl[k0]? = some q → ∀ k, k < cN k0 → (q.2.1 k).1 = own) (hob1 : Cond.instanceMethod Lib.objectInit ∈ TBg ∧ Cond.code Lib.objectInit ⟨#[0xb1]⟩ 1 none ∈ TBg)
    (harr : ∀ k, 11 ≤ k → k ≤ 14 → Cond.arrayClass (aTy k) ∈ TBg) (hl : lv_has ls nL (lv.map (cp base b)))
    (kk : ∀ (n' : Nat) (st' : List Value) (M' : AM) (nc' ns' : Nat) (H' : Heap) (locs' : List Loc), k n' st' M' nc' ns' = some r → WB D cy base b H0 n' M' H' locs' → W p l e R s m args below meth c H' locs' nc' ns' Q (F0 m pc' ls (st'.map (cv base b)))) :
    ∀ (is : List Ent) (pc n : Nat) (st : List Value) (M : AM) (nc ns : Nat) (H : Heap) (locs : List Loc), bD cc is pc = true → bL is pc = pc' → (∀ en ∈ is, ∀ i, en.1 = .invokespecial i → en.2.2.1 = 0 → Cond.methodLink own i Lib.objectInit ∈ TBg) → (∀ en ∈ is, ∀ i j q, en.1 = .invokespecial i → en.2.2.1 = j + 1 → CB[j]? = some q → CI l R own i q) →
      bP lv FL NL CB k0 R.cells R.slots k is n st M nc ns = some r → WB D cy base b H0 n M H locs →
      W p l e R s m args below meth c H locs nc ns Q (F0 m pc ls (st.map (cv base b)))
  | [], pc, n, st, M, nc, ns, H, locs, _, hpc, _, _, h, hws => by
    cases hpc
    exact kk _ _ _ _ _ _ _ h hws
  | en :: is, pc, n, st, M, nc, ns, H, locs, hd, hpc, hob, hCB, h, hws => by
    unfold bD at hd
    rw [Bool.and_eq_true, Bool.and_eq_true, decide_eq_true_eq] at hd
    unfold bP at h
    exact b1_ok hx hb hml hts hown hin2 hK hKI hSK hfr hFL hNL hk0 (hob en List.mem_cons_self) hob1 harr (hCB en List.mem_cons_self) hd.1.1 (beq_sp hd.1.2) h hws hl
      (fun n' st' M' nc' ns' H' locs' h' hw => bP_ok hx hb hml hts hown hin2 hK hKI hSK hfr hFL hNL hk0 hob1 harr hl kk is _ n' st' M' nc' ns' H' locs' hd.2 hpc (fun en9 h9 => hob en9 (List.mem_cons_of_mem _ h9)) (fun en9 h9 => hCB en9 (List.mem_cons_of_mem _ h9)) h' hw)
end
/-- a constructor's contract, by its run -/
theorem ctor_of {l : Launch} {y : MethodName} {cc : ByteArray} {rm : Room} {maxL k0 n0 n1 mc ms pc : Nat} {As : List Nat} {F : AM → AM} {FL : List (Nat × Nat × Nat)} {NL : List (Nat × Nat)} {CB : List BC} {is : List Ent} (hy : plainName y.cls = true) (hname : y.name = "<init>") (hfr : 1 ≤ rm.frames ∧ 20 ≤ rm.locals)
    (hFL : ∀ q ∈ FL, FO y.cls q.1 q.2.1 q.2.2) (hNL : ∀ q ∈ NL, NO1 y.cls q) (hk0 : ∀ q, vwCl[k0]? = some q → ∀ k, k < cN k0 → (q.2.1 k).1 = y.cls) (hob1 : Cond.instanceMethod Lib.objectInit ∈ TBg ∧ Cond.code Lib.objectInit ⟨#[0xb1]⟩ 1 none ∈ TBg) (harr : ∀ k, 11 ≤ k → k ≤ 14 → Cond.arrayClass (aTy k) ∈ TBg)
    (hd : bD cc is 0 = true) (hob : ∀ en ∈ is, ∀ i, en.1 = .invokespecial i → en.2.2.1 = 0 → Cond.methodLink y.cls i Lib.objectInit ∈ TBg) (hCB : ∀ en ∈ is, ∀ i j q, en.1 = .invokespecial i → en.2.2.1 = j + 1 → CB[j]? = some q → CI l rm y.cls i q)
    (hlen : (lg_sl (As.map Value.ref)).length ≤ maxL) (hpc : bL is 0 = pc) (hret : decode cc pc = .ok (.return_, 1))
    (hrun : ∀ M : AM, bP (lv_args 0 (As.map Value.ref)) FL NL CB k0 rm.cells rm.slots bE is n0 [] M 0 0 = some (n1, [], F M, mc, ms)) : CtI l y cc maxL rm (n0, As, n1, F, mc, ms) := by
  intro D cy base b M
  refine Met.ofW (cc := cc) (maxL := maxL) (ret := none) hy rfl ?_
  intro p e s m args below meth c s₁ B hml hv
  obtain ⟨rfl, hW0, hKn, hKI, hSk⟩ := hv
  have hts : ∀ w ∈ TBg, w.before ((As.map Value.ref).map (cv base b)).toArray s = true := fun w hw => atoms_spec (ws := .code y cc maxL none :: TBg) B.pre w (List.mem_cons_of_mem _ hw)
  have hown : s.vm.findClass y.cls = some m.cls := findClass_of_methodNamed B.named
  have hin : meth.name = "<init>" := (name_of_methodNamed B.named B.method).1.trans hname
  have hl := lv_entry ((As.map Value.ref).map (cv base b)) (n := maxL) (by rw [sl_cv]; exact hlen)
  rw [lg_entry_eq]
  rw [args_cp] at hl
  refine bP_ok (R := rm) (H0 := s.heap) (k := bE) (r := (n1, [], F M, mc, ms)) B.exec B.bytes hml hts hown hin hKn hKI (fun U hq hW => hSk.kept hW hq) hfr hFL hNL hk0 hob1 harr hl (fun n' st' M' nc' ns' H' locs' h hw => ?_) is 0 n0 [] M 0 0 s.heap [] hd hpc hob hCB (hrun M) ⟨hW0, fun _ _ => rfl, fun z hz => by cases hz⟩
  cases h
  exact W.vret B.exec B.bytes B.returns (fun t ht hW => ⟨rfl, by rw [ht]; exact hw.1, fun q hq => by rw [ht]; exact hw.2.1 q hq⟩) hw.2.2 hret B.notSynchronized
def obC (i0 : Nat) (en : Ent) : Bool := match en.1 with
  | .invokespecial i => !(Nat.beq en.2.2.1 0) || Nat.beq i i0
  | _ => true
theorem ob_of {is : List Ent} {own : String} (i0 : Nat) (h : is.all (obC i0) = true) (hw : Cond.methodLink own i0 Lib.objectInit ∈ TBg) : ∀ en ∈ is, ∀ i, en.1 = .invokespecial i → en.2.2.1 = 0 → Cond.methodLink own i Lib.objectInit ∈ TBg := by
  intro en hen i h1 h2
  have := List.all_eq_true.mp h en hen
  unfold obC at this
  rw [h1, h2] at this
  have hi : i = i0 := by
    simp only [Bool.or_eq_true] at this
    rcases this with x | x
    · exact absurd x (by decide)
    · exact beq_sp x
  rw [hi]
  exact hw
def cbC (CL : List Nat) (en : Ent) : Bool := match en.1 with
  | .invokespecial i => (match en.2.2.1 with
    | 0 => true
    | j + 1 => decide (CL[j]? = some i))
  | _ => true
theorem cb_of {is : List Ent} {CB : List BC} {l : Launch} {R : Room} {own : String} (CL : List Nat) (h : is.all (cbC CL) = true) (hc : ∀ (j : Nat) (q : BC) (i : Nat), CB[j]? = some q → CL[j]? = some i → CI l R own i q) : ∀ en ∈ is, ∀ i j q, en.1 = .invokespecial i → en.2.2.1 = j + 1 → CB[j]? = some q → CI l R own i q := by
  intro en hen i j q h1 h2 h3
  have := List.all_eq_true.mp h en hen
  unfold cbC at this
  rw [h1, h2] at this
  exact hc j q i h3 (of_decide_eq_true this)
theorem ci_nil {l : Launch} {R : Room} {own : String} : ∀ (j : Nat) (q : BC) (i : Nat), ([] : List BC)[j]? = some q → ([] : List Nat)[j]? = some i → CI l R own i q := fun j q i h _ => by simp at h
theorem ci_cons {l : Launch} {R : Room} {own : String} {q0 : BC} {i0 : Nat} {CB : List BC} {CL : List Nat} (h0 : CI l R own i0 q0) (h : ∀ (j : Nat) (q : BC) (i : Nat), CB[j]? = some q → CL[j]? = some i → CI l R own i q) : ∀ (j : Nat) (q : BC) (i : Nat), (q0 :: CB)[j]? = some q → (i0 :: CL)[j]? = some i → CI l R own i q
  | 0, q, i, h1, h2 => by
    cases h1
    cases h2
    exact h0
  | j + 1, q, i, h1, h2 => h j q i h1 h2
