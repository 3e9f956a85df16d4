/-! one instruction, sound -/
def retT (n : Nat) : Option FieldType := match n with
  | 1 => some .int
  | 2 => some .long
  | 3 => some .boolean
  | _ => none
theorem beq_sp {a b : Nat} (h : Nat.beq a b = true) : a = b := Nat.eq_of_beq_eq_true h
theorem blt_sp {a b : Nat} (h : Nat.blt a b = true) : a < b := by
  simp only [Nat.blt, Nat.ble_eq] at h
  exact h
theorem tgt_sp {pc : Nat} {o : Int} (h : 0 ≤ (pc : Int) + o) : (pc : Int) + o = ((tgt pc o : Nat) : Int) := by
  unfold tgt
  omega
theorem swT_some {α : Type} {k : Nat → Option α} {x : Int32} {pc : Nat} {d : Int} {r : α} : ∀ {os : List Int} {lo : Int}, swT k x pc d lo os = some r → swTok pc lo os = true →
    (∃ (i : Nat) (o : Int), os[i]? = some o ∧ x.toInt = lo + i ∧ 0 ≤ (pc : Int) + o ∧ k (tgt pc o) = some r) ∨ ((x.toInt < lo ∨ lo + os.length - 1 < x.toInt) ∧ k (tgt pc d) = some r)
  | [], lo, h, _ => by
    refine Or.inr ⟨?_, h⟩
    simp only [List.length_nil]
    omega
  | o :: os, lo, h, hok => by
    unfold swT at h
    unfold swTok at hok
    rw [Bool.and_eq_true, Bool.and_eq_true, decide_eq_true_eq, decide_eq_true_eq] at hok
    by_cases hx : x = cI lo
    · rw [ifc_t hx] at h
      refine Or.inl ⟨0, o, rfl, ?_, hok.1.1, h⟩
      rw [hx, hok.1.2]
      simp
    · rw [ifc_f hx] at h
      rcases swT_some h hok.2 with ⟨i, o2, h1, h2, h3, h4⟩ | ⟨h1, h2⟩
      · exact Or.inl ⟨i + 1, o2, h1, by rw [h2]; omega, h3, h4⟩
      · refine Or.inr ⟨?_, h2⟩
        have hne : x.toInt ≠ lo := fun q => hx (Int32.toInt_inj.mp (by rw [hok.1.2]; exact q))
        simp only [List.length_cons]
        omega
theorem swL_some {α : Type} {k : Nat → Option α} {x : Int32} {pc : Nat} {d : Int} {r : α} : ∀ {ps : List (Int × Int)}, swL k x pc d ps = some r → swLok pc ps = true → 0 ≤ (pc : Int) + d →
    ∃ o, Op.lookupswitch.offset ps d x.toInt = o ∧ 0 ≤ (pc : Int) + o ∧ k (tgt pc o) = some r
  | [], h, _, hd => ⟨d, rfl, hd, h⟩
  | q :: ps, h, hok, hd => by
    unfold swL at h
    unfold swLok at hok
    rw [Bool.and_eq_true, Bool.and_eq_true, decide_eq_true_eq, decide_eq_true_eq] at hok
    by_cases hx : x = cI q.1
    · rw [ifc_t hx] at h
      refine ⟨q.2, ?_, hok.1.1, h⟩
      rw [Op.lookupswitch.offset_cons, if_pos]
      rw [hx, hok.1.2]
    · rw [ifc_f hx] at h
      obtain ⟨o, h1, h2, h3⟩ := swL_some h hok.2 hd
      refine ⟨o, ?_, h2, h3⟩
      rw [Op.lookupswitch.offset_cons, if_neg]
      · exact h1
      · intro z
        exact hx (Int32.toInt_inj.mp (by rw [hok.1.2]; exact z.symm))
theorem crV_some {α : Type} {o : Option (Option Value × AM)} {M : AM} {f : (Nat → Nat → Int32) → (Nat → Nat → Int64) → Option α} {r : α} (h : crV o M f = some r) : ∃ i l, o = some (none, (i, l, M.2.2)) ∧ f i l = some r := by
  unfold crV at h
  split at h
  · rename_i M'
    by_cases e : M'.2.2 = M.2.2
    · rw [if_pos e] at h
      exact ⟨M'.1, M'.2.1, by rw [← e], h⟩
    · rw [if_neg e] at h; cases h
  · cases h
theorem crI_some {α : Type} {o : Option (Option Value × AM)} {M : AM} {f : Int32 → (Nat → Nat → Int32) → (Nat → Nat → Int64) → Option α} {r : α} (h : crI o M f = some r) : ∃ x i l, o = some (some (.int x), (i, l, M.2.2)) ∧ f x i l = some r := by
  unfold crI at h
  split at h
  · rename_i x M'
    by_cases e : M'.2.2 = M.2.2
    · rw [if_pos e] at h
      exact ⟨x, M'.1, M'.2.1, by rw [← e], h⟩
    · rw [if_neg e] at h; cases h
  · cases h
theorem crL_some {α : Type} {o : Option (Option Value × AM)} {M : AM} {f : Int64 → (Nat → Nat → Int32) → (Nat → Nat → Int64) → Option α} {r : α} (h : crL o M f = some r) : ∃ x i l, o = some (some (.long x), (i, l, M.2.2)) ∧ f x i l = some r := by
  unfold crL at h
  split at h
  · rename_i x M'
    by_cases e : M'.2.2 = M.2.2
    · rw [if_pos e] at h
      exact ⟨x, M'.1, M'.2.1, by rw [← e], h⟩
    · rw [if_neg e] at h; cases h
  · cases h
theorem rpOf_some {Rr : Nat → Nat → Option Nat} {q : Nat × Nat × Nat} (h : rpOf Rr = some q) : Rr = Rp q.1 q.2.1 q.2.2 := by
  unfold rpOf at h
  split at h
  · rename_i hx
    cases h
    exact hx.choose_spec
  · cases h
theorem cmV_some {α : Type} {o : Option (Option Value × AM)} {f : (Nat → Nat → Int32) → (Nat → Nat → Int64) → Nat → Nat → Nat → Option α} {r : α} (h : cmV o f = some r) : ∃ i l a b d, o = some (none, (i, l, Rp a b d)) ∧ f i l a b d = some r := by
  unfold cmV at h
  split at h
  · rename_i M'
    split at h
    · rename_i q hq
      exact ⟨M'.1, M'.2.1, q.1, q.2.1, q.2.2, by rw [← rpOf_some hq], h⟩
    · cases h
  · cases h
theorem cmI_some {α : Type} {o : Option (Option Value × AM)} {f : Int32 → (Nat → Nat → Int32) → (Nat → Nat → Int64) → Nat → Nat → Nat → Option α} {r : α} (h : cmI o f = some r) : ∃ x i l a b d, o = some (some (.int x), (i, l, Rp a b d)) ∧ f x i l a b d = some r := by
  unfold cmI at h
  split at h
  · rename_i x M'
    split at h
    · rename_i q hq
      exact ⟨x, M'.1, M'.2.1, q.1, q.2.1, q.2.2, by rw [← rpOf_some hq], h⟩
    · cases h
  · cases h
theorem f4_some {α : Type} {n : Nat} {x1 x2 x3 x0 : Option α} {r : α} (h : f4 n x1 x2 x3 x0 = some r) : (n = 1 ∧ x1 = some r) ∨ (n = 2 ∧ x2 = some r) ∨ (n = 3 ∧ x3 = some r) ∨ ((n ≠ 1 ∧ n ≠ 2 ∧ n ≠ 3) ∧ x0 = some r) := by
  unfold f4 at h
  split at h
  · exact Or.inl ⟨rfl, h⟩
  · exact Or.inr (Or.inl ⟨rfl, h⟩)
  · exact Or.inr (Or.inr (Or.inl ⟨rfl, h⟩))
  · rename_i h1 h2 h3
    exact Or.inr (Or.inr (Or.inr ⟨⟨h1, h2, h3⟩, h⟩))
theorem fV_1 {base b : Nat} {M : AM} {a k c : Nat} (hg : gK a = c) (h : fk c k = 1) : fV base b M a k = .long (M.2.1 a k) := by
  unfold fV; rw [hg, h]; rfl
theorem fV_2 {base b : Nat} {M : AM} {a k c : Nat} (hg : gK a = c) (h : fk c k = 2) : fV base b M a k = va_rf ((M.2.2 a k).map (adr base b)) := by
  unfold fV; rw [hg, h]; rfl
theorem fV_0 {base b : Nat} {M : AM} {a k c : Nat} (hg : gK a = c) (h1 : fk c k ≠ 1) (h2 : fk c k ≠ 2) : fV base b M a k = .int (M.1 a k) := by
  unfold fV
  rw [hg]
  split
  · rename_i h; exact absurd h h1
  · rename_i h; exact absurd h h2
  · rfl
theorem fV_putI {base b : Nat} {M : AM} {a k c : Nat} {x : Int32} (hg : gK a = c) (h1 : fk c k ≠ 1) (h2 : fk c k ≠ 2) (j : Nat) : updV (fV base b M a) k (.int x) j = fV base b (u2 M.1 a k x, M.2.1, M.2.2) a j := by
  unfold updV
  by_cases hj : j = k
  · subst hj
    rw [if_pos rfl, fV_0 hg h1 h2]; dsimp only; rw [u2_at, if_pos rfl]
  · rw [if_neg hj]
    unfold fV
    split <;> first | rfl | (dsimp only; rw [u2_at, if_neg hj])
theorem fV_putL {base b : Nat} {M : AM} {a k c : Nat} {x : Int64} (hg : gK a = c) (h1 : fk c k = 1) (j : Nat) : updV (fV base b M a) k (.long x) j = fV base b (M.1, u2 M.2.1 a k x, M.2.2) a j := by
  unfold updV
  by_cases hj : j = k
  · subst hj
    rw [if_pos rfl, fV_1 hg h1]; dsimp only; rw [u2_at, if_pos rfl]
  · rw [if_neg hj]
    unfold fV
    split <;> first | rfl | (dsimp only; rw [u2_at, if_neg hj])
theorem fV_putR {base b : Nat} {M : AM} {a k c : Nat} {x : Nat} (hg : gK a = c) (h1 : fk c k = 2) (j : Nat) : updV (fV base b M a) k (.ref (adr base b x)) j = fV base b (M.1, M.2.1, u2 M.2.2 a k (some x)) a j := by
  unfold updV
  by_cases hj : j = k
  · subst hj
    rw [if_pos rfl, fV_2 hg h1]; dsimp only; rw [u2_at, if_pos rfl]
    rfl
  · rw [if_neg hj]
    unfold fV
    split <;> first | rfl | (dsimp only; rw [u2_at, if_neg hj])
theorem boolFit {x : Int32} (hB : isB x) : narrow .boolean (.int x) = .int x ∧ fits .boolean (.int x) = true := by
  rcases isB_or hB with h | h
  · rw [h]; exact ⟨by decide, by decide⟩
  · rw [h]; exact ⟨by decide, by decide⟩
theorem take_rev {base b : Nat} {st : List Value} {n : Nat} : ((st.take n).reverse.map (cv base b)).reverse ++ (st.drop n).map (cv base b) = st.map (cv base b) := by
  rw [← List.map_reverse, List.reverse_reverse, ← List.map_append, List.take_append_drop]

section
variable {p : Program} {l : Launch} {e : Env} {R : Room} {s : State} {m : MethodId} {args : Array Value} {below : List Frame} {meth : Method} {c : Code} {H : Heap} {locs : List Loc} {cells slots : Nat} {Qc : Array Value → State → Outcome → State → Prop}
variable {cc : ByteArray} {pc : Nat} {ls : Array Slot} {D : va_G} {cy : Nat → ClassId} {base b : Nat} {H0 : Heap} {M : AM} {own : String}
set_option maxHeartbeats 8000000 in
set_option maxRecDepth 20000 in
theorem i1_ok {α : Type} {C : MC} {k : Nat → LV → List Value → AM → Option α} {rt : Option Value → AM → Option α} {nx : LV → List Value → AM → Option α} {i : Instr} {n h1 h2 : Nat} {lv : LV} {st : List Value} {r : α} {FL : List (Nat × Nat × Nat)} {KI KL : List (Nat × Nat)} {CL : List Nat}
    (hx : p.tables.exec = Jvm.exec) (hb : c.code = cc) (hml : c.maxLocals = C.1) (hret : meth.sig.returnType = retT C.2.1) (hlocks : meth.locks = false) (hts : ∀ w ∈ TBg, w.before args s = true) (hcf : CF) (hown : s.vm.findClass own = some m.cls) (hK : Kn D cy s) (hcs : cells ≤ R.cells ∧ slots ≤ R.slots)
    (hFL : ∀ q ∈ FL, FO own q.1 q.2.1 q.2.2) (hKI : ∀ q ∈ KI, Cond.constant own q.1 (nI q.2) ∈ TBg) (hKL : ∀ q ∈ KL, Cond.constantLong own q.1 (lN q.2) ∈ TBg) (hCL : ∀ (j : Nat) (cal : Cal) (idx : Nat), C.2.2.1[j]? = some cal → CL[j]? = some idx → CO l R own idx cal)
    (hX : ∀ q, C.2.2.2.2 = some q → b < base ∧ va_X b q.1 q.2 s H0)
    (hd : decode cc pc = .ok (i, n)) (he : eC FL KI KL CL pc (i, n, h1, h2) = true) (h : i1 C k rt nx pc i h1 h2 lv st M = some r) (hws : WS D cy base b H0 M H locs) (hl : lv_has ls C.1 (lv.map (cp base b)))
    (hnx : ∀ (lv' : LV) (st' : List Value) (M' : AM) (H' : Heap) (locs' : List Loc) (ls' : Array Slot), nx lv' st' M' = some r → WS D cy base b H0 M' H' locs' → lv_has ls' C.1 (lv'.map (cp base b)) → W p l e R s m args below meth c H' locs' cells slots (MQ below Qc args s cells slots (frW base)) (F0 m (pc + n) ls' (st'.map (cv base b))))
    (hk : ∀ (pc' : Nat) (lv' : LV) (st' : List Value) (M' : AM) (H' : Heap) (locs' : List Loc) (ls' : Array Slot), k pc' lv' st' M' = some r → WS D cy base b H0 M' H' locs' → lv_has ls' C.1 (lv'.map (cp base b)) → W p l e R s m args below meth c H' locs' cells slots (MQ below Qc args s cells slots (frW base)) (F0 m pc' ls' (st'.map (cv base b))))
    (hrt : ∀ (v : Option Value) (M' : AM) (H' : Heap) (locs' : List Loc) (t : State), rt v M' = some r → WS D cy base b H0 M' H' locs' → t.heap = H' → s.WarmedH t.vm → Qc args s (.returned (v.map (cv base b))) t) :
    W p l e R s m args below meth c H locs cells slots (MQ below Qc args s cells slots (frW base)) (F0 m pc ls (st.map (cv base b))) := by
  cases i
  case iconst z => 
    simp only [i1, frc_eq] at h
    simp only [eC, Bool.and_eq_true, decide_eq_true_eq] at he
    obtain rfl := beq_sp he.2
    exact lv_iconst hx hb hd he.1 (hnx _ _ _ _ _ _ h hws hl)
  case bipush z => 
    simp only [i1, frc_eq] at h
    simp only [eC, Bool.and_eq_true, decide_eq_true_eq] at he
    obtain rfl := beq_sp he.2
    exact lv_bipush hx hb hd he.1 (hnx _ _ _ _ _ _ h hws hl)
  case sipush z => 
    simp only [i1, frc_eq] at h
    simp only [eC, Bool.and_eq_true, decide_eq_true_eq] at he
    obtain rfl := beq_sp he.2
    exact lv_sipush hx hb hd he.1 (hnx _ _ _ _ _ _ h hws hl)
  case lconst z => 
    simp only [i1, frc_eq] at h
    obtain rfl : n = 1 := beq_sp he
    exact lv_lconst hx hb hd rfl (hnx _ _ _ _ _ _ h hws hl)
  case ldc z => 
    simp only [i1, frc_eq] at h
    simp only [eC, Bool.and_eq_true] at he
    obtain rfl := beq_sp he.2
    exact lv_ldc hx hb hown (hts _ (hKI _ (List.contains_iff_mem.mp he.1))) hd (hnx _ _ _ _ _ _ h hws hl)
  case ldc_w z => 
    simp only [i1, frc_eq] at h
    simp only [eC, Bool.and_eq_true] at he
    obtain rfl := beq_sp he.2
    exact lv_ldcw hx hb hown (hts _ (hKI _ (List.contains_iff_mem.mp he.1))) hd (hnx _ _ _ _ _ _ h hws hl)
  case ldc2_w z => 
    simp only [i1, frc_eq] at h
    simp only [eC, Bool.and_eq_true] at he
    obtain rfl := beq_sp he.2
    exact lv_ldc2 hx hb hown (hts _ (hKL _ (List.contains_iff_mem.mp he.1))) hd (hnx _ _ _ _ _ _ h hws hl)
  case iload_n z => 
    simp only [i1, frc_eq] at h
    obtain rfl : n = 1 := beq_sp he
    obtain ⟨v, hv, hg9⟩ := getL_some h
    clear h
    have h := hg9
    clear hg9
    obtain ⟨x, hr9, hg9⟩ := asI_some h
    clear h
    have h := hg9
    clear hg9
    subst hr9
    exact lv_iload_n hx hb hd rfl (lk_has hl hv) (hnx _ _ _ _ _ _ h hws hl)
  case iload z => 
    simp only [i1, frc_eq] at h
    obtain rfl : n = 2 := beq_sp he
    obtain ⟨v, hv, hg9⟩ := getL_some h
    clear h
    have h := hg9
    clear hg9
    obtain ⟨x, hr9, hg9⟩ := asI_some h
    clear h
    have h := hg9
    clear hg9
    subst hr9
    exact lv_iload hx hb hd (lk_has hl hv) (hnx _ _ _ _ _ _ h hws hl)
  case lload_n z => 
    simp only [i1, frc_eq] at h
    obtain rfl : n = 1 := beq_sp he
    obtain ⟨v, hv, hg9⟩ := getL_some h
    clear h
    have h := hg9
    clear hg9
    obtain ⟨x, hr9, hg9⟩ := asL_some h
    clear h
    have h := hg9
    clear hg9
    subst hr9
    exact lv_lload_n hx hb hd rfl (lk_has hl hv) (hnx _ _ _ _ _ _ h hws hl)
  case lload z => 
    simp only [i1, frc_eq] at h
    obtain rfl : n = 2 := beq_sp he
    obtain ⟨v, hv, hg9⟩ := getL_some h
    clear h
    have h := hg9
    clear hg9
    obtain ⟨x, hr9, hg9⟩ := asL_some h
    clear h
    have h := hg9
    clear hg9
    subst hr9
    exact lv_lload hx hb hd (lk_has hl hv) (hnx _ _ _ _ _ _ h hws hl)
  case aload_n z => 
    simp only [i1, frc_eq] at h
    obtain rfl : n = 1 := beq_sp he
    obtain ⟨v, hv, hg9⟩ := getL_some h
    clear h
    have h := hg9
    clear hg9
    obtain ⟨x, hr9, hg9⟩ := asR_some h
    clear h
    have h := hg9
    clear hg9
    subst hr9
    exact lv_aload_n hx hb hd rfl (lk_has hl hv) (hnx _ _ _ _ _ _ h hws hl)
  case aload z => 
    simp only [i1, frc_eq] at h
    obtain rfl : n = 2 := beq_sp he
    obtain ⟨v, hv, hg9⟩ := getL_some h
    clear h
    have h := hg9
    clear hg9
    obtain ⟨x, hr9, hg9⟩ := asR_some h
    clear h
    have h := hg9
    clear hg9
    subst hr9
    exact lv_aload hx hb hd (lk_has hl hv) (hnx _ _ _ _ _ _ h hws hl)
  case istore_n z => 
    simp only [i1, frc_eq] at h
    obtain rfl : n = 1 := beq_sp he
    obtain ⟨x, st1, hs, hg9⟩ := popI_some h
    clear h
    have h := hg9
    clear hg9
    subst hs
    rename List Value => st
    obtain ⟨hz, hg9⟩ := gk_some h
    clear h
    have h := hg9
    clear hg9
    exact lv_istore_n hx hb hd rfl hl (blt_sp hz) (st1_cp lv z.val (.int x)) (fun ls' hl' => hnx _ _ _ _ _ _ h hws hl')
  case istore z => 
    simp only [i1, frc_eq] at h
    obtain rfl : n = 2 := beq_sp he
    obtain ⟨x, st1, hs, hg9⟩ := popI_some h
    clear h
    have h := hg9
    clear hg9
    subst hs
    rename List Value => st
    obtain ⟨hz, hg9⟩ := gk_some h
    clear h
    have h := hg9
    clear hg9
    exact lv_istore hx hb hd hl (blt_sp hz) (st1_cp lv z (.int x)) (fun ls' hl' => hnx _ _ _ _ _ _ h hws hl')
  case astore_n z => 
    simp only [i1, frc_eq] at h
    obtain rfl : n = 1 := beq_sp he
    obtain ⟨x, st1, hs, hg9⟩ := popR_some h
    clear h
    have h := hg9
    clear hg9
    subst hs
    rename List Value => st
    obtain ⟨hz, hg9⟩ := gk_some h
    clear h
    have h := hg9
    clear hg9
    exact lv_astore_n hx hb hd rfl hl (blt_sp hz) (st1_cp lv z.val (.ref x)) (fun ls' hl' => hnx _ _ _ _ _ _ h hws hl')
  case astore z => 
    simp only [i1, frc_eq] at h
    obtain rfl : n = 2 := beq_sp he
    obtain ⟨x, st1, hs, hg9⟩ := popR_some h
    clear h
    have h := hg9
    clear hg9
    subst hs
    rename List Value => st
    obtain ⟨hz, hg9⟩ := gk_some h
    clear h
    have h := hg9
    clear hg9
    exact lv_astore hx hb hd hl (blt_sp hz) (st1_cp lv z (.ref x)) (fun ls' hl' => hnx _ _ _ _ _ _ h hws hl')
  case lstore_n z => 
    simp only [i1, frc_eq] at h
    obtain rfl : n = 1 := beq_sp he
    obtain ⟨x, st1, hs, hg9⟩ := popL_some h
    clear h
    have h := hg9
    clear hg9
    subst hs
    rename List Value => st
    obtain ⟨hz, hg9⟩ := gk_some h
    clear h
    have h := hg9
    clear hg9
    exact lv_lstore_n hx hb hd rfl hl (blt_sp hz) (st2_cp lv z.val (.long x)) (fun ls' hl' => hnx _ _ _ _ _ _ h hws hl')
  case lstore z => 
    simp only [i1, frc_eq] at h
    obtain rfl : n = 2 := beq_sp he
    obtain ⟨x, st1, hs, hg9⟩ := popL_some h
    clear h
    have h := hg9
    clear hg9
    subst hs
    rename List Value => st
    obtain ⟨hz, hg9⟩ := gk_some h
    clear h
    have h := hg9
    clear hg9
    exact lv_lstore hx hb hd hl (blt_sp hz) (st2_cp lv z (.long x)) (fun ls' hl' => hnx _ _ _ _ _ _ h hws hl')
  case iinc z y => 
    simp only [i1, frc_eq] at h
    simp only [eC, Bool.and_eq_true, decide_eq_true_eq] at he
    obtain rfl := beq_sp he.2
    obtain ⟨v, hv, hg9⟩ := getL_some h
    clear h
    have h := hg9
    clear hg9
    obtain ⟨x, hr9, hg9⟩ := asI_some h
    clear h
    have h := hg9
    clear hg9
    subst hr9
    obtain ⟨hz, hg9⟩ := gk_some h
    clear h
    have h := hg9
    clear hg9
    obtain ⟨j, hj⟩ := List.getElem?_of_mem (lk_mem hv)
    exact lv_iinc (k := j) (x := x) hx hb hd hl (by rw [List.getElem?_map, hj]; rfl) (by rw [he.1]) (blt_sp hz) (st1_cp lv z (.int (x + cI y))) (fun ls' hl' => hnx _ _ _ _ _ _ h hws hl')
  case iadd => 
    simp only [i1, frc_eq] at h
    obtain rfl : n = 1 := beq_sp he
    obtain ⟨y, st1, hs, hg9⟩ := popI_some h
    clear h
    have h := hg9
    clear hg9
    subst hs
    rename List Value => st
    obtain ⟨x, st1, hs, hg9⟩ := popI_some h
    clear h
    have h := hg9
    clear hg9
    subst hs
    rename List Value => st
    exact lv_iadd hx hb hd (hnx _ _ _ _ _ _ h hws hl)
  case isub => 
    simp only [i1, frc_eq] at h
    obtain rfl : n = 1 := beq_sp he
    obtain ⟨y, st1, hs, hg9⟩ := popI_some h
    clear h
    have h := hg9
    clear hg9
    subst hs
    rename List Value => st
    obtain ⟨x, st1, hs, hg9⟩ := popI_some h
    clear h
    have h := hg9
    clear hg9
    subst hs
    rename List Value => st
    exact lv_isub hx hb hd (hnx _ _ _ _ _ _ h hws hl)
  case imul => 
    simp only [i1, frc_eq] at h
    obtain rfl : n = 1 := beq_sp he
    obtain ⟨y, st1, hs, hg9⟩ := popI_some h
    clear h
    have h := hg9
    clear hg9
    subst hs
    rename List Value => st
    obtain ⟨x, st1, hs, hg9⟩ := popI_some h
    clear h
    have h := hg9
    clear hg9
    subst hs
    rename List Value => st
    exact lv_imul hx hb hd (hnx _ _ _ _ _ _ h hws hl)
  case iand => 
    simp only [i1, frc_eq] at h
    obtain rfl : n = 1 := beq_sp he
    obtain ⟨y, st1, hs, hg9⟩ := popI_some h
    clear h
    have h := hg9
    clear hg9
    subst hs
    rename List Value => st
    obtain ⟨x, st1, hs, hg9⟩ := popI_some h
    clear h
    have h := hg9
    clear hg9
    subst hs
    rename List Value => st
    exact lv_iand hx hb hd (hnx _ _ _ _ _ _ h hws hl)
  case ior => 
    simp only [i1, frc_eq] at h
    obtain rfl : n = 1 := beq_sp he
    obtain ⟨y, st1, hs, hg9⟩ := popI_some h
    clear h
    have h := hg9
    clear hg9
    subst hs
    rename List Value => st
    obtain ⟨x, st1, hs, hg9⟩ := popI_some h
    clear h
    have h := hg9
    clear hg9
    subst hs
    rename List Value => st
    exact lv_ior hx hb hd (hnx _ _ _ _ _ _ h hws hl)
  case ixor => 
    simp only [i1, frc_eq] at h
    obtain rfl : n = 1 := beq_sp he
    obtain ⟨y, st1, hs, hg9⟩ := popI_some h
    clear h
    have h := hg9
    clear hg9
    subst hs
    rename List Value => st
    obtain ⟨x, st1, hs, hg9⟩ := popI_some h
    clear h
    have h := hg9
    clear hg9
    subst hs
    rename List Value => st
    exact lv_ixor hx hb hd (hnx _ _ _ _ _ _ h hws hl)
  case ishl => 
    simp only [i1, frc_eq] at h
    obtain rfl : n = 1 := beq_sp he
    obtain ⟨y, st1, hs, hg9⟩ := popI_some h
    clear h
    have h := hg9
    clear hg9
    subst hs
    rename List Value => st
    obtain ⟨x, st1, hs, hg9⟩ := popI_some h
    clear h
    have h := hg9
    clear hg9
    subst hs
    rename List Value => st
    exact lv_ishl hx hb hd (hnx _ _ _ _ _ _ h hws hl)
  case ishr => 
    simp only [i1, frc_eq] at h
    obtain rfl : n = 1 := beq_sp he
    obtain ⟨y, st1, hs, hg9⟩ := popI_some h
    clear h
    have h := hg9
    clear hg9
    subst hs
    rename List Value => st
    obtain ⟨x, st1, hs, hg9⟩ := popI_some h
    clear h
    have h := hg9
    clear hg9
    subst hs
    rename List Value => st
    exact lv_ishr hx hb hd (hnx _ _ _ _ _ _ h hws hl)
  case iushr => 
    simp only [i1, frc_eq] at h
    obtain rfl : n = 1 := beq_sp he
    obtain ⟨y, st1, hs, hg9⟩ := popI_some h
    clear h
    have h := hg9
    clear hg9
    subst hs
    rename List Value => st
    obtain ⟨x, st1, hs, hg9⟩ := popI_some h
    clear h
    have h := hg9
    clear hg9
    subst hs
    rename List Value => st
    exact lv_iushr hx hb hd rfl (hnx _ _ _ _ _ _ h hws hl)
  case idiv => 
    simp only [i1, frc_eq] at h
    obtain rfl : n = 1 := beq_sp he
    obtain ⟨y, st1, hs, hg9⟩ := popI_some h
    clear h
    have h := hg9
    clear hg9
    subst hs
    rename List Value => st
    obtain ⟨x, st1, hs, hg9⟩ := popI_some h
    clear h
    have h := hg9
    clear hg9
    subst hs
    rename List Value => st
    obtain ⟨hy, hg9⟩ := gd_some h
    clear h
    have h := hg9
    clear hg9
    exact lv_idiv hx hb hd hy (hnx _ _ _ _ _ _ h hws hl)
  case irem => 
    simp only [i1, frc_eq] at h
    obtain rfl : n = 1 := beq_sp he
    obtain ⟨y, st1, hs, hg9⟩ := popI_some h
    clear h
    have h := hg9
    clear hg9
    subst hs
    rename List Value => st
    obtain ⟨x, st1, hs, hg9⟩ := popI_some h
    clear h
    have h := hg9
    clear hg9
    subst hs
    rename List Value => st
    obtain ⟨hy, hg9⟩ := gd_some h
    clear h
    have h := hg9
    clear hg9
    exact lv_irem hx hb hd hy (hnx _ _ _ _ _ _ h hws hl)
  case ladd => 
    simp only [i1, frc_eq] at h
    obtain rfl : n = 1 := beq_sp he
    obtain ⟨y, st1, hs, hg9⟩ := popL_some h
    clear h
    have h := hg9
    clear hg9
    subst hs
    rename List Value => st
    obtain ⟨x, st1, hs, hg9⟩ := popL_some h
    clear h
    have h := hg9
    clear hg9
    subst hs
    rename List Value => st
    exact lv_ladd hx hb hd (hnx _ _ _ _ _ _ h hws hl)
  case lsub => 
    simp only [i1, frc_eq] at h
    obtain rfl : n = 1 := beq_sp he
    obtain ⟨y, st1, hs, hg9⟩ := popL_some h
    clear h
    have h := hg9
    clear hg9
    subst hs
    rename List Value => st
    obtain ⟨x, st1, hs, hg9⟩ := popL_some h
    clear h
    have h := hg9
    clear hg9
    subst hs
    rename List Value => st
    exact lv_lsub hx hb hd (hnx _ _ _ _ _ _ h hws hl)
  case lmul => 
    simp only [i1, frc_eq] at h
    obtain rfl : n = 1 := beq_sp he
    obtain ⟨y, st1, hs, hg9⟩ := popL_some h
    clear h
    have h := hg9
    clear hg9
    subst hs
    rename List Value => st
    obtain ⟨x, st1, hs, hg9⟩ := popL_some h
    clear h
    have h := hg9
    clear hg9
    subst hs
    rename List Value => st
    exact lv_lmul hx hb hd (hnx _ _ _ _ _ _ h hws hl)
  case land => 
    simp only [i1, frc_eq] at h
    obtain rfl : n = 1 := beq_sp he
    obtain ⟨y, st1, hs, hg9⟩ := popL_some h
    clear h
    have h := hg9
    clear hg9
    subst hs
    rename List Value => st
    obtain ⟨x, st1, hs, hg9⟩ := popL_some h
    clear h
    have h := hg9
    clear hg9
    subst hs
    rename List Value => st
    exact lv_land hx hb hd (hnx _ _ _ _ _ _ h hws hl)
  case ldiv => 
    simp only [i1, frc_eq] at h
    obtain rfl : n = 1 := beq_sp he
    obtain ⟨y, st1, hs, hg9⟩ := popL_some h
    clear h
    have h := hg9
    clear hg9
    subst hs
    rename List Value => st
    obtain ⟨x, st1, hs, hg9⟩ := popL_some h
    clear h
    have h := hg9
    clear hg9
    subst hs
    rename List Value => st
    obtain ⟨hy, hg9⟩ := gd_some h
    clear h
    have h := hg9
    clear hg9
    exact lv_ldiv hx hb hd hy (hnx _ _ _ _ _ _ h hws hl)
  case lrem => 
    simp only [i1, frc_eq] at h
    obtain rfl : n = 1 := beq_sp he
    obtain ⟨y, st1, hs, hg9⟩ := popL_some h
    clear h
    have h := hg9
    clear hg9
    subst hs
    rename List Value => st
    obtain ⟨x, st1, hs, hg9⟩ := popL_some h
    clear h
    have h := hg9
    clear hg9
    subst hs
    rename List Value => st
    obtain ⟨hy, hg9⟩ := gd_some h
    clear h
    have h := hg9
    clear hg9
    exact lv_lrem hx hb hd hy (hnx _ _ _ _ _ _ h hws hl)
  case lneg => 
    simp only [i1, frc_eq] at h
    obtain rfl : n = 1 := beq_sp he
    obtain ⟨x, st1, hs, hg9⟩ := popL_some h
    clear h
    have h := hg9
    clear hg9
    subst hs
    rename List Value => st
    exact lv_lneg hx hb hd (hnx _ _ _ _ _ _ h hws hl)
  case lcmp => 
    simp only [i1, frc_eq] at h
    obtain rfl : n = 1 := beq_sp he
    obtain ⟨y, st1, hs, hg9⟩ := popL_some h
    clear h
    have h := hg9
    clear hg9
    subst hs
    rename List Value => st
    obtain ⟨x, st1, hs, hg9⟩ := popL_some h
    clear h
    have h := hg9
    clear hg9
    subst hs
    rename List Value => st
    exact W.lcmp hx hb hd (hnx _ _ _ _ _ _ h hws hl)
  case i2l => 
    simp only [i1, frc_eq] at h
    obtain rfl : n = 1 := beq_sp he
    obtain ⟨x, st1, hs, hg9⟩ := popI_some h
    clear h
    have h := hg9
    clear hg9
    subst hs
    rename List Value => st
    exact lv_i2l hx hb hd rfl (hnx _ _ _ _ _ _ h hws hl)
  case l2i => 
    simp only [i1, frc_eq] at h
    obtain rfl : n = 1 := beq_sp he
    obtain ⟨x, st1, hs, hg9⟩ := popL_some h
    clear h
    have h := hg9
    clear hg9
    subst hs
    rename List Value => st
    exact lv_l2i hx hb hd rfl (hnx _ _ _ _ _ _ h hws hl)
  case i2b => 
    simp only [i1, frc_eq] at h
    obtain rfl : n = 1 := beq_sp he
    obtain ⟨x, st1, hs, hg9⟩ := popI_some h
    clear h
    have h := hg9
    clear hg9
    subst hs
    rename List Value => st
    exact lv_i2b hx hb hd rfl (hnx _ _ _ _ _ _ h hws hl)
  case dup => 
    simp only [i1, frc_eq] at h
    obtain rfl : n = 1 := beq_sp he
    split at h
    · obtain ⟨hz, hg9⟩ := gk_some h
      clear h
      have h := hg9
      clear hg9
      exact lv_dup hx hb hd (by rw [cv_cat]; exact beq_sp hz) (hnx _ _ _ _ _ _ h hws hl)
    · cases h
  case pop => 
    simp only [i1, frc_eq] at h
    obtain rfl : n = 1 := beq_sp he
    split at h
    · obtain ⟨hz, hg9⟩ := gk_some h
      clear h
      have h := hg9
      clear hg9
      exact lv_pop hx hb hd (by rw [cv_cat]; exact beq_sp hz) (hnx _ _ _ _ _ _ h hws hl)
    · cases h
  case dup2 => 
    simp only [i1, frc_eq] at h
    obtain rfl : n = 1 := beq_sp he
    split at h
    · obtain ⟨hz, hg9⟩ := gk_some h
      clear h
      have h := hg9
      clear hg9
      rw [Bool.and_eq_true] at hz
      exact lv_dup2_11 hx hb hd (by rw [cv_cat]; exact beq_sp hz.1) (by rw [cv_cat]; exact beq_sp hz.2) (hnx _ _ _ _ _ _ h hws hl)
    · cases h
  case goto z => 
    simp only [i1, frc_eq] at h
    simp only [eC, Bool.and_eq_true, decide_eq_true_eq] at he
    obtain rfl := beq_sp he.2
    exact lv_goto hx hb hd he.1 (hk _ _ _ _ _ _ _ h hws hl)
  case ifCond z y => 
    simp only [i1, frc_eq] at h
    simp only [eC, Bool.and_eq_true, decide_eq_true_eq] at he
    obtain rfl := beq_sp he.2
    obtain ⟨x, st1, hs, hg9⟩ := popI_some h
    clear h
    have h := hg9
    clear hg9
    subst hs
    rename List Value => st
    cases z
    case eq =>
      simp only [cmpZ] at h
      exact lv_if_eq hx hb hd he.1 (fun q => hk _ _ _ _ _ _ _ (by rw [ifc_t q] at h; exact h) hws hl) (fun q => hnx _ _ _ _ _ _ (by rw [ifc_f q] at h; exact h) hws hl)
    case ne =>
      simp only [cmpZ] at h
      exact lv_if_ne hx hb hd he.1 (fun q => hk _ _ _ _ _ _ _ (by rw [ifc_f q] at h; exact h) hws hl) (fun q => hnx _ _ _ _ _ _ (by rw [ifc_t q] at h; exact h) hws hl)
    case lt =>
      simp only [cmpZ] at h
      exact lv_if_lt hx hb hd he.1 (fun q => hk _ _ _ _ _ _ _ (by rw [ifc_t q] at h; exact h) hws hl) (fun q => hnx _ _ _ _ _ _ (by rw [ifc_f q] at h; exact h) hws hl)
    case ge =>
      simp only [cmpZ] at h
      exact lv_if_ge hx hb hd he.1 (fun q => hk _ _ _ _ _ _ _ (by rw [ifc_f (Int32.not_lt.mpr q)] at h; exact h) hws hl) (fun q => hnx _ _ _ _ _ _ (by rw [ifc_t (Int32.not_le.mp q)] at h; exact h) hws hl)
    case gt =>
      simp only [cmpZ] at h
      exact lv_if_gt hx hb hd he.1 (fun q => hk _ _ _ _ _ _ _ (by rw [ifc_t q] at h; exact h) hws hl) (fun q => hnx _ _ _ _ _ _ (by rw [ifc_f q] at h; exact h) hws hl)
    case le =>
      simp only [cmpZ] at h
      exact lv_if_le hx hb hd he.1 (fun q => hk _ _ _ _ _ _ _ (by rw [ifc_f (Int32.not_lt.mpr q)] at h; exact h) hws hl) (fun q => hnx _ _ _ _ _ _ (by rw [ifc_t (Int32.not_le.mp q)] at h; exact h) hws hl)
  case if_icmp z y => 
    simp only [i1, frc_eq] at h
    simp only [eC, Bool.and_eq_true, decide_eq_true_eq] at he
    obtain rfl := beq_sp he.2
    obtain ⟨y2, st1, hs, hg9⟩ := popI_some h
    clear h
    have h := hg9
    clear hg9
    subst hs
    rename List Value => st
    obtain ⟨x, st1, hs, hg9⟩ := popI_some h
    clear h
    have h := hg9
    clear hg9
    subst hs
    rename List Value => st
    cases z
    case eq =>
      simp only [cmpI] at h
      exact lv_icmp_eq hx hb hd he.1 (fun q => hk _ _ _ _ _ _ _ (by rw [ifc_t q] at h; exact h) hws hl) (fun q => hnx _ _ _ _ _ _ (by rw [ifc_f q] at h; exact h) hws hl)
    case ne =>
      simp only [cmpI] at h
      exact lv_icmp_ne hx hb hd he.1 (fun q => hk _ _ _ _ _ _ _ (by rw [ifc_f q] at h; exact h) hws hl) (fun q => hnx _ _ _ _ _ _ (by rw [ifc_t q] at h; exact h) hws hl)
    case lt =>
      simp only [cmpI] at h
      exact lv_icmp_lt hx hb hd he.1 (fun q => hk _ _ _ _ _ _ _ (by rw [ifc_t q] at h; exact h) hws hl) (fun q => hnx _ _ _ _ _ _ (by rw [ifc_f q] at h; exact h) hws hl)
    case ge =>
      simp only [cmpI] at h
      exact lv_icmp_ge hx hb hd he.1 (fun q => hk _ _ _ _ _ _ _ (by rw [ifc_f (Int32.not_lt.mpr q)] at h; exact h) hws hl) (fun q => hnx _ _ _ _ _ _ (by rw [ifc_t (Int32.not_le.mp q)] at h; exact h) hws hl)
    case gt =>
      simp only [cmpI] at h
      exact lv_icmp_gt hx hb hd he.1 (fun q => hk _ _ _ _ _ _ _ (by rw [ifc_t q] at h; exact h) hws hl) (fun q => hnx _ _ _ _ _ _ (by rw [ifc_f q] at h; exact h) hws hl)
    case le =>
      simp only [cmpI] at h
      exact lv_icmp_le hx hb hd he.1 (fun q => hk _ _ _ _ _ _ _ (by rw [ifc_f (Int32.not_lt.mpr q)] at h; exact h) hws hl) (fun q => hnx _ _ _ _ _ _ (by rw [ifc_t (Int32.not_le.mp q)] at h; exact h) hws hl)
  case tableswitch d lo hi os => 
    simp only [i1, frc_eq] at h
    simp only [eC, Bool.and_eq_true, decide_eq_true_eq] at he
    obtain ⟨x, st1, hs, hg9⟩ := popI_some h
    clear h
    have h := hg9
    clear hg9
    subst hs
    rename List Value => st
    rcases swT_some h he.2 with ⟨i, o, g1, g2, g3, g4⟩ | ⟨g1, g2⟩
    · have hil : i < os.toList.length := (List.getElem?_eq_some_iff.mp g1).1
      refine lv_tableIn hx hb hd (by omega) (by rw [he.1.2]; omega) (off := o) ?_ (tgt_sp g3) (hk _ _ _ _ _ _ _ g4 hws hl)
      rw [show (x.toInt - lo).toNat = i by omega, ← Array.getElem?_toList]
      exact g1
    · refine lv_tableOut hx hb hd ?_ (tgt_sp he.1.1) (hk _ _ _ _ _ _ _ g2 hws hl)
      rw [he.1.2]
      exact g1
  case lookupswitch d ps => 
    simp only [i1, frc_eq] at h
    simp only [eC, Bool.and_eq_true, decide_eq_true_eq] at he
    obtain ⟨x, st1, hs, hg9⟩ := popI_some h
    clear h
    have h := hg9
    clear hg9
    subst hs
    rename List Value => st
    obtain ⟨o, g1, g2, g3⟩ := swL_some h he.2 he.1.1
    exact lv_lookup hx hb hd he.1.2 g1 (tgt_sp g2) (hk _ _ _ _ _ _ _ g3 hws hl)
  case getfield z => 
    simp only [i1, frc_eq] at h
    simp only [eC, Bool.and_eq_true] at he
    obtain rfl := beq_sp he.2
    obtain ⟨a, st1, hs, hg9⟩ := popR_some h
    clear h
    have h := hg9
    clear hg9
    subst hs
    rename List Value => st
    obtain ⟨hz, hg9⟩ := gk_some h
    clear h
    have h := hg9
    clear hg9
    rw [Bool.and_eq_true] at hz
    have hf := hFL _ (List.contains_iff_mem.mp he.1)
    have hg := (obj_spec hz.1).1
    refine rw_get hx hb hts hcf hown hK hws hz.1 (blt_sp hz.2) hf hd ?_
    have hh9 := f4_some h
    clear h
    rcases hh9 with ⟨q, h⟩ | ⟨q, h⟩ | ⟨q, h⟩ | ⟨q, h⟩
    · rw [fV_1 hg q]
      exact hnx _ _ _ _ _ _ h hws hl
    · obtain ⟨x, hx2, hg9⟩ := someR_some h
      clear h
      have h := hg9
      clear hg9
      rw [fV_2 hg q, hx2]
      exact hnx _ _ _ _ _ _ h hws hl
    · rw [fV_0 hg (by rw [q]; decide) (by rw [q]; decide)]
      exact hnx _ _ _ _ _ _ h hws hl
    · rw [fV_0 hg q.1 q.2.1]
      exact hnx _ _ _ _ _ _ h hws hl
  case putfield z => 
    simp only [i1, frc_eq] at h
    simp only [eC, Bool.and_eq_true] at he
    obtain rfl := beq_sp he.2
    obtain ⟨hz, hg9⟩ := gk_some h
    clear h
    have h := hg9
    clear hg9
    rw [Bool.and_eq_true] at hz
    have hf := hFL _ (List.contains_iff_mem.mp he.1)
    have hfin : fFin h1 h2 = false := by simpa using hz.2
    have hh9 := f4_some h
    clear h
    rcases hh9 with ⟨q, h⟩ | ⟨q, h⟩ | ⟨q, h⟩ | ⟨q, h⟩
    · obtain ⟨x, st1, hs, hg9⟩ := popL_some h
      clear h
      have h := hg9
      clear hg9
      subst hs
      rename List Value => st
      obtain ⟨a, st1, hs, hg9⟩ := popR_some h
      clear h
      have h := hg9
      clear hg9
      subst hs
      rename List Value => st
      obtain ⟨ho, hg9⟩ := gk_some h
      clear h
      have h := hg9
      clear hg9
      exact rw_put hx hb hts hcf hown hK hws ho (blt_sp hz.1) hf hfin (M' := (M.1, u2 M.2.1 a h2 x, M.2.2)) (fun ty hty => by rw [q] at hty; cases ty <;> first | (exact ⟨rfl, rfl⟩) | (simp [tyK] at hty)) (fun _ _ => rfl) (fun z hz => u2_ne hz) (fun _ _ => rfl) (fun j _ => fV_putL (obj_spec ho).1 q j) hd (fun H1 locs1 hws1 => hnx _ _ _ _ _ _ h hws1 hl)
    · obtain ⟨x, st1, hs, hg9⟩ := popR_some h
      clear h
      have h := hg9
      clear hg9
      subst hs
      rename List Value => st
      obtain ⟨a, st1, hs, hg9⟩ := popR_some h
      clear h
      have h := hg9
      clear hg9
      subst hs
      rename List Value => st
      obtain ⟨ho, hg9⟩ := gk_some h
      clear h
      have h := hg9
      clear hg9
      exact rw_put hx hb hts hcf hown hK hws ho (blt_sp hz.1) hf hfin (M' := (M.1, M.2.1, u2 M.2.2 a h2 (some x))) (fun ty hty => by rw [q] at hty; cases ty <;> first | (exact ⟨rfl, rfl⟩) | (simp [tyK] at hty)) (fun _ _ => rfl) (fun _ _ => rfl) (fun z hz => u2_ne hz) (fun j _ => fV_putR (obj_spec ho).1 q j) hd (fun H1 locs1 hws1 => hnx _ _ _ _ _ _ h hws1 hl)
    · obtain ⟨x, st1, hs, hg9⟩ := popI_some h
      clear h
      have h := hg9
      clear hg9
      subst hs
      rename List Value => st
      obtain ⟨a, st1, hs, hg9⟩ := popR_some h
      clear h
      have h := hg9
      clear hg9
      subst hs
      rename List Value => st
      obtain ⟨ho, hg9⟩ := gk_some h
      clear h
      have h := hg9
      clear hg9
      obtain ⟨hB, hg9⟩ := gd_some h
      clear h
      have h := hg9
      clear hg9
      exact rw_put hx hb hts hcf hown hK hws ho (blt_sp hz.1) hf hfin (M' := (u2 M.1 a h2 x, M.2.1, M.2.2)) (fun ty hty => by rw [q] at hty; cases ty <;> first | (exact boolFit hB) | (simp [tyK] at hty)) (fun z hz => u2_ne hz) (fun _ _ => rfl) (fun _ _ => rfl) (fun j _ => fV_putI (obj_spec ho).1 (by rw [q]; decide) (by rw [q]; decide) j) hd (fun H1 locs1 hws1 => hnx _ _ _ _ _ _ h hws1 hl)
    · obtain ⟨x, st1, hs, hg9⟩ := popI_some h
      clear h
      have h := hg9
      clear hg9
      subst hs
      rename List Value => st
      obtain ⟨a, st1, hs, hg9⟩ := popR_some h
      clear h
      have h := hg9
      clear hg9
      subst hs
      rename List Value => st
      obtain ⟨ho, hg9⟩ := gk_some h
      clear h
      have h := hg9
      clear hg9
      have hlt : fk h1 h2 < 4 := by unfold fk; exact Nat.lt_of_le_of_lt Nat.and_le_right (by decide)
      have q0 : fk h1 h2 = 0 := by omega
      exact rw_put hx hb hts hcf hown hK hws ho (blt_sp hz.1) hf hfin (M' := (u2 M.1 a h2 x, M.2.1, M.2.2)) (fun ty hty => by rw [q0] at hty; cases ty <;> first | (exact ⟨rfl, rfl⟩) | (simp [tyK] at hty)) (fun z hz => u2_ne hz) (fun _ _ => rfl) (fun _ _ => rfl) (fun j _ => fV_putI (obj_spec ho).1 q.1 q.2.1 j) hd (fun H1 locs1 hws1 => hnx _ _ _ _ _ _ h hws1 hl)
  case iaload => 
    simp only [i1, frc_eq] at h
    obtain rfl : n = 1 := beq_sp he
    obtain ⟨j, st1, hs, hg9⟩ := popI_some h
    clear h
    have h := hg9
    clear hg9
    subst hs
    rename List Value => st
    obtain ⟨a, st1, hs, hg9⟩ := popR_some h
    clear h
    have h := hg9
    clear hg9
    subst hs
    rename List Value => st
    have hh9 := bM_some h
    clear h
    rcases hh9 with ⟨hz, h⟩ | ⟨hz, h⟩
    · obtain ⟨q, hq, hg9⟩ := scR_some h
      clear h
      have h := hg9
      clear hg9
      obtain ⟨hi, hg9⟩ := gd_some h
      clear h
      have h := hg9
      clear hg9
      obtain ⟨hbb, scr, g1, g2, g3, g4, g5⟩ := hX q hq
      have ea : adr base b a = b := by rw [beq_sp hz]; rfl
      show W p l e R s m args below meth c H locs cells slots _ (F0 m pc ls (.int j :: .ref (adr base b a) :: st.map (cv base b)))
      rw [ea]
      exact W.iald (v := .int (q.2 j.toNatClampNeg)) hx hb (by rw [hws.2.1 b (Or.inl hbb)]; exact g1) g2 g3 (by rw [g4]; exact inB_in hi) (g5 _ (in_lt hi)) rfl rfl hd (hnx _ _ _ _ _ _ h hws hl)
    · obtain ⟨ho, hg9⟩ := gk_some h
      clear h
      have h := hg9
      clear hg9
      obtain ⟨hi, hg9⟩ := gd_some h
      clear h
      have h := hg9
      clear hg9
      obtain ⟨ea, hc⟩ := rep_arr hws (Or.inr (Or.inl rfl)) ho
      show W p l e R s m args below meth c H locs cells slots _ (F0 m pc ls (.int j :: .ref (adr base b a) :: st.map (cv base b)))
      rw [ea]
      exact W.iald (v := .int (M.1 a j.toNatClampNeg)) hx hb hc ((hK.2.1 12 (by omega) (by omega)).1 _ _) (fun q => by cases q) (in_arr hi) (arrV_read _ _ (in_lt hi)) rfl rfl hd (hnx _ _ _ _ _ _ h hws hl)
  case baload => 
    simp only [i1, frc_eq] at h
    obtain rfl : n = 1 := beq_sp he
    obtain ⟨j, st1, hs, hg9⟩ := popI_some h
    clear h
    have h := hg9
    clear hg9
    subst hs
    rename List Value => st
    obtain ⟨a, st1, hs, hg9⟩ := popR_some h
    clear h
    have h := hg9
    clear hg9
    subst hs
    rename List Value => st
    obtain ⟨ho, hg9⟩ := gk_some h
    clear h
    have h := hg9
    clear hg9
    obtain ⟨hi, hg9⟩ := gd_some h
    clear h
    have h := hg9
    clear hg9
    rw [Bool.or_eq_true] at ho
    rcases ho with ho | ho
    · obtain ⟨ea, hc⟩ := rep_arr hws (Or.inl rfl) ho
      show W p l e R s m args below meth c H locs cells slots _ (F0 m pc ls (.int j :: .ref (adr base b a) :: st.map (cv base b)))
      rw [ea]
      exact W.bald (v := .int (M.1 a j.toNatClampNeg)) hx hb hc ((hK.2.1 11 (by omega) (by omega)).1 _ _) (fun q => by cases q) (in_arr hi) (arrV_read _ _ (in_lt hi)) rfl rfl hd (hnx _ _ _ _ _ _ h hws hl)
    · obtain ⟨ea, hc⟩ := rep_arr hws (Or.inr (Or.inr rfl)) ho
      show W p l e R s m args below meth c H locs cells slots _ (F0 m pc ls (.int j :: .ref (adr base b a) :: st.map (cv base b)))
      rw [ea]
      exact W.zald (v := .int (M.1 a j.toNatClampNeg)) hx hb hc ((hK.2.1 14 (by omega) (by omega)).1 _ _) (fun q => by cases q) (in_arr hi) (arrV_read _ _ (in_lt hi)) rfl rfl hd (hnx _ _ _ _ _ _ h hws hl)
  case laload => 
    simp only [i1, frc_eq] at h
    obtain rfl : n = 1 := beq_sp he
    obtain ⟨j, st1, hs, hg9⟩ := popI_some h
    clear h
    have h := hg9
    clear hg9
    subst hs
    rename List Value => st
    obtain ⟨a, st1, hs, hg9⟩ := popR_some h
    clear h
    have h := hg9
    clear hg9
    subst hs
    rename List Value => st
    obtain ⟨ho, hg9⟩ := gk_some h
    clear h
    have h := hg9
    clear hg9
    obtain ⟨hi, hg9⟩ := gd_some h
    clear h
    have h := hg9
    clear hg9
    obtain ⟨ea, hc⟩ := rep_arrL hws ho
    show W p l e R s m args below meth c H locs cells slots _ (F0 m pc ls (.int j :: .ref (adr base b a) :: st.map (cv base b)))
    rw [ea]
    exact W.lald (v := .long (M.2.1 a j.toNatClampNeg)) hx hb hc ((hK.2.1 13 (by omega) (by omega)).1 _ _) (fun q => by cases q) (in_arr hi) (arrV_read _ _ (in_lt hi)) rfl rfl hd (hnx _ _ _ _ _ _ h hws hl)
  case iastore => 
    simp only [i1, frc_eq] at h
    obtain rfl : n = 1 := beq_sp he
    obtain ⟨x, st1, hs, hg9⟩ := popI_some h
    clear h
    have h := hg9
    clear hg9
    subst hs
    rename List Value => st
    obtain ⟨j, st1, hs, hg9⟩ := popI_some h
    clear h
    have h := hg9
    clear hg9
    subst hs
    rename List Value => st
    obtain ⟨a, st1, hs, hg9⟩ := popR_some h
    clear h
    have h := hg9
    clear hg9
    subst hs
    rename List Value => st
    obtain ⟨ho, hg9⟩ := gk_some h
    clear h
    have h := hg9
    clear hg9
    obtain ⟨hi, hg9⟩ := gd_some h
    clear h
    have h := hg9
    clear hg9
    obtain ⟨ea, hc⟩ := rep_arr hws (Or.inr (Or.inl rfl)) ho
    show W p l e R s m args below meth c H locs cells slots _ (F0 m pc ls (.int x :: .int j :: .ref (adr base b a) :: st.map (cv base b)))
    rw [ea]
    exact W.iast hx hb hc ((hK.2.1 12 (by omega) (by omega)).1 _ _) (fun q => by cases q) (in_arr hi) rfl rfl hd (fun H1 g1 _ g3 => hnx _ _ _ _ _ _ h (ws_arr hws (Or.inr (Or.inl rfl)) ho g1 g3 (fun z hz => loc_app hz)) hl)
  case bastore => 
    simp only [i1, frc_eq] at h
    obtain rfl : n = 1 := beq_sp he
    obtain ⟨x, st1, hs, hg9⟩ := popI_some h
    clear h
    have h := hg9
    clear hg9
    subst hs
    rename List Value => st
    obtain ⟨j, st1, hs, hg9⟩ := popI_some h
    clear h
    have h := hg9
    clear hg9
    subst hs
    rename List Value => st
    obtain ⟨a, st1, hs, hg9⟩ := popR_some h
    clear h
    have h := hg9
    clear hg9
    subst hs
    rename List Value => st
    have hh9 := bM_some h
    clear h
    rcases hh9 with ⟨ho, h⟩ | ⟨-, h⟩
    · obtain ⟨hi, hg9⟩ := gd_some h
      clear h
      have h := hg9
      clear hg9
      obtain ⟨ea, hc⟩ := rep_arr hws (Or.inl rfl) ho
      show W p l e R s m args below meth c H locs cells slots _ (F0 m pc ls (.int x :: .int j :: .ref (adr base b a) :: st.map (cv base b)))
      rw [ea]
      exact W.bast hx hb hc ((hK.2.1 11 (by omega) (by omega)).1 _ _) (fun q => by cases q) (in_arr hi) rfl rfl hd (fun H1 g1 _ g3 => hnx _ _ _ _ _ _ h (ws_arr hws (Or.inl rfl) ho g1 g3 (fun z hz => loc_app hz)) hl)
    · obtain ⟨ho, hg9⟩ := gk_some h
      clear h
      have h := hg9
      clear hg9
      obtain ⟨hi, hg9⟩ := gd_some h
      clear h
      have h := hg9
      clear hg9
      obtain ⟨ea, hc⟩ := rep_arr hws (Or.inr (Or.inr rfl)) ho
      show W p l e R s m args below meth c H locs cells slots _ (F0 m pc ls (.int x :: .int j :: .ref (adr base b a) :: st.map (cv base b)))
      rw [ea]
      exact W.zast hx hb hc ((hK.2.1 14 (by omega) (by omega)).1 _ _) (fun q => by cases q) (in_arr hi) rfl rfl hd (fun H1 g1 _ g3 => hnx _ _ _ _ _ _ h (ws_arr hws (Or.inr (Or.inr rfl)) ho g1 g3 (fun z hz => loc_app hz)) hl)
  case lastore => 
    simp only [i1, frc_eq] at h
    obtain rfl : n = 1 := beq_sp he
    obtain ⟨x, st1, hs, hg9⟩ := popL_some h
    clear h
    have h := hg9
    clear hg9
    subst hs
    rename List Value => st
    obtain ⟨j, st1, hs, hg9⟩ := popI_some h
    clear h
    have h := hg9
    clear hg9
    subst hs
    rename List Value => st
    obtain ⟨a, st1, hs, hg9⟩ := popR_some h
    clear h
    have h := hg9
    clear hg9
    subst hs
    rename List Value => st
    obtain ⟨ho, hg9⟩ := gk_some h
    clear h
    have h := hg9
    clear hg9
    obtain ⟨hi, hg9⟩ := gd_some h
    clear h
    have h := hg9
    clear hg9
    obtain ⟨ea, hc⟩ := rep_arrL hws ho
    show W p l e R s m args below meth c H locs cells slots _ (F0 m pc ls (.long x :: .int j :: .ref (adr base b a) :: st.map (cv base b)))
    rw [ea]
    exact W.last hx hb hc ((hK.2.1 13 (by omega) (by omega)).1 _ _) (fun q => by cases q) (in_arr hi) rfl rfl hd (fun H1 g1 _ g3 => hnx _ _ _ _ _ _ h (ws_arrL hws ho g1 g3 (fun z hz => loc_app hz)) hl)
  case arraylength => 
    simp only [i1, frc_eq] at h
    obtain rfl : n = 1 := beq_sp he
    obtain ⟨a, st1, hs, hg9⟩ := popR_some h
    clear h
    have h := hg9
    clear hg9
    subst hs
    rename List Value => st
    have hh9 := bM_some h
    clear h
    rcases hh9 with ⟨hz, h⟩ | ⟨hz, h⟩
    · obtain ⟨q, hq, hg9⟩ := scR_some h
      clear h
      have h := hg9
      clear hg9
      obtain ⟨hbb, scr, g1, g2, g3, g4, g5⟩ := hX q hq
      have ea : adr base b a = b := by rw [beq_sp hz]; rfl
      show W p l e R s m args below meth c H locs cells slots _ (F0 m pc ls (.ref (adr base b a) :: st.map (cv base b)))
      rw [ea]
      exact W.alen (n := nI q.1) hx hb (by rw [hws.2.1 b (Or.inl hbb)]; exact g1) g2 (by rw [g4]; rfl) rfl rfl hd (hnx _ _ _ _ _ _ h hws hl)
    · obtain ⟨ho, hg9⟩ := gk_some h
      clear h
      have h := hg9
      clear hg9
      show W p l e R s m args below meth c H locs cells slots _ (F0 m pc ls (.ref (adr base b a) :: st.map (cv base b)))
      rw [Bool.or_eq_true, Bool.or_eq_true, Bool.or_eq_true] at ho
      rcases ho with ho | ho | ho | ho
      · obtain ⟨ea, hc⟩ := rep_arr hws (Or.inl rfl) ho
        rw [ea]
        exact W.alen (n := nI (gN a)) hx hb hc ((hK.2.1 11 (by omega) (by omega)).1 _ _) (by rw [arrV_size]; rfl) rfl rfl hd (hnx _ _ _ _ _ _ h hws hl)
      · obtain ⟨ea, hc⟩ := rep_arr hws (Or.inr (Or.inl rfl)) ho
        rw [ea]
        exact W.alen (n := nI (gN a)) hx hb hc ((hK.2.1 12 (by omega) (by omega)).1 _ _) (by rw [arrV_size]; rfl) rfl rfl hd (hnx _ _ _ _ _ _ h hws hl)
      · obtain ⟨ea, hc⟩ := rep_arrL hws ho
        rw [ea]
        exact W.alen (n := nI (gN a)) hx hb hc ((hK.2.1 13 (by omega) (by omega)).1 _ _) (by rw [arrV_size]; rfl) rfl rfl hd (hnx _ _ _ _ _ _ h hws hl)
      · obtain ⟨ea, hc⟩ := rep_arr hws (Or.inr (Or.inr rfl)) ho
        rw [ea]
        exact W.alen (n := nI (gN a)) hx hb hc ((hK.2.1 14 (by omega) (by omega)).1 _ _) (by rw [arrV_size]; rfl) rfl rfl hd (hnx _ _ _ _ _ _ h hws hl)
  case invokevirtual z => 
    simp only [i1, frc_eq] at h
    simp only [eC, Bool.and_eq_true, decide_eq_true_eq] at he
    obtain rfl := beq_sp he.2
    split at h
    rotate_left
    · cases h
    rename_i k9 n9 Df hcal
    have hco := hCL _ _ _ hcal he.1
    obtain ⟨hz, hg9⟩ := gk_some h
    clear h
    have h := hg9
    clear hg9
    simp only [Bool.and_eq_true, Nat.ble_eq] at hz
    obtain ⟨⟨hz1, hz2⟩, hz3⟩ := hz
    obtain ⟨a, As, hAs, ho⟩ : ∃ a As, (st.take n9).reverse = .ref a :: As ∧ obj k9 a = true := by
      unfold rcv at hz2
      split at hz2
      · rename_i a As hq
        exact ⟨a, As, hq, hz2⟩
      · cases hz2
    have hlen : As.length + 1 = n9 := by
      have := congrArg List.length hAs
      rw [List.length_reverse, List.length_take, List.length_cons] at this
      omega
    have hcat : (((st.drop n9).map (cv base b)).map fun v => v.category).sum ≤ 8 := by rw [catS_cv]; exact hz3
    rw [← take_rev (st := st) (n := n9), hAs]
    rw [hAs] at h
    have run : ∀ (r0 : Option Value) (M' : AM), Df (.ref a :: As) M = some (r0, M') → (∀ (H1 : Heap) (locs1 : List Loc), WS D cy base b H0 M' H1 locs1 → W p l e R s m args below meth c H1 locs1 cells slots (MQ below Qc args s cells slots (frW base)) (F0 m (pc + 3) ls ((r0.map (cv base b)).toList ++ (st.drop n9).map (cv base b)))) → W p l e R s m args below meth c H locs cells slots (MQ below Qc args s cells slots (frW base)) (F0 m pc ls (((Value.ref a :: As).map (cv base b)).reverse ++ (st.drop n9).map (cv base b))) := by
      intro r0 M' hD kk
      have e9 : ((Value.ref a :: As).map (cv base b)).reverse ++ (st.drop n9).map (cv base b) = (As.map (cv base b)).reverse ++ .ref (adr base b a) :: (st.drop n9).map (cv base b) := by
        rw [List.map_cons, List.reverse_cons, List.append_assoc]; rfl
      rw [e9]
      exact rw_callV hx hb (hml.trans hl.1.symm) hts hcf hown hK hws hcs hco ho hlen hD hcat hd kk
    split at h
    · obtain ⟨i, g, hD, hg9⟩ := crV_some h
      clear h
      have h := hg9
      clear hg9
      exact run _ _ hD (fun H1 locs1 hws1 => hnx _ _ _ _ _ _ h hws1 hl)
    · obtain ⟨x, i, g, hD, hg9⟩ := crI_some h
      clear h
      have h := hg9
      clear hg9
      exact run _ _ hD (fun H1 locs1 hws1 => hnx _ _ _ _ _ _ h hws1 hl)
    · obtain ⟨x, i, g, hD, hg9⟩ := crL_some h
      clear h
      have h := hg9
      clear hg9
      exact run _ _ hD (fun H1 locs1 hws1 => hnx _ _ _ _ _ _ h hws1 hl)
    · obtain ⟨i, g, q1, q2, q3, hD, hg9⟩ := cmV_some h
      clear h
      have h := hg9
      clear hg9
      exact run _ _ hD (fun H1 locs1 hws1 => hnx _ _ _ _ _ _ h hws1 hl)
    · obtain ⟨x, i, g, q1, q2, q3, hD, hg9⟩ := cmI_some h
      clear h
      have h := hg9
      clear hg9
      exact run _ _ hD (fun H1 locs1 hws1 => hnx _ _ _ _ _ _ h hws1 hl)
  case invokestatic z => 
    simp only [i1, frc_eq] at h
    simp only [eC, Bool.and_eq_true, decide_eq_true_eq] at he
    obtain rfl := beq_sp he.2
    split at h
    · rename_i k9 n9 Df hcal
      have hco := hCL _ _ _ hcal he.1
      obtain ⟨hz, hg9⟩ := gk_some h
      clear h
      have h := hg9
      clear hg9
      simp only [Bool.and_eq_true, Nat.ble_eq] at hz
      obtain ⟨hz1, hz3⟩ := hz
      have hlen : (st.take n9).reverse.length = n9 := by rw [List.length_reverse, List.length_take]; omega
      have hcat : (((st.drop n9).map (cv base b)).map fun v => v.category).sum ≤ 8 := by rw [catS_cv]; exact hz3
      rw [← take_rev (st := st) (n := n9)]
      split at h
      · obtain ⟨i, g, hD, hg9⟩ := crV_some h
        clear h
        have h := hg9
        clear hg9
        exact rw_callS hx hb (hml.trans hl.1.symm) hts hown hK hws hcs hco hlen hD hcat hd (fun H1 locs1 hws1 => hnx _ _ _ _ _ _ h hws1 hl)
      · obtain ⟨x, i, g, hD, hg9⟩ := crI_some h
        clear h
        have h := hg9
        clear hg9
        exact rw_callS hx hb (hml.trans hl.1.symm) hts hown hK hws hcs hco hlen hD hcat hd (fun H1 locs1 hws1 => hnx _ _ _ _ _ _ h hws1 hl)
      · obtain ⟨x, i, g, hD, hg9⟩ := crL_some h
        clear h
        have h := hg9
        clear hg9
        exact rw_callS hx hb (hml.trans hl.1.symm) hts hown hK hws hcs hco hlen hD hcat hd (fun H1 locs1 hws1 => hnx _ _ _ _ _ _ h hws1 hl)
    · rename_i k9 n9 Df hcal
      obtain ⟨g1, g2, g3, g4, g5, g6⟩ := hCL _ _ _ hcal he.1
      obtain ⟨n, st1, hs, hg9⟩ := popI_some h
      clear h
      have h := hg9
      clear hg9
      subst hs
      rename List Value => st
      obtain ⟨dp, st1, hs, hg9⟩ := popI_some h
      clear h
      have h := hg9
      clear hg9
      subst hs
      rename List Value => st
      obtain ⟨d, st1, hs, hg9⟩ := popR_some h
      clear h
      have h := hg9
      clear hg9
      subst hs
      rename List Value => st
      obtain ⟨sp, st1, hs, hg9⟩ := popI_some h
      clear h
      have h := hg9
      clear hg9
      subst hs
      rename List Value => st
      obtain ⟨a, st1, hs, hg9⟩ := popR_some h
      clear h
      have h := hg9
      clear hg9
      subst hs
      rename List Value => st
      obtain ⟨hz, hg9⟩ := gk_some h
      clear h
      have h := hg9
      clear hg9
      obtain ⟨hy, hg9⟩ := gd_some h
      clear h
      have h := hg9
      clear hg9
      simp only [Bool.and_eq_true, Nat.ble_eq] at hz
      obtain ⟨y1, y2, y3, y4, y5⟩ := hy
      exact rw_copy hx hb (hml.trans hl.1.symm) hown (hts _ g3) (hts _ g4) (hts _ g5) (hts _ g6) hK hws hz.1.1 hz.1.2 y1 y2 y3 y4 y5 g1 (by rw [catS_cv]; have := hz.2; omega) hd (fun H1 locs1 hws1 => hnx _ _ _ _ _ _ h hws1 hl)
    · rename_i k9 n9 Df hcal
      obtain ⟨g1, g2, g3, g4, g5, g6⟩ := hCL _ _ _ hcal he.1
      obtain ⟨y, st1, hs, hg9⟩ := popI_some h
      clear h
      have h := hg9
      clear hg9
      subst hs
      rename List Value => st
      obtain ⟨x, st1, hs, hg9⟩ := popI_some h
      clear h
      have h := hg9
      clear hg9
      subst hs
      rename List Value => st
      obtain ⟨hz, hg9⟩ := gk_some h
      clear h
      have h := hg9
      clear hg9
      rw [Nat.ble_eq] at hz
      exact va_mmin hx hb (hml.trans hl.1.symm) hown (hts _ g3) (hts _ g4) (hts _ g5) (hts _ g6) g1 (by rw [catS_cv]; omega) hcs.1 hcs.2 hd (hnx _ _ _ _ _ _ h hws hl)
    · rename_i k9 n9 Df hcal
      obtain ⟨g1, g2, g3, g4, g5, g6⟩ := hCL _ _ _ hcal he.1
      obtain ⟨y, st1, hs, hg9⟩ := popI_some h
      clear h
      have h := hg9
      clear hg9
      subst hs
      rename List Value => st
      obtain ⟨x, st1, hs, hg9⟩ := popI_some h
      clear h
      have h := hg9
      clear hg9
      subst hs
      rename List Value => st
      obtain ⟨hz, hg9⟩ := gk_some h
      clear h
      have h := hg9
      clear hg9
      rw [Nat.ble_eq] at hz
      exact va_mmax hx hb (hml.trans hl.1.symm) hown (hts _ g3) (hts _ g4) (hts _ g5) (hts _ g6) g1 (by rw [catS_cv]; omega) hcs.1 hcs.2 hd (hnx _ _ _ _ _ _ h hws hl)
    · rename_i k9 n9 Df hcal
      obtain ⟨g1, g2, g3, g4, g5, g6⟩ := hCL _ _ _ hcal he.1
      obtain ⟨y, st1, hs, hg9⟩ := popL_some h
      clear h
      have h := hg9
      clear hg9
      subst hs
      rename List Value => st
      obtain ⟨x, st1, hs, hg9⟩ := popL_some h
      clear h
      have h := hg9
      clear hg9
      subst hs
      rename List Value => st
      obtain ⟨hz, hg9⟩ := gk_some h
      clear h
      have h := hg9
      clear hg9
      rw [Nat.ble_eq] at hz
      exact va_mmin_long hx hb (hml.trans hl.1.symm) hown (hts _ g3) (hts _ g4) (hts _ g5) (hts _ g6) g1 (by rw [catS_cv]; omega) hcs.1 hcs.2 hd (hnx _ _ _ _ _ _ h hws hl)
    · rename_i k9 n9 Df hcal
      obtain ⟨g1, g2, g3, g4, g5, g6⟩ := hCL _ _ _ hcal he.1
      obtain ⟨y, st1, hs, hg9⟩ := popL_some h
      clear h
      have h := hg9
      clear hg9
      subst hs
      rename List Value => st
      obtain ⟨x, st1, hs, hg9⟩ := popL_some h
      clear h
      have h := hg9
      clear hg9
      subst hs
      rename List Value => st
      obtain ⟨hz, hg9⟩ := gk_some h
      clear h
      have h := hg9
      clear hg9
      rw [Nat.ble_eq] at hz
      exact va_mmax_long hx hb (hml.trans hl.1.symm) hown (hts _ g3) (hts _ g4) (hts _ g5) (hts _ g6) g1 (by rw [catS_cv]; omega) hcs.1 hcs.2 hd (hnx _ _ _ _ _ _ h hws hl)
    · cases h
  case return_ => 
    simp only [i1, frc_eq] at h
    obtain rfl : n = 1 := beq_sp he
    obtain ⟨hz, hg9⟩ := gk_some h
    clear h
    have h := hg9
    clear hg9
    rw [Bool.and_eq_true, List.isEmpty_iff] at hz
    obtain ⟨hz1, rfl⟩ := hz
    have hr : meth.sig.returnType = none := by rw [hret, beq_sp hz1]; rfl
    exact W.vret hx hb hr (fun t ht hW => hrt none M H locs t h hws ht hW) hws.2.2 hd hlocks
  case ireturn => 
    simp only [i1, frc_eq] at h
    obtain rfl : n = 1 := beq_sp he
    obtain ⟨x, st1, hs, hg9⟩ := popI_some h
    clear h
    have h := hg9
    clear hg9
    subst hs
    rename List Value => st
    obtain ⟨hz, hg9⟩ := gk_some h
    clear h
    have h := hg9
    clear hg9
    rw [Bool.and_eq_true, List.isEmpty_iff, Bool.or_eq_true] at hz
    obtain ⟨rfl, hz1⟩ := hz
    have hh9 := bM_some h
    clear h
    rcases hh9 with ⟨h3, h⟩ | ⟨h3, h⟩
    · obtain ⟨hB, hg9⟩ := gd_some h
      clear h
      have h := hg9
      clear hg9
      have hr : meth.sig.returnType = some .boolean := by rw [hret, beq_sp h3]; rfl
      exact W.zret hx hb hr (by rcases isB_or hB with rfl | rfl <;> decide) (fun t ht hW => hrt (some (.int x)) M H locs t h hws ht hW) hws.2.2 hd hlocks
    · have h1r : C.2.1 = 1 := by
        rcases hz1 with q | q
        · exact beq_sp q
        · rw [q] at h3; cases h3
      have hr : meth.sig.returnType = some .int := by rw [hret, h1r]; rfl
      exact W.iret hx hb hr (fun t ht hW => hrt (some (.int x)) M H locs t h hws ht hW) hws.2.2 hd hlocks
  case lreturn => 
    simp only [i1, frc_eq] at h
    obtain rfl : n = 1 := beq_sp he
    obtain ⟨x, st1, hs, hg9⟩ := popL_some h
    clear h
    have h := hg9
    clear hg9
    subst hs
    rename List Value => st
    obtain ⟨hz, hg9⟩ := gk_some h
    clear h
    have h := hg9
    clear hg9
    rw [Bool.and_eq_true, List.isEmpty_iff] at hz
    obtain ⟨rfl, hz1⟩ := hz
    have hr : meth.sig.returnType = some .long := by rw [hret, beq_sp hz1]; rfl
    exact W.lret hx hb hr (fun t ht hW => hrt (some (.long x)) M H locs t h hws ht hW) hws.2.2 hd hlocks
  all_goals (simp only [i1] at h; cases h)
end
