/-! the machine itself beneath the abstract one: what a memory says of the heap; one instruction -/
def adr (base b i : Nat) : Nat := if i = idS then b else base + i
def cv (base b : Nat) (v : Value) : Value := match v with
  | .ref i => .ref (adr base b i)
  | v => v
def cp (base b : Nat) (q : Nat × Value) : Nat × Value := (q.1, cv base b q.2)
/-- a field's value -/
def fV (base b : Nat) (M : AM) (i k : Nat) : Value := match fk (gK i) k with
  | 1 => .long (M.2.1 i k)
  | 2 => va_rf ((M.2.2 i k).map (adr base b))
  | _ => .int (M.1 i k)
/-- an id's cell -/
def reC (D : va_G) (cy : Nat → ClassId) (base b : Nat) (M : AM) (i : Nat) (H : Heap) : Prop :=
  if gK i < 11 then t_OB (base + i) (D.1 (gK i)) (cN (gK i)) (D.2 (gK i)) H (fV base b M i)
  else if gK i = 13 then H[base + i]? = some (arrV (cy 13) (gN i) (fun j => .long (M.2.1 i j)))
  else H[base + i]? = some (arrV (cy (gK i)) (gN i) (fun j => .int (M.1 i j)))
def Rep (D : va_G) (cy : Nat → ClassId) (base b : Nat) (M : AM) (H : Heap) : Prop := ∀ i, i < lyN → reC D cy base b M i H
/-- the cells of the world -/
def frW (base : Nat) (q : Addr) : Prop := base ≤ q ∧ q < base + lyN
/-- the heap in a method that began with the heap H0: the world, and what is outside it as it was -/
def WS (D : va_G) (cy : Nat → ClassId) (base b : Nat) (H0 : Heap) (M : AM) (H : Heap) (locs : List Loc) : Prop :=
  Rep D cy base b M H ∧ (∀ q, (q < base ∨ base + lyN ≤ q) → H[q]? = H0[q]?) ∧ ∀ l ∈ locs, frW base l.base
def aTy (n : Nat) : FieldType := match n with
  | 11 => .byte
  | 12 => .int
  | 13 => .long
  | _ => .boolean
def nstW : List Cond := [.methodLinkNest RX8 95 yX9_find RX9, .methodLinkNest RX6 98 yX9_find RX9]
/-- what is known of classes -/
def Kn (D : va_G) (cy : Nat → ClassId) (U : State) : Prop :=
  (∀ (c : Nat) (q : vw_C), vwCl[c]? = some q → u_Kn U q.1 q.2.1 q.2.2 (D.1 c) (D.2 c)) ∧ (∀ n, 11 ≤ n → n ≤ 14 → ArrOfT U (cy n) (aTy n) ∧ va_RA U (cy n) (aTy n)) ∧ ∀ w ∈ nstW, va_Nw w U
/-- the words of all methods -/
def TBg : List Cond := lw_tbl.filter goodWord
section
variable {α : Type} {base b : Nat}
theorem popI_some {st : List Value} {f : Int32 → List Value → Option α} {r : α} (h : popI st f = some r) : ∃ x st', st = .int x :: st' ∧ f x st' = some r := by
  unfold popI at h
  split at h
  · exact ⟨_, _, rfl, h⟩
  · cases h
theorem popL_some {st : List Value} {f : Int64 → List Value → Option α} {r : α} (h : popL st f = some r) : ∃ x st', st = .long x :: st' ∧ f x st' = some r := by
  unfold popL at h
  split at h
  · exact ⟨_, _, rfl, h⟩
  · cases h
theorem popR_some {st : List Value} {f : Nat → List Value → Option α} {r : α} (h : popR st f = some r) : ∃ x st', st = .ref x :: st' ∧ f x st' = some r := by
  unfold popR at h
  split at h
  · exact ⟨_, _, rfl, h⟩
  · cases h
theorem getL_some {lv : LV} {i : Nat} {f : Value → Option α} {r : α} (h : getL lv i f = some r) : ∃ v, lk lv i = some v ∧ f v = some r := by
  unfold getL at h
  split at h
  · rename_i v hv; exact ⟨v, hv, h⟩
  · cases h
theorem asI_some {v : Value} {f : Int32 → Option α} {r : α} (h : asI v f = some r) : ∃ x, v = .int x ∧ f x = some r := by
  unfold asI at h
  split at h
  · exact ⟨_, rfl, h⟩
  · cases h
theorem asL_some {v : Value} {f : Int64 → Option α} {r : α} (h : asL v f = some r) : ∃ x, v = .long x ∧ f x = some r := by
  unfold asL at h
  split at h
  · exact ⟨_, rfl, h⟩
  · cases h
theorem asR_some {v : Value} {f : Nat → Option α} {r : α} (h : asR v f = some r) : ∃ x, v = .ref x ∧ f x = some r := by
  unfold asR at h
  split at h
  · exact ⟨_, rfl, h⟩
  · cases h
theorem someR_some {v : Option Nat} {f : Nat → Option α} {r : α} (h : someR v f = some r) : ∃ x, v = some x ∧ f x = some r := by
  unfold someR at h
  split at h
  · exact ⟨_, rfl, h⟩
  · cases h
theorem scR_some {β : Type} {v : Option β} {f : β → Option α} {r : α} (h : scR v f = some r) : ∃ x, v = some x ∧ f x = some r := by
  unfold scR at h
  split at h
  · exact ⟨_, rfl, h⟩
  · cases h
theorem gd_some {c : Prop} {x : Option α} {r : α} (h : gd c x = some r) : c ∧ x = some r := by
  unfold gd at h
  by_cases hc : c
  · rw [if_pos hc] at h; exact ⟨hc, h⟩
  · rw [if_neg hc] at h; cases h
theorem ifc_t {c : Prop} {x y : Option α} (hc : c) : ifc c x y = x := by unfold ifc; exact if_pos hc
theorem ifc_f {c : Prop} {x y : Option α} (hc : ¬ c) : ifc c x y = y := by unfold ifc; exact if_neg hc
theorem gk_some {c : Bool} {x : Option α} {r : α} (h : gk c x = some r) : c = true ∧ x = some r := by
  cases c
  · cases h
  · exact ⟨rfl, h⟩
theorem bM_some {c : Bool} {x y : Option α} {r : α} (h : bM c x y = some r) : (c = true ∧ x = some r) ∨ (c = false ∧ y = some r) := by
  cases c
  · exact Or.inr ⟨rfl, h⟩
  · exact Or.inl ⟨rfl, h⟩
theorem cv_cat (v : Value) : (cv base b v).category = v.category := by cases v <;> rfl
theorem catS_cv (st : List Value) : ((st.map (cv base b)).map fun v => v.category).sum = catS st := by
  unfold catS
  rw [List.map_map]
  congr 2
  funext v
  exact cv_cat v
theorem lk_mem : ∀ {lv : LV} {i : Nat} {v : Value}, lk lv i = some v → (i, v) ∈ lv
  | [], _, _, h => by cases h
  | q :: r, i, v, h => by
    unfold lk at h
    by_cases hq : q.1 = i
    · rw [if_pos hq] at h
      cases h
      subst hq
      exact List.mem_cons_self
    · rw [if_neg hq] at h
      exact List.mem_cons_of_mem _ (lk_mem h)
theorem lk_has {ls : Array Slot} {nL : Nat} {lv : LV} (hl : lv_has ls nL (lv.map (cp base b))) {i : Nat} {v : Value} (h : lk lv i = some v) : ls[i]? = some (.val (cv base b v)) :=
  hl.2.2 (i, cv base b v) (List.mem_map.mpr ⟨(i, v), lk_mem h, rfl⟩)
theorem cp_filter (p : Nat → Nat → Bool) (lv : LV) : (lv.filter (fun q => p q.1 q.2.category)).map (cp base b) = (lv.map (cp base b)).filter (fun q => p q.1 q.2.category) := by
  induction lv with
  | nil => rfl
  | cons q r ih =>
    rw [List.map_cons, List.filter_cons, List.filter_cons]
    have e : p (cp base b q).1 (cp base b q).2.category = p q.1 q.2.category := by
      show p q.1 (cv base b q.2).category = _
      rw [cv_cat]
    rw [e]
    split
    · rw [List.map_cons, ih]
    · exact ih
theorem st1_cp (lv : LV) (i : Nat) (v : Value) : (i, cv base b v) :: (lv.map (cp base b)).filter (fun q => !(q.1 == i) && !(q.1 + 1 == i && q.2.category == 2)) = (st1 lv i v).map (cp base b) := by
  unfold st1
  rw [List.map_cons, cp_filter (fun a c => !(a == i) && !(a + 1 == i && c == 2))]
  rfl
theorem st2_cp (lv : LV) (i : Nat) (v : Value) : (i, cv base b v) :: (lv.map (cp base b)).filter (fun q => !(q.1 == i) && (!(q.1 == i + 1) && !(q.1 + 1 == i && q.2.category == 2))) = (st2 lv i v).map (cp base b) := by
  unfold st2
  rw [List.map_cons, cp_filter (fun a c => !(a == i) && (!(a == i + 1) && !(a + 1 == i && c == 2)))]
  rfl
theorem pick_has {ls : Array Slot} {nL : Nat} {lv : LV} (ks : List Nat) (hl : lv_has ls nL (lv.map (cp base b))) : lv_has ls nL ((pick ks lv).map (cp base b)) := by
  refine ⟨hl.1, hl.2.1, fun q hq => ?_⟩
  obtain ⟨a, ha, rfl⟩ := List.mem_map.mp hq
  obtain ⟨i, -, hi⟩ := List.mem_filterMap.mp ha
  cases h : lk lv i with
  | none => rw [h] at hi; cases hi
  | some v =>
    rw [h] at hi
    cases hi
    exact lk_has hl h
theorem inB_in {i : Int32} {n : Nat} (h : inB i n) : vp_in i n := fun q => q.elim h.1 (Nat.not_le.mpr h.2)
theorem obj_spec {c a : Nat} (h : obj c a = true) : gK a = c ∧ a < lyN := by
  unfold obj at h
  rw [Bool.and_eq_true] at h
  refine ⟨by simpa using h.1, ?_⟩
  have h2 := h.2
  simp only [Nat.blt, Nat.ble_eq] at h2
  exact h2
theorem adr_id {a : Nat} (h : a < lyN) : adr base b a = base + a := by
  unfold adr
  rw [if_neg]
  intro q
  rw [q] at h
  exact absurd h (by decide)
theorem isB_or {x : Int32} (h : isB x) : x = 0 ∨ x = 1 := h
end

theorem u2_ne {α : Type} {f : Nat → Nat → α} {a k : Nat} {x : α} {c : Nat} (h : c ≠ a) : u2 f a k x c = f c := by
  funext j
  simp [u2, h]
theorem u2_at {α : Type} (f : Nat → Nat → α) (a k : Nat) (x : α) (j : Nat) : u2 f a k x a j = if j = k then x else f a j := by
  simp [u2]
theorem reC_kept {D : va_G} {cy : Nat → ClassId} {base b : Nat} {M M' : AM} {i : Nat} {H H' : Heap} (h : reC D cy base b M i H) (e1 : M'.1 i = M.1 i) (e2 : M'.2.1 i = M.2.1 i) (e3 : M'.2.2 i = M.2.2 i) (hq : H'[base + i]? = H[base + i]?) : reC D cy base b M' i H' := by
  unfold reC at h ⊢
  by_cases h1 : gK i < 11
  · rw [if_pos h1] at h ⊢
    refine (h.kept hq).to (fun k _ => ?_)
    unfold fV
    rw [e1, e2, e3]
  · rw [if_neg h1] at h ⊢
    by_cases h2 : gK i = 13
    · rw [if_pos h2] at h ⊢
      rw [hq, e2]
      exact h
    · rw [if_neg h2] at h ⊢
      rw [hq, e1]
      exact h
theorem Rep.put {D : va_G} {cy : Nat → ClassId} {base b : Nat} {M M' : AM} {i : Nat} {H H' : Heap} (h : Rep D cy base b M H) (e1 : ∀ j, j ≠ i → M'.1 j = M.1 j) (e2 : ∀ j, j ≠ i → M'.2.1 j = M.2.1 j) (e3 : ∀ j, j ≠ i → M'.2.2 j = M.2.2 j) (hq : ∀ q, q ≠ base + i → H'[q]? = H[q]?) (hi : reC D cy base b M' i H') : Rep D cy base b M' H' := by
  intro j hj
  by_cases hji : j = i
  · rw [hji]; exact hi
  · exact reC_kept (h j hj) (e1 j hji) (e2 j hji) (e3 j hji) (hq _ (fun z => hji (by omega)))
theorem WS.put {D : va_G} {cy : Nat → ClassId} {base b : Nat} {H0 : Heap} {M M' : AM} {i : Nat} {H H' : Heap} {locs locs' : List Loc} (h : WS D cy base b H0 M H locs) (hi9 : i < lyN) (e1 : ∀ j, j ≠ i → M'.1 j = M.1 j) (e2 : ∀ j, j ≠ i → M'.2.1 j = M.2.1 j) (e3 : ∀ j, j ≠ i → M'.2.2 j = M.2.2 j) (hq : ∀ q, q ≠ base + i → H'[q]? = H[q]?) (hi : reC D cy base b M' i H') (hl : ∀ l ∈ locs', l ∈ locs ∨ l.base = base + i) : WS D cy base b H0 M' H' locs' := by
  refine ⟨h.1.put e1 e2 e3 hq hi, fun q hb => ?_, fun l h9 => ?_⟩
  · rw [hq q (by omega)]
    exact h.2.1 q hb
  · rcases hl l h9 with z | z
    · exact h.2.2 l z
    · rw [z]; exact ⟨Nat.le_add_right _ _, Nat.add_lt_add_left hi9 _⟩
