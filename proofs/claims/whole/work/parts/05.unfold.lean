/-! 'it' goes on as its block says: it_eq, and the equations of regions: it_ev -/
section
variable {α β : Type}
theorem gd_bind (b : Prop) (x : Option α) (g : α → Option β) : (gd b x).bind g = gd b (x.bind g) := by
  unfold gd
  by_cases h : b <;> simp [h]
theorem ifc_bind (b : Prop) (x y : Option α) (g : α → Option β) : (ifc b x y).bind g = ifc b (x.bind g) (y.bind g) := by
  unfold ifc
  by_cases h : b <;> simp [h]
theorem gk_bind (b : Bool) (x : Option α) (g : α → Option β) : (gk b x).bind g = gk b (x.bind g) := by cases b <;> rfl
theorem popI_bind (st : List Value) (f : Int32 → List Value → Option α) (g : α → Option β) : (popI st f).bind g = popI st (fun x r => (f x r).bind g) := by
  unfold popI; split <;> rfl
theorem popL_bind (st : List Value) (f : Int64 → List Value → Option α) (g : α → Option β) : (popL st f).bind g = popL st (fun x r => (f x r).bind g) := by
  unfold popL; split <;> rfl
theorem popR_bind (st : List Value) (f : Nat → List Value → Option α) (g : α → Option β) : (popR st f).bind g = popR st (fun x r => (f x r).bind g) := by
  unfold popR; split <;> rfl
theorem getL_bind (lv : LV) (i : Nat) (f : Value → Option α) (g : α → Option β) : (getL lv i f).bind g = getL lv i (fun v => (f v).bind g) := by
  unfold getL; split <;> rfl
theorem asI_bind (v : Value) (f : Int32 → Option α) (g : α → Option β) : (asI v f).bind g = asI v (fun x => (f x).bind g) := by
  unfold asI; split <;> rfl
theorem asL_bind (v : Value) (f : Int64 → Option α) (g : α → Option β) : (asL v f).bind g = asL v (fun x => (f x).bind g) := by
  unfold asL; split <;> rfl
theorem asR_bind (v : Value) (f : Nat → Option α) (g : α → Option β) : (asR v f).bind g = asR v (fun x => (f x).bind g) := by
  unfold asR; split <;> rfl
theorem someR_bind (v : Option Nat) (f : Nat → Option α) (g : α → Option β) : (someR v f).bind g = someR v (fun x => (f x).bind g) := by
  unfold someR; split <;> rfl
theorem bM_bind (b : Bool) (x y : Option α) (g : α → Option β) : (bM b x y).bind g = bM b (x.bind g) (y.bind g) := by cases b <;> rfl
theorem scR_bind {γ : Type} (o : Option γ) (f : γ → Option α) (g : α → Option β) : (scR o f).bind g = scR o (fun q => (f q).bind g) := by cases o <;> rfl
theorem f4_bind (n : Nat) (x1 x2 x3 x0 : Option α) (g : α → Option β) : (f4 n x1 x2 x3 x0).bind g = f4 n (x1.bind g) (x2.bind g) (x3.bind g) (x0.bind g) := by
  unfold f4; split <;> rfl
theorem ite_bind (c : Prop) (d : Decidable c) (a b : Option α) (g : α → Option β) : (@ite _ c d a b).bind g = @ite _ c d (a.bind g) (b.bind g) := by
  by_cases h : c <;> simp [h]
theorem swT_bind (k : Nat → Option α) (x : Int32) (pc : Nat) (d : Int) (g : α → Option β) : ∀ (os : List Int) (lo : Int), (swT k x pc d lo os).bind g = swT (fun t => (k t).bind g) x pc d lo os
  | [], lo => rfl
  | o :: r, lo => by
    unfold swT
    rw [ifc_bind, swT_bind k x pc d g r (lo + 1)]
theorem swL_bind (k : Nat → Option α) (x : Int32) (pc : Nat) (d : Int) (g : α → Option β) : ∀ (ps : List (Int × Int)), (swL k x pc d ps).bind g = swL (fun t => (k t).bind g) x pc d ps
  | [] => rfl
  | o :: r => by
    unfold swL
    rw [ifc_bind, swL_bind k x pc d g r]
theorem cmpZ_bind (c : ClassFile.Cond) (x : Int32) (a b : Option α) (g : α → Option β) : (cmpZ c x a b).bind g = cmpZ c x (a.bind g) (b.bind g) := by
  cases c <;> simp only [cmpZ, ifc_bind]
theorem cmpI_bind (c : ClassFile.Cond) (x y : Int32) (a b : Option α) (g : α → Option β) : (cmpI c x y a b).bind g = cmpI c x y (a.bind g) (b.bind g) := by
  cases c <;> simp only [cmpI, ifc_bind]
theorem crV_bind (o : Option (Option Value × AM)) (M : AM) (f : (Nat → Nat → Int32) → (Nat → Nat → Int64) → Option α) (g : α → Option β) : (crV o M f).bind g = crV o M (fun i l => (f i l).bind g) := by
  unfold crV; split <;> first | rw [ite_bind]; rfl | rfl
theorem crI_bind (o : Option (Option Value × AM)) (M : AM) (f : Int32 → (Nat → Nat → Int32) → (Nat → Nat → Int64) → Option α) (g : α → Option β) : (crI o M f).bind g = crI o M (fun x i l => (f x i l).bind g) := by
  unfold crI; split <;> first | rw [ite_bind]; rfl | rfl
theorem crL_bind (o : Option (Option Value × AM)) (M : AM) (f : Int64 → (Nat → Nat → Int32) → (Nat → Nat → Int64) → Option α) (g : α → Option β) : (crL o M f).bind g = crL o M (fun x i l => (f x i l).bind g) := by
  unfold crL; split <;> first | rw [ite_bind]; rfl | rfl
theorem cmV_bind (o : Option (Option Value × AM)) (f : (Nat → Nat → Int32) → (Nat → Nat → Int64) → Nat → Nat → Nat → Option α) (g : α → Option β) : (cmV o f).bind g = cmV o (fun i l s r p => (f i l s r p).bind g) := by
  unfold cmV; split <;> first | (split <;> rfl) | rfl
theorem cmI_bind (o : Option (Option Value × AM)) (f : Int32 → (Nat → Nat → Int32) → (Nat → Nat → Int64) → Nat → Nat → Nat → Option α) (g : α → Option β) : (cmI o f).bind g = cmI o (fun x i l s r p => (f x i l s r p).bind g) := by
  unfold cmI; split <;> first | (split <;> rfl) | rfl
set_option maxHeartbeats 4000000 in
theorem i1_bind (C : MC) (k : Nat → LV → List Value → AM → Option α) (rt : Option Value → AM → Option α) (nx : LV → List Value → AM → Option α) (g : α → Option β) (pc : Nat) (i : Instr) (h1 h2 : Nat) (lv : LV) (st : List Value) (M : AM) :
    (i1 C k rt nx pc i h1 h2 lv st M).bind g = i1 C (fun pc lv st M => (k pc lv st M).bind g) (fun v M => (rt v M).bind g) (fun lv st M => (nx lv st M).bind g) pc i h1 h2 lv st M := by
  cases i <;> simp only [i1, bM_bind, scR_bind, f4_bind, popI_bind, popL_bind, popR_bind, getL_bind, asI_bind, asL_bind, asR_bind, someR_bind, gd_bind, gk_bind, swT_bind, swL_bind, cmpZ_bind, cmpI_bind, Option.bind_none] <;>
    (repeat' (first | rfl | (split <;> simp only [gd_bind, gk_bind, popI_bind, popL_bind, popR_bind, someR_bind, crV_bind, crI_bind, crL_bind, cmV_bind, cmI_bind, Option.bind_none])))
end
abbrev JS : Type := Nat × LV × List Value × AM
abbrev RS : Type := Option Value × AM
noncomputable def exS (C : MC) (is : List Ent) (pc : Nat) (lv : LV) (st : List Value) (M : AM) : Option (JS ⊕ RS) := exB C (fun pc lv st M => some (.inl (pc, lv, st, M))) (fun v M => some (.inr (v, M))) is pc lv st M
theorem exB_bind {α β : Type} (C : MC) (k : Nat → LV → List Value → AM → Option α) (rt : Option Value → AM → Option α) (g : α → Option β) : ∀ (is : List Ent) (pc : Nat) (lv : LV) (st : List Value) (M : AM),
    (exB C k rt is pc lv st M).bind g = exB C (fun pc lv st M => (k pc lv st M).bind g) (fun v M => (rt v M).bind g) is pc lv st M
  | [], _, _, _, _ => rfl
  | e :: is, pc, lv, st, M => by
    unfold exB
    rw [i1_bind]
    congr 1
    funext lv st M
    exact exB_bind C k rt g is _ lv st M
theorem exB_S {β : Type} (C : MC) (k : Nat → LV → List Value → AM → Option β) (rt : Option Value → AM → Option β) (is : List Ent) (pc : Nat) (lv : LV) (st : List Value) (M : AM) :
    exB C k rt is pc lv st M = (exS C is pc lv st M).bind (Sum.elim (fun q => k q.1 q.2.1 q.2.2.1 q.2.2.2) (fun q => rt q.1 q.2)) := by
  unfold exS
  rw [exB_bind]
  rfl
theorem iF_mono (C : MC) : ∀ (n : Nat) (pc : Nat) (lv : LV) (st : List Value) (M : AM) (r : RS), iF C n pc lv st M = some r → iF C (n + 1) pc lv st M = some r
  | 0, _, _, _, _, _, h => by simp [iF] at h
  | n + 1, pc, lv, st, M, r, h => by
    unfold iF at h ⊢
    split at h
    · cases h
    · rw [exB_S] at h ⊢
      obtain ⟨o, h1, h2⟩ := Option.bind_eq_some_iff.mp h
      rw [h1]
      cases o with
      | inl q => exact iF_mono C n _ _ _ _ _ h2
      | inr q => exact h2
theorem iF_le (C : MC) {n m : Nat} (hm : n ≤ m) {pc : Nat} {lv : LV} {st : List Value} {M : AM} {r : RS} (h : iF C n pc lv st M = some r) : iF C m pc lv st M = some r := by
  induction hm with
  | refl => exact h
  | step _ ih => exact iF_mono C _ _ _ _ _ _ ih
theorem it_iff (C : MC) (pc : Nat) (lv : LV) (st : List Value) (M : AM) (r : RS) : it C pc lv st M = some r ↔ ∃ n, iF C n pc lv st M = some r := by
  unfold it
  constructor
  · intro h
    split at h
    · exact ⟨_, h⟩
    · cases h
  · rintro ⟨n, h⟩
    have hx : ∃ n, (iF C n pc lv st M).isSome = true := ⟨n, by rw [h]; rfl⟩
    rw [dif_pos hx]
    obtain ⟨r2, h2⟩ := Option.isSome_iff_exists.mp hx.choose_spec
    rw [h2]
    have a := iF_le C (Nat.le_max_left n hx.choose) h
    have b := iF_le C (Nat.le_max_right n hx.choose) h2
    rw [← a, b]
theorem it_eq (C : MC) (pc : Nat) (lv : LV) (st : List Value) (M : AM) : it C pc lv st M = match bAt C.2.2.2.1 pc with
    | none => none
    | some b => exB C (it C) (fun v M => some (v, M)) b.2 pc (pick b.1 lv) st M := by
  apply Option.ext
  intro r
  rw [it_iff]
  constructor
  · rintro ⟨n, h⟩
    cases n with
    | zero => simp [iF] at h
    | succ n =>
      unfold iF at h
      split at h
      · cases h
      · rename_i b hb
        rw [exB_S] at h
        rw [hb]
        show exB C (it C) _ b.2 pc (pick b.1 lv) st M = some r
        rw [exB_S]
        obtain ⟨o, h1, h2⟩ := Option.bind_eq_some_iff.mp h
        rw [h1]
        cases o with
        | inl q => exact (it_iff C _ _ _ _ _).mpr ⟨n, h2⟩
        | inr q => exact h2
  · intro h
    split at h
    · cases h
    · rename_i b hb
      rw [exB_S] at h
      obtain ⟨o, h1, h2⟩ := Option.bind_eq_some_iff.mp h
      cases o with
      | inl q =>
        obtain ⟨n, h3⟩ := (it_iff C _ _ _ _ _).mp h2
        refine ⟨n + 1, ?_⟩
        unfold iF
        rw [hb]
        show exB C (iF C n) _ b.2 pc (pick b.1 lv) st M = some r
        rw [exB_S, h1]
        exact h3
      | inr q =>
        refine ⟨1, ?_⟩
        unfold iF
        rw [hb]
        show exB C (iF C 0) _ b.2 pc (pick b.1 lv) st M = some r
        rw [exB_S, h1]
        exact h2
/-- which locals a block reads -/
def lvAt (C : MC) (pc : Nat) (lv : LV) : LV := match bAt C.2.2.2.1 pc with
  | some b => pick b.1 lv
  | none => lv
/-- a region: from a block on, until one of the stops (or n blocks) -/
noncomputable def ev (C : MC) (stops : List Nat) : Nat → Nat → LV → List Value → AM → Option RS
  | 0, pc, lv, st, M => it C pc (lvAt C pc lv) st M
  | n + 1, pc, lv, st, M => match bAt C.2.2.2.1 pc with
    | none => none
    | some b => exB C (fun pc lv st M => bM (stops.contains pc) (it C pc (lvAt C pc lv) st M) (ev C stops n pc lv st M)) (fun v M => some (v, M)) b.2 pc (pick b.1 lv) st M
theorem lk_pick : ∀ (ks : List Nat) (lv : LV) (i : Nat), i ∈ ks → lk (pick ks lv) i = lk lv i := by
  intro ks lv i h
  induction ks with
  | nil => cases h
  | cons a r ih =>
    unfold pick
    rw [List.filterMap_cons]
    by_cases ha : a = i
    · subst ha
      cases hl : lk lv a with
      | none =>
        simp only [Option.map_none]
        by_cases hr : a ∈ r
        · exact (ih hr).trans hl
        · have : ∀ (l : List Nat), a ∉ l → lk (l.filterMap (fun i => (lk lv i).map (fun v => (i, v)))) a = none := by
            intro l hn
            induction l with
            | nil => rfl
            | cons b l ihl =>
              rw [List.filterMap_cons]
              cases hb : lk lv b with
              | none => exact ihl (fun q => hn (List.mem_cons_of_mem _ q))
              | some w =>
                simp only [Option.map_some, lk]
                rw [if_neg (fun q => hn (by rw [← q]; exact List.mem_cons_self))]
                exact ihl (fun q => hn (List.mem_cons_of_mem _ q))
          exact this r hr
      | some v => simp [lk]
    · have hr : i ∈ r := by
        rcases List.mem_cons.mp h with q | q
        · exact absurd q.symm ha
        · exact q
      cases hl : lk lv a with
      | none => exact ih hr
      | some v =>
        simp only [Option.map_some, lk]
        rw [if_neg ha]
        exact ih hr
theorem fm_congr {α β : Type} {f g : α → Option β} : ∀ {l : List α}, (∀ a, a ∈ l → f a = g a) → l.filterMap f = l.filterMap g
  | [], _ => rfl
  | a :: r, h => by
    rw [List.filterMap_cons, List.filterMap_cons, h a List.mem_cons_self, fm_congr (fun b hb => h b (List.mem_cons_of_mem _ hb))]
theorem pick_pick (ks : List Nat) (lv : LV) : pick ks (pick ks lv) = pick ks lv := by
  show ks.filterMap _ = ks.filterMap _
  apply fm_congr
  intro i hi
  rw [lk_pick ks lv i hi]
theorem it_lv (C : MC) (pc : Nat) (lv : LV) (st : List Value) (M : AM) : it C pc (lvAt C pc lv) st M = it C pc lv st M := by
  rw [it_eq, it_eq C pc lv]
  unfold lvAt
  cases bAt C.2.2.2.1 pc with
  | none => rfl
  | some b => simp only [pick_pick]
theorem ev_it (C : MC) (stops : List Nat) : ∀ (n : Nat) (pc : Nat) (lv : LV) (st : List Value) (M : AM), ev C stops n pc lv st M = it C pc lv st M
  | 0, pc, lv, st, M => it_lv C pc lv st M
  | n + 1, pc, lv, st, M => by
    rw [it_eq]
    unfold ev
    have hk : (fun pc lv st M => bM (stops.contains pc) (it C pc (lvAt C pc lv) st M) (ev C stops n pc lv st M)) = it C := by
      funext pc lv st M
      rw [it_lv, ev_it C stops n pc lv st M]
      cases stops.contains pc <;> rfl
    rw [hk]
/-- what a method does -/
noncomputable def mD (C : MC) : DT := fun As M => gk (Nat.ble (lg_sl As).length C.1) (it C 0 (lv_args 0 As) [] M)
theorem mD_it {C : MC} {As : List Value} {M : AM} (h : Nat.ble (lg_sl As).length C.1 = true) : mD C As M = it C 0 (lv_args 0 As) [] M := by
  unfold mD
  rw [h]
  rfl
