/-! 'it' goes on as its block says: it_eq, and the equations of regions: it_ev -/
section
variable {α β : Type}
theorem gd_bind (b : Prop) (x : Option α) (g : α → Option β) : (gd b x).bind g = gd b (x.bind g) := by
  unfold gd
  by_cases h : b <;> simp [h]
theorem ifc_bind (b : Prop) (x y : Option α) (g : α → Option β) : (ifc b x y).bind g = ifc b (x.bind g) (y.bind g) := by
  unfold ifc
  by_cases h : b <;> simp [h]
theorem gk_bind (b : Bool) (x : Option α) (g : α → Option β) : (gk b x).bind g = gk b (x.bind g) := by cases b <;> rfl
theorem frc_eq {γ : Type} : ∀ (x : List γ) (k : List γ → Option α), frc x k = k x
  | [], _ => rfl
  | a :: r, k => frc_eq r (fun r' => k (a :: r'))
theorem popI_bind (st : List Value) (f : Int32 → List Value → Option α) (g : α → Option β) : (popI st f).bind g = popI st (fun x r => (f x r).bind g) := by
  unfold popI; split <;> rfl
theorem popL_bind (st : List Value) (f : Int64 → List Value → Option α) (g : α → Option β) : (popL st f).bind g = popL st (fun x r => (f x r).bind g) := by
  unfold popL; split <;> rfl
theorem popR_bind (st : List Value) (f : Nat → List Value → Option α) (g : α → Option β) : (popR st f).bind g = popR st (fun x r => (f x r).bind g) := by
  unfold popR; split <;> rfl
theorem getL_bind (lv : LV) (i : Nat) (f : Value → Option α) (g : α → Option β) : (getL lv i f).bind g = getL lv i (fun v => (f v).bind g) := by
  unfold getL; split <;> rfl
theorem asI_bind (v : Value) (f : Int32 → Option α) (g : α → Option β) : (asI v f).bind g = asI v (fun x => (f x).bind g) := by
  unfold asI; split <;> rfl
theorem asL_bind (v : Value) (f : Int64 → Option α) (g : α → Option β) : (asL v f).bind g = asL v (fun x => (f x).bind g) := by
  unfold asL; split <;> rfl
theorem asR_bind (v : Value) (f : Nat → Option α) (g : α → Option β) : (asR v f).bind g = asR v (fun x => (f x).bind g) := by
  unfold asR; split <;> rfl
theorem someR_bind (v : Option Nat) (f : Nat → Option α) (g : α → Option β) : (someR v f).bind g = someR v (fun x => (f x).bind g) := by
  unfold someR; split <;> rfl
theorem bM_bind (b : Bool) (x y : Option α) (g : α → Option β) : (bM b x y).bind g = bM b (x.bind g) (y.bind g) := by cases b <;> rfl
theorem scR_bind {γ : Type} (o : Option γ) (f : γ → Option α) (g : α → Option β) : (scR o f).bind g = scR o (fun q => (f q).bind g) := by cases o <;> rfl
theorem f4_bind (n : Nat) (x1 x2 x3 x0 : Option α) (g : α → Option β) : (f4 n x1 x2 x3 x0).bind g = f4 n (x1.bind g) (x2.bind g) (x3.bind g) (x0.bind g) := by
  unfold f4; split <;> rfl
theorem ite_bind (c : Prop) (d : Decidable c) (a b : Option α) (g : α → Option β) : (@ite _ c d a b).bind g = @ite _ c d (a.bind g) (b.bind g) := by
  by_cases h : c <;> simp [h]
theorem swT_bind (k : Nat → Option α) (x : Int32) (pc : Nat) (d : Int) (g : α → Option β) : ∀ (os : List Int) (lo : Int), (swT k x pc d lo os).bind g = swT (fun t => (k t).bind g) x pc d lo os
  | [], lo => rfl
  | o :: r, lo => by
    unfold swT
    rw [ifc_bind, swT_bind k x pc d g r (lo + 1)]
theorem swL_bind (k : Nat → Option α) (x : Int32) (pc : Nat) (d : Int) (g : α → Option β) : ∀ (ps : List (Int × Int)), (swL k x pc d ps).bind g = swL (fun t => (k t).bind g) x pc d ps
  | [] => rfl
  | o :: r => by
    unfold swL
    rw [ifc_bind, swL_bind k x pc d g r]
theorem cmpZ_bind (c : ClassFile.Cond) (x : Int32) (a b : Option α) (g : α → Option β) : (cmpZ c x a b).bind g = cmpZ c x (a.bind g) (b.bind g) := by
  cases c <;> simp only [cmpZ, ifc_bind]
theorem cmpI_bind (c : ClassFile.Cond) (x y : Int32) (a b : Option α) (g : α → Option β) : (cmpI c x y a b).bind g = cmpI c x y (a.bind g) (b.bind g) := by
  cases c <;> simp only [cmpI, ifc_bind]
theorem crV_bind (o : Option (Option Value × AM)) (M : AM) (f : (Nat → Nat → Int32) → (Nat → Nat → Int64) → Option α) (g : α → Option β) : (crV o M f).bind g = crV o M (fun i l => (f i l).bind g) := by
  unfold crV; split <;> first | rw [ite_bind]; rfl | rfl
theorem crI_bind (o : Option (Option Value × AM)) (M : AM) (f : Int32 → (Nat → Nat → Int32) → (Nat → Nat → Int64) → Option α) (g : α → Option β) : (crI o M f).bind g = crI o M (fun x i l => (f x i l).bind g) := by
  unfold crI; split <;> first | rw [ite_bind]; rfl | rfl
theorem crL_bind (o : Option (Option Value × AM)) (M : AM) (f : Int64 → (Nat → Nat → Int32) → (Nat → Nat → Int64) → Option α) (g : α → Option β) : (crL o M f).bind g = crL o M (fun x i l => (f x i l).bind g) := by
  unfold crL; split <;> first | rw [ite_bind]; rfl | rfl
theorem cmV_bind (o : Option (Option Value × AM)) (f : (Nat → Nat → Int32) → (Nat → Nat → Int64) → Nat → Nat → Nat → Option α) (g : α → Option β) : (cmV o f).bind g = cmV o (fun i l s r p => (f i l s r p).bind g) := by
  unfold cmV; split <;> first | (split <;> rfl) | rfl
theorem cmI_bind (o : Option (Option Value × AM)) (f : Int32 → (Nat → Nat → Int32) → (Nat → Nat → Int64) → Nat → Nat → Nat → Option α) (g : α → Option β) : (cmI o f).bind g = cmI o (fun x i l s r p => (f x i l s r p).bind g) := by
  unfold cmI; split <;> first | (split <;> rfl) | rfl
set_option maxHeartbeats 4000000 in
theorem i1_bind (C : MC) (k : Nat → LV → List Value → AM → Option α) (rt : Option Value → AM → Option α) (nx : LV → List Value → AM → Option α) (g : α → Option β) (pc : Nat) (i : Instr) (h1 h2 : Nat) (lv : LV) (st : List Value) (M : AM) :
    (i1 C k rt nx pc i h1 h2 lv st M).bind g = i1 C (fun pc lv st M => (k pc lv st M).bind g) (fun v M => (rt v M).bind g) (fun lv st M => (nx lv st M).bind g) pc i h1 h2 lv st M := by
  cases i <;> simp only [i1, frc_eq, bM_bind, scR_bind, f4_bind, popI_bind, popL_bind, popR_bind, getL_bind, asI_bind, asL_bind, asR_bind, someR_bind, gd_bind, gk_bind, swT_bind, swL_bind, cmpZ_bind, cmpI_bind, Option.bind_none] <;>
    (repeat' (first | rfl | (split <;> simp only [gd_bind, gk_bind, popI_bind, popL_bind, popR_bind, someR_bind, crV_bind, crI_bind, crL_bind, cmV_bind, cmI_bind, Option.bind_none])))
end
abbrev JS : Type := Nat × LV × List Value × AM
abbrev RS : Type := Option Value × AM
noncomputable def exS (C : MC) (is : List Ent) (pc : Nat) (lv : LV) (st : List Value) (M : AM) : Option (JS ⊕ RS) := exB C (fun pc lv st M => some (.inl (pc, lv, st, M))) (fun v M => some (.inr (v, M))) is pc lv st M
theorem exB_bind {α β : Type} (C : MC) (k : Nat → LV → List Value → AM → Option α) (rt : Option Value → AM → Option α) (g : α → Option β) : ∀ (is : List Ent) (pc : Nat) (lv : LV) (st : List Value) (M : AM),
    (exB C k rt is pc lv st M).bind g = exB C (fun pc lv st M => (k pc lv st M).bind g) (fun v M => (rt v M).bind g) is pc lv st M
  | [], _, _, _, _ => rfl
  | e :: is, pc, lv, st, M => by
    unfold exB
    rw [i1_bind]
    congr 1
    funext lv st M
    exact exB_bind C k rt g is _ lv st M
theorem exB_S {β : Type} (C : MC) (k : Nat → LV → List Value → AM → Option β) (rt : Option Value → AM → Option β) (is : List Ent) (pc : Nat) (lv : LV) (st : List Value) (M : AM) :
    exB C k rt is pc lv st M = (exS C is pc lv st M).bind (Sum.elim (fun q => k q.1 q.2.1 q.2.2.1 q.2.2.2) (fun q => rt q.1 q.2)) := by
  unfold exS
  rw [exB_bind]
  rfl
theorem iF_mono (C : MC) : ∀ (n : Nat) (pc : Nat) (lv : LV) (st : List Value) (M : AM) (r : RS), iF C n pc lv st M = some r → iF C (n + 1) pc lv st M = some r
  | 0, _, _, _, _, _, h => by simp [iF] at h
  | n + 1, pc, lv, st, M, r, h => by
    unfold iF at h ⊢
    split at h
    · cases h
    · rw [exB_S] at h ⊢
      obtain ⟨o, h1, h2⟩ := Option.bind_eq_some_iff.mp h
      rw [h1]
      cases o with
      | inl q => exact iF_mono C n _ _ _ _ _ h2
      | inr q => exact h2
theorem iF_le (C : MC) {n m : Nat} (hm : n ≤ m) {pc : Nat} {lv : LV} {st : List Value} {M : AM} {r : RS} (h : iF C n pc lv st M = some r) : iF C m pc lv st M = some r := by
  induction hm with
  | refl => exact h
  | step _ ih => exact iF_mono C _ _ _ _ _ _ ih
theorem it_iff (C : MC) (pc : Nat) (lv : LV) (st : List Value) (M : AM) (r : RS) : it C pc lv st M = some r ↔ ∃ n, iF C n pc lv st M = some r := by
  unfold it
  constructor
  · intro h
    split at h
    · exact ⟨_, h⟩
    · cases h
  · rintro ⟨n, h⟩
    have hx : ∃ n, (iF C n pc lv st M).isSome = true := ⟨n, by rw [h]; rfl⟩
    rw [dif_pos hx]
    obtain ⟨r2, h2⟩ := Option.isSome_iff_exists.mp hx.choose_spec
    rw [h2]
    have a := iF_le C (Nat.le_max_left n hx.choose) h
    have b := iF_le C (Nat.le_max_right n hx.choose) h2
    rw [← a, b]
theorem it_eq (C : MC) (pc : Nat) (lv : LV) (st : List Value) (M : AM) : it C pc lv st M = match bAt C.2.2.2.1 pc with
    | none => none
    | some b => exB C (it C) (fun v M => some (v, M)) b.2 pc (pick b.1 lv) st M := by
  apply Option.ext
  intro r
  rw [it_iff]
  constructor
  · rintro ⟨n, h⟩
    cases n with
    | zero => simp [iF] at h
    | succ n =>
      unfold iF at h
      split at h
      · cases h
      · rename_i b hb
        rw [exB_S] at h
        rw [hb]
        show exB C (it C) _ b.2 pc (pick b.1 lv) st M = some r
        rw [exB_S]
        obtain ⟨o, h1, h2⟩ := Option.bind_eq_some_iff.mp h
        rw [h1]
        cases o with
        | inl q => exact (it_iff C _ _ _ _ _).mpr ⟨n, h2⟩
        | inr q => exact h2
  · intro h
    split at h
    · cases h
    · rename_i b hb
      rw [exB_S] at h
      obtain ⟨o, h1, h2⟩ := Option.bind_eq_some_iff.mp h
      cases o with
      | inl q =>
        obtain ⟨n, h3⟩ := (it_iff C _ _ _ _ _).mp h2
        refine ⟨n + 1, ?_⟩
        unfold iF
        rw [hb]
        show exB C (iF C n) _ b.2 pc (pick b.1 lv) st M = some r
        rw [exB_S, h1]
        exact h3
      | inr q =>
        refine ⟨1, ?_⟩
        unfold iF
        rw [hb]
        show exB C (iF C 0) _ b.2 pc (pick b.1 lv) st M = some r
        rw [exB_S, h1]
        exact h2
/-- which locals a block reads -/
def lvAt (C : MC) (pc : Nat) (lv : LV) : LV := match bAt C.2.2.2.1 pc with
  | some b => pick b.1 lv
  | none => lv
/-- a chain of names, so that what is defined by its end is opened ahead of all else -/
def zh0 (x : Nat) : Nat := x
def zh1 (x : Nat) : Nat := zh0 x
def zh2 (x : Nat) : Nat := zh1 x
def zh3 (x : Nat) : Nat := zh2 x
def zh4 (x : Nat) : Nat := zh3 x
def zh5 (x : Nat) : Nat := zh4 x
def zh6 (x : Nat) : Nat := zh5 x
def zh7 (x : Nat) : Nat := zh6 x
def zh8 (x : Nat) : Nat := zh7 x
def zh9 (x : Nat) : Nat := zh8 x
def zh10 (x : Nat) : Nat := zh9 x
def zh11 (x : Nat) : Nat := zh10 x
def zh12 (x : Nat) : Nat := zh11 x
def zh13 (x : Nat) : Nat := zh12 x
def zh14 (x : Nat) : Nat := zh13 x
def zh15 (x : Nat) : Nat := zh14 x
def zh16 (x : Nat) : Nat := zh15 x
def zh17 (x : Nat) : Nat := zh16 x
def zh18 (x : Nat) : Nat := zh17 x
def zh19 (x : Nat) : Nat := zh18 x
def zh20 (x : Nat) : Nat := zh19 x
def zh21 (x : Nat) : Nat := zh20 x
def zh22 (x : Nat) : Nat := zh21 x
def zh23 (x : Nat) : Nat := zh22 x
def zh24 (x : Nat) : Nat := zh23 x
def zh25 (x : Nat) : Nat := zh24 x
def zh26 (x : Nat) : Nat := zh25 x
def zh27 (x : Nat) : Nat := zh26 x
def zh28 (x : Nat) : Nat := zh27 x
def zh29 (x : Nat) : Nat := zh28 x
def zh30 (x : Nat) : Nat := zh29 x
def zh31 (x : Nat) : Nat := zh30 x
def zh32 (x : Nat) : Nat := zh31 x
def zh33 (x : Nat) : Nat := zh32 x
def zh34 (x : Nat) : Nat := zh33 x
def zh35 (x : Nat) : Nat := zh34 x
def zh36 (x : Nat) : Nat := zh35 x
def zh37 (x : Nat) : Nat := zh36 x
def zh38 (x : Nat) : Nat := zh37 x
def zh39 (x : Nat) : Nat := zh38 x
def zh40 (x : Nat) : Nat := zh39 x
def zh41 (x : Nat) : Nat := zh40 x
def zh42 (x : Nat) : Nat := zh41 x
def zh43 (x : Nat) : Nat := zh42 x
def zh44 (x : Nat) : Nat := zh43 x
def zh45 (x : Nat) : Nat := zh44 x
def zh46 (x : Nat) : Nat := zh45 x
def zh47 (x : Nat) : Nat := zh46 x
def zh48 (x : Nat) : Nat := zh47 x
def zh49 (x : Nat) : Nat := zh48 x
def zh50 (x : Nat) : Nat := zh49 x
def zh51 (x : Nat) : Nat := zh50 x
def zh52 (x : Nat) : Nat := zh51 x
def zh53 (x : Nat) : Nat := zh52 x
def zh54 (x : Nat) : Nat := zh53 x
def zh55 (x : Nat) : Nat := zh54 x
def zh56 (x : Nat) : Nat := zh55 x
def zh57 (x : Nat) : Nat := zh56 x
def zh58 (x : Nat) : Nat := zh57 x
def zh59 (x : Nat) : Nat := zh58 x
def zh60 (x : Nat) : Nat := zh59 x
def zh61 (x : Nat) : Nat := zh60 x
def zh62 (x : Nat) : Nat := zh61 x
def zh63 (x : Nat) : Nat := zh62 x
def zh64 (x : Nat) : Nat := zh63 x
def zh65 (x : Nat) : Nat := zh64 x
def zh66 (x : Nat) : Nat := zh65 x
def zh67 (x : Nat) : Nat := zh66 x
def zh68 (x : Nat) : Nat := zh67 x
def zh69 (x : Nat) : Nat := zh68 x
def zh70 (x : Nat) : Nat := zh69 x
def zh71 (x : Nat) : Nat := zh70 x
def zh72 (x : Nat) : Nat := zh71 x
def zh73 (x : Nat) : Nat := zh72 x
def zh74 (x : Nat) : Nat := zh73 x
def zh75 (x : Nat) : Nat := zh74 x
def zh76 (x : Nat) : Nat := zh75 x
def zh77 (x : Nat) : Nat := zh76 x
def zh78 (x : Nat) : Nat := zh77 x
def zh79 (x : Nat) : Nat := zh78 x
def zh80 (x : Nat) : Nat := zh79 x
def zh81 (x : Nat) : Nat := zh80 x
def zh82 (x : Nat) : Nat := zh81 x
def zh83 (x : Nat) : Nat := zh82 x
def zh84 (x : Nat) : Nat := zh83 x
def zh85 (x : Nat) : Nat := zh84 x
def zh86 (x : Nat) : Nat := zh85 x
def zh87 (x : Nat) : Nat := zh86 x
def zh88 (x : Nat) : Nat := zh87 x
def zh89 (x : Nat) : Nat := zh88 x
def zh90 (x : Nat) : Nat := zh89 x
def zh91 (x : Nat) : Nat := zh90 x
def zh92 (x : Nat) : Nat := zh91 x
def zh93 (x : Nat) : Nat := zh92 x
def zh94 (x : Nat) : Nat := zh93 x
def zh95 (x : Nat) : Nat := zh94 x
def zh96 (x : Nat) : Nat := zh95 x
def zh97 (x : Nat) : Nat := zh96 x
def zh98 (x : Nat) : Nat := zh97 x
def zh99 (x : Nat) : Nat := zh98 x
def zh100 (x : Nat) : Nat := zh99 x
def zh101 (x : Nat) : Nat := zh100 x
def zh102 (x : Nat) : Nat := zh101 x
def zh103 (x : Nat) : Nat := zh102 x
def zh104 (x : Nat) : Nat := zh103 x
def zh105 (x : Nat) : Nat := zh104 x
def zh106 (x : Nat) : Nat := zh105 x
def zh107 (x : Nat) : Nat := zh106 x
def zh108 (x : Nat) : Nat := zh107 x
def zh109 (x : Nat) : Nat := zh108 x
def zh110 (x : Nat) : Nat := zh109 x
def zh111 (x : Nat) : Nat := zh110 x
def zh112 (x : Nat) : Nat := zh111 x
def zh113 (x : Nat) : Nat := zh112 x
def zh114 (x : Nat) : Nat := zh113 x
def zh115 (x : Nat) : Nat := zh114 x
def zh116 (x : Nat) : Nat := zh115 x
def zh117 (x : Nat) : Nat := zh116 x
def zh118 (x : Nat) : Nat := zh117 x
def zh119 (x : Nat) : Nat := zh118 x
def zh120 (x : Nat) : Nat := zh119 x
def zh121 (x : Nat) : Nat := zh120 x
def zh122 (x : Nat) : Nat := zh121 x
def zh123 (x : Nat) : Nat := zh122 x
def zh124 (x : Nat) : Nat := zh123 x
def zh125 (x : Nat) : Nat := zh124 x
def zh126 (x : Nat) : Nat := zh125 x
def zh127 (x : Nat) : Nat := zh126 x
def zh128 (x : Nat) : Nat := zh127 x
def zh129 (x : Nat) : Nat := zh128 x
def zh130 (x : Nat) : Nat := zh129 x
def zh131 (x : Nat) : Nat := zh130 x
def zh132 (x : Nat) : Nat := zh131 x
def zh133 (x : Nat) : Nat := zh132 x
def zh134 (x : Nat) : Nat := zh133 x
def zh135 (x : Nat) : Nat := zh134 x
def zh136 (x : Nat) : Nat := zh135 x
def zh137 (x : Nat) : Nat := zh136 x
def zh138 (x : Nat) : Nat := zh137 x
def zh139 (x : Nat) : Nat := zh138 x
def zh140 (x : Nat) : Nat := zh139 x
def zh141 (x : Nat) : Nat := zh140 x
def zh142 (x : Nat) : Nat := zh141 x
def zh143 (x : Nat) : Nat := zh142 x
def zh144 (x : Nat) : Nat := zh143 x
def zh145 (x : Nat) : Nat := zh144 x
def zh146 (x : Nat) : Nat := zh145 x
def zh147 (x : Nat) : Nat := zh146 x
def zh148 (x : Nat) : Nat := zh147 x
def zh149 (x : Nat) : Nat := zh148 x
def zh150 (x : Nat) : Nat := zh149 x
def zh151 (x : Nat) : Nat := zh150 x
def zh152 (x : Nat) : Nat := zh151 x
def zh153 (x : Nat) : Nat := zh152 x
def zh154 (x : Nat) : Nat := zh153 x
def zh155 (x : Nat) : Nat := zh154 x
def zh156 (x : Nat) : Nat := zh155 x
def zh157 (x : Nat) : Nat := zh156 x
def zh158 (x : Nat) : Nat := zh157 x
def zh159 (x : Nat) : Nat := zh158 x
def zh160 (x : Nat) : Nat := zh159 x
def zh161 (x : Nat) : Nat := zh160 x
def zh162 (x : Nat) : Nat := zh161 x
def zh163 (x : Nat) : Nat := zh162 x
def zh164 (x : Nat) : Nat := zh163 x
def zh165 (x : Nat) : Nat := zh164 x
def zh166 (x : Nat) : Nat := zh165 x
def zh167 (x : Nat) : Nat := zh166 x
def zh168 (x : Nat) : Nat := zh167 x
def zh169 (x : Nat) : Nat := zh168 x
def zh170 (x : Nat) : Nat := zh169 x
def zh171 (x : Nat) : Nat := zh170 x
def zh172 (x : Nat) : Nat := zh171 x
def zh173 (x : Nat) : Nat := zh172 x
def zh174 (x : Nat) : Nat := zh173 x
def zh175 (x : Nat) : Nat := zh174 x
def zh176 (x : Nat) : Nat := zh175 x
def zh177 (x : Nat) : Nat := zh176 x
def zh178 (x : Nat) : Nat := zh177 x
def zh179 (x : Nat) : Nat := zh178 x
def zh180 (x : Nat) : Nat := zh179 x
def zh181 (x : Nat) : Nat := zh180 x
def zh182 (x : Nat) : Nat := zh181 x
def zh183 (x : Nat) : Nat := zh182 x
def zh184 (x : Nat) : Nat := zh183 x
def zh185 (x : Nat) : Nat := zh184 x
def zh186 (x : Nat) : Nat := zh185 x
def zh187 (x : Nat) : Nat := zh186 x
def zh188 (x : Nat) : Nat := zh187 x
def zh189 (x : Nat) : Nat := zh188 x
def zh190 (x : Nat) : Nat := zh189 x
def zh191 (x : Nat) : Nat := zh190 x
def zh192 (x : Nat) : Nat := zh191 x
def zh193 (x : Nat) : Nat := zh192 x
def zh194 (x : Nat) : Nat := zh193 x
def zh195 (x : Nat) : Nat := zh194 x
def zh196 (x : Nat) : Nat := zh195 x
def zh197 (x : Nat) : Nat := zh196 x
def zh198 (x : Nat) : Nat := zh197 x
def zh199 (x : Nat) : Nat := zh198 x
def bN {α : Type} (b : Bool) (x y : Option α) : Option α := (fun (_ : Nat) => match b with
  | true => x
  | false => y) (zh199 0)
/-- a region: from a block on, until one of the stops (or n blocks) -/
noncomputable def ev (C : MC) (stops : List Nat) : Nat → Nat → LV → List Value → AM → Option RS
  | 0, pc, lv, st, M => it C pc (lvAt C pc lv) st M
  | n + 1, pc, lv, st, M => match bAt C.2.2.2.1 pc with
    | none => none
    | some b => frc (pick b.1 lv) fun lv => exB C (fun pc lv st M => bN (stops.contains pc) (it C pc (lvAt C pc lv) st M) (ev C stops n pc lv st M)) (fun v M => some (v, M)) b.2 pc lv st M
theorem lk_pick : ∀ (ks : List Nat) (lv : LV) (i : Nat), i ∈ ks → lk (pick ks lv) i = lk lv i := by
  intro ks lv i h
  induction ks with
  | nil => cases h
  | cons a r ih =>
    unfold pick
    rw [List.filterMap_cons]
    by_cases ha : a = i
    · subst ha
      cases hl : lk lv a with
      | none =>
        simp only [Option.map_none]
        by_cases hr : a ∈ r
        · exact (ih hr).trans hl
        · have : ∀ (l : List Nat), a ∉ l → lk (l.filterMap (fun i => (lk lv i).map (fun v => (i, v)))) a = none := by
            intro l hn
            induction l with
            | nil => rfl
            | cons b l ihl =>
              rw [List.filterMap_cons]
              cases hb : lk lv b with
              | none => exact ihl (fun q => hn (List.mem_cons_of_mem _ q))
              | some w =>
                simp only [Option.map_some, lk]
                rw [if_neg (fun q => hn (by rw [← q]; exact List.mem_cons_self))]
                exact ihl (fun q => hn (List.mem_cons_of_mem _ q))
          exact this r hr
      | some v => simp [lk]
    · have hr : i ∈ r := by
        rcases List.mem_cons.mp h with q | q
        · exact absurd q.symm ha
        · exact q
      cases hl : lk lv a with
      | none => exact ih hr
      | some v =>
        simp only [Option.map_some, lk]
        rw [if_neg ha]
        exact ih hr
theorem fm_congr {α β : Type} {f g : α → Option β} : ∀ {l : List α}, (∀ a, a ∈ l → f a = g a) → l.filterMap f = l.filterMap g
  | [], _ => rfl
  | a :: r, h => by
    rw [List.filterMap_cons, List.filterMap_cons, h a List.mem_cons_self, fm_congr (fun b hb => h b (List.mem_cons_of_mem _ hb))]
theorem pick_pick (ks : List Nat) (lv : LV) : pick ks (pick ks lv) = pick ks lv := by
  show ks.filterMap _ = ks.filterMap _
  apply fm_congr
  intro i hi
  rw [lk_pick ks lv i hi]
theorem it_lv (C : MC) (pc : Nat) (lv : LV) (st : List Value) (M : AM) : it C pc (lvAt C pc lv) st M = it C pc lv st M := by
  rw [it_eq, it_eq C pc lv]
  unfold lvAt
  cases bAt C.2.2.2.1 pc with
  | none => rfl
  | some b => simp only [pick_pick]
theorem ev_it (C : MC) (stops : List Nat) : ∀ (n : Nat) (pc : Nat) (lv : LV) (st : List Value) (M : AM), ev C stops n pc lv st M = it C pc lv st M
  | 0, pc, lv, st, M => it_lv C pc lv st M
  | n + 1, pc, lv, st, M => by
    rw [it_eq]
    unfold ev
    have hk : (fun pc lv st M => bN (stops.contains pc) (it C pc (lvAt C pc lv) st M) (ev C stops n pc lv st M)) = it C := by
      funext pc lv st M
      rw [it_lv, ev_it C stops n pc lv st M]
      cases stops.contains pc <;> rfl
    simp only [frc_eq, hk]
/-- what a method does -/
noncomputable def mD (C : MC) : DT := fun As M => gk (Nat.ble (lg_sl As).length C.1) (it C 0 (lv_args 0 As) [] M)
theorem mD_it {C : MC} {As : List Value} {M : AM} (h : Nat.ble (lg_sl As).length C.1 = true) : mD C As M = it C 0 (lv_args 0 As) [] M := by
  unfold mD
  rw [h]
  rfl
