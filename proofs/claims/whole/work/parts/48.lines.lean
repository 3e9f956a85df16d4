section
/-! reading: both sides at one token -/
def qP (a k : Nat) : Bool := (a == 1 && (k == 7 || k == 9 || k == 10 || k == 11)) || (a == 23 && (k == 6 || k == 8 || k == 9))
def qQ (a k : Nat) : Bool := a == 82 && (k == 4 || k == 5 || (decide (7 ≤ k) && decide (k ≤ 11)))
theorem qP_S {i j : Nat → Nat → Int32} (h : fr qSt i j) : fr qP i j := fr_mono (fun a k hq => by
  cases hn : qSt a k
  · rfl
  · exfalso
    unfold qSt at hn
    unfold qP at hq
    simp at hn hq
    omega) h
theorem qQ_R {i j : Nat → Nat → Int32} (h : fr qRt i j) : fr qQ i j := fr_mono (fun a k hq => by
  cases hn : qRt a k
  · rfl
  · exfalso
    unfold qRt at hn
    unfold qQ at hq
    simp at hn hq
    omega) h
def TT (c : Nat → Nat) (e m a : Nat) (i j : Nat → Nat → Int32) : Prop := CT i c e m a ∧ RT j c e a
theorem CT_fr {i i' : Nat → Nat → Int32} {c : Nat → Nat} {e m a : Nat} (h : CT i c e m a) (h1 : ∀ k, k = 7 ∨ k = 9 ∨ k = 10 ∨ k = 11 → i' 1 k = i 1 k) (h4 : i' 4 = i 4) (h5 : i' 5 = i 5) (h6 : i' 6 = i 6) (h23 : ∀ k, k = 8 ∨ k = 9 → i' 23 k = i 23 k) : CT i' c e m a := by
  unfold CT TS
  rw [h1 7 (by omega), h1 9 (by omega), h1 10 (by omega), h1 11 (by omega), h4, h5, h6, h23 8 (by omega), h23 9 (by omega)]
  exact h
theorem CT_u {i : Nat → Nat → Int32} {c : Nat → Nat} {e m a b k : Nat} {x : Int32} (h : CT i c e m a) (hb : b ≠ 1 ∧ b ≠ 4 ∧ b ≠ 5 ∧ b ≠ 6 ∧ (b = 23 → k ≠ 8 ∧ k ≠ 9)) : CT (u2 i b k x) c e m a := CT_fr h (fun q _ => u2_i (by omega)) (u2_r (by omega)) (u2_r (by omega)) (u2_r (by omega)) (fun q hq => by
  by_cases e1 : b = 23
  · subst e1; exact u2_k (by omega)
  · exact u2_i (by omega))
theorem RT_fr {i i' : Nat → Nat → Int32} {c : Nat → Nat} {e a : Nat} (h : RT i c e a) (h1 : ∀ k, k = 4 ∨ k = 5 ∨ k = 6 ∨ k = 7 ∨ k = 8 ∨ k = 9 ∨ k = 10 → i' 82 k = i 82 k) (h4 : i' 83 = i 83) (h5 : i' 84 = i 84) : RT i' c e a := by
  unfold RT TR
  rw [h1 4 (by omega), h1 5 (by omega), h1 6 (by omega), h1 7 (by omega), h1 8 (by omega), h1 9 (by omega), h1 10 (by omega), h4, h5]
  exact h
theorem RT_u {i : Nat → Nat → Int32} {c : Nat → Nat} {e a b k : Nat} {x : Int32} (h : RT i c e a) (hb : b ≠ 83 ∧ b ≠ 84 ∧ (b = 82 → k < 4 ∨ 10 < k)) : RT (u2 i b k x) c e a := RT_fr h (fun q hq => by
  by_cases e1 : b = 82
  · subst e1; exact u2_k (by omega)
  · exact u2_i (by omega)) (u2_r (by omega)) (u2_r (by omega))
section
variable {i j : Nat → Nat → Int32} {l l2 : Nat → Nat → Int64} {s r p s2 r2 p2 : Nat} {c : Nat → Nat} {e m a : Nat}
theorem ifc_00 {α : Type} (x y : Option α) : ifc (nI 0 = 0) x y = x := ifc_t rfl
theorem ifc_10 {α : Type} (x y : Option α) : ifc (nI 1 = 0) x y = y := ifc_f (by decide)
theorem cfail (w : Int32) : Reader_fail w (i, l, Rp s r p) = some (some (.int (nI 0)), (u2 (u2 i 23 8 w) 23 9 (i 1 10), l, Rp s r p)) := by
  rw [Reader_fail_eq, gd_0]
theorem rwrong (w : Int32) : Mo_wrong w (j, l, Rp s r p) = some (some (.int (nI 0)), (u2 (u2 j 82 4 w) 82 5 (j 82 10), l, Rp s r p)) := by
  rw [Mo_wrong_eq, gd_0]
/-- both say no, for one reason and at one place -/
def NO (i j : Nat → Nat → Int32) : Prop := i 23 8 = j 82 4 ∧ i 23 9 = j 82 5
theorem NO_f {w : Int32} (h : i 1 10 = j 82 10) : NO (u2 (u2 i 23 8 w) 23 9 (i 1 10)) (u2 (u2 j 82 4 w) 82 5 (j 82 10)) := by
  unfold NO
  simp (disch := decide) only [u2_s, u2_k]
  exact ⟨trivial, h⟩
theorem TT_10 (h : TT c e m a i j) : i 1 10 = j 82 10 := h.1.2.2.2.1.trans h.2.2.2.1.symm
theorem fr_f {w x : Int32} : fr qP i (u2 (u2 i 23 8 w) 23 9 x) := fr_trans (fr_u2 rfl) (fr_u2 rfl)
theorem fr_w {w x : Int32} : fr qQ j (u2 (u2 j 82 4 w) 82 5 x) := fr_trans (fr_u2 rfl) (fr_u2 rfl)
/-- a step of reading that both sides take -/
def JN (F G : AM → Option (Option Value × AM)) (qc qr : Nat → Nat → Bool) (i j : Nat → Nat → Int32) (l l2 : Nat → Nat → Int64) (s r p s2 r2 p2 : Nat) (post : (Nat → Nat → Int32) → (Nat → Nat → Int32) → Prop) : Prop :=
  ∃ (b : Bool) (i' j' : Nat → Nat → Int32), F (i, l, Rp s r p) = some (some (.int (nI b.toNat)), (i', l, Rp s r p)) ∧ G (j, l2, Rp s2 r2 p2) = some (some (.int (nI b.toNat)), (j', l2, Rp s2 r2 p2)) ∧ fr qc i i' ∧ fr qr j j' ∧ (b = true → post i' j') ∧ (b = false → NO i' j')
theorem kOk_27 {K : Nat} {kd wh : Int32} (h : kOk K kd wh) : kd = nI 3 ↔ K = 27 := by
  obtain ⟨h0, h1, h2, h3, h4, h5, h6, h7⟩ := h
  constructor
  · intro x
    rcases (show K = 41 ∨ K < 26 ∨ K = 26 ∨ K = 27 ∨ (28 ≤ K ∧ K ≤ 34) ∨ (35 ≤ K ∧ K ≤ 40) ∨ K = 42 by omega) with y | y | y | y | ⟨y, z⟩ | ⟨y, z⟩ | y
    · rw [h1 y] at x; exact absurd x (by decide)
    · rw [(h2 y).1] at x; exact absurd x (by decide)
    · rw [h3 y] at x; exact absurd x (by decide)
    · exact y
    · rw [(h5 y z).1] at x; exact absurd x (by decide)
    · rw [(h6 y z).1] at x; exact absurd x (by decide)
    · rcases h7 y with z | ⟨z, _⟩
      · rw [z] at x; exact absurd x (by decide)
      · rw [z] at x; exact absurd x (by decide)
  · exact h4
theorem kOk_26 {K : Nat} {kd wh : Int32} (h : kOk K kd wh) : kd = nI 2 ↔ K = 26 := by
  obtain ⟨h0, h1, h2, h3, h4, h5, h6, h7⟩ := h
  constructor
  · intro x
    rcases (show K = 41 ∨ K < 26 ∨ K = 26 ∨ K = 27 ∨ (28 ≤ K ∧ K ≤ 34) ∨ (35 ≤ K ∧ K ≤ 40) ∨ K = 42 by omega) with y | y | y | y | ⟨y, z⟩ | ⟨y, z⟩ | y
    · rw [h1 y] at x; exact absurd x (by decide)
    · rw [(h2 y).1] at x; exact absurd x (by decide)
    · exact y
    · rw [h4 y] at x; exact absurd x (by decide)
    · rw [(h5 y z).1] at x; exact absurd x (by decide)
    · rw [(h6 y z).1] at x; exact absurd x (by decide)
    · rcases h7 y with z | ⟨z, _⟩
      · rw [z] at x; exact absurd x (by decide)
      · rw [z] at x; exact absurd x (by decide)
  · exact h3
theorem TT_K (h : TT c e m a i j) : i 1 9 = nI (sK c e a) ∧ sK c e a ≤ 42 ∧ kOk (sK c e a) (j 82 8) (j 82 9) := ⟨h.1.2.2.1, tK_le, h.2.2.2.2.1⟩
/-- a number -/
theorem num_jx {lo hi : Nat} (hh : hi ≤ 99999) (hl : lo ≤ hi) (h : TT c e m a i j) : JN (Reader_number (nI lo) (nI hi)) (Mo_number (nI lo) (nI hi)) qP qQ i j l l2 s r p s2 r2 p2 (fun i' j' => TT c e m (a + 1) i' j' ∧ ∃ v, lo ≤ v ∧ v ≤ hi ∧ i' 23 6 = nI v ∧ j' 82 11 = nI v ∧ i 1 11 = nI v ∧ sK c e a = 27) := by
  obtain ⟨k1, k2, k3⟩ := TT_K h
  unfold JN
  rw [Reader_number_eq, Mo_number_eq, k1, ifc_eq (by omega) (by omega), ifc_if (kOk_27 k3)]
  by_cases hK : sK c e a = 27
  · rw [if_pos hK, if_pos hK]
    obtain ⟨v, v1, v2, v3⟩ := h.1.2.2.2.2.2.1 hK
    obtain ⟨w, w1, w2, w3⟩ := h.2.2.2.2.2.2.1 hK
    rw [v2, w2, Mo_isIn_eq, gd_0, gd_1, ifc_lt (by omega) (by omega), ifc_lt (by omega) (by omega), ifc_lt (by omega) (by omega), ifc_lt (by omega) (by omega)]
    by_cases c1 : v < lo ∨ hi < v
    · have hw : w < lo ∨ hi < w := by omega
      refine ⟨false, _, _, ?_, ?_, fr_f, fr_w, fun x => absurd x (by decide), fun _ => NO_f (w := nI 2) (TT_10 h)⟩
      · rw [cfail, crI_t, gd_0]
        by_cases c2 : v < lo
        · rw [if_pos c2]; rfl
        · rw [if_neg c2, if_pos (by omega)]; rfl
      · by_cases c2 : w < lo
        · rw [if_pos c2, crI_t, ifc_00, rwrong, crI_t, gd_0]; rfl
        · rw [if_neg c2, if_pos (by omega), crI_t, ifc_00, rwrong, crI_t, gd_0]; rfl
    · have hw : ¬ (w < lo ∨ hi < w) := by omega
      have hvw : w = v := by omega
      rw [if_neg (by omega), if_neg (by omega), if_neg (by omega), if_neg (by omega), crI_t, ifc_10]
      obtain ⟨i', f1, f2, f3⟩ := step_ok (i := u2 i 23 6 (nI v)) (l := l) (s := s) (r := r) (p := p) (CT_u h.1 (by omega))
      obtain ⟨j', g1, g2, g3⟩ := rtok_ok (i := u2 j 82 11 (nI w)) (l := l2) (s := s2) (r := r2) (p := p2) (RT_u h.2 (by omega))
      rw [f1, crI_t, gd_1, w2, g1, crV_t, gd_1]
      refine ⟨true, i', j', rfl, rfl, fr_trans (fr_u2 rfl) (qP_S f2), fr_trans (fr_u2 rfl) (qQ_R g2), fun _ => ⟨⟨f3, g3⟩, v, by omega, by omega, ?_, ?_, rfl, hK⟩, fun x => absurd x (by decide)⟩
      · rw [f2 23 6 rfl, u2_s]
      · rw [g2 82 11 rfl, u2_s, hvw]
  · rw [if_neg hK, if_neg hK, cfail, crI_t, gd_0, rwrong, crI_t, gd_0]
    exact ⟨false, _, _, rfl, rfl, fr_f, fr_w, fun x => absurd x (by decide), fun _ => NO_f (TT_10 h)⟩
theorem num_j {lo hi : Nat} (hh : hi ≤ 99999) (hl : lo ≤ hi) (h : TT c e m a i j) : JN (Reader_number (nI lo) (nI hi)) (Mo_number (nI lo) (nI hi)) qP qQ i j l l2 s r p s2 r2 p2 (fun i' j' => TT c e m (a + 1) i' j' ∧ ∃ v, lo ≤ v ∧ v ≤ hi ∧ i' 23 6 = nI v ∧ j' 82 11 = nI v) := by
  obtain ⟨b, i', j', e1, e2, f1, f2, ht, hn⟩ := num_jx (l := l) (l2 := l2) (s := s) (r := r) (p := p) (s2 := s2) (r2 := r2) (p2 := p2) hh hl h
  refine ⟨b, i', j', e1, e2, f1, f2, fun x => ?_, hn⟩
  obtain ⟨t, v, h1, h2, h3, h4, _⟩ := ht x
  exact ⟨t, v, h1, h2, h3, h4⟩
end
end

section
/-! reading: names -/
theorem tV_lt {c : Nat → Nat} {e a : Nat} (h : tK c e a = 26) : tV c e a < 2 ^ 30 := by
  unfold tK at h
  by_cases h1 : e ≤ a
  · rw [if_pos h1] at h; omega
  · rw [if_neg h1] at h
    by_cases h2 : sml (c a) = true
    · unfold tV
      rw [if_pos h2]
      have h3 : a ≤ av (fun k => sml (c k)) e a := av_ge
      exact pkw_lt (fun q hq => sml_r (av_in (f := fun k => sml (c k)) (e := e) (n := a) (by omega) (by omega)))
    · rw [if_neg h2] at h
      split at h
      · omega
      · exact absurd h (sgk_ne _ _).1
section
variable {i j : Nat → Nat → Int32} {l l2 : Nat → Nat → Int64} {s r p s2 r2 p2 : Nat} {c : Nat → Nat} {e m a : Nat}
theorem fnv_neg {o : Option Nat} (ho : ∀ q, o = some q → q < 2 ^ 31) {α : Type} (x y : Option α) : ifc (fnv o < 0) x y = if o = none then x else y := by
  cases o with
  | none => rw [if_pos rfl]; exact ifc_t (nM_neg (by omega) (by omega))
  | some q => rw [if_neg (by simp)]; exact ifc_neg (ho q rfl) x y
/-- a name that was told -/
theorem old_j {o1 o2 bo n : Nat} (ho : o1 = 8 ∨ o1 = 11 ∨ o1 = 28 ∨ o1 = 31) (ho2 : o2 = 88 ∨ o2 = 91) (hn : n ≤ gN o1) (hn2 : bo + n ≤ gN o2) (h31 : n < 2 ^ 31) (hE : ∀ k, k < n → i o1 k = j o2 (bo + k)) (h : TT c e m a i j) :
    JN (Reader_oldName o1 (nI n)) (Mo_thereIn o2 (nI bo) (nI n)) qP qQ i j l l2 s r p s2 r2 p2 (fun i' j' => TT c e m (a + 1) i' j' ∧ ∃ v, v < n ∧ i' 23 6 = nI v ∧ j' 82 11 = nI v) := by
  obtain ⟨k1, k2, k3⟩ := TT_K h
  unfold JN
  rw [Reader_oldName_eq _ _ _ _ _ _ _ ho, Mo_thereIn_eq _ _ _ _ _ _ _ _ ho2, k1, ifc_eq (by omega) (by omega), ifc_if (kOk_26 k3)]
  by_cases hK : sK c e a = 26
  · rw [if_pos hK, if_pos hK]
    have v2 := h.1.2.2.2.2.1 hK
    have w2 := h.2.2.2.2.2.1 hK
    rw [v2, w2, cfind_ok (by omega) hn, rfind_ok ho2 hn2, crI_t, crI_t, ← fnd_cg (f := i o1) n 0 (fun k _ hk => hE k (by omega))]
    generalize hg : fnd (i o1) (nI (tV c e (sA c e a))) n 0 = o
    have hq : ∀ q, o = some q → q < n := fun q x => by
      have := fnd_lt n 0 q (hg.trans x)
      omega
    rw [fnv_neg (fun q x => by have := hq q x; omega), fnv_neg (fun q x => by have := hq q x; omega)]
    cases o with
    | none =>
      rw [if_pos rfl, if_pos rfl, cfail, crI_t, gd_0, rwrong, crI_t, gd_0]
      refine ⟨false, _, _, rfl, rfl, fr_trans (fr_u2 rfl) fr_f, fr_w, fun x => absurd x (by decide), fun _ => ?_⟩
      unfold NO
      simp (disch := decide) only [u2_s, u2_k, u2_i]
      exact ⟨trivial, TT_10 h⟩
    | some q =>
      rw [if_neg (by simp), if_neg (by simp)]
      obtain ⟨i', f1, f2, f3⟩ := step_ok (i := u2 i 23 6 (fnv (some q))) (l := l) (s := s) (r := r) (p := p) (CT_u h.1 (by omega))
      obtain ⟨j', g1, g2, g3⟩ := rtok_ok (i := j) (l := l2) (s := s2) (r := r2) (p := p2) h.2
      rw [f1, crI_t, gd_1, g1, crV_t, gd_1]
      refine ⟨true, i', _, rfl, rfl, fr_trans (fr_u2 rfl) (qP_S f2), fr_trans (qQ_R g2) (fr_u2 rfl), fun _ => ⟨⟨f3, RT_u g3 (by omega)⟩, q, hq q rfl, ?_, ?_⟩, fun x => absurd x (by decide)⟩
      · rw [f2 23 6 rfl, u2_s]; rfl
      · rw [u2_s]; rfl
  · rw [if_neg hK, if_neg hK, cfail, crI_t, gd_0, rwrong, crI_t, gd_0]
    exact ⟨false, _, _, rfl, rfl, fr_f, fr_w, fun x => absurd x (by decide), fun _ => NO_f (TT_10 h)⟩
def qPn (o n a k : Nat) : Bool := qP a k || (a == o && k == n)
def qQn (o n a k : Nat) : Bool := qQ a k || (a == o && k == n)
theorem fr_Pn {o n : Nat} {i' : Nat → Nat → Int32} (h : fr qP i i') : fr (qPn o n) i i' := fr_mono (fun a k hq => by
  unfold qPn at hq
  simp at hq
  exact hq.1) h
theorem fr_Qn {o n : Nat} {i' : Nat → Nat → Int32} (h : fr qQ i i') : fr (qQn o n) i i' := fr_mono (fun a k hq => by
  unfold qQn at hq
  simp at hq
  exact hq.1) h
/-- a new name -/
theorem new_j {o1 o2 bo n : Nat} (ho : o1 = 8 ∨ o1 = 11 ∨ o1 = 28 ∨ o1 = 31) (ho2 : o2 = 88 ∨ o2 = 91) (hn : n < gN o1) (hn2 : bo + n < gN o2) (h31 : gN o1 < 100) (h32 : gN o2 < 100) (hE : ∀ k, k < n → i o1 k = j o2 (bo + k)) (h : TT c e m a i j) :
    JN (Reader_newName o1 (nI n)) (Mo_newName o2 (nI bo) (nI n)) (qPn o1 n) (qQn o2 (bo + n)) i j l l2 s r p s2 r2 p2 (fun i' j' => TT c e m (a + 1) i' j' ∧ ∃ v, v < 2 ^ 31 ∧ i' o1 n = nI v ∧ j' o2 (bo + n) = nI v) := by
  obtain ⟨k1, k2, k3⟩ := TT_K h
  unfold JN
  rw [Reader_newName_eq _ _ _ _ _ _ _ ho, Mo_newName_eq _ _ _ _ _ _ _ _ ho2, k1, ifc_eq (by omega) (by omega), ifc_if (kOk_26 k3)]
  by_cases hK : sK c e a = 26
  · rw [if_pos hK, if_pos hK]
    have v2 := h.1.2.2.2.2.1 hK
    have w2 := h.2.2.2.2.2.1 hK
    have hv := tV_lt hK
    rw [v2, w2, cfind_ok (by omega) (by omega), rfind_ok ho2 (by omega), crI_t, crI_t, ← fnd_cg (f := i o1) n 0 (fun k _ hk => hE k (by omega))]
    generalize hg : fnd (i o1) (nI (tV c e (sA c e a))) n 0 = o
    have hq : ∀ q, o = some q → q < n := fun q x => by
      have := fnd_lt n 0 q (hg.trans x)
      omega
    rw [fnv_neg (fun q x => by have := hq q x; omega), fnv_neg (fun q x => by have := hq q x; omega)]
    cases o with
    | none =>
      rw [if_pos rfl, if_pos rfl, ifc_lt (by omega) (by omega), if_pos hn, nI_add, gd_in hn (by omega), gd_in hn2 (by omega), nI_clamp (by omega), nI_clamp (by omega), v2, w2]
      obtain ⟨i', f1, f2, f3⟩ := step_ok (i := u2 i o1 n (nI (tV c e (sA c e a)))) (l := l) (s := s) (r := r) (p := p) (CT_u h.1 (by omega))
      obtain ⟨j', g1, g2, g3⟩ := rtok_ok (i := u2 j o2 (bo + n) (nI (tV c e (sA c e a)))) (l := l2) (s := s2) (r := r2) (p := p2) (RT_u h.2 (by omega))
      rw [f1, crI_t, gd_1, g1, crV_t, gd_1]
      refine ⟨true, i', j', rfl, rfl, fr_trans (fr_u2 (by simp [qPn])) (fr_Pn (qP_S f2)), fr_trans (fr_u2 (by simp [qQn])) (fr_Qn (qQ_R g2)), fun _ => ⟨⟨f3, g3⟩, tV c e (sA c e a), by omega, ?_, ?_⟩, fun x => absurd x (by decide)⟩
      · rw [f2 o1 n (by unfold qSt; simp; omega), u2_s]
      · rw [g2 o2 (bo + n) (by unfold qRt; simp; omega), u2_s]
    | some q =>
      rw [if_neg (by simp), if_neg (by simp), cfail, crI_t, gd_0, rwrong, crI_t, gd_0]
      exact ⟨false, _, _, rfl, rfl, fr_Pn fr_f, fr_Qn fr_w, fun x => absurd x (by decide), fun _ => NO_f (TT_10 h)⟩
  · rw [if_neg hK, if_neg hK, cfail, crI_t, gd_0, rwrong, crI_t, gd_0]
    exact ⟨false, _, _, rfl, rfl, fr_Pn fr_f, fr_Qn fr_w, fun x => absurd x (by decide), fun _ => NO_f (TT_10 h)⟩
end
end

section
/-! a plan as it is read, on both sides -/
def okN (v : Int32) : Prop := ∃ n, n < 2 ^ 31 ∧ v = nI n
def okB (B : Nat) (v : Int32) : Prop := ∃ n, n < B ∧ v = nI n
def okC (v : Int32) : Prop := ∃ n, 1 ≤ n ∧ n ≤ 9 ∧ v = nI n
def okM (N : Nat) (v : Int32) : Prop := ∀ q, bt v q = true → q < N
def RW (a b o n : Nat) (i j : Nat → Nat → Int32) (F : Int32 → Prop) : Prop := ∀ k, k < n → F (i a k) ∧ j b (o + k) = i a k
theorem RW_fr {a b o n : Nat} {i j i' j' : Nat → Nat → Int32} {F : Int32 → Prop} (h : RW a b o n i j F) (h1 : ∀ k, k < n → i' a k = i a k) (h2 : ∀ k, k < n → j' b (o + k) = j b (o + k)) : RW a b o n i' j' F := fun k hk => by
  rw [h1 k hk, h2 k hk]; exact h k hk
theorem RW_up {a b o n : Nat} {i j i' j' : Nat → Nat → Int32} {F : Int32 → Prop} (h : RW a b o n i j F) (h1 : ∀ k, k < n → i' a k = i a k) (h2 : ∀ k, k < n → j' b (o + k) = j b (o + k)) {v : Int32} (hv : F v) (g1 : i' a n = v) (g2 : j' b (o + n) = v) : RW a b o (n + 1) i' j' F := fun k hk => by
  by_cases e : k < n
  · rw [h1 k e, h2 k e]; exact h k e
  · have : k = n := by omega
    subst this
    rw [g1, g2]; exact ⟨hv, rfl⟩
theorem RW_mono {a b o n : Nat} {i j : Nat → Nat → Int32} {F G : Int32 → Prop} (h : RW a b o n i j F) (hF : ∀ v, F v → G v) : RW a b o n i j G := fun k hk => ⟨hF _ (h k hk).1, (h k hk).2⟩
theorem okB_mono {A B : Nat} (h : A ≤ B) (v : Int32) (x : okB A v) : okB B v := by
  obtain ⟨n, h1, h2⟩ := x
  exact ⟨n, by omega, h2⟩
theorem okM_mono {A B : Nat} (h : A ≤ B) (v : Int32) (x : okM A v) : okM B v := fun q hq => by
  have := x q hq
  omega
def EV (r N L E : Nat) (i j : Nat → Nat → Int32) : Prop := ∀ k, k < E → ∃ kd who tk, 4 ≤ kd ∧ kd ≤ 7 ∧ (kd ≤ 5 → who < N) ∧ (6 ≤ kd → who < L) ∧ tk ≤ 99 ∧ who < 8 ∧ i (r + 6) k = nI kd ∧ i (r + 7) k = nI who ∧ i (r + 8) k = nI tk ∧ j 93 (16 + k) = nI kd ∧ j 94 (16 + k) = nI who ∧ j 95 (16 + k) = nI tk
def A1 (r N : Nat) (i j : Nat → Nat → Int32) : Prop := N ≤ 7 ∧ i r 11 = nI N ∧ j 82 18 = nI N ∧ RW (r + 1) 88 7 N i j okN
def A2 (r N L : Nat) (i j : Nat → Nat → Int32) : Prop := L ≤ 8 ∧ i r 12 = nI L ∧ j 82 19 = nI L ∧ RW (r + 2) 89 8 L i j okC ∧ RW (r + 3) 90 8 L i j (okM N)
def A3 (r N S : Nat) (i j : Nat → Nat → Int32) : Prop := S ≤ 3 ∧ i r 13 = nI S ∧ j 82 20 = nI S ∧ RW (r + 4) 91 3 S i j okN ∧ RW (r + 5) 92 3 S i j (okB N)
def A4 (r N L E : Nat) (i j : Nat → Nat → Int32) : Prop := E ≤ 16 ∧ i r 14 = nI E ∧ j 82 21 = nI E ∧ EV r N L E i j
def A5 (r S D : Nat) (i j : Nat → Nat → Int32) : Prop := D ≤ 14 ∧ i r 15 = nI D ∧ j 82 22 = nI D ∧ RW (r + 9) 96 14 D i j (okB S) ∧ RW (r + 10) 97 14 D i j (okB 100)
/-- hold, loss, seed -/
def A6 (r : Nat) (i j : Nat → Nat → Int32) : Prop := (∃ h, 1 ≤ h ∧ h ≤ 20 ∧ i r 17 = nI h ∧ j 87 3 = nI h) ∧ (∃ h, h ≤ 100 ∧ i r 18 = nI h ∧ j 87 4 = nI h) ∧ (∃ h, h ≤ 99999 ∧ i r 19 = nI h ∧ j 87 5 = nI h) ∧ ∀ k, k < 3 → j 86 k = nI (bt (i 23 5) (9 + k)).toNat
/-- the meeting -/
def A7 (r N : Nat) (i j : Nat → Nat → Int32) : Prop := (bt (i 23 5) 2 = false ∧ i r 16 = nI 0 ∧ j 85 1 = nM 1) ∨ (bt (i 23 5) 2 = true ∧ ∃ n, n < N ∧ i r 16 = nI n ∧ j 85 1 = nI n)
/-- how the reference's knots lie to a row, as it is read -/
def knd (j : Nat → Nat → Int32) : Nat → Nat → Int32 := fun a k => j a (64 + k)
/-- the laws -/
def A8 (r : Nat) (i j : Nat → Nat → Int32) : Prop := ∃ K kd nm, K ≤ 64 ∧ i (r + 11) 4 = nI K ∧ i (r + 11) 5 = nI K ∧ j 82 23 = nI K ∧ j 82 48 = nI K ∧ (∀ k, k < K → nm k < 2 ^ 31 ∧ i (r + 12) k = nI (kd k) ∧ i (r + 13) k = nI (nm k)) ∧
  ∀ w, w < 3 → j 98 (3 + w) = nI (bt (i 23 5) (13 + w)).toNat ∧ ((bt (i 23 5) (13 + w) = false ∧ i (r + 14) w = nI 0 ∧ i (r + 15) w = nI 0) ∨ (bt (i 23 5) (13 + w) = true ∧ ∃ b e, b < e ∧ e ≤ K ∧ i (r + 14) w = nI b ∧ i (r + 15) w = nI e ∧ j 99 (3 + w) = nI b ∧ j 100 (3 + w) = nI e ∧ lwf kd b (e - b) ∧ knr (knd j) kd nm b (e - b)))
section
variable {r N L S E D : Nat} {i j i' j' : Nat → Nat → Int32}
theorem A1_fr (h : A1 r N i j) (h1 : i' r 11 = i r 11) (h2 : ∀ k, k < N → i' (r + 1) k = i (r + 1) k) (h3 : j' 82 18 = j 82 18) (h4 : ∀ k, k < N → j' 88 (7 + k) = j 88 (7 + k)) : A1 r N i' j' := ⟨h.1, h1.trans h.2.1, h3.trans h.2.2.1, RW_fr h.2.2.2 h2 h4⟩
theorem A2_fr (h : A2 r N L i j) (h1 : i' r 12 = i r 12) (h2 : ∀ a k, a = 2 ∨ a = 3 → k < L → i' (r + a) k = i (r + a) k) (h3 : j' 82 19 = j 82 19) (h4 : ∀ a k, a = 89 ∨ a = 90 → k < L → j' a (8 + k) = j a (8 + k)) : A2 r N L i' j' :=
  ⟨h.1, h1.trans h.2.1, h3.trans h.2.2.1, RW_fr h.2.2.2.1 (fun k hk => h2 2 k (by omega) hk) (fun k hk => h4 89 k (by omega) hk), RW_fr h.2.2.2.2 (fun k hk => h2 3 k (by omega) hk) (fun k hk => h4 90 k (by omega) hk)⟩
theorem A3_fr (h : A3 r N S i j) (h1 : i' r 13 = i r 13) (h2 : ∀ a k, a = 4 ∨ a = 5 → k < S → i' (r + a) k = i (r + a) k) (h3 : j' 82 20 = j 82 20) (h4 : ∀ a k, a = 91 ∨ a = 92 → k < S → j' a (3 + k) = j a (3 + k)) : A3 r N S i' j' :=
  ⟨h.1, h1.trans h.2.1, h3.trans h.2.2.1, RW_fr h.2.2.2.1 (fun k hk => h2 4 k (by omega) hk) (fun k hk => h4 91 k (by omega) hk), RW_fr h.2.2.2.2 (fun k hk => h2 5 k (by omega) hk) (fun k hk => h4 92 k (by omega) hk)⟩
theorem A4_fr (h : A4 r N L E i j) (h1 : i' r 14 = i r 14) (h2 : ∀ a k, 6 ≤ a → a ≤ 8 → k < E → i' (r + a) k = i (r + a) k) (h3 : j' 82 21 = j 82 21) (h4 : ∀ a k, 93 ≤ a → a ≤ 95 → k < E → j' a (16 + k) = j a (16 + k)) : A4 r N L E i' j' := by
  refine ⟨h.1, h1.trans h.2.1, h3.trans h.2.2.1, fun k hk => ?_⟩
  rw [h2 6 k (by omega) (by omega) hk, h2 7 k (by omega) (by omega) hk, h2 8 k (by omega) (by omega) hk, h4 93 k (by omega) (by omega) hk, h4 94 k (by omega) (by omega) hk, h4 95 k (by omega) (by omega) hk]
  exact h.2.2.2 k hk
theorem A5_fr (h : A5 r S D i j) (h1 : i' r 15 = i r 15) (h2 : ∀ a k, a = 9 ∨ a = 10 → k < D → i' (r + a) k = i (r + a) k) (h3 : j' 82 22 = j 82 22) (h4 : ∀ a k, a = 96 ∨ a = 97 → k < D → j' a (14 + k) = j a (14 + k)) : A5 r S D i' j' :=
  ⟨h.1, h1.trans h.2.1, h3.trans h.2.2.1, RW_fr h.2.2.2.1 (fun k hk => h2 9 k (by omega) hk) (fun k hk => h4 96 k (by omega) hk), RW_fr h.2.2.2.2 (fun k hk => h2 10 k (by omega) hk) (fun k hk => h4 97 k (by omega) hk)⟩
theorem A6_fr (h : A6 r i j) (h1 : ∀ k, 17 ≤ k → k ≤ 19 → i' r k = i r k) (h2 : ∀ k, k < 3 → bt (i' 23 5) (9 + k) = bt (i 23 5) (9 + k)) (h3 : ∀ k, 3 ≤ k → k ≤ 5 → j' 87 k = j 87 k) (h4 : ∀ k, k < 3 → j' 86 k = j 86 k) : A6 r i' j' := by
  unfold A6
  rw [h1 17 (by omega) (by omega), h1 18 (by omega) (by omega), h1 19 (by omega) (by omega), h3 3 (by omega) (by omega), h3 4 (by omega) (by omega), h3 5 (by omega) (by omega)]
  exact ⟨h.1, h.2.1, h.2.2.1, fun k hk => by rw [h2 k hk, h4 k hk]; exact h.2.2.2 k hk⟩
theorem A7_fr (h : A7 r N i j) (h1 : i' r 16 = i r 16) (h2 : bt (i' 23 5) 2 = bt (i 23 5) 2) (h3 : j' 85 1 = j 85 1) : A7 r N i' j' := by
  unfold A7
  rw [h1, h2, h3]
  exact h
theorem knr_fr {kd nm : Nat → Nat} {b n K : Nat} (h : knr (knd j) kd nm b n) (hb : b + n ≤ K) (h4 : ∀ a k, 101 ≤ a → a ≤ 103 → k < K → j' a (64 + k) = j a (64 + k)) : knr (knd j') kd nm b n := fun q hq => by
  have e : ∀ a, 101 ≤ a → a ≤ 103 → knd j' a (b + q) = knd j a (b + q) := fun a x y => h4 a (b + q) x y (by omega)
  rw [e 101 (by omega) (by omega), e 102 (by omega) (by omega), e 103 (by omega) (by omega)]
  exact h q hq
theorem A8_fr (h : A8 r i j) (h1 : i' (r + 11) 4 = i (r + 11) 4) (h1' : i' (r + 11) 5 = i (r + 11) 5) (h2 : ∀ a k, 12 ≤ a → a ≤ 15 → k < 64 → i' (r + a) k = i (r + a) k) (h3 : j' 82 23 = j 82 23) (h3' : j' 82 48 = j 82 48) (h4 : ∀ a k, 101 ≤ a → a ≤ 103 → k < 64 → j' a (64 + k) = j a (64 + k)) (h5 : ∀ a k, 98 ≤ a → a ≤ 100 → k < 3 → j' a (3 + k) = j a (3 + k)) (h6 : ∀ k, k < 3 → bt (i' 23 5) (13 + k) = bt (i 23 5) (13 + k)) : A8 r i' j' := by
  obtain ⟨K, kd, nm, g1, g2, g3, g4, g5, g6, g7⟩ := h
  refine ⟨K, kd, nm, g1, h1.trans g2, h1'.trans g3, h3.trans g4, h3'.trans g5, fun k hk => ?_, fun w hw => ?_⟩
  · rw [h2 12 k (by omega) (by omega) (by omega), h2 13 k (by omega) (by omega) (by omega)]
    exact g6 k hk
  · obtain ⟨x1, x2⟩ := g7 w hw
    rw [h2 14 w (by omega) (by omega) (by omega), h2 15 w (by omega) (by omega) (by omega), h5 98 w (by omega) (by omega) hw, h5 99 w (by omega) (by omega) hw, h5 100 w (by omega) (by omega) hw, h6 w hw]
    refine ⟨x1, ?_⟩
    rcases x2 with x | ⟨x, b, e, y1, y2, y3, y4, y5, y6, y7, y8⟩
    · exact Or.inl x
    · exact Or.inr ⟨x, b, e, y1, y2, y3, y4, y5, y6, y7, knr_fr (K := 64) y8 (by omega) h4⟩
/-- all of it -/
def RD (r N L S E D : Nat) (i j : Nat → Nat → Int32) : Prop := A1 r N i j ∧ A2 r N L i j ∧ A3 r N S i j ∧ A4 r N L E i j ∧ A5 r S D i j ∧ A6 r i j ∧ A7 r N i j ∧ A8 r i j
/-- what may change and leave it alone -/
def kC (r : Nat) (q : Nat → Nat → Bool) : Prop := ∀ a k, (a = r ∧ 11 ≤ k ∧ k ≤ 19) ∨ (r < a ∧ a ≤ r + 15) ∨ (a = 23 ∧ k = 5) → q a k = false
def kR (q : Nat → Nat → Bool) : Prop := ∀ a k, (a = 82 ∧ ((18 ≤ k ∧ k ≤ 23) ∨ k = 48)) ∨ (85 ≤ a ∧ a ≤ 103) → q a k = false
theorem RD_fr {qc qr : Nat → Nat → Bool} (h : RD r N L S E D i j) (f : fr qc i i') (g : fr qr j j') (kc : kC r qc) (kr : kR qr) : RD r N L S E D i' j' := by
  have fi : ∀ a k, (a = r ∧ 11 ≤ k ∧ k ≤ 19) ∨ (r < a ∧ a ≤ r + 15) ∨ (a = 23 ∧ k = 5) → i' a k = i a k := fun a k x => f a k (kc a k x)
  have gj : ∀ a k, (a = 82 ∧ ((18 ≤ k ∧ k ≤ 23) ∨ k = 48)) ∨ (85 ≤ a ∧ a ≤ 103) → j' a k = j a k := fun a k x => g a k (kr a k x)
  have ft : i' 23 5 = i 23 5 := fi 23 5 (by omega)
  obtain ⟨h1, h2, h3, h4, h5, h6, h7, h8⟩ := h
  refine ⟨A1_fr h1 ?_ ?_ ?_ ?_, A2_fr h2 ?_ ?_ ?_ ?_, A3_fr h3 ?_ ?_ ?_ ?_, A4_fr h4 ?_ ?_ ?_ ?_, A5_fr h5 ?_ ?_ ?_ ?_, A6_fr h6 ?_ ?_ ?_ ?_, A7_fr h7 ?_ ?_ ?_, A8_fr h8 ?_ ?_ ?_ ?_ ?_ ?_ ?_ ?_⟩
  all_goals intros
  all_goals first | exact fi _ _ (by omega) | exact gj _ _ (by omega) | rw [ft]
theorem kC_P (hr : r = 7 ∨ r = 27) : kC r qP := fun a k x => by
  unfold qP
  simp
  omega
theorem kR_Q : kR qQ := fun a k x => by
  unfold qQ
  simp
  omega
/-! one part anew, the others as they were -/
theorem RD_1 (h : RD r N L S E D i j) {N' : Nat} (hn : N ≤ N') (hA : A1 r N' i' j') (fi : ∀ a k, (a = r ∧ 12 ≤ k ∧ k ≤ 19) ∨ (r + 1 < a ∧ a ≤ r + 15) ∨ (a = 23 ∧ k = 5) → i' a k = i a k) (gj : ∀ a k, (a = 82 ∧ ((19 ≤ k ∧ k ≤ 23) ∨ k = 48)) ∨ (85 ≤ a ∧ a ≤ 103 ∧ a ≠ 88) → j' a k = j a k) : RD r N' L S E D i' j' := by
  have ft : i' 23 5 = i 23 5 := fi 23 5 (by omega)
  obtain ⟨h1, h2, h3, h4, h5, h6, h7, h8⟩ := h
  have h2' : A2 r N' L i j := ⟨h2.1, h2.2.1, h2.2.2.1, h2.2.2.2.1, RW_mono h2.2.2.2.2 (okM_mono hn)⟩
  have h3' : A3 r N' S i j := ⟨h3.1, h3.2.1, h3.2.2.1, h3.2.2.2.1, RW_mono h3.2.2.2.2 (okB_mono hn)⟩
  have h4' : A4 r N' L E i j := ⟨h4.1, h4.2.1, h4.2.2.1, fun k hk => by
    obtain ⟨kd, who, tk, x1, x2, x3, x4, x5⟩ := h4.2.2.2 k hk
    exact ⟨kd, who, tk, x1, x2, fun y => by have := x3 y; omega, x4, x5⟩⟩
  have h7' : A7 r N' i j := by
    rcases h7 with x | ⟨x, n, y, z⟩
    · exact Or.inl x
    · exact Or.inr ⟨x, n, by omega, z⟩
  refine ⟨hA, A2_fr h2' ?_ ?_ ?_ ?_, A3_fr h3' ?_ ?_ ?_ ?_, A4_fr h4' ?_ ?_ ?_ ?_, A5_fr h5 ?_ ?_ ?_ ?_, A6_fr h6 ?_ ?_ ?_ ?_, A7_fr h7' ?_ ?_ ?_, A8_fr h8 ?_ ?_ ?_ ?_ ?_ ?_ ?_ ?_⟩
  all_goals intros
  all_goals first | exact fi _ _ (by omega) | exact gj _ _ (by omega) | rw [ft]
theorem RD_2 (h : RD r N L S E D i j) {L' : Nat} (hn : L ≤ L') (hA : A2 r N L' i' j') (fi : ∀ a k, (a = r ∧ 11 ≤ k ∧ k ≤ 19 ∧ k ≠ 12) ∨ (r < a ∧ a ≤ r + 15 ∧ a ≠ r + 2 ∧ a ≠ r + 3) ∨ (a = 23 ∧ k = 5) → i' a k = i a k) (gj : ∀ a k, (a = 82 ∧ ((18 ≤ k ∧ k ≤ 23 ∧ k ≠ 19) ∨ k = 48)) ∨ (85 ≤ a ∧ a ≤ 103 ∧ a ≠ 89 ∧ a ≠ 90) → j' a k = j a k) : RD r N L' S E D i' j' := by
  have ft : i' 23 5 = i 23 5 := fi 23 5 (by omega)
  obtain ⟨h1, h2, h3, h4, h5, h6, h7, h8⟩ := h
  have h4' : A4 r N L' E i j := ⟨h4.1, h4.2.1, h4.2.2.1, fun k hk => by
    obtain ⟨kd, who, tk, x1, x2, x3, x4, x5⟩ := h4.2.2.2 k hk
    exact ⟨kd, who, tk, x1, x2, x3, fun y => by have := x4 y; omega, x5⟩⟩
  refine ⟨A1_fr h1 ?_ ?_ ?_ ?_, hA, A3_fr h3 ?_ ?_ ?_ ?_, A4_fr h4' ?_ ?_ ?_ ?_, A5_fr h5 ?_ ?_ ?_ ?_, A6_fr h6 ?_ ?_ ?_ ?_, A7_fr h7 ?_ ?_ ?_, A8_fr h8 ?_ ?_ ?_ ?_ ?_ ?_ ?_ ?_⟩
  all_goals intros
  all_goals first | exact fi _ _ (by omega) | exact gj _ _ (by omega) | rw [ft]
theorem RD_3 (h : RD r N L S E D i j) {S' : Nat} (hn : S ≤ S') (hA : A3 r N S' i' j') (fi : ∀ a k, (a = r ∧ 11 ≤ k ∧ k ≤ 19 ∧ k ≠ 13) ∨ (r < a ∧ a ≤ r + 15 ∧ a ≠ r + 4 ∧ a ≠ r + 5) ∨ (a = 23 ∧ k = 5) → i' a k = i a k) (gj : ∀ a k, (a = 82 ∧ ((18 ≤ k ∧ k ≤ 23 ∧ k ≠ 20) ∨ k = 48)) ∨ (85 ≤ a ∧ a ≤ 103 ∧ a ≠ 91 ∧ a ≠ 92) → j' a k = j a k) : RD r N L S' E D i' j' := by
  have ft : i' 23 5 = i 23 5 := fi 23 5 (by omega)
  obtain ⟨h1, h2, h3, h4, h5, h6, h7, h8⟩ := h
  have h5' : A5 r S' D i j := ⟨h5.1, h5.2.1, h5.2.2.1, RW_mono h5.2.2.2.1 (okB_mono hn), h5.2.2.2.2⟩
  refine ⟨A1_fr h1 ?_ ?_ ?_ ?_, A2_fr h2 ?_ ?_ ?_ ?_, hA, A4_fr h4 ?_ ?_ ?_ ?_, A5_fr h5' ?_ ?_ ?_ ?_, A6_fr h6 ?_ ?_ ?_ ?_, A7_fr h7 ?_ ?_ ?_, A8_fr h8 ?_ ?_ ?_ ?_ ?_ ?_ ?_ ?_⟩
  all_goals intros
  all_goals first | exact fi _ _ (by omega) | exact gj _ _ (by omega) | rw [ft]
theorem RD_4 (h : RD r N L S E D i j) {E' : Nat} (hA : A4 r N L E' i' j') (fi : ∀ a k, (a = r ∧ 11 ≤ k ∧ k ≤ 19 ∧ k ≠ 14) ∨ (r < a ∧ a ≤ r + 15 ∧ (a < r + 6 ∨ r + 8 < a)) ∨ (a = 23 ∧ k = 5) → i' a k = i a k) (gj : ∀ a k, (a = 82 ∧ ((18 ≤ k ∧ k ≤ 23 ∧ k ≠ 21) ∨ k = 48)) ∨ (85 ≤ a ∧ a ≤ 103 ∧ (a < 93 ∨ 95 < a)) → j' a k = j a k) : RD r N L S E' D i' j' := by
  have ft : i' 23 5 = i 23 5 := fi 23 5 (by omega)
  obtain ⟨h1, h2, h3, h4, h5, h6, h7, h8⟩ := h
  refine ⟨A1_fr h1 ?_ ?_ ?_ ?_, A2_fr h2 ?_ ?_ ?_ ?_, A3_fr h3 ?_ ?_ ?_ ?_, hA, A5_fr h5 ?_ ?_ ?_ ?_, A6_fr h6 ?_ ?_ ?_ ?_, A7_fr h7 ?_ ?_ ?_, A8_fr h8 ?_ ?_ ?_ ?_ ?_ ?_ ?_ ?_⟩
  all_goals intros
  all_goals first | exact fi _ _ (by omega) | exact gj _ _ (by omega) | rw [ft]
theorem RD_5 (h : RD r N L S E D i j) {D' : Nat} (hA : A5 r S D' i' j') (fi : ∀ a k, (a = r ∧ 11 ≤ k ∧ k ≤ 19 ∧ k ≠ 15) ∨ (r < a ∧ a ≤ r + 15 ∧ a ≠ r + 9 ∧ a ≠ r + 10) ∨ (a = 23 ∧ k = 5) → i' a k = i a k) (gj : ∀ a k, (a = 82 ∧ ((18 ≤ k ∧ k ≤ 23 ∧ k ≠ 22) ∨ k = 48)) ∨ (85 ≤ a ∧ a ≤ 103 ∧ a ≠ 96 ∧ a ≠ 97) → j' a k = j a k) : RD r N L S E D' i' j' := by
  have ft : i' 23 5 = i 23 5 := fi 23 5 (by omega)
  obtain ⟨h1, h2, h3, h4, h5, h6, h7, h8⟩ := h
  refine ⟨A1_fr h1 ?_ ?_ ?_ ?_, A2_fr h2 ?_ ?_ ?_ ?_, A3_fr h3 ?_ ?_ ?_ ?_, A4_fr h4 ?_ ?_ ?_ ?_, hA, A6_fr h6 ?_ ?_ ?_ ?_, A7_fr h7 ?_ ?_ ?_, A8_fr h8 ?_ ?_ ?_ ?_ ?_ ?_ ?_ ?_⟩
  all_goals intros
  all_goals first | exact fi _ _ (by omega) | exact gj _ _ (by omega) | rw [ft]
theorem RD_6 (h : RD r N L S E D i j) (hA : A6 r i' j') (fi : ∀ a k, (a = r ∧ 11 ≤ k ∧ k ≤ 16) ∨ (r < a ∧ a ≤ r + 15) → i' a k = i a k) (ft : ∀ k, k = 2 ∨ 13 ≤ k → bt (i' 23 5) k = bt (i 23 5) k) (gj : ∀ a k, (a = 82 ∧ ((18 ≤ k ∧ k ≤ 23) ∨ k = 48)) ∨ (85 ≤ a ∧ a ≤ 103 ∧ a ≠ 86 ∧ a ≠ 87) → j' a k = j a k) : RD r N L S E D i' j' := by
  obtain ⟨h1, h2, h3, h4, h5, h6, h7, h8⟩ := h
  refine ⟨A1_fr h1 ?_ ?_ ?_ ?_, A2_fr h2 ?_ ?_ ?_ ?_, A3_fr h3 ?_ ?_ ?_ ?_, A4_fr h4 ?_ ?_ ?_ ?_, A5_fr h5 ?_ ?_ ?_ ?_, hA, A7_fr h7 ?_ ?_ ?_, A8_fr h8 ?_ ?_ ?_ ?_ ?_ ?_ ?_ ?_⟩
  all_goals intros
  all_goals first | exact fi _ _ (by omega) | exact gj _ _ (by omega) | exact ft _ (by omega)
theorem RD_7 (h : RD r N L S E D i j) (hA : A7 r N i' j') (fi : ∀ a k, (a = r ∧ 11 ≤ k ∧ k ≤ 19 ∧ k ≠ 16) ∨ (r < a ∧ a ≤ r + 15) → i' a k = i a k) (ft : ∀ k, 9 ≤ k → bt (i' 23 5) k = bt (i 23 5) k) (gj : ∀ a k, (a = 82 ∧ ((18 ≤ k ∧ k ≤ 23) ∨ k = 48)) ∨ (86 ≤ a ∧ a ≤ 103) → j' a k = j a k) : RD r N L S E D i' j' := by
  obtain ⟨h1, h2, h3, h4, h5, h6, h7, h8⟩ := h
  refine ⟨A1_fr h1 ?_ ?_ ?_ ?_, A2_fr h2 ?_ ?_ ?_ ?_, A3_fr h3 ?_ ?_ ?_ ?_, A4_fr h4 ?_ ?_ ?_ ?_, A5_fr h5 ?_ ?_ ?_ ?_, A6_fr h6 ?_ ?_ ?_ ?_, hA, A8_fr h8 ?_ ?_ ?_ ?_ ?_ ?_ ?_ ?_⟩
  all_goals intros
  all_goals first | exact fi _ _ (by omega) | exact gj _ _ (by omega) | exact ft _ (by omega)
theorem RD_8 (h : RD r N L S E D i j) (hA : A8 r i' j') (fi : ∀ a k, (a = r ∧ 11 ≤ k ∧ k ≤ 19) ∨ (r < a ∧ a ≤ r + 10) → i' a k = i a k) (ft : ∀ k, k ≤ 11 → bt (i' 23 5) k = bt (i 23 5) k) (gj : ∀ a k, (a = 82 ∧ 18 ≤ k ∧ k ≤ 22) ∨ (85 ≤ a ∧ a ≤ 97) → j' a k = j a k) : RD r N L S E D i' j' := by
  obtain ⟨h1, h2, h3, h4, h5, h6, h7, h8⟩ := h
  refine ⟨A1_fr h1 ?_ ?_ ?_ ?_, A2_fr h2 ?_ ?_ ?_ ?_, A3_fr h3 ?_ ?_ ?_ ?_, A4_fr h4 ?_ ?_ ?_ ?_, A5_fr h5 ?_ ?_ ?_ ?_, A6_fr h6 ?_ ?_ ?_ ?_, A7_fr h7 ?_ ?_ ?_, hA⟩
  all_goals intros
  all_goals first | exact fi _ _ (by omega) | exact gj _ _ (by omega) | exact ft _ (by omega)
end
end

section
/-! reading: lines -/
def qLc (r a k : Nat) : Bool := qP a k || (a == 23 && (k == 4 || k == 5)) || a == 24 || a == 25 || (decide (r ≤ a) && decide (a ≤ r + 15))
def qLr (a k : Nat) : Bool := qQ a k || (a == 82 && ((decide (18 ≤ k) && decide (k ≤ 23)) || (decide (45 ≤ k) && decide (k ≤ 50)))) || (a == 85 && k == 1) || a == 86 || (a == 87 && decide (3 ≤ k)) || (a == 88 && decide (7 ≤ k)) ||
  ((a == 89 || a == 90) && decide (8 ≤ k)) || ((a == 91 || a == 92) && decide (3 ≤ k)) || ((a == 93 || a == 94 || a == 95) && decide (16 ≤ k)) || ((a == 96 || a == 97) && decide (14 ≤ k)) || ((a == 98 || a == 99 || a == 100) && decide (3 ≤ k)) || ((a == 101 || a == 102 || a == 103) && decide (64 ≤ k)) || a == 104 || a == 105
theorem qLc_P {r : Nat} {i j : Nat → Nat → Int32} (h : fr qP i j) : fr (qLc r) i j := fr_mono (fun a k hq => by
  unfold qLc at hq
  simp only [Bool.or_eq_false_iff] at hq
  exact hq.1.1.1.1) h
theorem qLr_Q {i j : Nat → Nat → Int32} (h : fr qQ i j) : fr qLr i j := fr_mono (fun a k hq => by
  unfold qLr at hq
  simp only [Bool.or_eq_false_iff] at hq
  exact hq.1.1.1.1.1.1.1.1.1.1.1.1.1) h
theorem qLc_Pn {r o n : Nat} {i j : Nat → Nat → Int32} (h : fr (qPn o n) i j) (ho : r ≤ o ∧ o ≤ r + 15) : fr (qLc r) i j := fr_mono (fun a k hq => by
  unfold qLc at hq
  simp only [Bool.or_eq_false_iff] at hq
  unfold qPn
  rw [hq.1.1.1.1]
  have := hq.2
  simp at this
  simp
  omega) h
theorem qLr_Qn {o n : Nat} {i j : Nat → Nat → Int32} (h : fr (qQn o n) i j) (ho : qLr o n = true) : fr qLr i j := fr_mono (fun a k hq => by
  have h1 : qQ a k = false := by
    unfold qLr at hq
    simp only [Bool.or_eq_false_iff] at hq
    exact hq.1.1.1.1.1.1.1.1.1.1.1.1.1
  unfold qQn
  rw [h1]
  by_cases e : a = o ∧ k = n
  · rw [e.1, e.2, ho] at hq; exact absurd hq (by decide)
  · simp
    omega) h
theorem fr_qLc {r a k : Nat} {i : Nat → Nat → Int32} {x : Int32} (h : r ≤ a ∧ a ≤ r + 15) : fr (qLc r) i (u2 i a k x) := fr_u2 (by unfold qLc; simp; omega)
section
variable {i j : Nat → Nat → Int32} {l l2 : Nat → Nat → Int64} {s r p s2 r2 p2 : Nat} {c : Nat → Nat} {e m a N L S E D : Nat}
/-- what a line leaves behind -/
def PO (c : Nat → Nat) (e m a r : Nat) (i' j' : Nat → Nat → Int32) : Prop := ∃ a' N L S E D, a < a' ∧ TT c e m a' i' j' ∧ RD r N L S E D i' j'
theorem step_j (h : TT c e m a i j) : ∃ i1 j1, Tokens_step (i, l, Rp s r p) = some (some (.int (nI 1)), (i1, l, Rp s r p)) ∧ Mo_token (j, l2, Rp s2 r2 p2) = some (none, (j1, l2, Rp s2 r2 p2)) ∧ fr qP i i1 ∧ fr qQ j j1 ∧ TT c e m (a + 1) i1 j1 := by
  obtain ⟨i', f1, f2, f3⟩ := step_ok (i := i) (l := l) (s := s) (r := r) (p := p) h.1
  obtain ⟨j', g1, g2, g3⟩ := rtok_ok (i := j) (l := l2) (s := s2) (r := r2) (p := p2) h.2
  exact ⟨i', j', f1, g1, qP_S f2, qQ_R g2, f3, g3⟩
theorem JN_no {F G : AM → Option (Option Value × AM)} {w : Int32} {post : (Nat → Nat → Int32) → (Nat → Nat → Int32) → Prop} (h : TT c e m a i j) (hF : F (i, l, Rp s r p) = some (some (.int (nI 0)), (u2 (u2 i 23 8 w) 23 9 (i 1 10), l, Rp s r p))) (hG : G (j, l2, Rp s2 r2 p2) = some (some (.int (nI 0)), (u2 (u2 j 82 4 w) 82 5 (j 82 10), l2, Rp s2 r2 p2))) :
    JN F G (qLc r) qLr i j l l2 s r p s2 r2 p2 post := ⟨false, _, _, hF, hG, qLc_P fr_f, qLr_Q fr_w, fun x => absurd x (by decide), fun _ => NO_f (TT_10 h)⟩
theorem room_t {n q : Nat} {i1 : Nat → Nat → Int32} (hn : n < q) (hq : q < 100) (hs : Tokens_step (i, l, Rp s r p) = some (some (.int (nI 1)), (i1, l, Rp s r p))) : Reader_room (nI n) (nI q) (i, l, Rp s r p) = some (some (.int (nI 1)), (i1, l, Rp s r p)) := by
  rw [Reader_room_eq, ifc_lt (by omega) (by omega), if_pos hn, hs, crI_t, gd_1]
theorem room_f {n : Nat} (hq : n < 100) : Reader_room (nI n) (nI n) (i, l, Rp s r p) = some (some (.int (nI 0)), (u2 (u2 i 23 8 (nI 2)) 23 9 (i 1 10), l, Rp s r p)) := by
  rw [Reader_room_eq, ifc_lt (by omega) (by omega), if_neg (Nat.lt_irrefl _), cfail, crI_t, gd_0]
theorem gN_r (hr : r = 7 ∨ r = 27) : gN (r + 1) = 7 ∧ gN (r + 4) = 3 ∧ gN 88 = 14 ∧ gN 91 = 6 := by
  rcases hr with rfl | rfl <;> decide
/-- node -/
theorem node_j (hr : r = 7 ∨ r = 27) (h : TT c e m a i j) (hR : RD r N L S E D i j) : JN Reader_nodeLine Mo_nodeLine (qLc r) qLr i j l l2 s r p s2 r2 p2 (PO c e m a r) := by
  obtain ⟨gn1, gn2, gn3, gn4⟩ := gN_r hr
  have h7 := hR.1.1
  by_cases hN : N = 7
  · subst hN
    refine JN_no (w := nI 2) h ?_ ?_
    · rw [Reader_nodeLine_eq _ _ _ _ _ hr, hR.1.2.1, room_f (by omega), crI_t, ifc_00, gd_0]
    · rw [Mo_nodeLine_eq, hR.1.2.2.1, ifc_t rfl, rwrong, crI_t, gd_0]
  · obtain ⟨i1, j1, f1, g1, f2, g2, t1⟩ := step_j (l := l) (l2 := l2) (s := s) (r := r) (p := p) (s2 := s2) (r2 := r2) (p2 := p2) h
    have R1 := RD_fr hR f2 g2 (kC_P hr) kR_Q
    obtain ⟨b, i2, j2, f3, g3, f4, g4, ht, hf⟩ := new_j (l := l) (l2 := l2) (s := s) (r := r) (p := p) (s2 := s2) (r2 := r2) (p2 := p2) (o1 := r + 1) (o2 := 88) (bo := 7) (n := N) (by omega) (by omega) (by omega) (by omega) (by omega) (by omega) (fun k hk => (R1.1.2.2.2 k hk).2.symm) t1
    have eF : ∀ i3, (b = true → i3 = u2 i2 r 11 (nI (N + 1))) → (b = false → i3 = i2) → Reader_nodeLine (i, l, Rp s r p) = some (some (.int (nI b.toNat)), (i3, l, Rp s r p)) := fun i3 h1 h2 => by
      rw [Reader_nodeLine_eq _ _ _ _ _ hr, hR.1.2.1, room_t (by omega) (by omega) f1, crI_t, ifc_10, R1.1.2.1, f3, crI_t]
      cases b with
      | false => rw [h2 rfl]; exact (ifc_00 _ _).trans (gd_0 _)
      | true =>
        rw [h1 rfl]
        refine (ifc_10 _ _).trans ((gd_1 _).trans ?_)
        rw [f4 r 11 (by unfold qPn qP; simp; omega), R1.1.2.1, nI_add]
        rfl
    have eG : ∀ j3, (b = true → j3 = u2 j2 82 18 (nI (N + 1))) → (b = false → j3 = j2) → Mo_nodeLine (j, l2, Rp s2 r2 p2) = some (some (.int (nI b.toNat)), (j3, l2, Rp s2 r2 p2)) := fun j3 h1 h2 => by
      rw [Mo_nodeLine_eq, hR.1.2.2.1, ifc_eq (by omega) (by omega), if_neg hN, g1, crV_t, R1.1.2.2.1, g3, crI_t]
      cases b with
      | false => rw [h2 rfl]; exact (ifc_00 _ _).trans (gd_0 _)
      | true =>
        rw [h1 rfl]
        refine (ifc_10 _ _).trans ((gd_1 _).trans ?_)
        rw [g4 82 18 (by unfold qQn qQ; simp), R1.1.2.2.1, nI_add]
        rfl
    cases b with
    | false => exact ⟨false, i2, j2, eF i2 (fun x => absurd x (by decide)) (fun _ => rfl), eG j2 (fun x => absurd x (by decide)) (fun _ => rfl), fr_trans (qLc_P f2) (qLc_Pn f4 (by omega)), fr_trans (qLr_Q g2) (qLr_Qn g4 (by unfold qLr; simp)), fun x => absurd x (by decide), fun _ => hf rfl⟩
    | true =>
      obtain ⟨t2, v, hv, e1, e2⟩ := ht rfl
      refine ⟨true, _, _, eF _ (fun _ => rfl) (fun x => absurd x (by decide)), eG _ (fun _ => rfl) (fun x => absurd x (by decide)), fr_trans (fr_trans (qLc_P f2) (qLc_Pn f4 (by omega))) (fr_qLc (by omega)), fr_trans (fr_trans (qLr_Q g2) (qLr_Qn g4 (by unfold qLr; simp))) (fr_u2 (by decide)), fun _ => ?_, fun x => absurd x (by decide)⟩
      refine ⟨a + 1 + 1, N + 1, L, S, E, D, by omega, ⟨CT_u t2.1 (by omega), RT_u t2.2 (by omega)⟩, ?_⟩
      have fi : ∀ x k, ¬ (x = r ∧ k = 11) → ¬ (x = r + 1 ∧ k = N) → x ≠ 1 → (x = 23 → k = 5) → u2 i2 r 11 (nI (N + 1)) x k = i1 x k := fun x k y1 y2 y3 y4 => by
        have q1 : i2 x k = i1 x k := f4 x k (by unfold qPn qP; simp; omega)
        rw [← q1]
        unfold u2
        split
        · split
          · omega
          · rfl
        · rfl
      have gj : ∀ x k, ¬ (x = 82 ∧ k < 19) → ¬ (x = 88 ∧ k = 7 + N) → u2 j2 82 18 (nI (N + 1)) x k = j1 x k := fun x k y1 y2 => by
        have q1 : j2 x k = j1 x k := g4 x k (by unfold qQn qQ; simp; omega)
        rw [← q1]
        unfold u2
        split
        · split
          · omega
          · rfl
        · rfl
      refine RD_1 R1 (by omega) ⟨by omega, u2_s _ _ _ _, u2_s _ _ _ _, RW_up R1.1.2.2.2 (v := nI v) (fun k hk => fi _ _ (by omega) (by omega) (by omega) (by omega)) (fun k hk => gj _ _ (by omega) (by omega)) ⟨v, hv, rfl⟩ ?_ ?_⟩ (fun a k hk => fi _ _ (by omega) (by omega) (by omega) (by omega)) (fun a k hk => gj _ _ (by omega) (by omega))
      · rw [u2_i (by omega)]; exact e1
      · rw [u2_i (by omega)]; exact e2
end
end

section
/-! reading: lines, step by step -/
section
variable {i j : Nat → Nat → Int32} {l l2 : Nat → Nat → Int64} {s r p s2 r2 p2 : Nat} {c : Nat → Nat} {e m a N L S E D : Nat}
abbrev PT : Type := (Nat → Nat → Int32) → (Nat → Nat → Int32) → Prop
def JJ (x y : Option (Option Value × AM)) (i j : Nat → Nat → Int32) (l l2 : Nat → Nat → Int64) (s r p s2 r2 p2 : Nat) (post : PT) : Prop :=
  ∃ (b : Bool) (i' j' : Nat → Nat → Int32), x = some (some (.int (nI b.toNat)), (i', l, Rp s r p)) ∧ y = some (some (.int (nI b.toNat)), (j', l2, Rp s2 r2 p2)) ∧ fr (qLc r) i i' ∧ fr qLr j j' ∧ (b = true → post i' j') ∧ (b = false → NO i' j')
theorem JJ_JN {F G : AM → Option (Option Value × AM)} {post : PT} (h : JJ (F (i, l, Rp s r p)) (G (j, l2, Rp s2 r2 p2)) i j l l2 s r p s2 r2 p2 post) : JN F G (qLc r) qLr i j l l2 s r p s2 r2 p2 post := h
theorem JJ_I {x y : Option (Option Value × AM)} {M M' : AM} {f g : Int32 → (Nat → Nat → Int32) → (Nat → Nat → Int64) → Option (Option Value × AM)} {post1 post : PT} {i0 j0 : Nat → Nat → Int32} (hM : M = (i0, l, Rp s r p)) (hM' : M' = (j0, l2, Rp s2 r2 p2)) (h1 : JJ x y i j l l2 s r p s2 r2 p2 post1)
    (h2 : ∀ i1 j1, fr (qLc r) i i1 → fr qLr j j1 → post1 i1 j1 → JJ (f (nI 1) i1 l) (g (nI 1) j1 l2) i1 j1 l l2 s r p s2 r2 p2 post)
    (hf : ∀ i1, f (nI 0) i1 l = some (some (.int (nI 0)), (i1, l, Rp s r p))) (hg : ∀ j1, g (nI 0) j1 l2 = some (some (.int (nI 0)), (j1, l2, Rp s2 r2 p2))) : JJ (crI x M f) (crI y M' g) i j l l2 s r p s2 r2 p2 post := by
  obtain ⟨b, i1, j1, e1, e2, f1, f2, ht, hn⟩ := h1
  rw [hM, hM', e1, e2, crI_t, crI_t]
  cases b with
  | false => exact ⟨false, i1, j1, hf i1, hg j1, f1, f2, fun x => absurd x (by decide), hn⟩
  | true =>
    obtain ⟨b, i2, j2, e3, e4, f3, f4, ht2, hn2⟩ := h2 i1 j1 f1 f2 (ht rfl)
    exact ⟨b, i2, j2, e3, e4, fr_trans f1 f3, fr_trans f2 f4, ht2, hn2⟩
theorem JJ_pre {x y : Option (Option Value × AM)} {post : PT} {i0 j0 : Nat → Nat → Int32} (f : fr (qLc r) i i0) (g : fr qLr j j0) (h : JJ x y i0 j0 l l2 s r p s2 r2 p2 post) : JJ x y i j l l2 s r p s2 r2 p2 post := by
  obtain ⟨b, i1, j1, e1, e2, f1, f2, ht, hn⟩ := h
  exact ⟨b, i1, j1, e1, e2, fr_trans f f1, fr_trans g f2, ht, hn⟩
theorem JJ_yes {x y : Option (Option Value × AM)} {post : PT} {i0 j0 : Nat → Nat → Int32} (hx : x = some (some (.int (nI 1)), (i0, l, Rp s r p))) (hy : y = some (some (.int (nI 1)), (j0, l2, Rp s2 r2 p2))) (f : fr (qLc r) i i0) (g : fr qLr j j0) (h : post i0 j0) : JJ x y i j l l2 s r p s2 r2 p2 post := ⟨true, i0, j0, hx, hy, f, g, fun _ => h, fun x => absurd x (by decide)⟩
theorem JJ_no {x y : Option (Option Value × AM)} {post : PT} {w : Int32} (h : i 1 10 = j 82 10) (hx : x = some (some (.int (nI 0)), (u2 (u2 i 23 8 w) 23 9 (i 1 10), l, Rp s r p))) (hy : y = some (some (.int (nI 0)), (u2 (u2 j 82 4 w) 82 5 (j 82 10), l2, Rp s2 r2 p2))) : JJ x y i j l l2 s r p s2 r2 p2 post :=
  ⟨false, _, _, hx, hy, qLc_P fr_f, qLr_Q fr_w, fun x => absurd x (by decide), fun _ => NO_f h⟩
theorem JJ_P {F G : AM → Option (Option Value × AM)} {post : PT} (h : JN F G qP qQ i j l l2 s r p s2 r2 p2 post) : JJ (F (i, l, Rp s r p)) (G (j, l2, Rp s2 r2 p2)) i j l l2 s r p s2 r2 p2 (fun i' j' => post i' j' ∧ fr qP i i' ∧ fr qQ j j') := by
  obtain ⟨b, i1, j1, e1, e2, f1, f2, ht, hn⟩ := h
  exact ⟨b, i1, j1, e1, e2, qLc_P f1, qLr_Q f2, fun x => ⟨ht x, f1, f2⟩, hn⟩
theorem JJ_Pn {F G : AM → Option (Option Value × AM)} {post : PT} {o n o' n' : Nat} (h : JN F G (qPn o n) (qQn o' n') i j l l2 s r p s2 r2 p2 post) (ho : r ≤ o ∧ o ≤ r + 15) (ho' : qLr o' n' = true) : JJ (F (i, l, Rp s r p)) (G (j, l2, Rp s2 r2 p2)) i j l l2 s r p s2 r2 p2 (fun i' j' => post i' j' ∧ fr (qPn o n) i i' ∧ fr (qQn o' n') j j') := by
  obtain ⟨b, i1, j1, e1, e2, f1, f2, ht, hn⟩ := h
  exact ⟨b, i1, j1, e1, e2, qLc_Pn f1 ho, qLr_Qn f2 ho', fun x => ⟨ht x, f1, f2⟩, hn⟩
/-- at the word of a line of which there may be only so many -/
theorem JJ_room {n q : Nat} {y : Option (Option Value × AM)} {M : AM} {f : Int32 → (Nat → Nat → Int32) → (Nat → Nat → Int64) → Option (Option Value × AM)} {post : PT} (hn : n ≤ q) (hq : q < 100) (h : TT c e m a i j)
    (hM : M = (i, l, Rp s r p)) (hf : ∀ i1, f (nI 0) i1 l = some (some (.int (nI 0)), (i1, l, Rp s r p)))
    (h0 : n = q → y = some (some (.int (nI 0)), (u2 (u2 j 82 4 (nI 2)) 82 5 (j 82 10), l2, Rp s2 r2 p2)))
    (h1 : n < q → ∀ i1 j1, Mo_token (j, l2, Rp s2 r2 p2) = some (none, (j1, l2, Rp s2 r2 p2)) → fr qP i i1 → fr qQ j j1 → TT c e m (a + 1) i1 j1 → JJ (f (nI 1) i1 l) y i1 j1 l l2 s r p s2 r2 p2 post) :
    JJ (crI (Reader_room (nI n) (nI q) (i, l, Rp s r p)) M f) y i j l l2 s r p s2 r2 p2 post := by
  by_cases hnq : n = q
  · subst hnq
    refine JJ_no (w := nI 2) (TT_10 h) ?_ (h0 rfl)
    rw [hM, room_f hq, crI_t]
    exact hf _
  · obtain ⟨i1, j1, f1, g1, f2, g2, t1⟩ := step_j (l := l) (l2 := l2) (s := s) (r := r) (p := p) (s2 := s2) (r2 := r2) (p2 := p2) h
    rw [hM, room_t (by omega) hq f1, crI_t]
    exact JJ_pre (qLc_P f2) (qLr_Q g2) (h1 (by omega) i1 j1 g1 f2 g2 t1)
theorem if0 (x : Option (Option Value × AM)) {i1 : Nat → Nat → Int32} {R : Nat → Nat → Option Nat} : ifc (nI 0 = 0) (gd (isB (nI 0)) (some (some (.int (nI 0)), (i1, l, R)))) x = some (some (.int (nI 0)), (i1, l, R)) := (ifc_00 _ _).trans (gd_0 _)
/-- source -/
theorem source_j (hr : r = 7 ∨ r = 27) (h : TT c e m a i j) (hR : RD r N L S E D i j) : JN Reader_sourceLine Mo_sourceLine (qLc r) qLr i j l l2 s r p s2 r2 p2 (PO c e m a r) := by
  obtain ⟨gn1, gn2, gn3, gn4⟩ := gN_r hr
  apply JJ_JN
  rw [Reader_sourceLine_eq _ _ _ _ _ hr, hR.2.2.1.2.1]
  refine JJ_room hR.2.2.1.1 (by omega) h rfl (fun _ => if0 _) (fun hS => ?_) (fun hS i1 j1 g1 f2 g2 t1 => ?_)
  · rw [Mo_sourceLine_eq, hR.2.2.1.2.2.1, hS, ifc_t rfl, rwrong, crI_t, gd_0]
  · have R1 := RD_fr hR f2 g2 (kC_P hr) kR_Q
    have h7 := R1.1.1
    rw [Mo_sourceLine_eq, hR.2.2.1.2.2.1, ifc_eq (by omega) (by omega), if_neg (by omega), g1, crV_t]
    show JJ (ifc (nI 1 = 0) _ _) _ _ _ _ _ _ _ _ _ _ _ _
    rw [ifc_10, R1.2.2.1.2.1, R1.2.2.1.2.2.1]
    refine JJ_I rfl rfl (JJ_Pn (new_j (o1 := r + 4) (o2 := 91) (bo := 3) (n := S) (by omega) (by omega) (by omega) (by omega) (by omega) (by omega) (fun k hk => (R1.2.2.1.2.2.2.1 k hk).2.symm) t1) (by omega) (by unfold qLr; simp)) (fun i2 j2 _ _ hp => ?_) (fun _ => if0 _) (fun _ => if0 _)
    obtain ⟨⟨t2, v, hv, e1, e2⟩, f3, g3⟩ := hp
    show JJ (ifc (nI 1 = 0) _ _) (ifc (nI 1 = 0) _ _) _ _ _ _ _ _ _ _ _ _ _
    have fi : ∀ x k, ¬ (x = r + 4 ∧ k = S) → x ≠ 1 → (x = 23 → k = 5) → i2 x k = i1 x k := fun x k y1 y2 y3 => f3 x k (by unfold qPn qP; simp; omega)
    have gj : ∀ x k, ¬ (x = 82 ∧ k < 12) → ¬ (x = 91 ∧ k = 3 + S) → j2 x k = j1 x k := fun x k y1 y2 => g3 x k (by unfold qQn qQ; simp; omega)
    rw [ifc_10, ifc_10, fi r 11 (by omega) (by omega) (by omega), R1.1.2.1, gj 82 18 (by omega) (by omega), R1.1.2.2.1]
    refine JJ_I rfl rfl (JJ_P (old_j (o1 := r + 1) (o2 := 88) (bo := 7) (n := N) (by omega) (by omega) (by omega) (by omega) (by omega) (fun k hk => by
      rw [fi _ _ (by omega) (by omega) (by omega), gj _ _ (by omega) (by omega)]
      exact (R1.1.2.2.2 k hk).2.symm) t2)) (fun i3 j3 _ _ hp => ?_) (fun _ => if0 _) (fun _ => if0 _)
    obtain ⟨⟨t3, w, hw, e3, e4⟩, f4, g4⟩ := hp
    have fi' : ∀ x k, ¬ (x = r + 4 ∧ k = S) → x ≠ 1 → (x = 23 → k = 5) → i3 x k = i1 x k := fun x k y1 y2 y3 => (f4 x k (by unfold qP; simp; omega)).trans (fi x k y1 y2 y3)
    have gj' : ∀ x k, ¬ (x = 82 ∧ k < 12) → ¬ (x = 91 ∧ k = 3 + S) → j3 x k = j1 x k := fun x k y1 y2 => (g4 x k (by unfold qQ; simp; omega)).trans (gj x k y1 y2)
    have c13 : i3 r 13 = nI S := (fi' r 13 (by omega) (by omega) (by omega)).trans R1.2.2.1.2.1
    have c20 : j3 82 20 = nI S := (gj' 82 20 (by omega) (by omega)).trans R1.2.2.1.2.2.1
    have c4 : i3 (r + 4) S = nI v := (f4 (r + 4) S (by unfold qP; simp; omega)).trans e1
    have c91 : j3 91 (3 + S) = nI v := (g4 91 (3 + S) (by unfold qQ; simp)).trans e2
    refine JJ_yes (i0 := u2 (u2 i3 (r + 5) S (nI w)) r 13 (nI (S + 1))) (j0 := u2 (u2 j3 92 (3 + S) (nI w)) 82 20 (nI (S + 1))) ?_ ?_ (fr_trans (fr_qLc (by omega)) (fr_qLc (by omega))) (fr_trans (fr_u2 (by unfold qLr; simp)) (fr_u2 (by decide))) ?_
    · show ifc (nI 1 = 0) _ _ = _
      rw [ifc_10, c13, gd_in (by omega) (by omega), gd_1, nI_clamp (by omega), e3, nI_add]
    · show ifc (nI 1 = 0) _ _ = _
      rw [ifc_10, c20, nI_add, gd_in (by omega) (by omega), gd_1, nI_clamp (by omega), e4, nI_add]
    · refine ⟨a + 1 + 1 + 1, N, L, S + 1, E, D, by omega, ⟨CT_u (CT_u t3.1 (by omega)) (by omega), RT_u (RT_u t3.2 (by omega)) (by omega)⟩, ?_⟩
      have fi2 : ∀ x k, ¬ (x = r + 4 ∧ k = S) → ¬ (x = r + 5 ∧ k = S) → ¬ (x = r ∧ k = 13) → x ≠ 1 → (x = 23 → k = 5) → u2 (u2 i3 (r + 5) S (nI w)) r 13 (nI (S + 1)) x k = i1 x k := fun x k y1 y2 y3 y4 y5 => by
        rw [← fi' x k y1 y4 y5]
        unfold u2
        repeat' split
        all_goals first | rfl | omega
      have gj2 : ∀ x k, ¬ (x = 82 ∧ (k < 12 ∨ k = 20)) → ¬ (x = 91 ∧ k = 3 + S) → ¬ (x = 92 ∧ k = 3 + S) → u2 (u2 j3 92 (3 + S) (nI w)) 82 20 (nI (S + 1)) x k = j1 x k := fun x k y1 y2 y3 => by
        rw [← gj' x k (by omega) y2]
        unfold u2
        repeat' split
        all_goals first | rfl | omega
      refine RD_3 R1 (by omega) ⟨by omega, u2_s _ _ _ _, u2_s _ _ _ _, RW_up R1.2.2.1.2.2.2.1 (v := nI v) ?_ ?_ ⟨v, hv, rfl⟩ ?_ ?_, RW_up R1.2.2.1.2.2.2.2 (v := nI w) ?_ ?_ ⟨w, hw, rfl⟩ ?_ ?_⟩ (fun a k hk => fi2 _ _ (by omega) (by omega) (by omega) (by omega) (by omega)) (fun a k hk => gj2 _ _ (by omega) (by omega) (by omega))
      · exact fun k hk => fi2 _ _ (by omega) (by omega) (by omega) (by omega) (by omega)
      · exact fun k hk => gj2 _ _ (by omega) (by omega) (by omega)
      · rw [u2_i (by omega), u2_i (by omega)]; exact c4
      · rw [u2_i (by omega), u2_i (by omega)]; exact c91
      · exact fun k hk => fi2 _ _ (by omega) (by omega) (by omega) (by omega) (by omega)
      · exact fun k hk => gj2 _ _ (by omega) (by omega) (by omega)
      · rw [u2_i (by omega), u2_s]
      · rw [u2_i (by omega), u2_s]
end
end

section
/-! reading: send, meet, hold, loss, seed -/
section
variable {i j : Nat → Nat → Int32} {l l2 : Nat → Nat → Int64} {s r p s2 r2 p2 : Nat} {c : Nat → Nat} {e m a N L S E D : Nat}
/-- send -/
theorem send_j (hr : r = 7 ∨ r = 27) (h : TT c e m a i j) (hR : RD r N L S E D i j) : JN Reader_sendLine Mo_sendLine (qLc r) qLr i j l l2 s r p s2 r2 p2 (PO c e m a r) := by
  obtain ⟨gn1, gn2, gn3, gn4⟩ := gN_r hr
  apply JJ_JN
  have h14 := hR.2.2.2.2.1.1
  rw [Reader_sendLine_eq _ _ _ _ _ hr, hR.2.2.2.2.1.2.1]
  refine JJ_room h14 (by omega) h rfl (fun _ => if0 _) (fun hS => ?_) (fun hS i1 j1 g1 f2 g2 t1 => ?_)
  · rw [Mo_sendLine_eq, hR.2.2.2.2.1.2.2.1, hS, ifc_t rfl, rwrong, crI_t, gd_0]
  · have R1 := RD_fr hR f2 g2 (kC_P hr) kR_Q
    have h3 := R1.2.2.1.1
    rw [Mo_sendLine_eq, hR.2.2.2.2.1.2.2.1, ifc_eq (by omega) (by omega), if_neg (by omega), g1, crV_t]
    show JJ (ifc (nI 1 = 0) _ _) _ _ _ _ _ _ _ _ _ _ _ _
    rw [ifc_10, R1.2.2.1.2.1, R1.2.2.1.2.2.1]
    refine JJ_I rfl rfl (JJ_P (old_j (o1 := r + 4) (o2 := 91) (bo := 3) (n := S) (by omega) (by omega) (by omega) (by omega) (by omega) (fun k hk => (R1.2.2.1.2.2.2.1 k hk).2.symm) t1)) (fun i2 j2 _ _ hp => ?_) (fun _ => if0 _) (fun _ => if0 _)
    obtain ⟨⟨t2, v, hv, e1, e2⟩, f3, g3⟩ := hp
    show JJ (ifc (nI 1 = 0) _ _) (ifc (nI 1 = 0) _ _) _ _ _ _ _ _ _ _ _ _ _
    have fi : ∀ x k, x ≠ 1 → (x = 23 → k = 5) → i2 x k = i1 x k := fun x k y2 y3 => f3 x k (by unfold qP; simp; omega)
    have gj : ∀ x k, ¬ (x = 82 ∧ k < 12) → j2 x k = j1 x k := fun x k y1 => g3 x k (by unfold qQ; simp; omega)
    have c22 : j2 82 22 = nI D := (gj 82 22 (by omega)).trans R1.2.2.2.2.1.2.2.1
    rw [ifc_10, ifc_10, c22, nI_add, gd_in (by omega) (by omega), nI_clamp (by omega), e2]
    refine JJ_pre (fr_refl _ _) (j0 := u2 j2 96 (14 + D) (nI v)) (fr_u2 (by unfold qLr; simp)) (JJ_I rfl rfl (JJ_P (num_j (by omega) (by omega) ⟨t2.1, RT_u t2.2 (by omega)⟩)) (fun i3 j3 _ _ hp => ?_) (fun _ => if0 _) (fun _ => if0 _))
    obtain ⟨⟨t3, w, _, hw, e3, e4⟩, f4, g4⟩ := hp
    have fi' : ∀ x k, x ≠ 1 → (x = 23 → k = 5) → i3 x k = i1 x k := fun x k y2 y3 => (f4 x k (by unfold qP; simp; omega)).trans (fi x k y2 y3)
    have gj' : ∀ x k, ¬ (x = 82 ∧ k < 12) → ¬ (x = 96 ∧ k = 14 + D) → j3 x k = j1 x k := fun x k y1 y2 => (g4 x k (by unfold qQ; simp; omega)).trans (by
      rw [← gj x k y1]
      unfold u2
      repeat' split
      all_goals first | rfl | omega)
    have c15 : i3 r 15 = nI D := (fi' r 15 (by omega) (by omega)).trans R1.2.2.2.2.1.2.1
    have c22' : j3 82 22 = nI D := (gj' 82 22 (by omega) (by omega)).trans R1.2.2.2.2.1.2.2.1
    have c96 : j3 96 (14 + D) = nI v := (g4 96 (14 + D) (by unfold qQ; simp)).trans (u2_s _ _ _ _)
    refine JJ_yes (i0 := u2 (u2 (u2 i3 (r + 9) D (nI v)) (r + 10) D (nI w)) r 15 (nI (D + 1))) (j0 := u2 (u2 j3 97 (14 + D) (nI w)) 82 22 (nI (D + 1))) ?_ ?_ (fr_trans (fr_trans (fr_qLc (by omega)) (fr_qLc (by omega))) (fr_qLc (by omega))) (fr_trans (fr_u2 (by unfold qLr; simp)) (fr_u2 (by decide))) ?_
    · show ifc (nI 1 = 0) _ _ = _
      rw [ifc_10, c15, gd_in (by omega) (by omega), gd_in (by omega) (by omega), gd_1, nI_clamp (by omega), e3, e1, nI_add]
    · show ifc (nI 1 = 0) _ _ = _
      rw [ifc_10, c22', nI_add, gd_in (by omega) (by omega), gd_1, nI_clamp (by omega), e4, nI_add]
    · refine ⟨a + 1 + 1 + 1, N, L, S, E, D + 1, by omega, ⟨CT_u (CT_u (CT_u t3.1 (by omega)) (by omega)) (by omega), RT_u (RT_u t3.2 (by omega)) (by omega)⟩, ?_⟩
      have fi2 : ∀ x k, ¬ (x = r + 9 ∧ k = D) → ¬ (x = r + 10 ∧ k = D) → ¬ (x = r ∧ k = 15) → x ≠ 1 → (x = 23 → k = 5) → u2 (u2 (u2 i3 (r + 9) D (nI v)) (r + 10) D (nI w)) r 15 (nI (D + 1)) x k = i1 x k := fun x k y1 y2 y3 y4 y5 => by
        rw [← fi' x k y4 y5]
        unfold u2
        repeat' split
        all_goals first | rfl | omega
      have gj2 : ∀ x k, ¬ (x = 82 ∧ (k < 12 ∨ k = 22)) → ¬ (x = 96 ∧ k = 14 + D) → ¬ (x = 97 ∧ k = 14 + D) → u2 (u2 j3 97 (14 + D) (nI w)) 82 22 (nI (D + 1)) x k = j1 x k := fun x k y1 y2 y3 => by
        rw [← gj' x k (by omega) y2]
        unfold u2
        repeat' split
        all_goals first | rfl | omega
      refine RD_5 R1 ⟨by omega, u2_s _ _ _ _, u2_s _ _ _ _, RW_up R1.2.2.2.2.1.2.2.2.1 (v := nI v) ?_ ?_ ⟨v, hv, rfl⟩ ?_ ?_, RW_up R1.2.2.2.2.1.2.2.2.2 (v := nI w) ?_ ?_ ⟨w, by omega, rfl⟩ ?_ ?_⟩ (fun a k hk => fi2 _ _ (by omega) (by omega) (by omega) (by omega) (by omega)) (fun a k hk => gj2 _ _ (by omega) (by omega) (by omega))
      · exact fun k hk => fi2 _ _ (by omega) (by omega) (by omega) (by omega) (by omega)
      · exact fun k hk => gj2 _ _ (by omega) (by omega) (by omega)
      · rw [u2_i (by omega), u2_i (by omega), u2_s]
      · rw [u2_i (by omega), u2_i (by omega)]; exact c96
      · exact fun k hk => fi2 _ _ (by omega) (by omega) (by omega) (by omega) (by omega)
      · exact fun k hk => gj2 _ _ (by omega) (by omega) (by omega)
      · rw [u2_i (by omega), u2_s]
      · rw [u2_i (by omega), u2_s]
/-- at a word that may stand once: the component -/
def tl1 (i : Nat → Nat → Int32) (K : Nat) : Nat → Nat → Int32 := u2 i 23 5 (i 23 5 ||| (nI 1 <<< (nI K &&& 31)))
theorem tl1_b {K q : Nat} (hK : K < 32) (hq : q < 32) : bt (tl1 i K 23 5) q = (bt (i 23 5) q || decide (q = K)) := by
  unfold tl1
  rw [u2_s, b_or, bt_mask hK hq]
theorem once_t {K : Nat} {i1 : Nat → Nat → Int32} (hK : K < 32) (h9 : i 1 9 = nI K) (hb : bt (i 23 5) K = false) (hs : Tokens_step (tl1 i K, l, Rp s r p) = some (some (.int (nI 1)), (i1, l, Rp s r p))) : Reader_once (i, l, Rp s r p) = some (some (.int (nI 1)), (i1, l, Rp s r p)) := by
  rw [Reader_once_eq, h9, ifc_bit _ hK, hb, if_neg (by decide)]
  unfold tl1 at hs
  rw [hs, crI_t, gd_1]
theorem once_f {K : Nat} (hK : K < 32) (h9 : i 1 9 = nI K) (hb : bt (i 23 5) K = true) : Reader_once (i, l, Rp s r p) = some (some (.int (nI 0)), (u2 (u2 i 23 8 (nI 3)) 23 9 (i 1 10), l, Rp s r p)) := by
  rw [Reader_once_eq, h9, ifc_bit _ hK, hb, if_pos rfl, cfail, crI_t, gd_0]
theorem fr_tl1 {K : Nat} : fr (qLc r) i (tl1 i K) := fr_u2 (by unfold qLc; simp)
/-- meet -/
theorem meet_j (hr : r = 7 ∨ r = 27) (hK : sK c e a = 2) (h : TT c e m a i j) (hR : RD r N L S E D i j) : JN Reader_meetLine Mo_meetLine (qLc r) qLr i j l l2 s r p s2 r2 p2 (PO c e m a r) := by
  obtain ⟨gn1, gn2, gn3, gn4⟩ := gN_r hr
  have h9 := (TT_K h).1
  rw [hK] at h9
  apply JJ_JN
  have h7 := hR.1.1
  have hc1 : (nI 1).toNatClampNeg = 1 := rfl
  rw [Reader_meetLine_eq _ _ _ _ _ hr, Mo_meetLine_eq, gd_in (by omega) (by omega), hc1]
  rcases hR.2.2.2.2.2.2.1 with ⟨a1, a2, a3⟩ | ⟨a1, n, a2, a3, a4⟩
  · rw [a3, ifc_t (nM_neg (by omega) (by omega))]
    have h' : TT c e m a (tl1 i 2) j := ⟨CT_u h.1 (by omega), h.2⟩
    obtain ⟨i1, j1, f1, g1, f2, g2, t1⟩ := step_j (l := l) (l2 := l2) (s := s) (r := r) (p := p) (s2 := s2) (r2 := r2) (p2 := p2) h'
    rw [once_t (by omega) h9 a1 f1, crI_t, ifc_10, g1, crV_t]
    have fi : ∀ x k, x ≠ 1 → x ≠ 23 → i1 x k = i x k := fun x k y2 y3 => (f2 x k (by unfold qP; simp; omega)).trans (u2_i (by omega))
    have gj : ∀ x k, ¬ (x = 82 ∧ k < 12) → j1 x k = j x k := fun x k y1 => g2 x k (by unfold qQ; simp; omega)
    have ft : i1 23 5 = tl1 i 2 23 5 := f2 23 5 rfl
    rw [fi r 11 (by omega) (by omega), hR.1.2.1, gj 82 18 (by omega), hR.1.2.2.1]
    refine JJ_pre (fr_trans fr_tl1 (qLc_P f2)) (qLr_Q g2) (JJ_I rfl rfl (JJ_P (old_j (o1 := r + 1) (o2 := 88) (bo := 7) (n := N) (by omega) (by omega) (by omega) (by omega) (by omega) (fun k hk => by
      rw [fi _ _ (by omega) (by omega), gj _ _ (by omega)]
      exact (hR.1.2.2.2 k hk).2.symm) t1)) (fun i3 j3 _ _ hp => ?_) (fun _ => if0 _) (fun _ => if0 _))
    obtain ⟨⟨t3, w, hw, e3, e4⟩, f4, g4⟩ := hp
    have fi' : ∀ x k, x ≠ 1 → x ≠ 23 → i3 x k = i x k := fun x k y2 y3 => (f4 x k (by unfold qP; simp; omega)).trans (fi x k y2 y3)
    have gj' : ∀ x k, ¬ (x = 82 ∧ k < 12) → j3 x k = j x k := fun x k y1 => (g4 x k (by unfold qQ; simp; omega)).trans (gj x k y1)
    have ft' : i3 23 5 = tl1 i 2 23 5 := (f4 23 5 rfl).trans ft
    refine JJ_yes (i0 := u2 i3 r 16 (nI w)) (j0 := u2 j3 85 1 (nI w)) ?_ ?_ (fr_qLc (by omega)) (fr_u2 (by decide)) ?_
    · show ifc (nI 1 = 0) _ _ = _
      rw [ifc_10, gd_1, e3]
    · show ifc (nI 1 = 0) _ _ = _
      rw [ifc_10, gd_in (by omega) (by omega), gd_1, e4]
    · refine ⟨a + 1 + 1, N, L, S, E, D, by omega, ⟨CT_u t3.1 (by omega), RT_u t3.2 (by omega)⟩, ?_⟩
      have f5 : u2 i3 r 16 (nI w) 23 5 = tl1 i 2 23 5 := (u2_i (by omega)).trans ft'
      refine RD_7 hR (Or.inr ⟨?_, w, hw, u2_s _ _ _ _, u2_s _ _ _ _⟩) (fun x k hk => ?_) (fun k hk => ?_) (fun x k hk => ?_)
      · rw [f5, tl1_b (by omega) (by omega)]; simp
      · rw [← fi' x k (by omega) (by omega)]
        unfold u2
        repeat' split
        all_goals first | rfl | omega
      · rw [f5]
        by_cases hk3 : k < 32
        · rw [tl1_b (by omega) hk3, show decide (k = 2) = false by simp; omega, Bool.or_false]
        · rw [b_big (by omega), b_big (by omega)]
      · rw [← gj' x k (by omega)]
        unfold u2
        repeat' split
        all_goals first | rfl | omega
  · rw [a4, ifc_neg (by omega), once_f (by omega) h9 a1, crI_t]
    exact JJ_no (w := nI 3) (TT_10 h) (if0 _) (by rw [rwrong, crI_t, gd_0])
end
end

section
/-! reading: hold, loss, seed; events -/
section
variable {i j : Nat → Nat → Int32} {l l2 : Nat → Nat → Int64} {s r p s2 r2 p2 : Nat} {c : Nat → Nat} {e m a N L S E D : Nat}
theorem once_j {q lo hi : Nat} (hr : r = 7 ∨ r = 27) (hq : q < 3) (hlo : lo = if q = 0 then 1 else 0) (hhi : hi = if q = 0 then 20 else if q = 1 then 100 else 99999) (hK : sK c e a = 9 + q) (h : TT c e m a i j) (hR : RD r N L S E D i j) :
    JN (Reader_numberLine_32 (nI (9 + q)) (nI hi)) (Mo_onceLine (nI q) (nI lo) (nI hi)) (qLc r) qLr i j l l2 s r p s2 r2 p2 (PO c e m a r) := by
  have h9 := (TT_K h).1
  rw [hK] at h9
  have hlh : lo ≤ hi ∧ hi ≤ 99999 := by
    rw [hlo, hhi]
    repeat' split
    all_goals omega
  apply JJ_JN
  have h6 := hR.2.2.2.2.2.1
  rw [Reader_numberLine_32_eq, Mo_onceLine_eq, gd_in hq (by omega), gd_in hq (by omega), nI_clamp (by omega), h6.2.2.2 q hq, nI_add, nI_clamp (by omega)]
  cases hb : bt (i 23 5) (9 + q) with
  | true =>
    rw [once_f (by omega) h9 hb, crI_t, ifc_f (show ¬ nI true.toNat = 0 by decide)]
    exact JJ_no (w := nI 3) (TT_10 h) (if0 _) (by rw [rwrong, crI_t, gd_0])
  | false =>
    rw [ifc_t (show nI false.toNat = 0 from rfl), show nI 1 &&& 1 = nI 1 from rfl]
    have h' : TT c e m a (tl1 i (9 + q)) (u2 j 86 q (nI 1)) := ⟨CT_u h.1 (by omega), RT_u h.2 (by omega)⟩
    obtain ⟨i1, j1, f1, g1, f2, g2, t1⟩ := step_j (l := l) (l2 := l2) (s := s) (r := r) (p := p) (s2 := s2) (r2 := r2) (p2 := p2) h'
    rw [once_t (by omega) h9 hb f1, crI_t, ifc_10, g1, crV_t]
    have fi : ∀ x k, x ≠ 1 → x ≠ 23 → i1 x k = i x k := fun x k y2 y3 => (f2 x k (by unfold qP; simp; omega)).trans (u2_i (by omega))
    have gj : ∀ x k, ¬ (x = 82 ∧ k < 12) → j1 x k = u2 j 86 q (nI 1) x k := fun x k y1 => g2 x k (by unfold qQ; simp; omega)
    have ft : i1 23 5 = tl1 i (9 + q) 23 5 := f2 23 5 rfl
    have h52 : ifc (nI (9 + q) = nI 9) (Reader_numberLine_52 (nI (9 + q)) (nI hi) (nI 1) (i1, l, Rp s r p)) (Reader_numberLine_52 (nI (9 + q)) (nI hi) (nI 0) (i1, l, Rp s r p)) = Reader_numberLine_52 (nI (9 + q)) (nI hi) (nI lo) (i1, l, Rp s r p) := by
      rw [ifc_eq (by omega) (by omega), hlo]
      by_cases h0 : q = 0
      · rw [if_pos (by omega), if_pos h0]
      · rw [if_neg (by omega), if_neg h0]
    rw [h52, Reader_numberLine_52_eq _ _ _ _ _ _ _ _ hr]
    refine JJ_pre (fr_trans fr_tl1 (qLc_P f2)) (fr_trans (fr_u2 (by unfold qLr; simp)) (qLr_Q g2)) (JJ_I rfl rfl (JJ_P (num_j hlh.2 hlh.1 t1)) (fun i3 j3 _ _ hp => ?_) (fun _ => if0 _) (fun _ => if0 _))
    obtain ⟨⟨t3, w, hw1, hw2, e3, e4⟩, f4, g4⟩ := hp
    have fi' : ∀ x k, x ≠ 1 → x ≠ 23 → i3 x k = i x k := fun x k y2 y3 => (f4 x k (by unfold qP; simp; omega)).trans (fi x k y2 y3)
    have gj' : ∀ x k, ¬ (x = 82 ∧ k < 12) → j3 x k = u2 j 86 q (nI 1) x k := fun x k y1 => (g4 x k (by unfold qQ; simp; omega)).trans (gj x k y1)
    have ft' : i3 23 5 = tl1 i (9 + q) 23 5 := (f4 23 5 rfl).trans ft
    refine JJ_yes (i0 := u2 i3 r (17 + q) (nI w)) (j0 := u2 j3 87 (3 + q) (nI w)) ?_ ?_ (fr_qLc (by omega)) (fr_u2 (by unfold qLr; simp)) ?_
    · show ifc (nI 1 = 0) _ _ = _
      rw [ifc_10, gd_1, gd_1, gd_1, e3, ifc_eq (by omega) (by omega), ifc_eq (by omega) (by omega)]
      have : q = 0 ∨ q = 1 ∨ q = 2 := by omega
      rcases this with rfl | rfl | rfl
      · rfl
      · rfl
      · rfl
    · show ifc (nI 1 = 0) _ _ = _
      rw [ifc_10, gd_in (by omega) (by omega), gd_1, e4]
    · refine ⟨a + 1 + 1, N, L, S, E, D, by omega, ⟨CT_u t3.1 (by omega), RT_u t3.2 (by omega)⟩, ?_⟩
      have f5 : u2 i3 r (17 + q) (nI w) 23 5 = tl1 i (9 + q) 23 5 := (u2_i (by omega)).trans ft'
      have ci : ∀ k, 17 ≤ k → k ≤ 19 → k ≠ 17 + q → u2 i3 r (17 + q) (nI w) r k = i r k := fun k x y z => (u2_k z).trans (fi' _ _ (by omega) (by omega))
      have cj : ∀ k, k ≠ 3 + q → u2 j3 87 (3 + q) (nI w) 87 k = j 87 k := fun k z => (u2_k z).trans ((gj' _ _ (by omega)).trans (u2_i (by omega)))
      have cs : u2 i3 r (17 + q) (nI w) r (17 + q) = nI w := u2_s _ _ _ _
      have cs' : u2 j3 87 (3 + q) (nI w) 87 (3 + q) = nI w := u2_s _ _ _ _
      have c86 : ∀ k, k < 3 → u2 j3 87 (3 + q) (nI w) 86 k = nI (bt (tl1 i (9 + q) 23 5) (9 + k)).toNat := fun k hk => by
        rw [u2_i (by omega), gj' _ _ (by omega), tl1_b (by omega) (by omega)]
        by_cases e0 : k = q
        · rw [e0, u2_s]; simp
        · rw [u2_k e0, h6.2.2.2 k hk, show decide (9 + k = 9 + q) = false by simp; omega, Bool.or_false]
      refine RD_6 hR ⟨?_, ?_, ?_, fun k hk => by rw [f5]; exact c86 k hk⟩ (fun x k hk => ?_) (fun k hk => ?_) (fun x k hk => ?_)
      · by_cases h0 : q = 0
        · subst h0
          exact ⟨w, by simp at hlo; omega, by simp at hhi; omega, cs, cs'⟩
        · rw [ci 17 (by omega) (by omega) (by omega), cj 3 (by omega)]; exact h6.1
      · by_cases h0 : q = 1
        · subst h0
          exact ⟨w, by simp at hhi; omega, cs, cs'⟩
        · rw [ci 18 (by omega) (by omega) (by omega), cj 4 (by omega)]; exact h6.2.1
      · by_cases h0 : q = 2
        · subst h0
          exact ⟨w, by simp at hhi; omega, cs, cs'⟩
        · rw [ci 19 (by omega) (by omega) (by omega), cj 5 (by omega)]; exact h6.2.2.1
      · rw [← fi' x k (by omega) (by omega)]
        unfold u2
        repeat' split
        all_goals first | rfl | omega
      · rw [f5]
        by_cases hk3 : k < 32
        · rw [tl1_b (by omega) hk3, show decide (k = 9 + q) = false by simp; omega, Bool.or_false]
        · rw [b_big (by omega), b_big (by omega)]
      · rw [u2_i (by omega), gj' x k (by omega), u2_i (by omega)]
end
end

section
/-! reading: events -/
section
variable {i j : Nat → Nat → Int32} {l l2 : Nat → Nat → Int64} {s r p s2 r2 p2 : Nat} {c : Nat → Nat} {e m a N L S E D : Nat}
theorem ev_tail {i1 j1 i2 j2 : Nat → Nat → Int32} {K v a1 : Nat} (hr : r = 7 ∨ r = 27) (ha : a ≤ a1) (R1 : RD r N L S E D i1 j1) (hE : E < 16) (t2 : TT c e m a1 i2 j2) (hK : 4 ≤ K ∧ K ≤ 7) (hv1 : K ≤ 5 → v < N) (hv2 : 6 ≤ K → v < L) (hv8 : v < 8) (e1 : i2 23 6 = nI v) (e2 : j2 82 11 = nI v) (e93 : j2 93 (16 + E) = nI K)
    (fi : ∀ x k, x ≠ 1 → (x = 23 → k = 5) → i2 x k = i1 x k) (gj : ∀ x k, ¬ (x = 82 ∧ k < 12) → ¬ (x = 93 ∧ k = 16 + E) → j2 x k = j1 x k) :
    JJ (Reader_eventLine_79 (nI K) (i2, l, Rp s r p)) (Mo_eventLine_115 (nI (16 + E)) (j2, l2, Rp s2 r2 p2)) i2 j2 l l2 s r p s2 r2 p2 (PO c e m a r) := by
  rw [Reader_eventLine_79_eq _ _ _ _ _ _ hr, Mo_eventLine_115_eq, gd_in (by omega) (by omega), nI_clamp (by omega), e2]
  refine JJ_pre (fr_refl _ _) (j0 := u2 j2 94 (16 + E) (nI v)) (fr_u2 (by unfold qLr; simp)) (JJ_I rfl rfl (JJ_P (num_j (by omega) (by omega) ⟨t2.1, RT_u t2.2 (by omega)⟩)) (fun i3 j3 _ _ hp => ?_) (fun _ => if0 _) (fun _ => if0 _))
  obtain ⟨⟨t3, w, _, hw, e3, e4⟩, f4, g4⟩ := hp
  have fi' : ∀ x k, x ≠ 1 → (x = 23 → k = 5) → i3 x k = i1 x k := fun x k y2 y3 => (f4 x k (by unfold qP; simp; omega)).trans (fi x k y2 y3)
  have gj' : ∀ x k, ¬ (x = 82 ∧ k < 12) → ¬ (x = 93 ∧ k = 16 + E) → ¬ (x = 94 ∧ k = 16 + E) → j3 x k = j1 x k := fun x k y1 y2 y3 => (g4 x k (by unfold qQ; simp; omega)).trans (by
    rw [← gj x k y1 y2]
    unfold u2
    repeat' split
    all_goals first | rfl | omega)
  have c14 : i3 r 14 = nI E := (fi' r 14 (by omega) (by omega)).trans R1.2.2.2.1.2.1
  have c21 : j3 82 21 = nI E := (gj' 82 21 (by omega) (by omega) (by omega)).trans R1.2.2.2.1.2.2.1
  have c93 : j3 93 (16 + E) = nI K := (g4 93 (16 + E) (by unfold qQ; simp)).trans ((u2_i (by omega)).trans e93)
  have c94 : j3 94 (16 + E) = nI v := (g4 94 (16 + E) (by unfold qQ; simp)).trans (u2_s _ _ _ _)
  refine JJ_yes (i0 := u2 (u2 (u2 (u2 i3 (r + 6) E (nI K)) (r + 7) E (nI v)) (r + 8) E (nI w)) r 14 (nI (E + 1))) (j0 := u2 (u2 j3 95 (16 + E) (nI w)) 82 21 (nI (E + 1))) ?_ ?_ (fr_trans (fr_trans (fr_trans (fr_qLc (by omega)) (fr_qLc (by omega))) (fr_qLc (by omega))) (fr_qLc (by omega))) (fr_trans (fr_u2 (by unfold qLr; simp)) (fr_u2 (by decide))) ?_
  · show ifc (nI 1 = 0) _ _ = _
    rw [ifc_10, c14, gd_in (by omega) (by omega), gd_in (by omega) (by omega), gd_in (by omega) (by omega), gd_1, nI_clamp (by omega), e3, e1, nI_add]
  · show ifc (nI 1 = 0) _ _ = _
    rw [ifc_10, gd_in (by omega) (by omega), gd_1, e4, c21, nI_add]
  · refine ⟨a1 + 1, N, L, S, E + 1, D, by omega, ⟨CT_u (CT_u (CT_u (CT_u t3.1 (by omega)) (by omega)) (by omega)) (by omega), RT_u (RT_u t3.2 (by omega)) (by omega)⟩, ?_⟩
    have fi2 : ∀ x k, ¬ (r + 6 ≤ x ∧ x ≤ r + 8 ∧ k = E) → ¬ (x = r ∧ k = 14) → x ≠ 1 → (x = 23 → k = 5) → u2 (u2 (u2 (u2 i3 (r + 6) E (nI K)) (r + 7) E (nI v)) (r + 8) E (nI w)) r 14 (nI (E + 1)) x k = i1 x k := fun x k y1 y2 y4 y5 => by
      rw [← fi' x k y4 y5]
      unfold u2
      repeat' split
      all_goals first | rfl | omega
    have gj2 : ∀ x k, ¬ (x = 82 ∧ (k < 12 ∨ k = 21)) → ¬ (93 ≤ x ∧ x ≤ 95 ∧ k = 16 + E) → u2 (u2 j3 95 (16 + E) (nI w)) 82 21 (nI (E + 1)) x k = j1 x k := fun x k y1 y2 => by
      rw [← gj' x k (by omega) (by omega) (by omega)]
      unfold u2
      repeat' split
      all_goals first | rfl | omega
    refine RD_4 R1 ⟨by omega, u2_s _ _ _ _, u2_s _ _ _ _, fun k hk => ?_⟩ (fun a k hk => fi2 _ _ (by omega) (by omega) (by omega) (by omega)) (fun a k hk => gj2 _ _ (by omega) (by omega))
    by_cases hkE : k < E
    · rw [fi2 (r + 6) k (by omega) (by omega) (by omega) (by omega), fi2 (r + 7) k (by omega) (by omega) (by omega) (by omega), fi2 (r + 8) k (by omega) (by omega) (by omega) (by omega), gj2 93 (16 + k) (by omega) (by omega), gj2 94 (16 + k) (by omega) (by omega), gj2 95 (16 + k) (by omega) (by omega)]
      exact R1.2.2.2.1.2.2.2 k hkE
    · have : k = E := by omega
      subst this
      refine ⟨K, v, w, hK.1, hK.2, hv1, hv2, hw, hv8, ?_, ?_, ?_, ?_, ?_, ?_⟩
      · rw [u2_i (by omega), u2_i (by omega), u2_i (by omega), u2_s]
      · rw [u2_i (by omega), u2_i (by omega), u2_s]
      · rw [u2_i (by omega), u2_s]
      · rw [u2_i (by omega), u2_i (by omega)]; exact c93
      · rw [u2_i (by omega), u2_i (by omega)]; exact c94
      · rw [u2_i (by omega), u2_s]
theorem event_j {K : Nat} (hr : r = 7 ∨ r = 27) (hK : sK c e a = K) (hK4 : 4 ≤ K ∧ K ≤ 7) (h : TT c e m a i j) (hR : RD r N L S E D i j) : JN Reader_eventLine Mo_eventLine (qLc r) qLr i j l l2 s r p s2 r2 p2 (PO c e m a r) := by
  obtain ⟨gn1, gn2, gn3, gn4⟩ := gN_r hr
  have h9 := (TT_K h).1
  have hk9 := (TT_K h).2.2.2.2.1
  rw [hK] at h9 hk9
  have w9 : j 82 9 = nI K := by
    rw [(hk9 (by omega)).2]
    unfold sw
    rw [if_neg (by omega), if_neg (by omega)]
  apply JJ_JN
  have h16 := hR.2.2.2.1.1
  have h7 := hR.1.1
  have h8 := hR.2.1.1
  rw [Reader_eventLine_eq _ _ _ _ _ hr, hR.2.2.2.1.2.1, h9]
  by_cases hE16 : E = 16
  · subst hE16
    refine JJ_no (w := nI 2) (TT_10 h) ?_ ?_
    · rw [room_f (by omega), crI_t]; exact if0 _
    · rw [Mo_eventLine_eq, hR.2.2.2.1.2.2.1, ifc_t rfl, rwrong, crI_t, gd_0]
  · have h' : TT c e m a i (u2 j 93 (16 + E) (nI K)) := ⟨h.1, RT_u h.2 (by omega)⟩
    have R0 : RD r N L S E D i (u2 j 93 (16 + E) (nI K)) := by
      refine RD_4 hR (A4_fr hR.2.2.2.1 rfl (fun _ _ _ _ _ => rfl) (u2_i (by omega)) (fun x k y1 y2 y3 => ?_)) (fun _ _ _ => rfl) (fun x k y => u2_i (by omega))
      by_cases hx : x = 93
      · subst hx; exact u2_k (by omega)
      · exact u2_i hx
    obtain ⟨i1, j1, f1, g1, f2, g2, t1⟩ := step_j (l := l) (l2 := l2) (s := s) (r := r) (p := p) (s2 := s2) (r2 := r2) (p2 := p2) h'
    have R1 := RD_fr R0 f2 g2 (kC_P hr) kR_Q
    have e93 : j1 93 (16 + E) = nI K := (g2 93 (16 + E) (by unfold qQ; simp)).trans (u2_s _ _ _ _)
    rw [room_t (by omega) (by omega) f1, crI_t, ifc_10, ifc_eq (by omega) (by omega), ifc_eq (by omega) (by omega), Mo_eventLine_eq, hR.2.2.2.1.2.2.1, ifc_eq (by omega) (by omega), if_neg hE16, nI_add, gd_in (by omega) (by omega), nI_clamp (by omega), w9, g1, crV_t, gd_in (by omega) (by omega), gd_in (by omega) (by omega), e93]
    rw [ifc_eq (by omega) (by omega), ifc_eq (by omega) (by omega)]
    refine JJ_pre (qLc_P f2) (fr_trans (fr_u2 (by unfold qLr; simp)) (qLr_Q g2)) ?_
    by_cases h5 : K ≤ 5
    · have eC : (if K = 4 then Reader_eventLine_41 (nI K) (nI 1) (i1, l, Rp s r p) else if K = 5 then Reader_eventLine_41 (nI K) (nI 1) (i1, l, Rp s r p) else Reader_eventLine_41 (nI K) (nI 0) (i1, l, Rp s r p)) = Reader_eventLine_41 (nI K) (nI 1) (i1, l, Rp s r p) := by
        by_cases h4 : K = 4
        · rw [if_pos h4]
        · rw [if_neg h4, if_pos (by omega)]
      have eR : ∀ z, (if K = 4 then Mo_eventLine_57 (nI (16 + E)) (j1, l2, Rp s2 r2 p2) else if K = 5 then Mo_eventLine_57 (nI (16 + E)) (j1, l2, Rp s2 r2 p2) else z) = Mo_eventLine_57 (nI (16 + E)) (j1, l2, Rp s2 r2 p2) := fun z => by
        by_cases h4 : K = 4
        · rw [if_pos h4]
        · rw [if_neg h4, if_pos (by omega)]
      rw [eC, eR, Reader_eventLine_41_eq _ _ _ _ _ _ _ hr, ifc_10, Mo_eventLine_57_eq, R1.1.2.1, R1.1.2.2.1]
      refine JJ_I rfl rfl (JJ_P (old_j (o1 := r + 1) (o2 := 88) (bo := 7) (n := N) (by omega) (by omega) (by omega) (by omega) (by omega) (fun k hk => (R1.1.2.2.2 k hk).2.symm) t1)) (fun i2 j2 _ _ hp => ?_) (fun _ => if0 _) (fun _ => if0 _)
      obtain ⟨⟨t2, v, hv, e1, e2⟩, f3, g3⟩ := hp
      show JJ (ifc (nI 1 = 0) _ _) (ifc (nI 1 = 0) _ _) _ _ _ _ _ _ _ _ _ _ _
      rw [ifc_10, ifc_10]
      exact ev_tail hr (by omega) R1 (by omega) t2 hK4 (fun _ => hv) (fun x => by omega) (by omega) e1 e2 ((g3 93 (16 + E) (by unfold qQ; simp)).trans e93) (fun x k y2 y3 => f3 x k (by unfold qP; simp; omega)) (fun x k y1 y2 => g3 x k (by unfold qQ; simp; omega))
    · rw [if_neg (by omega), if_neg (by omega), if_neg (by omega), if_neg (by omega), Reader_eventLine_41_eq _ _ _ _ _ _ _ hr, ifc_00, Reader_oldLink_eq _ _ _ _ _ hr]
      have k1 := (TT_K t1).1
      have k2 := (TT_K t1).2.1
      have goN : (sK c e (a + 1) = 27 → ∀ v, i1 1 11 = nI v → v < 8 → v < L) → JJ (crI (Reader_oldLink_47 (i1, l, Rp s r p)) (i1, l, Rp s r p) (fun x_1 i_1 l_1 => ifc (x_1 = 0) (gd (isB (nI 0)) (some (some (.int (nI 0)), (i_1, l_1, Rp s r p)))) (Reader_eventLine_79 (nI K) (i_1, l_1, Rp s r p)))) (crI (Mo_number (nI 0) (nI 7) (j1, l2, Rp s2 r2 p2)) (j1, l2, Rp s2 r2 p2) (fun x_2 i_2 l_2 => ifc (x_2 = 0) (gd (isB (nI 0)) (some (some (.int (nI 0)), (i_2, l_2, Rp s2 r2 p2)))) (ifc ((i_2 82 11) < (i_2 82 19)) (Mo_eventLine_115 (nI (16 + E)) (i_2, l_2, Rp s2 r2 p2)) (crI (Mo_wrong (nI 4) ((u2 i_2 82 10 (j1 82 10)), l_2, Rp s2 r2 p2)) ((u2 i_2 82 10 (j1 82 10)), l_2, Rp s2 r2 p2) (fun x_3 i_3 l_3 => gd (isB x_3) (some (some (.int x_3), (i_3, l_3, Rp s2 r2 p2)))))))) i1 j1 l l2 s r p s2 r2 p2 (PO c e m a r) := by
        intro hcase
        have e47 : Reader_oldLink_47 (i1, l, Rp s r p) = Reader_number (nI 0) (nI 7) (i1, l, Rp s r p) := by
          obtain ⟨b, i2, j2, x1, _⟩ := num_j (l := l) (l2 := l2) (s := s) (r := r) (p := p) (s2 := s2) (r2 := r2) (p2 := p2) (lo := 0) (hi := 7) (by omega) (by omega) t1
          rw [Reader_oldLink_47_eq, x1, crI_t]
          cases b
          · exact gd_0 _
          · exact gd_1 _
        rw [e47]
        refine JJ_I rfl rfl (JJ_P (num_jx (by omega) (by omega) t1)) (fun i2 j2 _ _ hp => ?_) (fun _ => if0 _) (fun _ => if0 _)
        obtain ⟨⟨t2, v, _, hv, e1, e2, e3, e4⟩, f3, g3⟩ := hp
        have hvL := hcase e4 v e3 (by omega)
        show JJ (ifc (nI 1 = 0) _ _) (ifc (nI 1 = 0) _ _) _ _ _ _ _ _ _ _ _ _ _
        have c19 : j2 82 19 = nI L := (g3 82 19 (by unfold qQ; simp)).trans R1.2.1.2.2.1
        rw [ifc_10, ifc_10, e2, c19, ifc_lt (by omega) (by omega), if_pos hvL]
        exact ev_tail hr (by omega) R1 (by omega) t2 hK4 (fun x => by omega) (fun _ => hvL) (by omega) e1 e2 ((g3 93 (16 + E) (by unfold qQ; simp)).trans e93) (fun x k y2 y3 => f3 x k (by unfold qP; simp; omega)) (fun x k y1 y2 => g3 x k (by unfold qQ; simp; omega))
      rw [k1, ifc_eq (by omega) (by omega)]
      by_cases h27 : sK c e (a + 1) = 27
      · obtain ⟨v, v1, v2, v3⟩ := t1.1.2.2.2.2.2.1 h27
        obtain ⟨w, w1, w2, w3⟩ := t1.2.2.2.2.2.2.1 h27
        rw [if_pos h27, v2, R1.2.1.2.1, ifc_lt (by omega) (by omega), ifc_lt (by omega) (by omega)]
        by_cases h8v : v < 8
        · rw [if_pos h8v]
          by_cases hvL : v < L
          · rw [if_pos hvL]
            exact goN (fun _ v' hv' _ => by
              rw [v2] at hv'
              have := nI_inj (by omega) (by
                by_cases x : v' < 2 ^ 31
                · exact x
                · omega) hv'
              omega)
          · rw [if_neg hvL]
            have hw : w = v := by omega
            obtain ⟨j2, y1, y2, y3⟩ := rtok_ok (i := u2 j1 82 11 (nI w)) (l := l2) (s := s2) (r := r2) (p := p2) (RT_u t1.2 (by omega))
            have eN : Mo_number (nI 0) (nI 7) (j1, l2, Rp s2 r2 p2) = some (some (.int (nI 1)), (j2, l2, Rp s2 r2 p2)) := by
              rw [Mo_number_eq, ifc_if (kOk_27 (TT_K t1).2.2), if_pos h27, w2, Mo_isIn_eq, gd_0, gd_1, ifc_lt (by omega) (by omega), if_neg (by omega), ifc_lt (by omega) (by omega), if_neg (by omega), crI_t, ifc_10, w2, y1, crV_t, gd_1]
            have z11 : j2 82 11 = nI w := (y2 82 11 rfl).trans (u2_s _ _ _ _)
            have z19 : j2 82 19 = nI L := (y2 82 19 rfl).trans ((u2_k (by decide)).trans R1.2.1.2.2.1)
            rw [eN, crI_t, ifc_10, z11, z19, ifc_lt (by omega) (by omega), if_neg (by omega), rwrong, crI_t, gd_0, cfail, crI_t, gd_0, crI_t, ifc_00, gd_0]
            refine ⟨false, _, _, rfl, rfl, qLc_P fr_f, qLr_Q (fr_trans (fr_trans (fr_trans (fr_u2 rfl) (qQ_R y2)) (fr_u2 rfl)) fr_w), fun x => absurd x (by decide), fun _ => ?_⟩
            unfold NO
            simp (disch := decide) only [u2_s, u2_k, u2_i]
            exact ⟨trivial, TT_10 t1⟩
        · rw [if_neg h8v]
          exact goN (fun _ v' hv' h8' => by
            rw [v2] at hv'
            have := nI_inj (by omega) (by omega) hv'
            omega)
      · rw [if_neg h27]
        exact goN (fun x => absurd x h27)
end
end

section
/-! reading: links -/
section
variable {i j : Nat → Nat → Int32} {l l2 : Nat → Nat → Int64} {s r p s2 r2 p2 : Nat} {c : Nat → Nat} {e m a N L S E D : Nat}
theorem link_loop {i0 j0 : Nat → Nat → Int32} {cost : Nat} (hr : r = 7 ∨ r = 27) (R0 : RD r N L S E D i0 j0) (hL : L < 8) (hc : 1 ≤ cost ∧ cost ≤ 9) : ∀ d k o a1 (i1 j1 : Nat → Nat → Int32), k + d = 5 → k ≤ 4 → a ≤ a1 → (k ≤ 1 ∨ a < a1) → okM N o → TT c e m a1 i1 j1 → j1 89 (8 + L) = nI cost → j1 90 (8 + L) = o →
    (∀ x k, x ≠ 1 → (x = 23 → k = 5) → i1 x k = i0 x k) → (∀ x k, ¬ (x = 82 ∧ k < 12) → ¬ ((x = 89 ∨ x = 90) ∧ k = 8 + L) → j1 x k = j0 x k) →
    JJ (Reader_linkLine_37 (nI cost) o (nI k) (i1, l, Rp s r p)) (Mo_linkLine_58 (nI (8 + L)) (nI k) (j1, l2, Rp s2 r2 p2)) i1 j1 l l2 s r p s2 r2 p2 (PO c e m a r)
  | 0, k, o, a1, i1, j1, hd, hk, ha, ha', ho, t1, e89, e90, fi, gj => by omega
  | d + 1, k, o, a1, i1, j1, hd, hk, ha, ha', ho, t1, e89, e90, fi, gj => by
    obtain ⟨gn1, gn2, gn3, gn4⟩ := gN_r hr
    have h7 := R0.1.1
    obtain ⟨k1, k2, k3⟩ := TT_K t1
    have c12 : i1 r 12 = nI L := (fi r 12 (by omega) (by omega)).trans R0.2.1.2.1
    have c11 : i1 r 11 = nI N := (fi r 11 (by omega) (by omega)).trans R0.1.2.1
    have c18 : j1 82 18 = nI N := (gj 82 18 (by omega) (by omega)).trans R0.1.2.2.1
    have c19 : j1 82 19 = nI L := (gj 82 19 (by omega) (by omega)).trans R0.2.1.2.2.1
    have fin : 2 ≤ k → JJ (Reader_linkLine_85 (nI cost) o (i1, l, Rp s r p)) (gd (isB (nI 1)) (some (some (.int (nI 1)), ((u2 j1 82 19 ((j1 82 19) + (nI 1))), l2, Rp s2 r2 p2)))) i1 j1 l l2 s r p s2 r2 p2 (PO c e m a r) := fun h2k => by
      refine JJ_yes (i0 := u2 (u2 (u2 i1 (r + 2) L (nI cost)) (r + 3) L o) r 12 (nI (L + 1))) (j0 := u2 j1 82 19 (nI (L + 1))) ?_ ?_ (fr_trans (fr_trans (fr_qLc (by omega)) (fr_qLc (by omega))) (fr_qLc (by omega))) (fr_u2 (by decide)) ?_
      · rw [Reader_linkLine_85_eq _ _ _ _ _ _ _ hr, c12, gd_in hL (by omega), gd_in hL (by omega), gd_1, nI_clamp (by omega), nI_add]
      · rw [gd_1, c19, nI_add]
      · refine ⟨a1, N, L + 1, S, E, D, by omega, ⟨CT_u (CT_u (CT_u t1.1 (by omega)) (by omega)) (by omega), RT_u t1.2 (by omega)⟩, ?_⟩
        have fi2 : ∀ x k, ¬ ((x = r + 2 ∨ x = r + 3) ∧ k = L) → ¬ (x = r ∧ k = 12) → x ≠ 1 → (x = 23 → k = 5) → u2 (u2 (u2 i1 (r + 2) L (nI cost)) (r + 3) L o) r 12 (nI (L + 1)) x k = i0 x k := fun x k y1 y2 y4 y5 => by
          rw [← fi x k y4 y5]
          unfold u2
          repeat' split
          all_goals first | rfl | omega
        have gj2 : ∀ x k, ¬ (x = 82 ∧ (k < 12 ∨ k = 19)) → ¬ ((x = 89 ∨ x = 90) ∧ k = 8 + L) → u2 j1 82 19 (nI (L + 1)) x k = j0 x k := fun x k y1 y2 => by
          rw [← gj x k (by omega) y2]
          unfold u2
          repeat' split
          all_goals first | rfl | omega
        refine RD_2 R0 (by omega) ⟨by omega, u2_s _ _ _ _, u2_s _ _ _ _, RW_up R0.2.1.2.2.2.1 (v := nI cost) ?_ ?_ ⟨cost, hc.1, hc.2, rfl⟩ ?_ ?_, RW_up R0.2.1.2.2.2.2 (v := o) ?_ ?_ ho ?_ ?_⟩ (fun a k hk => fi2 _ _ (by omega) (by omega) (by omega) (by omega)) (fun a k hk => gj2 _ _ (by omega) (by omega))
        · exact fun k hk => fi2 _ _ (by omega) (by omega) (by omega) (by omega)
        · exact fun k hk => gj2 _ _ (by omega) (by omega)
        · rw [u2_i (by omega), u2_i (by omega), u2_s]
        · rw [u2_i (by omega)]; exact e89
        · exact fun k hk => fi2 _ _ (by omega) (by omega) (by omega) (by omega)
        · exact fun k hk => gj2 _ _ (by omega) (by omega)
        · rw [u2_i (by omega), u2_s]
        · rw [u2_i (by omega)]; exact e90
    have go : JJ (Reader_linkLine_59 (nI cost) o (nI k) (i1, l, Rp s r p)) (Mo_linkLine_71 (nI (8 + L)) (nI k) (j1, l2, Rp s2 r2 p2)) i1 j1 l l2 s r p s2 r2 p2 (PO c e m a r) := by
      rw [Reader_linkLine_59_eq, Mo_linkLine_71_eq, Reader_member_eq _ _ _ _ _ _ _ hr, k1, ifc_eq (by omega) (by omega), ifc_if (kOk_26 k3)]
      by_cases hK : sK c e a1 = 26
      · rw [if_pos hK, if_pos hK, ifc_lt (by omega) (by omega), ifc_eq (by omega) (by omega)]
        by_cases h4 : k = 4
        · rw [if_neg (by omega), if_pos h4]
          refine JJ_no (w := nI 2) (TT_10 t1) ?_ ?_
          · rw [cfail, crI_t, gd_0, crI_t]; exact if0 _
          · rw [rwrong, crI_t, gd_0]
        · rw [if_pos (by omega), if_neg h4, Mo_linkLine_95_eq, c11, c18, Mo_thereIn_eq _ _ _ _ _ _ _ _ (Or.inl rfl), ifc_if (kOk_26 k3), if_pos hK]
          have v2 := t1.1.2.2.2.2.1 hK
          have w2 := t1.2.2.2.2.2.1 hK
          rw [v2, w2, cfind_ok (by omega) (by omega), rfind_ok (Or.inl rfl) (by omega), crI_t, crI_t, ← fnd_cg (f := i1 (r + 1)) (g := fun k => j1 88 (7 + k)) N 0 (fun k _ hk => by
            show i1 (r + 1) k = j1 88 (7 + k)
            rw [fi _ _ (by omega) (by omega), gj _ _ (by omega) (by omega)]
            exact (R0.1.2.2.2 k (by omega)).2.symm)]
          generalize hg : fnd (i1 (r + 1)) (nI (tV c e (sA c e a1))) N 0 = f
          have hq : ∀ q, f = some q → q < N := fun q x => by
            have := fnd_lt N 0 q (hg.trans x)
            omega
          rw [fnv_neg (fun q x => by have := hq q x; omega), fnv_neg (fun q x => by have := hq q x; omega)]
          cases f with
          | none =>
            rw [if_pos rfl, if_pos rfl]
            simp only [cfail, rwrong, crI_t, ifc_00, gd_0]
            refine ⟨false, _, _, rfl, rfl, qLc_P (fr_trans (fr_u2 rfl) fr_f), qLr_Q fr_w, fun x => absurd x (by decide), fun _ => ?_⟩
            unfold NO
            simp (disch := decide) only [u2_s, u2_k, u2_i]
            exact ⟨trivial, TT_10 t1⟩
          | some q =>
            have hqN := hq q rfl
            rw [if_neg (by simp), if_neg (by simp), show fnv (some q) = nI q from rfl, ifc_bit _ (by omega)]
            obtain ⟨i', f1, f2, f3⟩ := step_ok (i := u2 i1 23 6 (nI q)) (l := l) (s := s) (r := r) (p := p) (CT_u t1.1 (by omega))
            obtain ⟨j', g1, g2, g3⟩ := rtok_ok (i := j1) (l := l2) (s := s2) (r := r2) (p := p2) t1.2
            have e90' : u2 j' 82 11 (nI q) 90 (8 + L) = o := (u2_i (by omega)).trans ((g2 90 (8 + L) (by unfold qRt; simp)).trans e90)
            rw [g1, crV_t, gd_1, crI_t, ifc_10, gd_in (by omega) (by omega), nI_clamp (by omega), e90', u2_s, isOf_ok _ (by omega), crI_t]
            by_cases hb : bt o q = true
            · rw [if_pos hb, hb, cfail, crI_t, gd_0, crI_t, ifc_00, gd_0, ifc_f (show ¬ nI true.toNat = 0 by decide), rwrong, crI_t, gd_0]
              refine ⟨false, _, _, rfl, rfl, qLc_P (fr_trans (fr_u2 rfl) fr_f), qLr_Q (fr_trans (fr_trans (fr_trans (qQ_R g2) (fr_u2 rfl)) (fr_u2 rfl)) fr_w), fun x => absurd x (by decide), fun _ => ?_⟩
              unfold NO
              simp (disch := decide) only [u2_s, u2_k, u2_i]
              exact ⟨trivial, TT_10 t1⟩
            · have hb' : bt o q = false := by simpa using hb
              rw [if_neg hb, hb', f1, crI_t, gd_1, crI_t, ifc_10, ifc_t (show nI false.toNat = 0 from rfl), gd_in (by omega) (by omega), gd_in (by omega) (by omega), e90', u2_s, nI_add, f2 23 6 rfl, u2_s]
              refine JJ_pre (qLc_P (fr_trans (fr_u2 rfl) (qP_S f2))) (fr_trans (qLr_Q (fr_trans (qQ_R g2) (fr_u2 rfl))) (fr_u2 (by unfold qLr; simp))) (link_loop hr R0 hL hc d (k + 1) _ (a1 + 1) _ _ (by omega) (by omega) (by omega) (by omega) ?_ ⟨f3, RT_u (RT_u g3 (by omega)) (by omega)⟩ ?_ (u2_s _ _ _ _) ?_ ?_)
              · intro x hx
                by_cases hx3 : x < 32
                · rw [b_or, bt_mask (by omega) hx3] at hx
                  by_cases hxq : x = q
                  · omega
                  · rw [show decide (x = q) = false by simp [hxq], Bool.or_false] at hx
                    exact ho x hx
                · rw [b_big (by omega)] at hx
                  exact absurd hx (by decide)
              · rw [u2_i (by omega), u2_i (by omega), g2 89 (8 + L) (by unfold qRt; simp)]; exact e89
              · intro x k y2 y3
                exact (f2 x k (by unfold qSt; simp; omega)).trans (by
                  rw [← fi x k y2 y3]
                  unfold u2
                  repeat' split
                  all_goals first | rfl | omega)
              · intro x k y1 y2
                rw [← gj x k y1 y2, ← g2 x k (by unfold qRt; simp; omega)]
                unfold u2
                repeat' split
                all_goals first | rfl | omega
      · rw [if_neg hK, if_neg hK]
        refine JJ_no (w := nI 1) (TT_10 t1) ?_ ?_
        · rw [cfail, crI_t, gd_0, crI_t]; exact if0 _
        · rw [Mo_linkLine_95_eq, Mo_thereIn_eq _ _ _ _ _ _ _ _ (Or.inl rfl), ifc_if (kOk_26 k3), if_neg hK, rwrong, crI_t, gd_0, crI_t]; exact if0 _
    rw [Reader_linkLine_37_eq, Mo_linkLine_58_eq, ifc_lt (by omega) (by omega), if_neg (by omega), ifc_lt (by omega) (by omega), ifc_lt (by omega) (by omega), k1, ifc_eq (by omega) (by omega), ifc_if (kOk_26 k3)]
    by_cases h2 : k < 2
    · rw [if_pos h2, if_pos h2]; exact go
    · rw [if_neg h2, if_neg h2]
      by_cases hK : sK c e a1 = 26
      · rw [if_pos hK, if_pos hK]; exact go
      · rw [if_neg hK, if_neg hK]; exact fin (by omega)
theorem link_j (hr : r = 7 ∨ r = 27) (h : TT c e m a i j) (hR : RD r N L S E D i j) : JN Reader_linkLine Mo_linkLine (qLc r) qLr i j l l2 s r p s2 r2 p2 (PO c e m a r) := by
  apply JJ_JN
  have h8 := hR.2.1.1
  rw [Reader_linkLine_eq _ _ _ _ _ hr, hR.2.1.2.1]
  refine JJ_room h8 (by omega) h rfl (fun _ => if0 _) (fun hS => ?_) (fun hS i1 j1 g1 f2 g2 t1 => ?_)
  · rw [Mo_linkLine_eq, hR.2.1.2.2.1, hS, ifc_t rfl, rwrong, crI_t, gd_0]
  · have R1 := RD_fr hR f2 g2 (kC_P hr) kR_Q
    rw [Mo_linkLine_eq, hR.2.1.2.2.1, ifc_eq (by omega) (by omega), if_neg (by omega), g1, crV_t]
    show JJ (ifc (nI 1 = 0) _ _) _ _ _ _ _ _ _ _ _ _ _ _
    rw [ifc_10]
    refine JJ_I rfl rfl (JJ_P (num_j (by omega) (by omega) t1)) (fun i2 j2 _ _ hp => ?_) (fun _ => if0 _) (fun _ => if0 _)
    obtain ⟨⟨t2, v, hv1, hv2, e1, e2⟩, f3, g3⟩ := hp
    have c19 : j2 82 19 = nI L := (g3 82 19 (by unfold qQ; simp)).trans R1.2.1.2.2.1
    show JJ (ifc (nI 1 = 0) _ _) (ifc (nI 1 = 0) _ _) _ _ _ _ _ _ _ _ _ _ _
    rw [ifc_10, ifc_10, c19, nI_add, gd_in (by omega) (by omega), gd_in (by omega) (by omega), nI_clamp (by omega), e1, e2]
    refine JJ_pre (fr_refl _ _) (fr_trans (fr_u2 (by unfold qLr; simp)) (fr_u2 (by unfold qLr; simp))) (link_loop hr R1 hS ⟨hv1, hv2⟩ 5 0 (nI 0) (a + 1 + 1) i2 _ (by omega) (by omega) (by omega) (by omega) ?_ ⟨t2.1, RT_u (RT_u t2.2 (by omega)) (by omega)⟩ ?_ (u2_s _ _ _ _) ?_ ?_)
    · intro x hx
      rw [show nI 0 = 0 from rfl, b_0] at hx
      exact absurd hx (by decide)
    · rw [u2_i (by omega), u2_s]
    · exact fun x k y2 y3 => f3 x k (by unfold qP; simp; omega)
    · intro x k y1 y2
      rw [← g3 x k (by unfold qQ; simp; omega)]
      unfold u2
      repeat' split
      all_goals first | rfl | omega
end
end
