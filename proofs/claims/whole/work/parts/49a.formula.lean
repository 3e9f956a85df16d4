section
/-! formulas: the signs that wait, on both sides -/
def rk (k : Nat) : Nat := if k = 16 then 1 else if k = 17 then 2 else if k = 18 then 3 else if 35 ≤ k ∧ k ≤ 40 then 4 else if k = 31 ∨ k = 32 then 5 else if k = 33 ∨ k = 34 then 6 else 0
def wm (k : Nat) : Nat := if k = 29 then 0 else if k = 18 then 2 else km k
def okw (k : Nat) : Prop := k = 29 ∨ k = 18 ∨ okj k
def WC : List Nat → (Nat → Int32) → (Nat → Int32) → Prop
  | [], _, _ => True
  | k :: W, f, g => f W.length = nI k ∧ g W.length = nI (rk k) ∧ WC W f g
def WR : List Nat → (Nat → Int32) → Prop
  | [], _ => True
  | k :: W, f => f W.length = nI (wm k) ∧ WR W f
def HR : List Nat → (Nat → Int32) → Prop
  | [], _ => True
  | x :: X, f => f X.length = nI x ∧ HR X f
theorem WC_fr {f g f' g' : Nat → Int32} : ∀ (W : List Nat), (∀ k, k < W.length → f' k = f k ∧ g' k = g k) → WC W f g → WC W f' g'
  | [], _, _ => trivial
  | k :: W, h, x => by
    have hl : (k :: W).length = W.length + 1 := rfl
    exact ⟨(h _ (by omega)).1.trans x.1, (h _ (by omega)).2.trans x.2.1, WC_fr W (fun q hq => h q (by omega)) x.2.2⟩
theorem WR_fr {f f' : Nat → Int32} : ∀ (W : List Nat), (∀ k, k < W.length → f' k = f k) → WR W f → WR W f'
  | [], _, _ => trivial
  | k :: W, h, x => by
    have hl : (k :: W).length = W.length + 1 := rfl
    exact ⟨(h _ (by omega)).trans x.1, WR_fr W (fun q hq => h q (by omega)) x.2⟩
theorem HR_fr {f f' : Nat → Int32} : ∀ (W : List Nat), (∀ k, k < W.length → f' k = f k) → HR W f → HR W f'
  | [], _, _ => trivial
  | k :: W, h, x => by
    have hl : (k :: W).length = W.length + 1 := rfl
    exact ⟨(h _ (by omega)).trans x.1, HR_fr W (fun q hq => h q (by omega)) x.2⟩
def nO : List Nat → Nat
  | [] => 0
  | k :: W => nO W + (if k = 29 then 1 else 0)
def nBi : List Nat → Nat
  | [] => 0
  | k :: W => nBi W + (if k = 29 ∨ k = 18 then 0 else 1)
def tpr : List Nat → Nat
  | [] => 0
  | k :: _ => rk k
/-- the row so far is well made -/
def lwp (kd : Nat → Nat) (b n : Nat) : Prop := ∀ j, j < n → okk (kd (b + j)) ∧ (kd (b + j) = 18 → 1 ≤ (ixs kd b j).length) ∧ (okj (kd (b + j)) → 2 ≤ (ixs kd b j).length)
theorem ixs_cg {kd kd' : Nat → Nat} {b : Nat} : ∀ n, (∀ q, q < n → kd' (b + q) = kd (b + q)) → ixs kd' b n = ixs kd b n
  | 0, _ => rfl
  | n + 1, h => by
    unfold ixs
    rw [h n (by omega), ixs_cg n (fun q hq => h q (by omega))]
theorem lwp_cg {kd kd' : Nat → Nat} {b n : Nat} (h : ∀ q, q < n → kd' (b + q) = kd (b + q)) (x : lwp kd b n) : lwp kd' b n := fun j hj => by
  rw [h j hj, ixs_cg j (fun q hq => h q (by omega))]
  exact x j hj
theorem knr_cg {i : Nat → Nat → Int32} {kd kd' nm nm' : Nat → Nat} {b n : Nat} (h : ∀ q, q < n → kd' (b + q) = kd (b + q)) (h' : ∀ q, q < n → nm' (b + q) = nm (b + q)) (x : knr i kd nm b n) : knr i kd' nm' b n := fun j hj => by
  rw [h j hj, h' j hj, ixs_cg j (fun q hq => h q (by omega))]
  exact x j hj
/-- the component in a formula -/
def FC (kd nm : Nat → Nat) (sz kn : Nat) (W : List Nat) (r : Nat) (i : Nat → Nat → Int32) : Prop := i (r + 11) 4 = nI kn ∧ i (r + 11) 5 = nI sz ∧ (∀ k, k < sz → nm k < 2 ^ 31 ∧ i (r + 12) k = nI (kd k) ∧ i (r + 13) k = nI (nm k)) ∧ i 23 4 = nI W.length ∧ WC W (i 24) (i 25)
/-- the reference in a formula -/
def FR (kd nm : Nat → Nat) (b sz kn op : Nat) (W : List Nat) (due mn : Bool) (j : Nat → Nat → Int32) : Prop := j 82 48 = nI kn ∧ j 82 23 = nI sz ∧ knr (knd j) kd nm b (sz - b) ∧ j 82 45 = nI W.length ∧ WR W (j 104) ∧ j 82 46 = nI (ixs kd b (sz - b)).length ∧ HR (ixs kd b (sz - b)) (j 105) ∧ j 82 47 = nI op ∧ j 82 49 = nI due.toNat ∧ j 82 50 = nI mn.toNat
/-- and what holds of it -/
def FP (kd : Nat → Nat) (b sz kn op : Nat) (W : List Nat) (due : Bool) : Prop := b ≤ sz ∧ kn ≤ 64 ∧ op ≤ 8 ∧ nO W = op ∧ sz + W.length = kn + op ∧ (∀ k ∈ W, okw k) ∧ (ixs kd b (sz - b)).length = nBi W + (if due = true then 0 else 1) ∧ lwp kd b (sz - b)
theorem nOB (W : List Nat) : nO W ≤ W.length ∧ nBi W ≤ W.length := by
  induction W with
  | nil => exact ⟨Nat.le_refl _, Nat.le_refl _⟩
  | cons k W ih =>
    have hl : (k :: W).length = W.length + 1 := rfl
    unfold nO nBi
    constructor <;> split <;> omega
theorem FP_sz {kd : Nat → Nat} {b sz kn op : Nat} {W : List Nat} {due : Bool} (h : FP kd b sz kn op W due) : W.length ≤ 72 ∧ sz ≤ 64 := by
  obtain ⟨h1, h2, h3, h4, h5, _⟩ := h
  have := nOB W
  omega
theorem rk_le (k : Nat) : rk k ≤ 6 := by
  unfold rk
  repeat' split
  all_goals omega
section
variable {i j : Nat → Nat → Int32} {l l2 : Nat → Nat → Int64} {s r p s2 r2 p2 : Nat}
theorem rstand_ok {k : Nat} (h : okw k) : Mo_standing (nI (wm k)) (j, l, Rp s r p) = some (some (.int (nI (rk k))), (j, l, Rp s r p)) := by
  unfold okw okj at h
  have hk : k = 29 ∨ k = 18 ∨ k = 16 ∨ k = 17 ∨ k = 31 ∨ k = 32 ∨ k = 33 ∨ k = 34 ∨ k = 35 ∨ k = 36 ∨ k = 37 ∨ k = 38 ∨ k = 39 ∨ k = 40 := by omega
  rw [Mo_standing_eq]
  rcases hk with rfl | rfl | rfl | rfl | rfl | rfl | rfl | rfl | rfl | rfl | rfl | rfl | rfl | rfl <;> simp (decide := true) only [wm, km, rk, if_true, if_false, ifc_t, ifc_f] <;> rfl
theorem crank_ok {k : Nat} (h : k ≤ 42) : Reader_rank (nI k) (i, l, Rp s r p) = some (some (.int (nI (rk k))), (i, l, Rp s r p)) := by
  have key : ∀ q, q < 2 ^ 31 → (nI k = nI q) = (k = q) := fun q hq => propext (nI_eq (by omega) hq)
  rw [Reader_rank_eq]
  simp only [key 16 (by omega), key 17 (by omega), key 18 (by omega), key 19 (by omega), key 20 (by omega), key 21 (by omega), key 22 (by omega), key 23 (by omega), key 24 (by omega), key 25 (by omega), key 26 (by omega), key 27 (by omega), key 28 (by omega), key 29 (by omega), key 30 (by omega), key 31 (by omega), key 32 (by omega), key 33 (by omega), key 34 (by omega), key 35 (by omega), key 36 (by omega), key 37 (by omega), key 38 (by omega), key 39 (by omega), key 40 (by omega), ifc_n, Reader_rank_129_eq]
  unfold rk
  by_cases h0 : k < 16
  · simp (disch := omega) only [if_neg]
  · have hk : k = 16 ∨ k = 17 ∨ k = 18 ∨ k = 19 ∨ k = 20 ∨ k = 21 ∨ k = 22 ∨ k = 23 ∨ k = 24 ∨ k = 25 ∨ k = 26 ∨ k = 27 ∨ k = 28 ∨ k = 29 ∨ k = 30 ∨ k = 31 ∨ k = 32 ∨ k = 33 ∨ k = 34 ∨ k = 35 ∨ k = 36 ∨ k = 37 ∨ k = 38 ∨ k = 39 ∨ k = 40 ∨ k = 41 ∨ k = 42 := by omega
    rcases hk with rfl | rfl | rfl | rfl | rfl | rfl | rfl | rfl | rfl | rfl | rfl | rfl | rfl | rfl | rfl | rfl | rfl | rfl | rfl | rfl | rfl | rfl | rfl | rfl | rfl | rfl | rfl <;> rfl
end
end

section
/-! formulas: signs that are written out -/
def qRl (r a k : Nat) : Bool := (a == r + 11 && k == 5) || a == r + 12 || a == r + 13 || (a == 23 && k == 4)
def qRm (a k : Nat) : Bool := (a == 82 && (k == 23 || k == 45 || k == 46)) || ((a == 101 || a == 102 || a == 103) && decide (64 ≤ k)) || a == 105
def ecm (r : Nat) (i : Nat → Nat → Int32) (sz k v : Nat) : Nat → Nat → Int32 := u2 (u2 (u2 i (r + 12) sz (nI k)) (r + 13) sz (nI v)) (r + 11) 5 (nI (sz + 1))
def grw (j : Nat → Nat → Int32) (sz hl : Nat) (x1 x2 x3 : Int32) : Nat → Nat → Int32 := u2 (u2 (u2 (u2 (u2 (u2 j 101 (64 + sz) x1) 102 (64 + sz) x2) 103 (64 + sz) x3) 105 hl (nI sz)) 82 46 (nI (hl + 1))) 82 23 (nI (sz + 1))
theorem u2_o {f : Nat → Nat → Int32} {a k c q : Nat} {x : Int32} (h : ¬ (c = a ∧ q = k)) : u2 f a k x c q = f c q := by
  unfold u2
  split
  · split
    · omega
    · rfl
  · rfl
section
variable {i j : Nat → Nat → Int32} {l l2 : Nat → Nat → Int64} {s r p s2 r2 p2 : Nat} {kd nm : Nat → Nat} {b sz kn op : Nat} {W : List Nat}
theorem emit_ok {k v : Nat} (hr : r = 7 ∨ r = 27) (h5 : i (r + 11) 5 = nI sz) (hs : sz < 64) : Laws_emit (r + 11) (nI k) (nI v) (i, l, Rp s r p) = some (none, (ecm r i sz k v, l, Rp s r p)) := by
  rw [Laws_emit_eq _ _ _ _ _ _ _ _ (by omega), h5, ifc_lt (by omega) (by omega), if_pos hs, gd_in hs (by omega), gd_in hs (by omega), nI_clamp (by omega), nI_add]
  rfl
theorem grown_ok {hl : Nat} {x1 x2 x3 : Int32} (h23 : j 82 23 = nI sz) (h46 : j 82 46 = nI hl) (hs : sz < 64) (hh : hl < 96) : Mo_grown x1 x2 x3 (j, l, Rp s r p) = some (none, (grw j sz hl x1 x2 x3, l, Rp s r p)) := by
  rw [Mo_grown_eq, h23, h46, nI_add, gd_in (by omega) (by omega), gd_in (by omega) (by omega), gd_in (by omega) (by omega), gd_in (by omega) (by omega), nI_clamp (by omega), nI_clamp (by omega), nI_add, nI_add]
  rfl
theorem ecm_fr (hr : r = 7 ∨ r = 27) {k v : Nat} : fr (qRl r) i (ecm r i sz k v) := by
  unfold ecm
  exact fr_trans (fr_trans (fr_u2 (by unfold qRl; simp)) (fr_u2 (by unfold qRl; simp))) (fr_u2 (by unfold qRl; simp))
theorem grw_fr {hl : Nat} {x1 x2 x3 : Int32} : fr qRm j (grw j sz hl x1 x2 x3) := by
  unfold grw
  exact fr_trans (fr_trans (fr_trans (fr_trans (fr_trans (fr_u2 (by unfold qRm; simp)) (fr_u2 (by unfold qRm; simp))) (fr_u2 (by unfold qRm; simp))) (fr_u2 (by unfold qRm; simp))) (fr_u2 (by decide))) (fr_u2 (by decide))
theorem ecm_o {k v a q : Nat} (h : ¬ (a = r + 11 ∧ q = 5)) (h1 : ¬ ((a = r + 12 ∨ a = r + 13) ∧ q = sz)) : ecm r i sz k v a q = i a q := by
  unfold ecm u2
  repeat' split
  all_goals first | rfl | omega
theorem grw_o {hl a q : Nat} {x1 x2 x3 : Int32} (h : ¬ (a = 82 ∧ (q = 46 ∨ q = 23))) (h1 : ¬ (101 ≤ a ∧ a ≤ 103 ∧ q = 64 + sz)) (h2 : ¬ (a = 105 ∧ q = hl)) : grw j sz hl x1 x2 x3 a q = j a q := by
  unfold grw
  rw [u2_o (by omega), u2_o (by omega), u2_o (by omega), u2_o (by omega), u2_o (by omega), u2_o (by omega)]
theorem updN_s (f : Nat → Nat) (k x : Nat) : updN f k x k = x := if_pos rfl
theorem updN_o (f : Nat → Nat) {k x q : Nat} (h : q ≠ k) : updN f k x q = f q := if_neg h
/-- the component writes a knot out -/
theorem FC_e {k v : Nat} (hr : r = 7 ∨ r = 27) (h : FC kd nm sz kn W r i) (hv : v < 2 ^ 31) : FC (updN kd sz k) (updN nm sz v) (sz + 1) kn W r (ecm r i sz k v) := by
  obtain ⟨h1, h2, h3, h4, h5⟩ := h
  refine ⟨(ecm_o (by omega) (by omega)).trans h1, u2_s _ _ _ _, fun q hq => ?_, (ecm_o (by omega) (by omega)).trans h4, WC_fr W (fun q _ => ⟨ecm_o (by omega) (by omega), ecm_o (by omega) (by omega)⟩) h5⟩
  by_cases hqs : q = sz
  · subst hqs
    rw [updN_s, updN_s]
    refine ⟨hv, ?_, ?_⟩
    · unfold ecm; rw [u2_i (by omega), u2_i (by omega), u2_s]
    · unfold ecm; rw [u2_i (by omega), u2_s]
  · rw [updN_o _ hqs, updN_o _ hqs, ecm_o (by omega) (by omega), ecm_o (by omega) (by omega)]
    exact h3 q (by omega)
/-- what stays of the stack's places below a knot of this kind -/
def x0 (k : Nat) (X : List Nat) : List Nat := if k = 27 ∨ (19 ≤ k ∧ k ≤ 25) then X else if k = 18 then X.tail else X.tail.tail
theorem ixs_e {k : Nat} (hb : b ≤ sz) : ixs (updN kd sz k) b (sz + 1 - b) = sz :: x0 k (ixs kd b (sz - b)) := by
  rw [show sz + 1 - b = (sz - b) + 1 by omega]
  conv => lhs; unfold ixs
  rw [show b + (sz - b) = sz by omega, updN_s, ixs_cg (kd := kd) (sz - b) (fun q hq => updN_o _ (by omega))]
  rfl
theorem HR_t {f : Nat → Int32} : ∀ {X : List Nat}, HR X f → HR X.tail f
  | [], h => h
  | _ :: _, h => h.2
theorem HR_x0 {k : Nat} {X : List Nat} {f : Nat → Int32} (h : HR X f) : HR (x0 k X) f := by
  unfold x0
  split
  · exact h
  · split
    · exact HR_t h
    · exact HR_t (HR_t h)
/-- the reference's knot of the same -/
def kx (k v : Nat) (X : List Nat) (x1 x2 x3 : Int32) : Prop := (k = 27 → x1 = nI 0 ∧ x2 = nI v) ∧ (19 ≤ k ∧ k ≤ 25 → x1 = nI 1 ∧ x2 = nI (k - 19)) ∧ (k = 18 → x1 = nI 2 ∧ x2 = nI (X.headD 0)) ∧ (okj k → x1 = nI (km k) ∧ x3 = nI (X.headD 0) ∧ x2 = nI (X.tail.headD 0))
theorem FR_e {k v : Nat} {x1 x2 x3 : Int32} {due due' mn mn' : Bool} {j0 : Nat → Nat → Int32} {W0 : List Nat} (h : FR kd nm b sz kn op W due mn j) (hb : b ≤ sz) (hs : sz < 64) (hx : kx k v (ixs kd b (sz - b)) x1 x2 x3)
    (h82 : ∀ q, q = 47 ∨ q = 48 → j0 82 q = j 82 q) (h49 : j0 82 49 = nI due'.toNat) (h50 : j0 82 50 = nI mn'.toNat) (h45 : j0 82 45 = nI W0.length) (hW : WR W0 (j0 104)) (hr : ∀ a q, 101 ≤ a → a ≤ 103 → j0 a q = j a q) (h105 : j0 105 = j 105) :
    FR (updN kd sz k) (updN nm sz v) b (sz + 1) kn op W0 due' mn' (grw j0 sz (x0 k (ixs kd b (sz - b))).length x1 x2 x3) := by
  obtain ⟨g1, g2, g3, g4, g5, g6, g7, g8, g9, g10⟩ := h
  have o : ∀ q, q ≠ 46 → q ≠ 23 → grw j0 sz (x0 k (ixs kd b (sz - b))).length x1 x2 x3 82 q = j0 82 q := fun q y z => grw_o (by omega) (by omega) (by omega)
  refine ⟨?_, u2_s _ _ _ _, ?_, ?_, WR_fr W0 (fun q _ => grw_o (by omega) (by omega) (by omega)) hW, ?_, ?_, ?_, ?_, ?_⟩
  · rw [o 48 (by omega) (by omega), h82 48 (by omega)]; exact g1
  · intro q hq
    by_cases hqs : q = sz - b
    · subst hqs
      rw [show b + (sz - b) = sz by omega, updN_s, updN_s, ixs_cg (kd := kd) (sz - b) (fun q hq => updN_o _ (by omega))]
      have e1 : knd (grw j0 sz (x0 k (ixs kd b (sz - b))).length x1 x2 x3) 101 sz = x1 := by
        unfold knd grw; simp (disch := omega) only [u2_s, u2_i]
      have e2 : knd (grw j0 sz (x0 k (ixs kd b (sz - b))).length x1 x2 x3) 102 sz = x2 := by
        unfold knd grw; simp (disch := omega) only [u2_s, u2_i]
      have e3 : knd (grw j0 sz (x0 k (ixs kd b (sz - b))).length x1 x2 x3) 103 sz = x3 := by
        unfold knd grw; simp (disch := omega) only [u2_s, u2_i]
      rw [e1, e2, e3]
      exact hx
    · have e : ∀ a, 101 ≤ a → a ≤ 103 → knd (grw j0 sz (x0 k (ixs kd b (sz - b))).length x1 x2 x3) a (b + q) = knd j a (b + q) := fun a y z => (grw_o (by omega) (by omega) (by omega)).trans (hr a _ y z)
      rw [e 101 (by omega) (by omega), e 102 (by omega) (by omega), e 103 (by omega) (by omega), updN_o _ (by omega), updN_o _ (by omega), ixs_cg (kd := kd) q (fun q' hq' => updN_o _ (by omega))]
      exact g3 q (by omega)
  · rw [o 45 (by omega) (by omega)]; exact h45
  · rw [ixs_e hb]
    unfold grw
    rw [u2_k (by decide), u2_s]
    rfl
  · rw [ixs_e hb]
    refine ⟨?_, HR_fr _ (fun q hq => ?_) (HR_x0 g7)⟩
    · unfold grw
      rw [u2_i (by omega), u2_i (by omega), u2_s]
    · rw [grw_o (by omega) (by omega) (by omega), h105]
  · rw [o 47 (by omega) (by omega), h82 47 (by omega)]; exact g8
  · rw [o 49 (by omega) (by omega)]; exact h49
  · rw [o 50 (by omega) (by omega)]; exact h50
end
end

section
/-! formulas: release and bind -/
section
variable {i j : Nat → Nat → Int32} {l l2 : Nat → Nat → Int64} {s r p s2 r2 p2 : Nat} {kd nm : Nat → Nat} {b sz kn op : Nat} {W : List Nat}
theorem lwp_e {k : Nat} (hb : b ≤ sz) (h : lwp kd b (sz - b)) (h1 : okk k) (h2 : k = 18 → 1 ≤ (ixs kd b (sz - b)).length) (h3 : okj k → 2 ≤ (ixs kd b (sz - b)).length) : lwp (updN kd sz k) b (sz + 1 - b) := fun q hq => by
  by_cases hqs : q = sz - b
  · subst hqs
    rw [show b + (sz - b) = sz by omega, updN_s, ixs_cg (kd := kd) (sz - b) (fun q hq => updN_o _ (by omega))]
    exact ⟨h1, h2, h3⟩
  · rw [updN_o _ (by omega), ixs_cg (kd := kd) q (fun q' hq' => updN_o _ (by omega))]
    exact h q (by omega)
theorem FP_pop {k : Nat} (h : FP kd b sz kn op (k :: W) false) (hk : k ≠ 29) : FP (updN kd sz k) b (sz + 1) kn op W false ∧ sz < 64 := by
  obtain ⟨h1, h2, h3, h4, h5, h6, h7, h8⟩ := h
  have hl : (k :: W).length = W.length + 1 := rfl
  have hn : nO (k :: W) = nO W := by
    show nO W + (if k = 29 then 1 else 0) = nO W
    rw [if_neg hk]; rfl
  have hW := nOB W
  have hw := h6 k (List.mem_cons_self ..)
  have hs : sz < 64 := by omega
  have hX : (ixs kd b (sz - b)).length = nBi W + (if k = 29 ∨ k = 18 then 0 else 1) + 1 := h7
  have hjk : okj k → ¬ (k = 29 ∨ k = 18) := fun x => by unfold okj at x; omega
  refine ⟨⟨by omega, h2, h3, by omega, by omega, fun q hq => h6 q (List.mem_cons_of_mem _ hq), ?_, lwp_e h1 h8 ?_ (fun _ => by omega) (fun x => ?_)⟩, hs⟩
  · rw [ixs_e h1]
    show (x0 k (ixs kd b (sz - b))).length + 1 = nBi W + 1
    unfold x0
    rcases hw with x | x | x
    · exact absurd x hk
    · subst x
      rw [if_neg (by omega), if_pos rfl, List.length_tail]
      simp at hX
      omega
    · have hx := hjk x
      unfold okj at x
      rw [if_neg (by omega), if_neg (by omega), List.length_tail, List.length_tail]
      rw [if_neg hx] at hX
      omega
  · unfold okk
    rcases hw with x | x | x
    · exact absurd x hk
    · exact Or.inr (Or.inr (Or.inl x))
    · exact Or.inr (Or.inr (Or.inr x))
  · rw [hX, if_neg (hjk x)]
    omega
theorem drop_ok {X : List Nat} {x : Nat} (h46 : j 82 46 = nI (x :: X).length) (hX : HR (x :: X) (j 105)) (hl : X.length < 96) : Mo_dropHeld (j, l, Rp s r p) = some (some (.int (nI x)), (u2 j 82 46 (nI X.length), l, Rp s r p)) := by
  rw [Mo_dropHeld_eq, h46, show (x :: X).length = X.length + 1 from rfl, pk_sub (by omega), show X.length + 1 - 1 = X.length by omega, gd_in hl (by omega), nI_clamp (by omega), hX.1]
/-- the reference binds the top sign -/
theorem bind1 {k least : Nat} {mn : Bool} (hP : FP kd b sz kn op (k :: W) false) (hk : k ≠ 29) (hR : FR kd nm b sz kn op (k :: W) false mn j) (hle : least ≤ rk k) (h6 : least ≤ 6) :
    ∃ j', Mo_bind_0 (nI least) (j, l2, Rp s2 r2 p2) = Mo_bind_0 (nI least) (j', l2, Rp s2 r2 p2) ∧ FR (updN kd sz k) (updN nm sz 0) b (sz + 1) kn op W false mn j' ∧ fr qRm j j' ∧ ∀ a q, 101 ≤ a → a ≤ 103 → q < sz → j' a (64 + q) = j a (64 + q) := by
  have hs := (FP_pop hP hk).2
  have hw := hP.2.2.2.2.2.1 k (List.mem_cons_self ..)
  have h72 := (FP_sz hP).1
  have hl : (k :: W).length = W.length + 1 := rfl
  have hX7 := hP.2.2.2.2.2.2.1
  have hXl : (ixs kd b (sz - b)).length ≤ 73 := by
    have := (nOB (k :: W)).2
    rw [if_neg (by decide)] at hX7
    omega
  have hr6 := rk_le k
  have hR0 := hR
  obtain ⟨g1, g2, g3, g4, g5, g6, g7, g8, g9, g10⟩ := hR
  rw [Mo_bind_0_eq, g4, hl, ifc_pos (by omega), if_pos (by omega), pk_sub (by omega), show W.length + 1 - 1 = W.length by omega, gd_in (by omega) (by omega), nI_clamp (by omega), g5.1, rstand_ok hw, crI_t, ifc_lt (by omega) (by omega), if_neg (by omega), g4, hl, pk_sub (by omega), show W.length + 1 - 1 = W.length by omega, gd_in (by omega) (by omega), nI_clamp (by omega), g5.1]
  have hwm : wm k < 2 ^ 31 := by
    unfold wm km
    repeat' split
    all_goals (unfold okw okj at hw; omega)
  rw [ifc_eq hwm (by omega)]
  generalize hX : ixs kd b (sz - b) = X at *
  by_cases h18 : k = 18
  · subst h18
    rw [if_pos (show wm 18 = 2 from rfl)]
    match X, hX, hX7, hXl, g6, g7 with
    | [], _, hX7, _, _, _ => exact absurd hX7 (by simp)
    | x :: X', hX, hX7, hXl, g6, g7 =>
      have hl' : (x :: X').length = X'.length + 1 := rfl
      rw [Mo_bind_58_eq, drop_ok (X := X') (x := x) ((u2_k (by decide)).trans g6) g7 (by omega), crI_t, grown_ok (sz := sz) (hl := X'.length) (by simp (disch := decide) only [u2_k]; exact g2) (u2_s _ _ _ _) hs (by omega), crV_t]
      have hF := FR_e (k := 18) (v := 0) (x1 := nI 2) (x2 := nI x) (x3 := nM 1) (due' := false) (mn' := mn) (j0 := u2 (u2 j 82 45 (nI W.length)) 82 46 (nI X'.length)) (W0 := W) hR0 hP.1 hs ⟨fun y => by omega, fun y => by omega, fun _ => ⟨rfl, by rw [hX]; rfl⟩, fun y => by unfold okj at y; omega⟩ (fun q hq => by simp (disch := omega) only [u2_k]) (by simp (disch := omega) only [u2_k]; exact g9) (by simp (disch := omega) only [u2_k]; exact g10) (by rw [u2_k (by decide), u2_s]) (WR_fr W (fun q _ => by simp (disch := omega) only [u2_i]) g5.2) (fun a q y z => by simp (disch := omega) only [u2_i]) (by rw [u2_r (by decide), u2_r (by decide)])
      rw [hX] at hF
      refine ⟨_, rfl, hF, fr_trans (fr_trans (fr_u2 (by decide)) (fr_u2 (by decide))) grw_fr, fun a q y z w => ?_⟩
      rw [grw_o (by omega) (by omega) (by omega), u2_i (by omega), u2_i (by omega)]
  · have hj : okj k := by
      rcases hw with x | x | x
      · exact absurd x hk
      · exact absurd x h18
      · exact x
    have hwk : wm k = km k := by unfold wm; rw [if_neg hk, if_neg h18]
    rw [if_neg (by rw [hwk]; unfold km; unfold okj at hj; repeat' split
                   all_goals omega)]
    have hX2 : 2 ≤ X.length := by
      rw [hX7]
      have : nBi (k :: W) = nBi W + 1 := by
        show nBi W + _ = _
        rw [if_neg (by omega)]
      rw [this, if_neg (by decide)]
      omega
    match X, hX, hX2, hXl, g6, g7 with
    | [], _, hX2, _, _, _ => exact absurd hX2 (by simp)
    | [x], _, hX2, _, _, _ => exact absurd hX2 (by simp)
    | y :: x :: X', hX, hX2, hXl, g6, g7 =>
      have hl' : (y :: x :: X').length = X'.length + 1 + 1 := rfl
      rw [drop_ok (X := x :: X') (x := y) ((u2_k (by decide)).trans g6) g7 (by have : (x :: X').length = X'.length + 1 := rfl; omega), crI_t, Mo_bind_58_eq, drop_ok (j := u2 (u2 j 82 45 (nI W.length)) 82 46 (nI (x :: X').length)) (X := X') (x := x) (u2_s _ _ _ _) g7.2 (by omega), crI_t, grown_ok (sz := sz) (hl := X'.length) (by simp (disch := decide) only [u2_k]; exact g2) (u2_s _ _ _ _) hs (by omega), crV_t]
      have hF := FR_e (k := k) (v := 0) (x1 := nI (wm k)) (x2 := nI x) (x3 := nI y) (due' := false) (mn' := mn) (j0 := u2 (u2 (u2 j 82 45 (nI W.length)) 82 46 (nI (x :: X').length)) 82 46 (nI X'.length)) (W0 := W) hR0 hP.1 hs ⟨fun z => by unfold okj at hj; omega, fun z => by unfold okj at hj; omega, fun z => absurd z h18, fun _ => ⟨by rw [hwk], by rw [hX]; rfl, by rw [hX]; rfl⟩⟩ (fun q hq => by simp (disch := omega) only [u2_k]) (by simp (disch := omega) only [u2_k]; exact g9) (by simp (disch := omega) only [u2_k]; exact g10) (by rw [u2_k (by decide), u2_k (by decide), u2_s]) (WR_fr W (fun q _ => by simp (disch := omega) only [u2_i]) g5.2) (fun a q y z => by simp (disch := omega) only [u2_i]) (by rw [u2_r (by decide), u2_r (by decide), u2_r (by decide)])
      have hx0 : (x0 k (ixs kd b (sz - b))).length = X'.length := by
        rw [hX]
        unfold x0
        rw [if_neg (by unfold okj at hj; omega), if_neg h18]
        rfl
      rw [hx0] at hF
      refine ⟨_, rfl, hF, fr_trans (fr_trans (fr_trans (fr_u2 (by decide)) (fr_u2 (by decide))) (fr_u2 (by decide))) grw_fr, fun a q y z w => ?_⟩
      rw [grw_o (by omega) (by omega) (by omega), u2_i (by omega), u2_i (by omega), u2_i (by omega)]
end
end

section
/-! formulas: release and bind, together -/
section
variable {l l2 : Nat → Nat → Int64} {s r p s2 r2 p2 : Nat} {b kn op : Nat} {mn : Bool}
theorem WC_t {k : Nat} {W : List Nat} {f g : Nat → Int32} (h : WC (k :: W) f g) : WC W f g := h.2.2
theorem rel_j {least : Nat} (hr : r = 7 ∨ r = 27) (h1 : 1 ≤ least) (h6 : least ≤ 6) : ∀ (W : List Nat) (kd nm : Nat → Nat) (sz : Nat) (i j : Nat → Nat → Int32), FC kd nm sz kn W r i → FR kd nm b sz kn op W false mn j → FP kd b sz kn op W false →
    ∃ kd' nm' sz' W' i' j', Reader_release_0 (nI least) (i, l, Rp s r p) = some (none, (i', l, Rp s r p)) ∧ Mo_bind_0 (nI least) (j, l2, Rp s2 r2 p2) = some (none, (j', l2, Rp s2 r2 p2)) ∧ FC kd' nm' sz' kn W' r i' ∧ FR kd' nm' b sz' kn op W' false mn j' ∧ FP kd' b sz' kn op W' false ∧ tpr W' < least ∧ sz ≤ sz' ∧ (∀ q, q < sz → kd' q = kd q ∧ nm' q = nm q) ∧ fr (qRl r) i i' ∧ fr qRm j j' ∧ ∀ a q, 101 ≤ a → a ≤ 103 → q < sz → j' a (64 + q) = j a (64 + q)
  | [], kd, nm, sz, i, j, hC, hR, hP => by
    refine ⟨kd, nm, sz, [], i, j, ?_, ?_, hC, hR, hP, by show 0 < least; omega, Nat.le_refl _, fun _ _ => ⟨rfl, rfl⟩, fr_refl _ _, fr_refl _ _, fun _ _ _ _ _ => rfl⟩
    · rw [Reader_release_0_eq _ _ _ _ _ _ hr, hC.2.2.2.1, show ([] : List Nat).length = 0 from rfl, ifc_pos (by omega), if_neg (Nat.lt_irrefl 0)]
    · rw [Mo_bind_0_eq, hR.2.2.2.1, show ([] : List Nat).length = 0 from rfl, ifc_pos (by omega), if_neg (Nat.lt_irrefl 0)]
  | k :: W, kd, nm, sz, i, j, hC, hR, hP => by
    have hl : (k :: W).length = W.length + 1 := rfl
    have h72 := (FP_sz hP).1
    have hr6 := rk_le k
    have hw := hP.2.2.2.2.2.1 k (List.mem_cons_self ..)
    by_cases hlt : rk k < least
    · refine ⟨kd, nm, sz, k :: W, i, j, ?_, ?_, hC, hR, hP, hlt, Nat.le_refl _, fun _ _ => ⟨rfl, rfl⟩, fr_refl _ _, fr_refl _ _, fun _ _ _ _ _ => rfl⟩
      · rw [Reader_release_0_eq _ _ _ _ _ _ hr, hC.2.2.2.1, hl, ifc_pos (by omega), if_pos (by omega), pk_sub (by omega), show W.length + 1 - 1 = W.length by omega, gd_in (by omega) (by omega), nI_clamp (by omega), hC.2.2.2.2.2.1, ifc_lt (by omega) (by omega), if_pos hlt]
      · rw [Mo_bind_0_eq, hR.2.2.2.1, hl, ifc_pos (by omega), if_pos (by omega), pk_sub (by omega), show W.length + 1 - 1 = W.length by omega, gd_in (by omega) (by omega), nI_clamp (by omega), hR.2.2.2.2.1.1, rstand_ok hw, crI_t, ifc_lt (by omega) (by omega), if_pos hlt]
    · have hk29 : k ≠ 29 := fun x => by
        subst x
        exact hlt (by show rk 29 < least; have : rk 29 = 0 := rfl; omega)
      obtain ⟨hP', hs⟩ := FP_pop hP hk29
      obtain ⟨j1, g1, g2, g3, g4⟩ := bind1 (l2 := l2) (s2 := s2) (r2 := r2) (p2 := p2) hP hk29 hR (show least ≤ rk k by omega) h6
      have hC1 : FC kd nm sz kn W r (u2 i 23 4 (nI W.length)) := by
        obtain ⟨x1, x2, x3, x4, x5⟩ := hC
        refine ⟨(u2_i (by omega)).trans x1, (u2_i (by omega)).trans x2, fun q hq => ?_, u2_s _ _ _ _, WC_fr W (fun q _ => ⟨u2_i (by omega), u2_i (by omega)⟩) (WC_t x5)⟩
        rw [u2_i (by omega), u2_i (by omega)]
        exact x3 q hq
      have hC2 := FC_e (k := k) (v := 0) hr hC1 (by omega)
      have eC : Reader_release_0 (nI least) (i, l, Rp s r p) = Reader_release_0 (nI least) (ecm r (u2 i 23 4 (nI W.length)) sz k 0, l, Rp s r p) := by
        rw [Reader_release_0_eq _ _ _ _ _ _ hr, hC.2.2.2.1, hl, ifc_pos (by omega), if_pos (by omega), pk_sub (by omega), show W.length + 1 - 1 = W.length by omega, gd_in (by omega) (by omega), gd_in (by omega) (by omega), nI_clamp (by omega), hC.2.2.2.2.2.1, ifc_lt (by omega) (by omega), if_neg hlt, hC.2.2.2.2.1, emit_ok hr hC1.2.1 hs, crV_t]
      obtain ⟨kd', nm', sz', W', i', j', y1, y2, y3, y4, y5, y6, y7, y8, y9, y10, y11⟩ := rel_j hr h1 h6 W _ _ (sz + 1) _ j1 hC2 g2 hP'
      refine ⟨kd', nm', sz', W', i', j', eC.trans y1, g1.trans y2, y3, y4, y5, y6, by omega, fun q hq => ?_, fr_trans (fr_trans (fr_u2 (by unfold qRl; simp)) (ecm_fr hr)) y9, fr_trans g3 y10, fun a q z1 z2 z3 => ?_⟩
      · obtain ⟨w1, w2⟩ := y8 q (by omega)
        rw [w1, w2, updN_o _ (by omega), updN_o _ (by omega)]
        exact ⟨rfl, rfl⟩
      · rw [y11 a q z1 z2 (by omega), g4 a q z1 z2 z3]
end
end

section
/-! formulas: which token stands there, for the reference -/
section
variable {i j : Nat → Nat → Int32} {l l2 : Nat → Nat → Int64} {s r p s2 r2 p2 : Nat}
theorem sgc_v : ∀ K, 28 ≤ K → K ≤ 34 → sgc K < 100 ∧ sgc K ≠ 37 ∧ ∀ K', 28 ≤ K' → K' ≤ 34 → sgc K = sgc K' → K = K' := by
  intro K h1 h2
  have key : ∀ K, K < 35 → 28 ≤ K → sgc K < 100 ∧ sgc K ≠ 37 ∧ ∀ K', K' < 35 → 28 ≤ K' → sgc K = sgc K' → K = K' := by decide +kernel
  obtain ⟨a, b, c⟩ := key K (by omega) h1
  exact ⟨a, b, fun K' x y => c K' (by omega) x⟩
theorem isSign_ok {K K0 : Nat} (h0 : 28 ≤ K0 ∧ K0 ≤ 34) (h : kOk K (j 82 8) (j 82 9)) : Mo_isSign (nI (sgc K0)) (j, l, Rp s r p) = some (some (.int (nI (decide (K = K0)).toNat)), (j, l, Rp s r p)) := by
  obtain ⟨a1, a2, a3⟩ := sgc_v K0 h0.1 h0.2
  rw [Mo_isSign_eq, gd_0, gd_1]
  obtain ⟨h0', h1, h2, h3, h4, h5, h6, h7⟩ := h
  have no : ∀ q, q < 2 ^ 31 → q ≠ 4 → j 82 8 = nI q → K ≠ K0 → ifc (j 82 8 = nI 4) (ifc (j 82 9 = nI (sgc K0)) (some (some (Value.int (nI 1)), (j, l, Rp s r p))) (some (some (Value.int (nI 0)), (j, l, Rp s r p)))) (some (some (Value.int (nI 0)), (j, l, Rp s r p))) = some (some (Value.int (nI (decide (K = K0)).toNat)), (j, l, Rp s r p)) := fun q hq hq4 e hK => by
    rw [e, ifc_eq hq (by omega), if_neg hq4, show decide (K = K0) = false by simp [hK]]; rfl
  rcases (show K = 41 ∨ K < 26 ∨ K = 26 ∨ K = 27 ∨ (28 ≤ K ∧ K ≤ 34) ∨ (35 ≤ K ∧ K ≤ 40) ∨ K = 42 by omega) with y | y | y | y | ⟨y, z⟩ | ⟨y, z⟩ | y
  · exact no 0 (by omega) (by omega) (h1 y) (by omega)
  · exact no 1 (by omega) (by omega) (h2 y).1 (by omega)
  · exact no 2 (by omega) (by omega) (h3 y) (by omega)
  · exact no 3 (by omega) (by omega) (h4 y) (by omega)
  · obtain ⟨b1, b2, b3⟩ := sgc_v K y z
    rw [(h5 y z).1, (h5 y z).2, ifc_t rfl, ifc_eq (by omega) (by omega)]
    by_cases hK : K = K0
    · rw [hK, if_pos rfl]; simp
    · rw [if_neg (fun x => hK (b3 K0 h0.1 h0.2 x)), show decide (K = K0) = false by simp [hK]]; rfl
  · exact no 5 (by omega) (by omega) (h6 y z).1 (by omega)
  · rcases h7 y with z | ⟨z, w⟩
    · exact no 6 (by omega) (by omega) z (by omega)
    · rw [z, w, ifc_t rfl, ifc_eq (by omega) (by omega), if_neg (fun x => a2 x.symm), show decide (K = K0) = false by simp; omega]; rfl
theorem kOk_1 {K : Nat} {kd wh : Int32} (h : kOk K kd wh) : kd = nI 1 ↔ K < 26 := by
  obtain ⟨h0, h1, h2, h3, h4, h5, h6, h7⟩ := h
  constructor
  · intro x
    rcases (show K = 41 ∨ K < 26 ∨ K = 26 ∨ K = 27 ∨ (28 ≤ K ∧ K ≤ 34) ∨ (35 ≤ K ∧ K ≤ 40) ∨ K = 42 by omega) with y | y | y | y | ⟨y, z⟩ | ⟨y, z⟩ | y
    · rw [h1 y] at x; exact absurd x (by decide)
    · exact y
    · rw [h3 y] at x; exact absurd x (by decide)
    · rw [h4 y] at x; exact absurd x (by decide)
    · rw [(h5 y z).1] at x; exact absurd x (by decide)
    · rw [(h6 y z).1] at x; exact absurd x (by decide)
    · rcases h7 y with z | ⟨z, _⟩
      · rw [z] at x; exact absurd x (by decide)
      · rw [z] at x; exact absurd x (by decide)
  · exact fun x => (h2 x).1
theorem kOk_5 {K : Nat} {kd wh : Int32} (h : kOk K kd wh) : kd = nI 5 ↔ (35 ≤ K ∧ K ≤ 40) := by
  obtain ⟨h0, h1, h2, h3, h4, h5, h6, h7⟩ := h
  constructor
  · intro x
    rcases (show K = 41 ∨ K < 26 ∨ K = 26 ∨ K = 27 ∨ (28 ≤ K ∧ K ≤ 34) ∨ (35 ≤ K ∧ K ≤ 40) ∨ K = 42 by omega) with y | y | y | y | ⟨y, z⟩ | ⟨y, z⟩ | y
    · rw [h1 y] at x; exact absurd x (by decide)
    · rw [(h2 y).1] at x; exact absurd x (by decide)
    · rw [h3 y] at x; exact absurd x (by decide)
    · rw [h4 y] at x; exact absurd x (by decide)
    · rw [(h5 y z).1] at x; exact absurd x (by decide)
    · exact ⟨y, z⟩
    · rcases h7 y with z | ⟨z, _⟩
      · rw [z] at x; exact absurd x (by decide)
      · rw [z] at x; exact absurd x (by decide)
  · exact fun x => (h6 x.1 x.2).1
theorem kOk_0 {K : Nat} {kd wh : Int32} (h : kOk K kd wh) : kd = 0 ↔ K = 41 := by
  obtain ⟨h0, h1, h2, h3, h4, h5, h6, h7⟩ := h
  constructor
  · intro x
    rcases (show K = 41 ∨ K < 26 ∨ K = 26 ∨ K = 27 ∨ (28 ≤ K ∧ K ≤ 34) ∨ (35 ≤ K ∧ K ≤ 40) ∨ K = 42 by omega) with y | y | y | y | ⟨y, z⟩ | ⟨y, z⟩ | y
    · exact y
    · rw [(h2 y).1] at x; exact absurd x (by decide)
    · rw [h3 y] at x; exact absurd x (by decide)
    · rw [h4 y] at x; exact absurd x (by decide)
    · rw [(h5 y z).1] at x; exact absurd x (by decide)
    · rw [(h6 y z).1] at x; exact absurd x (by decide)
    · rcases h7 y with z | ⟨z, _⟩
      · rw [z] at x; exact absurd x (by decide)
      · rw [z] at x; exact absurd x (by decide)
  · exact h1
theorem sw_inj : ∀ K, K < 26 → ∀ K', K' < 26 → sw K = sw K' → K = K' := by decide +kernel
theorem isKey_ok {K K0 : Nat} (h0 : K0 < 26) (h : kOk K (j 82 8) (j 82 9)) : Mo_isKey (nI (sw K0)) (j, l, Rp s r p) = some (some (.int (nI (decide (K = K0)).toNat)), (j, l, Rp s r p)) := by
  have hs := (sw_sw K0 h0).2
  rw [Mo_isKey_eq, gd_0, gd_1, ifc_if (kOk_1 h)]
  by_cases hK : K < 26
  · have hs' := (sw_sw K hK).2
    rw [if_pos hK, (h.2.2.1 hK).2, ifc_eq (by omega) (by omega)]
    by_cases hKK : K = K0
    · rw [hKK, if_pos rfl]; simp
    · rw [if_neg (fun x => hKK (sw_inj K hK K0 h0 x)), show decide (K = K0) = false by simp [hKK]]; rfl
  · rw [if_neg hK, show decide (K = K0) = false by simp; omega]; rfl
end
end

section
/-! formulas: what both sides do at a token -/
def qFm (r a k : Nat) : Bool := qP a k || a == r + 11 || a == r + 12 || a == r + 13 || (a == 23 && k == 4) || a == 24 || a == 25
def qFn (a k : Nat) : Bool := qQ a k || (a == 82 && (k == 23 || (decide (45 ≤ k) && decide (k ≤ 50)))) || ((a == 101 || a == 102 || a == 103) && decide (64 ≤ k)) || a == 104 || a == 105
theorem qFm_P {r : Nat} {i i' : Nat → Nat → Int32} (h : fr qP i i') : fr (qFm r) i i' := fr_mono (fun a k hq => by
  unfold qFm at hq
  simp only [Bool.or_eq_false_iff] at hq
  exact hq.1.1.1.1.1.1) h
theorem qFn_Q {i i' : Nat → Nat → Int32} (h : fr qQ i i') : fr qFn i i' := fr_mono (fun a k hq => by
  unfold qFn at hq
  simp only [Bool.or_eq_false_iff] at hq
  exact hq.1.1.1.1) h
theorem qFm_R {r : Nat} {i i' : Nat → Nat → Int32} (h : fr (qRl r) i i') : fr (qFm r) i i' := fr_mono (fun a k hq => by
  cases hn : qRl r a k
  · rfl
  · exfalso
    unfold qRl at hn
    unfold qFm at hq
    simp at hn hq
    omega) h
theorem qFn_R {i i' : Nat → Nat → Int32} (h : fr qRm i i') : fr qFn i i' := fr_mono (fun a k hq => by
  cases hn : qRm a k
  · rfl
  · exfalso
    unfold qRm at hn
    unfold qFn at hq
    simp at hn hq
    omega) h
theorem qLc_F {r : Nat} {i i' : Nat → Nat → Int32} (h : fr (qFm r) i i') : fr (qLc r) i i' := fr_mono (fun a k hq => by
  unfold qLc at hq
  simp only [Bool.or_eq_false_iff] at hq
  obtain ⟨⟨⟨⟨h1, h2⟩, h3⟩, h4⟩, h5⟩ := hq
  unfold qFm
  rw [h1, h3, h4]
  simp at h2 h5
  simp
  omega) h
theorem qLr_F {i i' : Nat → Nat → Int32} (h : fr qFn i i') : fr qLr i i' := fr_mono (fun a k hq => by
  cases hn : qFn a k
  · rfl
  · exfalso
    unfold qFn at hn
    have : qLr a k = true := by
      unfold qLr
      simp only [Bool.or_eq_true] at hn ⊢
      rcases hn with (((hn | hn) | hn) | hn) | hn
      · simp [hn]
      · simp at hn
        simp
        omega
      · simp at hn
        simp
        omega
      · simp [hn]
      · simp [hn]
    rw [this] at hq
    exact absurd hq (by decide)) h
section
variable {i j : Nat → Nat → Int32} {l l2 : Nat → Nat → Int64} {s r p s2 r2 p2 : Nat} {c : Nat → Nat} {e m a : Nat} {kd nm : Nat → Nat} {b sz kn op : Nat} {W : List Nat}
/-- the component puts a sign on the row that waits -/
def psC (i : Nat → Nat → Int32) (h k : Nat) : Nat → Nat → Int32 := u2 (u2 (u2 i 24 h (nI k)) 25 h (nI (rk k))) 23 4 (nI (h + 1))
theorem push_ok {h k : Nat} {i1 : Nat → Nat → Int32} (h4 : i 23 4 = nI h) (hh : h < 72) (hk : k ≤ 42) (hs : Tokens_step (psC i h k, l, Rp s r p) = some (some (.int (nI 1)), (i1, l, Rp s r p))) : Reader_push (nI k) (i, l, Rp s r p) = some (some (.int (nI 1)), (i1, l, Rp s r p)) := by
  rw [Reader_push_eq, h4, ifc_lt (by omega) (by omega), if_pos hh, gd_in hh (by omega), crank_ok hk, crI_t, gd_in hh (by omega), nI_clamp (by omega), u2_i (by decide), h4, nI_add]
  unfold psC at hs
  rw [hs, crI_t, gd_1]
theorem FC_push {k : Nat} (h : FC kd nm sz kn W r i) (hr : r = 7 ∨ r = 27) : FC kd nm sz kn (k :: W) r (psC i W.length k) := by
  obtain ⟨h1, h2, h3, h4, h5⟩ := h
  unfold psC
  refine ⟨by rw [u2_o (by omega), u2_o (by omega), u2_o (by omega)]; exact h1, by rw [u2_o (by omega), u2_o (by omega), u2_o (by omega)]; exact h2, fun q hq => ?_, u2_s _ _ _ _, ?_, ?_, ?_⟩
  · rw [u2_o (by omega), u2_o (by omega), u2_o (by omega), u2_o (by omega), u2_o (by omega), u2_o (by omega)]
    exact h3 q hq
  · rw [u2_o (by omega), u2_o (by omega), u2_s]
  · rw [u2_o (by omega), u2_s]
  · exact WC_fr W (fun q hq => ⟨by rw [u2_o (by omega), u2_o (by omega), u2_o (by omega)], by rw [u2_o (by omega), u2_o (by omega), u2_o (by omega)]⟩) h5
theorem psC_fr {h k : Nat} : fr (qFm r) i (psC i h k) := by
  unfold psC
  exact fr_trans (fr_trans (fr_u2 (by unfold qFm; simp)) (fr_u2 (by unfold qFm; simp))) (fr_u2 (by unfold qFm; simp))
/-- the component counts a knot -/
def knC (r : Nat) (i : Nat → Nat → Int32) (kn : Nat) : Nat → Nat → Int32 := u2 i (r + 11) 4 (nI (kn + 1))
theorem knot_t (hr : r = 7 ∨ r = 27) (h : FC kd nm sz kn W r i) (hk : kn < 64) : Reader_knot (i, l, Rp s r p) = some (some (.int (nI 1)), (knC r i kn, l, Rp s r p)) := by
  rw [Reader_knot_eq _ _ _ _ _ hr, h.1, ifc_lt (by omega) (by omega), if_pos hk, gd_1, nI_add]
  rfl
theorem knot_f (hr : r = 7 ∨ r = 27) (h : FC kd nm sz 64 W r i) : Reader_knot (i, l, Rp s r p) = some (some (.int (nI 0)), (u2 (u2 i 23 8 (nI 2)) 23 9 (i 1 10), l, Rp s r p)) := by
  rw [Reader_knot_eq _ _ _ _ _ hr, h.1, ifc_lt (by omega) (by omega), if_neg (by omega), cfail, crI_t, gd_0]
theorem FC_knot (hr : r = 7 ∨ r = 27) (h : FC kd nm sz kn W r i) : FC kd nm sz (kn + 1) W r (knC r i kn) := by
  obtain ⟨h1, h2, h3, h4, h5⟩ := h
  unfold knC
  refine ⟨u2_s _ _ _ _, (u2_o (by omega)).trans h2, fun q hq => ?_, (u2_o (by omega)).trans h4, WC_fr W (fun q _ => ⟨u2_o (by omega), u2_o (by omega)⟩) h5⟩
  rw [u2_o (by omega), u2_o (by omega)]
  exact h3 q hq
theorem knC_fr : fr (qFm r) i (knC r i kn) := fr_u2 (by unfold qFm; simp)
theorem FC_fr {i' : Nat → Nat → Int32} (hr : r = 7 ∨ r = 27) (h : FC kd nm sz kn W r i) (f : fr qP i i') : FC kd nm sz kn W r i' := by
  obtain ⟨h1, h2, h3, h4, h5⟩ := h
  have fi : ∀ a k, a ≠ 1 → (a = 23 → k = 4) → i' a k = i a k := fun a k x y => f a k (by unfold qP; simp; omega)
  refine ⟨(fi _ _ (by omega) (by omega)).trans h1, (fi _ _ (by omega) (by omega)).trans h2, fun q hq => ?_, (fi _ _ (by omega) (by omega)).trans h4, WC_fr W (fun q _ => ⟨fi _ _ (by omega) (by omega), fi _ _ (by omega) (by omega)⟩) h5⟩
  rw [fi _ _ (by omega) (by omega), fi _ _ (by omega) (by omega)]
  exact h3 q hq
/-- the reference -/
def wtR (j : Nat → Nat → Int32) (h k : Nat) : Nat → Nat → Int32 := u2 (u2 j 104 h (nI (wm k))) 82 45 (nI (h + 1))
theorem wait_ok {h k : Nat} (h4 : j 82 45 = nI h) (hh : h < 96) : Mo_waitsFor (nI (wm k)) (j, l, Rp s r p) = some (none, (wtR j h k, l, Rp s r p)) := by
  rw [Mo_waitsFor_eq, h4, gd_in hh (by omega), nI_clamp (by omega), nI_add]
  rfl
theorem wtR_fr {h k : Nat} : fr qFn j (wtR j h k) := by
  unfold wtR
  exact fr_trans (fr_u2 (by unfold qFn; simp)) (fr_u2 (by decide))
theorem count_t (h : j 82 48 = nI kn) (hk : kn < 64) : Mo_isCounted (j, l, Rp s r p) = some (some (.int (nI 1)), (u2 j 82 48 (nI (kn + 1)), l, Rp s r p)) := by
  rw [Mo_isCounted_eq, h, ifc_eq (by omega) (by omega), if_neg (by omega), gd_1, nI_add]
theorem count_f (h : j 82 48 = nI 64) : Mo_isCounted (j, l, Rp s r p) = some (some (.int (nI 0)), (u2 (u2 j 82 4 (nI 2)) 82 5 (j 82 10), l, Rp s r p)) := by
  rw [Mo_isCounted_eq, h, ifc_t rfl, rwrong, crI_t, gd_0]
/-- the reference's state, cell by cell -/
theorem FR_set {j' : Nat → Nat → Int32} {due mn due' mn' : Bool} {kn' op' : Nat} {W' : List Nat} (h : FR kd nm b sz kn op W due mn j) (h48 : j' 82 48 = nI kn') (h23 : j' 82 23 = j 82 23) (h45 : j' 82 45 = nI W'.length) (hW : WR W' (j' 104)) (h46 : j' 82 46 = j 82 46) (h105 : ∀ q, q < (ixs kd b (sz - b)).length → j' 105 q = j 105 q) (h47 : j' 82 47 = nI op') (h49 : j' 82 49 = nI due'.toNat) (h50 : j' 82 50 = nI mn'.toNat) (hk : ∀ a q, 101 ≤ a → a ≤ 103 → j' a q = j a q) :
    FR kd nm b sz kn' op' W' due' mn' j' := by
  obtain ⟨g1, g2, g3, g4, g5, g6, g7, g8, g9, g10⟩ := h
  refine ⟨h48, h23.trans g2, fun q hq => ?_, h45, hW, h46.trans g6, HR_fr _ h105 g7, h47, h49, h50⟩
  have e : ∀ a, 101 ≤ a → a ≤ 103 → knd j' a (b + q) = knd j a (b + q) := fun a y z => hk a _ y z
  rw [e 101 (by omega) (by omega), e 102 (by omega) (by omega), e 103 (by omega) (by omega)]
  exact g3 q hq
theorem FR_fr {j' : Nat → Nat → Int32} {due mn : Bool} (h : FR kd nm b sz kn op W due mn j) (f : fr qQ j j') : FR kd nm b sz kn op W due mn j' := by
  have fi : ∀ a k, ¬ (a = 82 ∧ k < 12) → j' a k = j a k := fun a k x => f a k (by unfold qQ; simp; omega)
  exact FR_set h ((fi _ _ (by omega)).trans h.1) (fi _ _ (by omega)) ((fi _ _ (by omega)).trans h.2.2.2.1) (WR_fr W (fun q _ => fi _ _ (by omega)) h.2.2.2.2.1) (fi _ _ (by omega)) (fun q _ => fi _ _ (by omega)) ((fi _ _ (by omega)).trans h.2.2.2.2.2.2.2.1) ((fi _ _ (by omega)).trans h.2.2.2.2.2.2.2.2.1) ((fi _ _ (by omega)).trans h.2.2.2.2.2.2.2.2.2) (fun a q _ _ => fi _ _ (by omega))
end
end

section
/-! formulas: a side -/
def NX (c : Nat → Nat) (e m a1 r b sz0 : Nat) (kd0 nm0 : Nat → Nat) (i0 j0 : Nat → Nat → Int32) (op : Nat) (due : Bool) : PT := fun i' j' => TT c e m a1 i' j' ∧ fr (qFm r) i0 i' ∧ fr qFn j0 j' ∧ (∀ x q, 101 ≤ x → x ≤ 103 → q < sz0 → j' x (64 + q) = j0 x (64 + q)) ∧
  ∃ kd nm sz kn W mn, FC kd nm sz kn W r i' ∧ FR kd nm b sz kn op W due mn j' ∧ FP kd b sz kn op W due ∧ (due = true → mn = decide (tpr W < 4)) ∧ sz0 ≤ sz ∧ ∀ q, q < sz0 → kd q = kd0 q ∧ nm q = nm0 q
section
variable {i j : Nat → Nat → Int32} {l l2 : Nat → Nat → Int64} {s r p s2 r2 p2 : Nat} {c : Nat → Nat} {e m a : Nat} {kd nm : Nat → Nat} {b sz kn op : Nat} {W : List Nat} {mn : Bool}
theorem FP_push {k : Nat} {kn' op' : Nat} (h : FP kd b sz kn op W true) (hk : okw k) (h64 : kn' ≤ 64) (h8 : op' ≤ 8) (h1 : k = 29 → op' = op + 1 ∧ kn' = kn) (h2 : k = 18 → op' = op ∧ kn' = kn + 1) (h3 : k = 29 ∨ k = 18) : FP kd b sz kn' op' (k :: W) true := by
  obtain ⟨g1, g2, g3, g4, g5, g6, g7, g8⟩ := h
  have hl : (k :: W).length = W.length + 1 := rfl
  refine ⟨g1, h64, h8, ?_, ?_, fun q hq => ?_, ?_, g8⟩
  · show nO W + (if k = 29 then 1 else 0) = op'
    rcases h3 with x | x
    · rw [if_pos x]; have := h1 x; omega
    · rw [if_neg (by omega)]; have := h2 x; omega
  · rcases h3 with x | x
    · have := h1 x; omega
    · have := h2 x; omega
  · rcases List.mem_cons.mp hq with x | x
    · rw [x]; exact hk
    · exact g6 q x
  · rw [g7]
    show _ = nBi W + (if k = 29 ∨ k = 18 then 0 else 1) + _
    rw [if_pos h3, Nat.add_zero]
theorem FP_len (h : FP kd b sz kn op W true) : W.length + sz = kn + op ∧ kn ≤ 64 ∧ op ≤ 8 := ⟨by have := h.2.2.2.2.1; omega, h.2.1, h.2.2.1⟩
theorem leaf_open (hr : r = 7 ∨ r = 27) (t : TT c e m a i j) (hC : FC kd nm sz kn W r i) (hR : FR kd nm b sz kn op W true mn j) (hP : FP kd b sz kn op W true) (hK : sK c e a = 29) (h8 : op ≠ 8) :
    JJ (Reader_side (i, l, Rp s r p)) (Mo_leafRead (j, l2, Rp s2 r2 p2)) i j l l2 s r p s2 r2 p2 (NX c e m (a + 1) r b sz kd nm i j (op + 1) true) := by
  obtain ⟨k1, k2, k3⟩ := TT_K t
  rw [hK] at k1 k3
  have hlen := FP_len hP
  have hW72 := (FP_sz hP).1
  obtain ⟨i1, f1, f2, f3⟩ := step_ok (i := psC i W.length 29) (l := l) (s := s) (r := r) (p := p) (CT_u (CT_u (CT_u t.1 (by omega)) (by omega)) (by omega))
  obtain ⟨g1, g2, g3, g4, g5, g6, g7, g8, g9, g10⟩ := hR
  have hR0 : FR kd nm b sz kn op W true mn j := ⟨g1, g2, g3, g4, g5, g6, g7, g8, g9, g10⟩
  have eW : Mo_waitsFor (nI 0) (u2 j 82 47 (nI (op + 1)), l2, Rp s2 r2 p2) = some (none, (wtR (u2 j 82 47 (nI (op + 1))) W.length 29, l2, Rp s2 r2 p2)) := wait_ok (k := 29) ((u2_k (by decide)).trans g4) (by omega)
  have tR : RT (u2 (wtR (u2 j 82 47 (nI (op + 1))) W.length 29) 82 50 (nI 1)) c e a := RT_u (RT_u (RT_u (RT_u t.2 (by omega)) (by omega)) (by omega)) (by omega)
  obtain ⟨j1, y1, y2, y3⟩ := rtok_ok (l := l2) (s := s2) (r := r2) (p := p2) tR
  have hR1 : FR kd nm b sz kn (op + 1) (29 :: W) true true (u2 (wtR (u2 j 82 47 (nI (op + 1))) W.length 29) 82 50 (nI 1)) := by
    unfold wtR
    refine FR_set hR0 ?_ ?_ ?_ ⟨?_, WR_fr W (fun q hq => ?_) g5⟩ ?_ (fun q _ => ?_) ?_ ?_ (u2_s _ _ _ _) (fun x q y z => ?_)
    · rw [u2_o (by omega), u2_o (by omega), u2_o (by omega), u2_o (by omega)]; exact g1
    · rw [u2_o (by omega), u2_o (by omega), u2_o (by omega), u2_o (by omega)]
    · rw [u2_o (by omega), u2_s]; rfl
    · rw [u2_o (by omega), u2_o (by omega), u2_s]
    · rw [u2_o (by omega), u2_o (by omega), u2_o (by omega), u2_o (by omega)]
    · rw [u2_o (by omega), u2_o (by omega), u2_o (by omega), u2_o (by omega)]
    · rw [u2_o (by omega), u2_o (by omega), u2_o (by omega), u2_o (by omega)]
    · rw [u2_o (by omega), u2_o (by omega), u2_o (by omega), u2_s]
    · rw [u2_o (by omega), u2_o (by omega), u2_o (by omega), u2_o (by omega)]; exact g9
    · rw [u2_o (by omega), u2_o (by omega), u2_o (by omega), u2_o (by omega)]
  refine JJ_yes (i0 := i1) (j0 := j1) ?_ ?_ (qLc_F (fr_trans psC_fr (qFm_P (qP_S f2)))) (qLr_F (fr_trans (fr_trans (fr_trans (fr_u2 (by decide)) wtR_fr) (fr_u2 (by decide))) (qFn_Q (qQ_R y2)))) ⟨⟨f3, y3⟩, fr_trans psC_fr (qFm_P (qP_S f2)), fr_trans (fr_trans (fr_trans (fr_u2 (by decide)) wtR_fr) (fr_u2 (by decide))) (qFn_Q (qQ_R y2)), fun x q z1 z2 z3 => ?_, kd, nm, sz, kn, 29 :: W, true, FC_fr hr (FC_push hC hr) (qP_S f2), FR_fr hR1 (qQ_R y2), FP_push hP (Or.inl rfl) hP.2.1 (by omega) (fun _ => ⟨rfl, rfl⟩) (fun x => absurd x (by decide)) (Or.inl rfl), fun _ => rfl, Nat.le_refl _, fun _ _ => ⟨rfl, rfl⟩⟩
  · rw [Reader_side_eq, k1, ifc_t rfl, push_ok hC.2.2.2.1 (by omega) (by omega) f1, crI_t, gd_1]
  · rw [Mo_leafRead_eq, show nI 40 = nI (sgc 29) from rfl, isSign_ok (by omega) k3, crI_t, ifc_f (show ¬ nI (decide ((29 : Nat) = 29)).toNat = 0 by decide), g8, ifc_eq (by omega) (by omega), if_neg h8, nI_add, eW, crV_t, gd_1, y1, crV_t, gd_1]
  · rw [y2 x (64 + q) (by unfold qRt; simp; omega)]
    unfold wtR
    rw [u2_o (by omega), u2_o (by omega), u2_o (by omega), u2_o (by omega)]
theorem ctop_ok (hC : FC kd nm sz kn W r i) (h : W.length ≤ 72) : Reader_topRank (i, l, Rp s r p) = some (some (.int (nI (tpr W))), (i, l, Rp s r p)) := by
  rw [Reader_topRank_eq, hC.2.2.2.1]
  match W, hC, h with
  | [], _, _ => exact ifc_t rfl
  | k :: W, hC, h =>
    have hl : (k :: W).length = W.length + 1 := rfl
    rw [ifc_z (by omega), if_neg (by omega), hl, pk_sub (by omega), show W.length + 1 - 1 = W.length by omega, gd_in (by omega) (by omega), nI_clamp (by omega), hC.2.2.2.2.2.1]
    rfl
theorem tpr_le (W : List Nat) : tpr W ≤ 6 := by
  cases W with
  | nil => exact Nat.zero_le _
  | cons k W => exact rk_le k
theorem leaf_not (hr : r = 7 ∨ r = 27) (t : TT c e m a i j) (hC : FC kd nm sz kn W r i) (hR : FR kd nm b sz kn op W true mn j) (hP : FP kd b sz kn op W true) (hmn : mn = decide (tpr W < 4)) (hK : sK c e a = 18) :
    JJ (Reader_side (i, l, Rp s r p)) (Mo_leafRead (j, l2, Rp s2 r2 p2)) i j l l2 s r p s2 r2 p2 (NX c e m (a + 1) r b sz kd nm i j op true) := by
  obtain ⟨k1, k2, k3⟩ := TT_K t
  rw [hK] at k1 k3
  have hlen := FP_len hP
  have hW72 := (FP_sz hP).1
  have ht6 := tpr_le W
  obtain ⟨g1, g2, g3, g4, g5, g6, g7, g8, g9, g10⟩ := hR
  have hR0 : FR kd nm b sz kn op W true mn j := ⟨g1, g2, g3, g4, g5, g6, g7, g8, g9, g10⟩
  have eG : Mo_leafRead (j, l2, Rp s2 r2 p2) = ifc (j 82 50 = 0) (Mo_leafRead_86 (j, l2, Rp s2 r2 p2)) (crI (Mo_isCounted (j, l2, Rp s2 r2 p2)) (j, l2, Rp s2 r2 p2) (fun x_3 i_3 l_3 => ifc (x_3 = 0) (gd (isB (nI 0)) (some (some (.int (nI 0)), (i_3, l_3, Rp s2 r2 p2)))) (crV (Mo_waitsFor (nI 2) (i_3, l_3, Rp s2 r2 p2)) (i_3, l_3, Rp s2 r2 p2) (fun i_4 l_4 => crV (Mo_token (i_4, l_4, Rp s2 r2 p2)) (i_4, l_4, Rp s2 r2 p2) (fun i_5 l_5 => gd (isB (nI 1)) (some (some (.int (nI 1)), (i_5, l_5, Rp s2 r2 p2)))))))) := by
    rw [Mo_leafRead_eq, show nI 40 = nI (sgc 29) from rfl, isSign_ok (by omega) k3, crI_t, ifc_t (show nI (decide ((18 : Nat) = 29)).toNat = 0 by decide), show nI 18 = nI (sw 18) from rfl, isKey_ok (by omega) k3, crI_t, ifc_f (show ¬ nI (decide ((18 : Nat) = 18)).toNat = 0 by decide)]
  rw [eG, Reader_side_eq, k1, ifc_f (show ¬ nI 18 = nI 29 by decide), ifc_t rfl, ctop_ok hC hW72, crI_t, ifc_lt (by omega) (by omega), g10, hmn]
  by_cases h4 : tpr W < 4
  · rw [if_pos h4, show decide (tpr W < 4) = true by simp [h4], ifc_f (show ¬ nI true.toNat = 0 by decide)]
    by_cases h64 : kn = 64
    · subst h64
      refine JJ_no (w := nI 2) (TT_10 t) ?_ ?_
      · rw [knot_f hr hC, crI_t]; exact if0 _
      · rw [count_f g1, crI_t]; exact if0 _
    · have hC1 := FC_knot hr hC
      obtain ⟨i1, f1, f2, f3⟩ := step_ok (i := psC (knC r i kn) W.length 18) (l := l) (s := s) (r := r) (p := p) (CT_u (CT_u (CT_u (CT_u t.1 (by omega)) (by omega)) (by omega)) (by omega))
      have eW : Mo_waitsFor (nI 2) (u2 j 82 48 (nI (kn + 1)), l2, Rp s2 r2 p2) = some (none, (wtR (u2 j 82 48 (nI (kn + 1))) W.length 18, l2, Rp s2 r2 p2)) := wait_ok (k := 18) ((u2_k (by decide)).trans g4) (by omega)
      have tR : RT (wtR (u2 j 82 48 (nI (kn + 1))) W.length 18) c e a := RT_u (RT_u (RT_u t.2 (by omega)) (by omega)) (by omega)
      obtain ⟨j1, y1, y2, y3⟩ := rtok_ok (l := l2) (s := s2) (r := r2) (p := p2) tR
      have hR1 : FR kd nm b sz (kn + 1) op (18 :: W) true mn (wtR (u2 j 82 48 (nI (kn + 1))) W.length 18) := by
        unfold wtR
        refine FR_set hR0 ?_ ?_ ?_ ⟨?_, WR_fr W (fun q hq => ?_) g5⟩ ?_ (fun q _ => ?_) ?_ ?_ ?_ (fun x q y z => ?_)
        · rw [u2_o (by omega), u2_o (by omega), u2_s]
        · rw [u2_o (by omega), u2_o (by omega), u2_o (by omega)]
        · rw [u2_s]; rfl
        · rw [u2_o (by omega), u2_s]
        · rw [u2_o (by omega), u2_o (by omega), u2_o (by omega)]
        · rw [u2_o (by omega), u2_o (by omega), u2_o (by omega)]
        · rw [u2_o (by omega), u2_o (by omega), u2_o (by omega)]
        · rw [u2_o (by omega), u2_o (by omega), u2_o (by omega)]; exact g8
        · rw [u2_o (by omega), u2_o (by omega), u2_o (by omega)]; exact g9
        · rw [u2_o (by omega), u2_o (by omega), u2_o (by omega)]; exact g10
        · rw [u2_o (by omega), u2_o (by omega), u2_o (by omega)]
      have fC : fr (qFm r) i i1 := fr_trans (fr_trans knC_fr psC_fr) (qFm_P (qP_S f2))
      have fG : fr qFn j j1 := fr_trans (fr_trans (fr_u2 (by decide)) wtR_fr) (qFn_Q (qQ_R y2))
      refine JJ_yes (i0 := i1) (j0 := j1) ?_ ?_ (qLc_F fC) (qLr_F fG) ⟨⟨f3, y3⟩, fC, fG, fun x q z1 z2 z3 => ?_, kd, nm, sz, kn + 1, 18 :: W, mn, FC_fr hr (FC_push hC1 hr) (qP_S f2), FR_fr hR1 (qQ_R y2), FP_push hP (Or.inr (Or.inl rfl)) (by omega) hP.2.2.1 (fun x => absurd x (by decide)) (fun _ => ⟨rfl, rfl⟩) (Or.inr rfl), fun _ => ?_, Nat.le_refl _, fun _ _ => ⟨rfl, rfl⟩⟩
      · rw [knot_t hr hC (by omega), crI_t, ifc_10, push_ok hC1.2.2.2.1 (by omega) (by omega) f1, crI_t, ifc_10, gd_1]
      · rw [count_t g1 (by omega), crI_t, ifc_10, eW, crV_t, y1, crV_t, gd_1]
      · rw [y2 x (64 + q) (by unfold qRt; simp; omega)]
        unfold wtR
        rw [u2_o (by omega), u2_o (by omega), u2_o (by omega)]
      · rw [hmn]
        show decide (tpr W < 4) = decide (rk 18 < 4)
        simp [h4]
        decide
  · rw [if_neg h4, show decide (tpr W < 4) = false by simp; omega, ifc_t (show nI false.toNat = 0 from rfl)]
    refine JJ_no (w := nI 1) (TT_10 t) ?_ ?_
    · rw [cfail, crI_t, gd_0]
    · rw [Mo_leafRead_86_eq, Mo_nameMet_eq, ifc_if (kOk_1 k3), if_pos (by omega), (k3.2.2.1 (by omega)).2, show sw 18 = 18 from rfl, ifc_t (by decide), crI_t, ifc_t (nM_neg (by omega) (by omega)), ifc_if (kOk_27 k3), if_neg (by omega), rwrong, crI_t, gd_0]
end
end

section
/-! formulas: a side that is a number or a name -/
section
variable {i j : Nat → Nat → Int32} {l l2 : Nat → Nat → Int64} {s r p s2 r2 p2 : Nat} {c : Nat → Nat} {e m a : Nat} {kd nm : Nat → Nat} {b sz kn op : Nat} {W : List Nat} {mn : Bool}
theorem FP_val {k : Nat} (h : FP kd b sz kn op W true) (h64 : kn < 64) (hk : k = 27 ∨ 19 ≤ k ∧ k ≤ 25) : FP (updN kd sz k) b (sz + 1) (kn + 1) op W false ∧ sz < 64 ∧ (x0 k (ixs kd b (sz - b))).length < 96 := by
  obtain ⟨g1, g2, g3, g4, g5, g6, g7, g8⟩ := h
  have hW := nOB W
  rw [if_pos rfl] at g7
  have hx : x0 k (ixs kd b (sz - b)) = ixs kd b (sz - b) := if_pos hk
  refine ⟨⟨by omega, by omega, g3, g4, by omega, g6, ?_, lwp_e g1 g8 ?_ (fun x => by omega) (fun x => by unfold okj at x; omega)⟩, by omega, by rw [hx]; omega⟩
  · rw [ixs_e g1, hx, List.length_cons, if_neg (by decide)]
    omega
  · unfold okk
    omega
theorem leaf_val {v w : Nat} (hr : r = 7 ∨ r = 27) (t : TT c e m a i j) (hC : FC kd nm sz kn W r i) (hR : FR kd nm b sz kn op W true mn j) (hP : FP kd b sz kn op W true) {K : Nat} (hK : sK c e a = K) (hk : K = 27 ∨ 19 ≤ K ∧ K ≤ 25) (hv : v < 2 ^ 31) (e11 : i 1 11 = nI v) (hw : K = 27 → w = v) (hw2 : 19 ≤ K ∧ K ≤ 25 → w = K - 19) :
    JJ (Reader_side_108 (nI K) (i, l, Rp s r p)) (crI (Mo_isCounted (j, l2, Rp s2 r2 p2)) (j, l2, Rp s2 r2 p2) (fun x_1 i_1 l_1 => ifc (x_1 = 0) (gd (isB (nI 0)) (some (some (.int (nI 0)), (i_1, l_1, Rp s2 r2 p2)))) (Mo_leafRead_160 (nI (if K = 27 then 0 else 1)) (nI w) (i_1, l_1, Rp s2 r2 p2)))) i j l l2 s r p s2 r2 p2 (NX c e m (a + 1) r b sz kd nm i j op false) := by
  obtain ⟨g1, g2, g3, g4, g5, g6, g7, g8, g9, g10⟩ := hR
  have hR0 : FR kd nm b sz kn op W true mn j := ⟨g1, g2, g3, g4, g5, g6, g7, g8, g9, g10⟩
  have hkn := hP.2.1
  rw [Reader_side_108_eq _ _ _ _ _ _ hr]
  by_cases h64 : kn = 64
  · subst h64
    rw [knot_f hr hC, crI_t, ifc_00, cfail, crI_t, gd_0, count_f g1, crI_t, ifc_00, gd_0]
    refine ⟨false, _, _, rfl, rfl, qLc_P (fr_trans fr_f fr_f), qLr_Q fr_w, fun x => absurd x (by decide), fun _ => ?_⟩
    unfold NO
    simp (disch := decide) only [u2_s, u2_k, u2_i]
    exact ⟨trivial, TT_10 t⟩
  · obtain ⟨hP', hs, hx96⟩ := FP_val (k := K) hP (by omega) hk
    have hC1 := FC_knot hr hC
    have hC2 := FC_e (k := K) (v := v) hr hC1 hv
    have e11' : knC r i kn 1 11 = nI v := (u2_o (by omega)).trans e11
    rw [knot_t hr hC (by omega), crI_t, ifc_10, e11', emit_ok hr hC1.2.1 hs, crV_t, count_t g1 (by omega), crI_t, ifc_10, Mo_leafRead_160_eq]
    obtain ⟨i1, f1, f2, f3⟩ := step_ok (i := ecm r (knC r i kn) sz K v) (l := l) (s := s) (r := r) (p := p) (CT_u (CT_u (CT_u (CT_u t.1 (by omega)) (by omega)) (by omega)) (by omega))
    rw [f1, crI_t, gd_1]
    have hR1 : FR kd nm b sz (kn + 1) op W true mn (u2 j 82 48 (nI (kn + 1))) := FR_set hR0 (u2_s _ _ _ _) (u2_o (by omega)) ((u2_o (by omega)).trans g4) (WR_fr W (fun q _ => u2_o (by omega)) g5) (u2_o (by omega)) (fun q _ => u2_o (by omega)) ((u2_o (by omega)).trans g8) ((u2_o (by omega)).trans g9) ((u2_o (by omega)).trans g10) (fun x q y z => u2_o (by omega))
    have hx0 : x0 K (ixs kd b (sz - b)) = ixs kd b (sz - b) := if_pos hk
    have hR2 := FR_e (k := K) (v := v) (x1 := nI (if K = 27 then 0 else 1)) (x2 := nI w) (x3 := nI 0) (due' := true) (mn' := mn) (j0 := u2 j 82 48 (nI (kn + 1))) (W0 := W) hR1 hP.1 hs ⟨fun y => ⟨by rw [if_pos y], by rw [hw y]⟩, fun y => ⟨by rw [if_neg (by omega)], by rw [hw2 y]⟩, fun y => by omega, fun y => by unfold okj at y; omega⟩ (fun q hq => rfl) hR1.2.2.2.2.2.2.2.2.1 hR1.2.2.2.2.2.2.2.2.2 hR1.2.2.2.1 hR1.2.2.2.2.1 (fun a q _ _ => rfl) rfl
    rw [grown_ok (sz := sz) (hl := (x0 K (ixs kd b (sz - b))).length) hR1.2.1 (by rw [hx0]; exact hR1.2.2.2.2.2.1) hs hx96, crV_t, gd_0]
    have hG : fr qRm (u2 j 82 48 (nI (kn + 1))) (grw (u2 j 82 48 (nI (kn + 1))) sz (x0 K (ixs kd b (sz - b))).length (nI (if K = 27 then 0 else 1)) (nI w) (nI 0)) := grw_fr
    have hO : ∀ x q, 101 ≤ x → x ≤ 103 → q < sz → grw (u2 j 82 48 (nI (kn + 1))) sz (x0 K (ixs kd b (sz - b))).length (nI (if K = 27 then 0 else 1)) (nI w) (nI 0) x (64 + q) = j x (64 + q) := fun x q y z w' => by
      rw [grw_o (by omega) (by omega) (by omega), u2_o (by omega)]
    have tR : RT (grw (u2 j 82 48 (nI (kn + 1))) sz (x0 K (ixs kd b (sz - b))).length (nI (if K = 27 then 0 else 1)) (nI w) (nI 0)) c e a := by
      unfold grw
      exact RT_u (RT_u (RT_u (RT_u (RT_u (RT_u (RT_u t.2 (by omega)) (by omega)) (by omega)) (by omega)) (by omega)) (by omega)) (by omega)
    generalize grw (u2 j 82 48 (nI (kn + 1))) sz (x0 K (ixs kd b (sz - b))).length (nI (if K = 27 then 0 else 1)) (nI w) (nI 0) = M at *
    have hR3 : FR (updN kd sz K) (updN nm sz v) b (sz + 1) (kn + 1) op W false mn (u2 M 82 49 (nI 0)) := FR_set hR2 ((u2_o (by omega)).trans hR2.1) (u2_o (by omega)) ((u2_o (by omega)).trans hR2.2.2.2.1) (WR_fr W (fun q _ => u2_o (by omega)) hR2.2.2.2.2.1) (u2_o (by omega)) (fun q _ => u2_o (by omega)) ((u2_o (by omega)).trans hR2.2.2.2.2.2.2.2.1) (u2_s _ _ _ _) ((u2_o (by omega)).trans hR2.2.2.2.2.2.2.2.2.2) (fun x q y z => u2_o (by omega))
    obtain ⟨j1, y1, y2, y3⟩ := rtok_ok (i := u2 M 82 49 (nI 0)) (l := l2) (s := s2) (r := r2) (p := p2) (RT_u tR (by omega))
    rw [y1, crV_t, gd_1]
    have fC : fr (qFm r) i i1 := fr_trans (fr_trans knC_fr (qFm_R (ecm_fr hr))) (qFm_P (qP_S f2))
    have fG : fr qFn j j1 := fr_trans (fr_trans (fr_trans (fr_u2 (by decide)) (qFn_R hG)) (fr_u2 (by decide))) (qFn_Q (qQ_R y2))
    refine JJ_yes (i0 := i1) (j0 := j1) rfl rfl (qLc_F fC) (qLr_F fG) ⟨⟨f3, y3⟩, fC, fG, fun x q z1 z2 z3 => ?_, updN kd sz K, updN nm sz v, sz + 1, kn + 1, W, mn, FC_fr hr hC2 (qP_S f2), FR_fr hR3 (qQ_R y2), hP', fun x => absurd x (by decide), by omega, fun q hq => ⟨updN_o _ (by omega), updN_o _ (by omega)⟩⟩
    rw [y2 x (64 + q) (by unfold qRt; simp; omega), u2_o (by omega)]
    exact hO x q z1 z2 z3
end
end
