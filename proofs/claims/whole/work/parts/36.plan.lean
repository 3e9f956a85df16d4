section
/-! pictures: a plan (scalars by the component's field, rows by its row, members), a state (its seven rows) -/
abbrev PL : Type := (Nat → Nat) × (Nat → Nat → Nat) × (Nat → Int32)
abbrev pN (P : PL) : Nat := P.1 11
abbrev pL (P : PL) : Nat := P.1 12
abbrev pS (P : PL) : Nat := P.1 13
abbrev pE (P : PL) : Nat := P.1 14
abbrev pD (P : PL) : Nat := P.1 15
abbrev pM (P : PL) : Nat := P.1 16
abbrev cst (P : PL) : Nat → Nat := P.2.1 2
abbrev mem (P : PL) : Nat → Int32 := P.2.2
/-- a plan is well made -/
def pwf (P : PL) : Prop :=
  (pN P ≤ 7 ∧ pL P ≤ 8 ∧ pS P ≤ 3 ∧ pE P ≤ 16 ∧ pD P ≤ 14) ∧
  (pM P < pN P ∨ pN P = 0 ∧ pM P = 0) ∧
  (1 ≤ P.1 17 ∧ P.1 17 ≤ 20 ∧ P.1 18 ≤ 100 ∧ P.1 19 ≤ 99999 ∧ P.1 4 ≤ 64) ∧
  (∀ k, k < pL P → 1 ≤ cst P k ∧ cst P k ≤ 9) ∧
  (∀ k, k < pL P → ∀ q, bt (mem P k) q = true → q < pN P) ∧
  (∀ k, k < pS P → P.2.1 5 k < pN P) ∧
  (∀ k, k < pE P → 4 ≤ P.2.1 6 k ∧ P.2.1 6 k ≤ 7 ∧ (P.2.1 6 k ≤ 5 → P.2.1 7 k < pN P) ∧ (6 ≤ P.2.1 6 k → P.2.1 7 k < pL P) ∧ P.2.1 8 k ≤ 99) ∧
  (∀ k, k < pD P → P.2.1 9 k < pS P ∧ P.2.1 10 k ≤ 99) ∧
  (∀ w, w < 3 → P.2.1 14 w ≤ P.2.1 15 w ∧ P.2.1 15 w ≤ 64 ∧ (∀ k, P.2.1 14 w ≤ k → k < P.2.1 15 w → P.2.1 13 k < 2 ^ 31) ∧ lwf (P.2.1 12) (P.2.1 14 w) (P.2.1 15 w - P.2.1 14 w))
/-- the component's plan at p -/
def PC (P : PL) (p : Nat) (i : Nat → Nat → Int32) : Prop :=
  (∀ k, 11 ≤ k → k ≤ 19 → i p k = nI (P.1 k)) ∧ i (p + 11) 4 = nI (P.1 4) ∧
  (∀ k, k < pN P → i (p + 1) k = nI (P.2.1 1 k)) ∧
  (∀ k, k < pL P → i (p + 2) k = nI (cst P k) ∧ i (p + 3) k = mem P k) ∧
  (∀ k, k < pS P → i (p + 4) k = nI (P.2.1 4 k) ∧ i (p + 5) k = nI (P.2.1 5 k)) ∧
  (∀ k, k < pE P → i (p + 6) k = nI (P.2.1 6 k) ∧ i (p + 7) k = nI (P.2.1 7 k) ∧ i (p + 8) k = nI (P.2.1 8 k)) ∧
  (∀ k, k < pD P → i (p + 9) k = nI (P.2.1 9 k) ∧ i (p + 10) k = nI (P.2.1 10 k)) ∧
  (∀ w, w < 3 → i (p + 14) w = nI (P.2.1 14 w) ∧ i (p + 15) w = nI (P.2.1 15 w) ∧ ∀ k, P.2.1 14 w ≤ k → k < P.2.1 15 w → i (p + 12) k = nI (P.2.1 12 k) ∧ i (p + 13) k = nI (P.2.1 13 k))
/-- a tree's root -/
def rt (P : PL) (t : Nat) : Int32 := if pN P = 0 then nM 1 else nI (if t = 0 then pM P else P.2.1 5 (t - 1))
/-- whether a law is told -/
def tld (P : PL) (w : Nat) : Bool := decide (P.2.1 14 w < P.2.1 15 w)
/-- the reference's plan -/
def PM (P : PL) (i : Nat → Nat → Int32) : Prop :=
  (i 82 12 = nI (pN P) ∧ i 82 13 = nI (pL P) ∧ i 82 14 = nI (pS P) ∧ i 82 15 = nI (pE P) ∧ i 82 16 = nI (pD P) ∧ i 82 17 = nI (P.1 4)) ∧
  i 85 0 = rt P 0 ∧ (i 87 0 = nI (P.1 17) ∧ i 87 1 = nI (P.1 18) ∧ i 87 2 = nI (P.1 19)) ∧
  (∀ k, k < pN P → i 88 k = nI (P.2.1 1 k)) ∧
  (∀ k, k < pL P → i 89 k = nI (cst P k) ∧ i 90 k = mem P k) ∧
  (∀ k, k < pS P → i 91 k = nI (P.2.1 4 k) ∧ i 92 k = nI (P.2.1 5 k)) ∧
  (∀ k, k < pE P → i 93 k = nI (P.2.1 6 k) ∧ i 94 k = nI (P.2.1 7 k) ∧ i 95 k = nI (P.2.1 8 k)) ∧
  (∀ k, k < pD P → i 96 k = nI (P.2.1 9 k) ∧ i 97 k = nI (P.2.1 10 k)) ∧
  (∀ w, w < 3 → i 98 w = nI (tld P w).toNat ∧ (tld P w = true → i 99 w = nI (P.2.1 14 w) ∧ i 100 w = nI (P.2.1 15 w) ∧ knr i (P.2.1 12) (P.2.1 13) (P.2.1 14 w) (P.2.1 15 w - P.2.1 14 w)))
/-- what a change leaves alone -/
def fr (Q : Nat → Nat → Bool) (i j : Nat → Nat → Int32) : Prop := ∀ a k, Q a k = false → j a k = i a k
theorem fr_refl (Q : Nat → Nat → Bool) (i : Nat → Nat → Int32) : fr Q i i := fun _ _ _ => rfl
theorem fr_trans {Q : Nat → Nat → Bool} {i j m : Nat → Nat → Int32} (h1 : fr Q i j) (h2 : fr Q j m) : fr Q i m := fun a k h => (h2 a k h).trans (h1 a k h)
theorem fr_mono {Q W : Nat → Nat → Bool} {i j : Nat → Nat → Int32} (hq : ∀ a k, W a k = false → Q a k = false) (h : fr Q i j) : fr W i j := fun a k hw => h a k (hq a k hw)
theorem fr_u2 {Q : Nat → Nat → Bool} {i : Nat → Nat → Int32} {a k : Nat} {x : Int32} (h : Q a k = true) : fr Q i (u2 i a k x) := fun b j hq => by
  unfold u2
  by_cases h1 : b = a
  · by_cases h2 : j = k
    · subst h1 h2; rw [h] at hq; exact absurd hq (by decide)
    · rw [if_pos h1, if_neg h2]
  · rw [if_neg h1]
theorem fr_ov {Q : Nat → Nat → Bool} {i : Nat → Nat → Int32} {a b n : Nat} {D : Nat → Nat} (h : ∀ k, Q a k = true) : fr Q i (ov i a b n D) := fun c j hq => by
  by_cases h1 : c = a
  · subst h1; rw [h j] at hq; exact absurd hq (by decide)
  · exact congrFun (ov_c h1) j
theorem fr_row {Q : Nat → Nat → Bool} {i j : Nat → Nat → Int32} (h : fr Q i j) {a : Nat} (ha : ∀ k, Q a k = false) : j a = i a := funext fun k => h a k (ha k)
/-- the reference's plan stands where its rows stand -/
def qPM (a k : Nat) : Bool := (a == 82 && (12 ≤ k && k ≤ 17)) || (a == 85 && k == 0) || (a == 87 && k < 3) || (a == 88 && k < 7) || ((a == 89 || a == 90) && k < 8) || ((a == 91 || a == 92) && k < 3) || ((a == 93 || a == 94 || a == 95) && k < 16) || ((a == 96 || a == 97) && k < 14) || ((a == 98 || a == 99 || a == 100) && k < 3) || ((a == 101 || a == 102 || a == 103) && k < 64)
theorem PM_fr {P : PL} {i j : Nat → Nat → Int32} (hw : pwf P) (h : PM P i) (hf : ∀ a k, qPM a k = true → j a k = i a k) : PM P j := by
  obtain ⟨⟨h7, h8, h3, h16, h14⟩, _, _, _, _, _, _, _, hl⟩ := hw
  obtain ⟨⟨a1, a2, a3, a4, a5, a6⟩, b1, ⟨b2, b3, b4⟩, c1, c2, c3, c4, c5, c6⟩ := h
  refine ⟨⟨(hf _ _ rfl).trans a1, (hf _ _ rfl).trans a2, (hf _ _ rfl).trans a3, (hf _ _ rfl).trans a4, (hf _ _ rfl).trans a5, (hf _ _ rfl).trans a6⟩, (hf _ _ rfl).trans b1, ⟨(hf _ _ rfl).trans b2, (hf _ _ rfl).trans b3, (hf _ _ rfl).trans b4⟩, ?_, ?_, ?_, ?_, ?_, ?_⟩
  · exact fun k hk => (hf 88 k (by simp [qPM]; omega)).trans (c1 k hk)
  · exact fun k hk => ⟨(hf 89 k (by simp [qPM]; omega)).trans (c2 k hk).1, (hf 90 k (by simp [qPM]; omega)).trans (c2 k hk).2⟩
  · exact fun k hk => ⟨(hf 91 k (by simp [qPM]; omega)).trans (c3 k hk).1, (hf 92 k (by simp [qPM]; omega)).trans (c3 k hk).2⟩
  · exact fun k hk => ⟨(hf 93 k (by simp [qPM]; omega)).trans (c4 k hk).1, (hf 94 k (by simp [qPM]; omega)).trans (c4 k hk).2.1, (hf 95 k (by simp [qPM]; omega)).trans (c4 k hk).2.2⟩
  · exact fun k hk => ⟨(hf 96 k (by simp [qPM]; omega)).trans (c5 k hk).1, (hf 97 k (by simp [qPM]; omega)).trans (c5 k hk).2⟩
  · intro w hw3
    obtain ⟨d1, d2⟩ := c6 w hw3
    refine ⟨(hf 98 w (by simp [qPM]; omega)).trans d1, fun ht => ?_⟩
    obtain ⟨d3, d4, d5⟩ := d2 ht
    refine ⟨(hf 99 w (by simp [qPM]; omega)).trans d3, (hf 100 w (by simp [qPM]; omega)).trans d4, fun k hk => ?_⟩
    have h64 := (hl w hw3).2.1
    have e1 : j 101 (P.2.1 14 w + k) = i 101 (P.2.1 14 w + k) := hf 101 _ (by simp [qPM]; omega)
    have e2 : j 102 (P.2.1 14 w + k) = i 102 (P.2.1 14 w + k) := hf 102 _ (by simp [qPM]; omega)
    have e3 : j 103 (P.2.1 14 w + k) = i 103 (P.2.1 14 w + k) := hf 103 _ (by simp [qPM]; omega)
    rw [e1, e2, e3]
    exact d5 k hk
/-- the component's plan stands where its rows stand -/
theorem PC_fr {P : PL} {p : Nat} {i j : Nat → Nat → Int32} (h : PC P p i) (hf : ∀ a, a < 16 → j (p + a) = i (p + a)) : PC P p j := by
  have e0 : j p = i p := hf 0 (by omega)
  unfold PC
  rw [e0, hf 11 (by omega), hf 1 (by omega), hf 2 (by omega), hf 3 (by omega), hf 4 (by omega), hf 5 (by omega), hf 6 (by omega), hf 7 (by omega), hf 8 (by omega), hf 9 (by omega), hf 10 (by omega), hf 12 (by omega), hf 13 (by omega), hf 14 (by omega), hf 15 (by omega)]
  exact h
/-! a state: its rows (0 the object, 1 switched, 2 heard, 3 twice, 4 missed, 5 held, 6 sending) -/
abbrev ST : Type := Nat → Nat → Int32
def swf (P : PL) (σ : ST) : Prop :=
  (∀ j, j < 224 → ∃ h, h ≤ 99 ∧ σ 5 j = nI h) ∧
  (∀ a, a < 28 → ∀ k, k < 32 → bt (σ 6 a) k = (decide (k < 8) && decide (σ 5 (8 * a + k) ≠ 0))) ∧
  (∀ t n k, t < 4 → n < 7 → k < 8 → ¬ (t ≤ pS P ∧ n < pN P ∧ k < pL P) → σ 5 (56 * t + 8 * n + k) = 0) ∧
  (∀ k, k < 32 → bt (σ 0 7) k = true → k < pN P) ∧
  (∀ k, k < 32 → bt (σ 0 8) k = true → k < pL P) ∧
  (∀ s, s < 3 → ∀ k, k < 32 → bt (σ 1 s) k = true → s < pS P ∧ k < pN P) ∧
  ¬ σ 0 12 < 0
/-- the reference's state at b: 0 now, 1 tried -/
def SM (b : Nat) (σ : ST) (i : Nat → Nat → Int32) : Prop :=
  i 108 b = σ 0 8 ∧ i 109 b = σ 0 7 ∧ (∀ s, s < 3 → i 110 (3 * b + s) = σ 1 s) ∧ (∀ j, j < 224 → i 111 (224 * b + j) = σ 5 j) ∧
  (∀ n, n < 7 → i 112 (7 * b + n) = σ 2 n ∧ i 113 (7 * b + n) = σ 3 n ∧ i 114 (7 * b + n) = σ 4 n) ∧
  i 115 b = σ 0 9 ∧ i 116 b = σ 0 10 ∧ i 117 b = σ 0 11 ∧ i 118 b = σ 0 6
theorem SM_fr {b : Nat} {σ : ST} {i j : Nat → Nat → Int32} (h : SM b σ i) (hf : ∀ a, 108 ≤ a → a ≤ 118 → j a = i a) : SM b σ j := by
  unfold SM
  rw [hf 108 (by omega) (by omega), hf 109 (by omega) (by omega), hf 110 (by omega) (by omega), hf 111 (by omega) (by omega), hf 112 (by omega) (by omega), hf 113 (by omega) (by omega), hf 114 (by omega) (by omega), hf 115 (by omega) (by omega), hf 116 (by omega) (by omega), hf 117 (by omega) (by omega), hf 118 (by omega) (by omega)]
  exact h
/-- what the names of a law stand for -/
def vls (D : Nat → Nat) (σ : ST) (t n : Nat) (k : Nat) : Int64 :=
  if k = 19 then lN (D n) else if k = 20 then lN n else if k = 21 then (σ 2 n).toInt64 else if k = 22 then (σ 3 n).toInt64 else if k = 23 then lN (cnt (bt (σ 6 (7 * t + n))) 8) else if k = 24 then lN t else (σ 0 6).toInt64
theorem bnd_i (x : Int32) : bnd x.toInt64 := by
  have h1 := Int32.le_toInt x
  have h2 := Int32.toInt_lt x
  unfold bnd
  rw [Int32.toInt_toInt64]
  omega
theorem vls_bnd {D : Nat → Nat} {σ : ST} {t n : Nat} (hD : D n ≤ 99) (ht : t < 100) (hn : n < 100) (k : Nat) : bnd (vls D σ t n k) := by
  have := cnt_le (bt (σ 6 (7 * t + n))) 8
  unfold vls
  split
  · exact bnd_n (by omega)
  · split
    · exact bnd_n (by omega)
    · split
      · exact bnd_i _
      · split
        · exact bnd_i _
        · split
          · exact bnd_n (by omega)
          · split
            · exact bnd_n (by omega)
            · exact bnd_i _
end

section
/-! masks; what the names of a law stand for, on both sides -/
theorem mask_n {x : Int32} {n : Nat} (h : ∀ k, k < 32 → bt x k = true → k < n) : x.toBitVec.toNat < 2 ^ n := by
  apply Nat.lt_pow_two_of_testBit
  intro k hk
  cases hb : x.toBitVec.toNat.testBit k
  · rfl
  · have hb2 : bt x k = true := hb
    by_cases h32 : k < 32
    · have := h k h32 hb2; omega
    · rw [b_big (by omega)] at hb2; exact absurd hb2 (by decide)
theorem nI_self (x : Int32) : nI x.toBitVec.toNat = x := by
  apply Int32.toBitVec_inj.mp
  show BitVec.ofNat 32 x.toBitVec.toNat = _
  exact BitVec.eq_of_toNat_eq (by simp)
theorem mask_ex {x : Int32} {n : Nat} (h : ∀ k, k < 32 → bt x k = true → k < n) : ∃ v, v < 2 ^ n ∧ x = nI v := ⟨_, mask_n h, (nI_self x).symm⟩
section
variable {i : Nat → Nat → Int32} {l : Nat → Nat → Int64} {s r p : Nat}
theorem bitCount_n {v : Nat} (h : v < 256) : Jint_bitCount (nI v) (i, l, Rp s r p) = some (some (.int (nI (cnt (bt (nI v)) 8))), (i, l, Rp s r p)) := by
  rw [Jint_bitCount_eq]
  refine congrArg (fun z => some (some (Value.int z), (i, l, Rp s r p))) ?_
  revert h
  revert v
  decide +kernel
theorem bitCount_ok {x : Int32} (h : ∀ k, k < 32 → bt x k = true → k < 8) : Jint_bitCount x (i, l, Rp s r p) = some (some (.int (nI (cnt (bt x) 8))), (i, l, Rp s r p)) := by
  obtain ⟨v, h1, rfl⟩ := mask_ex h
  exact bitCount_n h1
/-- bits put together -/
def msk (f : Nat → Bool) : Nat → Int32
  | 0 => 0
  | n + 1 => if f n then msk f n ||| (nI 1 <<< (nI n &&& 31)) else msk f n
theorem msk_bt (f : Nat → Bool) : ∀ n, n ≤ 32 → ∀ k, k < 32 → bt (msk f n) k = (decide (k < n) && f k)
  | 0, _, k, _ => by
    show bt 0 k = _
    rw [b_0]; simp
  | n + 1, hn, k, hk => by
    have ih := msk_bt f n (by omega) k hk
    unfold msk
    cases hf : f n
    · simp only [Bool.false_eq_true, if_false]
      rw [ih]
      by_cases e : k = n
      · subst e; rw [hf, Bool.and_false, Bool.and_false]
      · by_cases h2 : k < n
        · rw [decide_eq_true h2, decide_eq_true (show k < n + 1 by omega)]
        · rw [decide_eq_false h2, decide_eq_false (show ¬ k < n + 1 by omega)]
    · simp only [if_true]
      rw [b_or, ih, bt_mask (by omega) hk]
      by_cases e : k = n
      · subst e; rw [hf]; simp
      · by_cases h2 : k < n
        · rw [decide_eq_true h2, decide_eq_true (show k < n + 1 by omega), decide_eq_false e, Bool.or_false]
        · rw [decide_eq_false h2, decide_eq_false (show ¬ k < n + 1 by omega), decide_eq_false e]; rfl
theorem msk_0 {f : Nat → Bool} {n : Nat} (hn : n ≤ 32) : msk f n = 0 ↔ ∀ k, k < n → f k = false := by
  constructor
  · intro h k hk
    have := msk_bt f n hn k (by omega)
    rw [h, b_0, decide_eq_true hk, Bool.true_and] at this
    exact this.symm
  · intro h
    apply b_ext
    intro k hk
    rw [msk_bt f n hn k hk, b_0]
    by_cases h2 : k < n
    · rw [h k h2, Bool.and_false]
    · rw [decide_eq_false h2, Bool.false_and]
theorem msk_in {f : Nat → Bool} {n : Nat} (hn : n ≤ 32) : ∀ k, k < 32 → bt (msk f n) k = true → k < n := by
  intro k hk h
  rw [msk_bt f n hn k hk] at h
  by_cases h2 : k < n
  · exact h2
  · rw [decide_eq_false h2] at h; exact absurd h (by simp)
theorem at7 {t n : Nat} (ht : t < 4) (hn : n < 7) : nI t * nI 7 + nI n = nI (7 * t + n) := by
  rw [show nI t * nI 7 = nI (t * 7) from (Int32.ofNat_mul t 7).symm, nI_add, Nat.mul_comm]
theorem nI_mul (a b : Nat) : nI a * nI b = nI (a * b) := (Int32.ofNat_mul a b).symm
theorem cnt_cg {f g : Nat → Bool} : ∀ n, (∀ k, k < n → f k = g k) → cnt f n = cnt g n
  | 0, _ => rfl
  | n + 1, h => by
    unfold cnt
    rw [cnt_cg n (fun k hk => h k (by omega)), h n (by omega)]
theorem cnt_more {f : Nat → Bool} {a : Nat} : ∀ n, a ≤ n → (∀ k, a ≤ k → k < n → f k = false) → cnt f n = cnt f a := by
  intro n hn h
  induction n with
  | zero => have e : a = 0 := by omega
            rw [e]
  | succ n ih =>
    by_cases e : a = n + 1
    · rw [e]
    · show cnt f n + _ = _
      rw [h n (by omega) (by omega), ih (by omega) (fun k h1 h2 => h k h1 (by omega))]
      rfl
theorem value_ok {P : PL} {o2 t n k : Nat} {D : Nat → Nat} (ho : o2 = 51 ∨ o2 = 65) (hs : swf P (fun a => i (o2 + a))) (ht : t < 4) (hn : n < 7) (hD : i 43 (7 * t + n) = nI (D n)) (hD9 : D n ≤ 99) (h1 : 19 ≤ k) (h2 : k ≤ 25) :
    Net_value (nI k) o2 (nI t) (nI n) (i, l, Rp s r p) = some (some (.long (vls D (fun a => i (o2 + a)) t n k)), (i, l, Rp s r p)) := by
  rw [Net_value_eq _ _ _ _ _ _ _ _ _ ho, at7 ht hn, nI_clamp (by omega), nI_clamp (by omega), gd_in (by omega) (by omega), gd_in (by omega) (by omega), gd_in (by omega) (by omega), gd_in (by omega) (by omega), hD]
  simp only [nI_l (show D n < 2 ^ 31 by omega), nI_l (show t < 2 ^ 31 by omega), nI_l (show n < 2 ^ 31 by omega)]
  have hb := bitCount_ok (i := i) (l := l) (s := s) (r := r) (p := p) (x := i (o2 + 6) (7 * t + n)) (fun k hk h => by
    have := hs.2.1 (7 * t + n) (by omega) k hk
    rw [this] at h
    by_cases h8 : k < 8
    · exact h8
    · rw [decide_eq_false h8] at h; exact absurd h (by simp))
  rw [hb, crI_t, nI_l (by have := cnt_le (bt (i (o2 + 6) (7 * t + n))) 8; omega)]
  have hk : k = 19 ∨ k = 20 ∨ k = 21 ∨ k = 22 ∨ k = 23 ∨ k = 24 ∨ k = 25 := by omega
  rcases hk with rfl | rfl | rfl | rfl | rfl | rfl | rfl
  all_goals simp (disch := decide) only [ifc_eq, reduceIte, Nat.reduceEqDiff, if_true, if_false, ifc_True, ifc_False]
  all_goals rfl
theorem heldAt_ok {b t n k : Nat} (hb : b < 2) (ht : t < 4) (hn : n < 7) (hk : k < 8) : Mo_heldAt (nI b) (nI t) (nI n) (nI k) (i, l, Rp s r p) = some (some (.int (i 111 (224 * b + (56 * t + 8 * n + k)))), (i, l, Rp s r p)) := by
  rw [Mo_heldAt_eq]
  simp only [nI_mul, nI_add]
  rw [nI_clamp (by omega), gd_in (by omega) (by omega)]
  rw [show 224 * b + 56 * t + 8 * n + k = 224 * b + (56 * t + 8 * n + k) by omega]
theorem swf_bit {P : PL} {σ : ST} (h : swf P σ) {t n k : Nat} (ht : t < 4) (hn : n < 7) (hk : k < 8) : bt (σ 6 (7 * t + n)) k = decide (σ 5 (56 * t + 8 * n + k) ≠ 0) := by
  have := h.2.1 (7 * t + n) (by omega) k (by omega)
  rw [this, decide_eq_true hk, Bool.true_and, show 8 * (7 * t + n) + k = 56 * t + 8 * n + k by omega]
theorem heldMany_ok {P : PL} {σ : ST} {b t n : Nat} (hw : pwf P) (hP : PM P i) (hs : swf P σ) (hS : SM b σ i) (hb : b < 2) (ht : t < 4) (hn : n < 7) :
    Mo_heldMany (nI b) (nI t) (nI n) (i, l, Rp s r p) = some (some (.int (nI (cnt (bt (σ 6 (7 * t + n))) 8))), (i, l, Rp s r p)) := by
  have hL := hP.1.2.1
  have h8 := hw.1.2.1
  rw [Mo_heldMany_eq]
  have h := upto (fun k => Mo_heldMany_6 (nI b) (nI t) (nI n) (nI (cnt (bt (σ 6 (7 * t + n))) k)) (nI k) (i, l, Rp s r p)) (pL P) (fun k hk => by
    show Mo_heldMany_6 _ _ _ _ _ _ = Mo_heldMany_6 _ _ _ _ _ _
    rw [Mo_heldMany_6_eq, hL, ifc_t (nI_lt hk (by omega)), heldAt_ok hb ht hn (by omega), crI_t, hS.2.2.2.1 _ (by omega), nI_add, nI_add, nI_add]
    have hbit := swf_bit hs ht hn (show k < 8 by omega)
    obtain ⟨h, hh, he⟩ := hs.1 (56 * t + 8 * n + k) (by omega)
    rw [he] at hbit ⊢
    have hc : cnt (bt (σ 6 (7 * t + n))) (k + 1) = cnt (bt (σ 6 (7 * t + n))) k + (if bt (σ 6 (7 * t + n)) k then 1 else 0) := rfl
    rw [hc, hbit, ifc_pos (by omega)]
    by_cases h0 : 0 < h
    · rw [if_pos h0, decide_eq_true (nI_ne0 h0 (by omega))]; rfl
    · have : h = 0 := by omega
      subst this
      rw [if_neg h0]; rfl) 0 (by omega)
  refine (show Mo_heldMany_6 (nI b) (nI t) (nI n) (nI 0) (nI 0) (i, l, Rp s r p) = _ from h).trans ?_
  show Mo_heldMany_6 _ _ _ _ _ _ = _
  rw [Mo_heldMany_6_eq, hL, ifc_f (nI_nlt (Nat.le_refl _) (by omega))]
  rw [cnt_more (f := bt (σ 6 (7 * t + n))) (a := pL P) 8 h8 (fun k h1 h2 => by
    rw [swf_bit hs ht hn h2, hs.2.2.1 t n k ht hn h2 (by omega)]; rfl)]
theorem lay_ok {P : PL} {σ : ST} {b t n f : Nat} {D : Nat → Nat} (hw : pwf P) (hP : PM P i) (hs : swf P σ) (hS : SM b σ i) (hb : b < 2) (ht : t < 4) (hn : n < 7) (hf : D n = f) (hf9 : f ≤ 99) :
    ∃ l', Mo_lay (nI b) (nI t) (nI n) (nI f) (i, l, Rp s r p) = some (none, (i, l', Rp s r p)) ∧ (∀ a, a ≠ 106 → l' a = l a) ∧ ∀ k, 19 ≤ k → k ≤ 25 → l' 106 (k - 19) = vls D σ t n k := by
  rw [Mo_lay_eq]
  simp only [nI_mul, nI_add, gd_in (show 0 < 7 by omega) (show 7 < 2 ^ 31 by omega), gd_in (show 1 < 7 by omega) (show 7 < 2 ^ 31 by omega), gd_in (show 2 < 7 by omega) (show 7 < 2 ^ 31 by omega), gd_in (show 3 < 7 by omega) (show 7 < 2 ^ 31 by omega), gd_in (show 4 < 7 by omega) (show 7 < 2 ^ 31 by omega), gd_in (show 5 < 7 by omega) (show 7 < 2 ^ 31 by omega), gd_in (show 6 < 7 by omega) (show 7 < 2 ^ 31 by omega), gd_in (show 7 * b + n < 14 by omega) (show 14 < 2 ^ 31 by omega), gd_in (show b < 2 by omega) (show 2 < 2 ^ 31 by omega), nI_clamp (show 7 * b + n < 2 ^ 31 by omega), nI_clamp (show b < 2 ^ 31 by omega), nI_clamp (show 0 < 2 ^ 31 by omega), nI_clamp (show 1 < 2 ^ 31 by omega), nI_clamp (show 2 < 2 ^ 31 by omega), nI_clamp (show 3 < 2 ^ 31 by omega), nI_clamp (show 4 < 2 ^ 31 by omega), nI_clamp (show 5 < 2 ^ 31 by omega), nI_clamp (show 6 < 2 ^ 31 by omega)]
  rw [heldMany_ok hw hP hs hS hb ht hn, crI_t]
  obtain ⟨q1, q2, q3⟩ := hS.2.2.2.2.1 n hn
  have hc := cnt_le (bt (σ 6 (7 * t + n))) 8
  rw [q1, q2, hS.2.2.2.2.2.2.2.2, nI_l (show t < 2 ^ 31 by omega), nI_l (show n < 2 ^ 31 by omega), nI_l (show f < 2 ^ 31 by omega), nI_l (show cnt (bt (σ 6 (7 * t + n))) 8 < 2 ^ 31 by omega)]
  refine ⟨_, rfl, fun a ha => ?_, fun k h1 h2 => ?_⟩
  · funext j
    simp only [u2_i ha]
  · have hk : k = 19 ∨ k = 20 ∨ k = 21 ∨ k = 22 ∨ k = 23 ∨ k = 24 ∨ k = 25 := by omega
    unfold vls
    rw [hf]
    rcases hk with rfl | rfl | rfl | rfl | rfl | rfl | rfl <;> simp [u2]
end
end

section
/-! UP: the pure picture, and the component's lookUp -/
noncomputable def pk (f : Nat → Bool) (mv : Nat → Int64) : Nat → Option Nat
  | 0 => none
  | q + 1 => if f q then (match pk f mv q with
    | none => some q
    | some u => if mv q < mv u then some q else some u) else pk f mv q
theorem pk_some {f : Nat → Bool} {mv : Nat → Int64} : ∀ {n q : Nat}, pk f mv n = some q → q < n ∧ f q = true
  | 0, q, h => by simp [pk] at h
  | n + 1, q, h => by
    unfold pk at h
    cases hf : f n
    · rw [hf] at h
      simp only [Bool.false_eq_true, if_false] at h
      have := pk_some h
      exact ⟨by omega, this.2⟩
    · rw [hf] at h
      simp only [if_true] at h
      cases hp : pk f mv n with
      | none =>
        rw [hp] at h
        have e : n = q := Option.some.inj h
        subst e; exact ⟨by omega, hf⟩
      | some u =>
        rw [hp] at h
        by_cases hl : mv n < mv u
        · simp only [hl, if_true] at h
          have e : n = q := Option.some.inj h
          subst e; exact ⟨by omega, hf⟩
        · simp only [hl, if_false] at h
          have e : u = q := Option.some.inj h
          subst e
          have := pk_some hp
          exact ⟨by omega, this.2⟩
theorem pk_none {f : Nat → Bool} {mv : Nat → Int64} : ∀ {n : Nat}, pk f mv n = none ↔ ∀ q, q < n → f q = false
  | 0 => ⟨fun _ q hq => by omega, fun _ => rfl⟩
  | n + 1 => by
    have ih := pk_none (f := f) (mv := mv) (n := n)
    unfold pk
    cases hf : f n
    · simp only [Bool.false_eq_true, if_false]
      rw [ih]
      constructor
      · intro h q hq
        by_cases e : q = n
        · subst e; exact hf
        · exact h q (by omega)
      · intro h q hq; exact h q (by omega)
    · simp only [if_true]
      constructor
      · intro h
        cases hp : pk f mv n with
        | none => rw [hp] at h; exact absurd h (by simp)
        | some u =>
          rw [hp] at h
          by_cases hl : mv n < mv u
          · simp only [hl, if_true] at h; exact absurd h (by simp)
          · simp only [hl, if_false] at h; exact absurd h (by simp)
      · intro h; have := h n (by omega); rw [hf] at this; exact absurd this (by decide)
theorem i64_irr (a : Int64) : ¬ a < a := by rw [lt64]; omega
/-- where the numbers are the same, the first is taken -/
theorem pk_const {f : Nat → Bool} {mv : Nat → Int64} : ∀ n, (∀ a b, a < n → b < n → f a = true → f b = true → mv a = mv b) → pk f mv n = pk f (fun _ => 0) n
  | 0, _ => rfl
  | n + 1, h => by
    have ih := pk_const (f := f) (mv := mv) n (fun a b h1 h2 => h a b (by omega) (by omega))
    unfold pk
    cases hf : f n
    · simp only [Bool.false_eq_true, if_false]; exact ih
    · simp only [if_true]
      rw [ih]
      cases hp : pk f (fun _ => 0) n with
      | none => rfl
      | some u =>
        have hu := pk_some hp
        have e := h n u (by omega) (by omega) hf hu.2
        have z := i64_irr (mv u)
        have z2 := i64_irr 0
        simp only [e, z, z2, if_false]
theorem pk_first {f : Nat → Bool} : ∀ {n q : Nat}, pk f (fun _ => 0) n = some q → ∀ j, j < q → f j = false
  | 0, q, h => by simp [pk] at h
  | n + 1, q, h => by
    unfold pk at h
    cases hf : f n
    · rw [hf] at h
      simp only [Bool.false_eq_true, if_false] at h
      exact pk_first h
    · rw [hf] at h
      simp only [if_true] at h
      cases hp : pk f (fun _ => 0) n with
      | none =>
        rw [hp] at h
        have e : n = q := Option.some.inj h
        subst e; exact pk_none.mp hp
      | some u =>
        rw [hp] at h
        have z2 := i64_irr 0
        simp only [z2, if_false] at h
        have e : u = q := Option.some.inj h
        subst e
        exact pk_first hp
/-- the first place at which f tells something -/
def fst1 (f : Nat → Option Nat) : Nat → Nat → Option (Nat × Nat)
  | 0, _ => none
  | n + 1, k => match f k with
    | some q => some (k, q)
    | none => fst1 f n (k + 1)
theorem fst1_some {f : Nat → Option Nat} : ∀ {n k a q : Nat}, fst1 f n k = some (a, q) → k ≤ a ∧ a < k + n ∧ f a = some q
  | 0, k, a, q, h => by simp [fst1] at h
  | n + 1, k, a, q, h => by
    unfold fst1 at h
    cases hf : f k with
    | some u =>
      rw [hf] at h
      have e := Option.some.inj h
      have e1 : k = a := congrArg Prod.fst e
      have e2 : u = q := congrArg Prod.snd e
      subst e1 e2
      exact ⟨by omega, by omega, hf⟩
    | none =>
      rw [hf] at h
      have := fst1_some h
      exact ⟨by omega, by omega, this.2.2⟩
/-- the links are the same where the same ones tell something -/
theorem fst1_same {f g : Nat → Option Nat} (h : ∀ k, f k = none ↔ g k = none) : ∀ n k, (fst1 f n k).map Prod.fst = (fst1 g n k).map Prod.fst
  | 0, _ => rfl
  | n + 1, k => by
    unfold fst1
    have hk := h k
    cases hf : f k with
    | none =>
      rw [hk.mp hf]
      exact fst1_same h n (k + 1)
    | some q =>
      cases hg : g k with
      | none => rw [hk.mpr hg] at hf; exact absurd hf (by simp)
      | some u => rfl
def nrb (P : PL) (D : Nat → Nat) (own a q : Nat) : Bool := bt (mem P a) q && decide (D q + cst P a = own)
noncomputable def upk (P : PL) (D : Nat → Nat) (out : Nat → Bool) (mv : Nat → Int64) (n : Nat) : Nat → Option Nat := fun a => if out a then none else if bt (mem P a) n then pk (nrb P D (D n) a) mv (pN P) else none
noncomputable def upl (P : PL) (D : Nat → Nat) (out : Nat → Bool) (mv : Nat → Int64) (n : Nat) : Option (Nat × Nat) := if D n < 99 then fst1 (upk P D out mv n) (pL P) 0 else none
def upc (u : Option (Nat × Nat)) : Int32 := match u with
  | none => nM 1
  | some q => nI (8 * q.1 + q.2)
def multi (m : Int32) : Bool := decide (¬ (m &&& (m - nI 1)) = 0)
theorem multi_t : (List.range 128).all (fun v => multi (nI v) || (List.range 7).all fun a => (List.range 7).all fun b => !(bt (nI v) a && bt (nI v) b) || a == b) = true := by decide +kernel
theorem multi_f {v : Nat} (hv : v < 128) (hm : multi (nI v) = false) {a b : Nat} (ha : a < 7) (hb : b < 7) (h1 : bt (nI v) a = true) (h2 : bt (nI v) b = true) : a = b := by
  have h := List.all_eq_true.mp multi_t v (List.mem_range.mpr hv)
  rw [hm, Bool.false_or] at h
  have h := List.all_eq_true.mp (List.all_eq_true.mp h a (List.mem_range.mpr ha)) b (List.mem_range.mpr hb)
  rw [h1, h2] at h
  simpa using h
def lkx (P : PL) (D : Nat → Nat) (out : Nat → Bool) (n : Nat) : Option (Nat × Nat) → Int32 := fun u => match u with
  | none => nI 0
  | some q => if tld P 0 && multi (msk (nrb P D (D n) q.1) (pN P)) then msk (nrb P D (D n) q.1) (pN P) else nI 0
theorem u2_comm {α : Type} {f : Nat → Nat → α} {a b k j : Nat} {x y : α} (h : a ≠ b) : u2 (u2 f a k x) b j y = u2 (u2 f b j y) a k x := by
  funext c m
  unfold u2
  by_cases h1 : c = b
  · have h2 : ¬ c = a := fun h3 => h (h3.symm.trans h1)
    simp only [h1, if_true]
    have h4 : ¬ b = a := fun h3 => h h3.symm
    simp only [h4, if_false]
  · simp only [h1, if_false]
section
variable {i : Nat → Nat → Int32} {l : Nat → Nat → Int64} {s r p : Nat}
theorem told_ok {P : PL} {w : Nat} (hp : p = 7 ∨ p = 27) (hw : pwf P) (hP : PC P p i) (hw3 : w < 3) {s r q : Nat} : Laws_isTold (p + 11) (nI (13 + w)) (i, l, Rp s r q) = some (some (.int (nI (tld P w).toNat)), (i, l, Rp s r q)) := by
  have h13 : nI (13 + w) - nI 13 = nI w := by rw [pk_sub (by omega), Nat.add_sub_cancel_left]
  obtain ⟨h1, h2, _⟩ := hP.2.2.2.2.2.2.2 w hw3
  obtain ⟨g1, g2, _⟩ := hw.2.2.2.2.2.2.2.2 w hw3
  rw [Laws_isTold_eq _ _ _ _ _ _ _ (by omega), h13, gd_in hw3 (by omega), gd_in hw3 (by omega), nI_clamp (by omega), gd_1, gd_0, show p + 11 + 3 = p + 14 from rfl, show p + 11 + 4 = p + 15 from rfl, h1, h2, ifc_lt (by omega) (by omega)]
  unfold tld
  by_cases h : P.2.1 14 w < P.2.1 15 w
  · rw [if_pos h, decide_eq_true h]; rfl
  · rw [if_neg h, decide_eq_false h]; rfl
theorem lowest_ok {z : Int32} {q : Nat} (hq : q < 7) (hb : bt z q = true) (hf : ∀ j, j < q → bt z j = false) : Net_lowest z (i, l, Rp s r p) = some (some (.int (nI q)), (i, l, Rp s r p)) := by
  rw [Net_lowest_eq]
  have h := upto (fun k => Net_lowest_4 z (nI k) (nI k) (i, l, Rp s r p)) q (fun k hk => by
    show Net_lowest_4 _ _ _ _ = Net_lowest_4 _ _ _ _
    rw [Net_lowest_4_eq, ifc_t (nI_lt (by omega) (by omega)), ifc_bit z (by omega), hf k hk, if_neg (by decide), nI_add]) 0 (by omega)
  refine h.trans ?_
  show Net_lowest_4 _ _ _ _ = _
  rw [Net_lowest_4_eq, ifc_t (nI_lt (by omega) (by omega)), ifc_bit z (by omega), hb, if_pos rfl]
theorem nearer_ok {P : PL} {x : Int32} {t : Nat} {D : Nat → Nat} {due : Int32} (hp : p = 7 ∨ p = 27) (hw : pwf P) (hP : PC P p i) (ht : t < 4) (hD : ∀ n, n < pN P → i 43 (7 * t + n) = nI (D n)) :
    Net_nearer x (nI (7 * t)) due (i, l, Rp s r p) = some (some (.int (msk (fun q => bt x q && decide (nI (D q) = due)) (pN P))), (i, l, Rp s r p)) := by
  have h7 := hw.1.1
  have hN : i p 11 = nI (pN P) := hP.1 11 (by omega) (by omega)
  rw [Net_nearer_eq]
  have h := upto (fun k => Net_nearer_6 x (nI (7 * t)) due (msk (fun q => bt x q && decide (nI (D q) = due)) k) (nI k) (i, l, Rp s r p)) (pN P) (fun k hk => by
    show Net_nearer_6 _ _ _ _ _ _ = Net_nearer_6 _ _ _ _ _ _
    rw [Net_nearer_6_eq _ _ _ _ _ _ _ _ _ _ hp, hN, ifc_t (nI_lt hk (by omega)), ifc_bit x (by omega), nI_add, nI_add, nI_clamp (by omega), gd_in (by omega) (by omega), hD k hk]
    have e : msk (fun q => bt x q && decide (nI (D q) = due)) (k + 1) = if (bt x k && decide (nI (D k) = due)) then msk (fun q => bt x q && decide (nI (D q) = due)) k ||| (nI 1 <<< (nI k &&& 31)) else msk (fun q => bt x q && decide (nI (D q) = due)) k := rfl
    rw [e]
    cases bt x k
    · rw [if_neg (by decide)]; rfl
    · rw [if_pos rfl, Bool.true_and]
      by_cases h2 : nI (D k) = due
      · rw [ifc_t h2, decide_eq_true h2, if_pos rfl]
      · rw [ifc_f h2, decide_eq_false h2, if_neg (by decide)]) 0 (by omega)
  refine h.trans ?_
  show Net_nearer_6 _ _ _ _ _ _ = _
  rw [Net_nearer_6_eq _ _ _ _ _ _ _ _ _ _ hp, hN, ifc_f (nI_nlt (Nat.le_refl _) (by omega))]
theorem lookUp_ok {P : PL} {cut : Int32} {t n : Nat} {D : Nat → Nat} (hp : p = 7 ∨ p = 27) (hw : pwf P) (hP : PC P p i) (ht : t < 4) (hn : n < pN P) (hD : ∀ n, n < pN P → i 43 (7 * t + n) = nI (D n)) (hD9 : ∀ n, D n ≤ 99) :
    Net_lookUp cut (nI (7 * t)) (nI n) (i, l, Rp s r p) = some (none, (u2 (u2 i 44 (7 * t + n) (upc (upl P D (bt cut) (fun _ => 0) n))) 45 (7 * t + n) (lkx P D (bt cut) n (upl P D (bt cut) (fun _ => 0) n)), l, Rp s r p)) := by
  have h7 := hw.1.1
  have h8 := hw.1.2.1
  have hL : i p 12 = nI (pL P) := hP.1 12 (by omega) (by omega)
  rw [Net_lookUp_eq, nI_add, gd_in (by omega) (by omega), gd_in (by omega) (by omega), gd_in (by omega) (by omega), nI_clamp (by omega), hD n hn]
  generalize hc : 7 * t + n = c
  -- the memory in which the search goes
  have rowp : ∀ a, a ≠ 44 → a ≠ 45 → u2 (u2 i 44 c (nM 1)) 45 c (nI 0) a = i a := fun a h1 h2 => (u2_r h2).trans (u2_r h1)
  have hP' : PC P p (u2 (u2 i 44 c (nM 1)) 45 c (nI 0)) := PC_fr hP (fun a ha => rowp _ (by omega) (by omega))
  have hD' : ∀ n, n < pN P → u2 (u2 i 44 c (nM 1)) 45 c (nI 0) 43 (7 * t + n) = nI (D n) := fun n hn => (congrFun (rowp 43 (by decide) (by decide)) _).trans (hD n hn)
  have hL' : u2 (u2 i 44 c (nM 1)) 45 c (nI 0) p 12 = nI (pL P) := (congrFun (rowp p (by omega) (by omega)) _).trans hL
  have hc28 : c < 28 := by omega
  by_cases h99 : D n < 99
  · have hu : upl P D (bt cut) (fun _ => 0) n = fst1 (upk P D (bt cut) (fun _ => 0) n) (pL P) 0 := if_pos h99
    rw [hu]
    have key : ∀ m k, m = pL P - k → k ≤ pL P → Net_lookUp_31 cut (nI (7 * t)) (nI n) (nI (D n)) (nI k) (u2 (u2 i 44 c (nM 1)) 45 c (nI 0), l, Rp s r p) = some (none, (u2 (u2 i 44 c (upc (fst1 (upk P D (bt cut) (fun _ => 0) n) m k))) 45 c (lkx P D (bt cut) n (fst1 (upk P D (bt cut) (fun _ => 0) n) m k)), l, Rp s r p)) := by
      intro m
      induction m with
      | zero =>
        intro k hm hk
        rw [Net_lookUp_31_eq _ _ _ _ _ _ _ _ _ _ hp, hL', ifc_f (nI_nlt (by omega) (by omega))]
        rfl
      | succ m ih =>
        intro k hm hk
        have ihk := ih (k + 1) (by omega) (by omega)
        rw [Net_lookUp_31_eq _ _ _ _ _ _ _ _ _ _ hp, hL', ifc_t (nI_lt (by omega) (by omega)), ifc_t (nI_lt h99 (by omega)), ifc_bit cut (by omega), nI_clamp (by omega), gd_in (by omega) (by omega), (hP'.2.2.2.1 k (by omega)).2]
        have hnext : Net_lookUp_108 cut (nI (7 * t)) (nI n) (nI (D n)) (nI k) (nI 0) (u2 (u2 i 44 c (nM 1)) 45 c (nI 0), l, Rp s r p) = Net_lookUp_31 cut (nI (7 * t)) (nI n) (nI (D n)) (nI (k + 1)) (u2 (u2 i 44 c (nM 1)) 45 c (nI 0), l, Rp s r p) := by
          rw [Net_lookUp_108_eq _ _ _ _ _ _ _ _ _ _ _ hp, ifc_t nI_0, nI_add]
        have hf1 : fst1 (upk P D (bt cut) (fun _ => 0) n) (m + 1) k = match upk P D (bt cut) (fun _ => 0) n k with
          | some q => some (k, q)
          | none => fst1 (upk P D (bt cut) (fun _ => 0) n) m (k + 1) := rfl
        rw [hf1]
        have hupk : upk P D (bt cut) (fun _ => 0) n k = if bt cut k then none else if bt (mem P k) n then pk (nrb P D (D n) k) (fun _ => 0) (pN P) else none := rfl
        rw [hupk]
        cases hcut : bt cut k
        · simp only [Bool.false_eq_true, if_false]
          rw [Net_lookUp_73_eq _ _ _ _ _ _ _ _ _ _ _ hp, ifc_bit _ (by omega)]
          cases hmn : bt (mem P k) n
          · simp only [Bool.false_eq_true, if_false]
            rw [hnext, ihk]
          · simp only [if_true]
            have hck := hw.2.2.2.1 k (by omega)
            rw [gd_in (by omega) (by omega), nI_clamp (by omega), (hP'.2.2.2.1 k (by omega)).1, nearer_ok hp hw hP' ht hD', crI_t]
            have hmk : msk (fun q => bt (mem P k) q && decide (nI (D q) = nI (D n) - nI (cst P k))) (pN P) = msk (nrb P D (D n) k) (pN P) := by
              congr 1
              funext q
              unfold nrb
              have hq9 := hD9 q
              congr 1
              rw [decide_eq_decide]
              constructor
              · intro h
                have h2 : nI (D q) + nI (cst P k) = nI (D n) := by rw [h, Int32.sub_add_cancel]
                rw [nI_add] at h2
                exact (nI_eq (by omega) (by omega)).mp h2
              · intro h
                rw [← h, ← nI_add, Int32.add_sub_cancel]
            rw [hmk]
            cases hpk : pk (nrb P D (D n) k) (fun _ => 0) (pN P) with
            | none =>
              rw [(msk_0 (by omega)).mpr (pk_none.mp hpk)]
              exact hnext.trans ihk
            | some q =>
              have hq := pk_some hpk
              have hqf := pk_first hpk
              have hne : ¬ msk (nrb P D (D n) k) (pN P) = 0 := fun h => by
                have := (msk_0 (by omega)).mp h q hq.1
                rw [hq.2] at this; exact absurd this (by decide)
              have hlow : ∀ (i : Nat → Nat → Int32), Net_lowest (msk (nrb P D (D n) k) (pN P)) (i, l, Rp s r p) = some (some (.int (nI q)), (i, l, Rp s r p)) := fun i => lowest_ok (by omega) (by
                rw [msk_bt _ _ (by omega) q (by omega), hq.2, decide_eq_true hq.1]; rfl) (fun j hj => by
                rw [msk_bt _ _ (by omega) j (by omega), hqf j hj, Bool.and_false])
              rw [Net_lookUp_108_eq _ _ _ _ _ _ _ _ _ _ _ hp, ifc_f hne, hlow, crI_t, nI_add, hc, gd_in hc28 (by omega), nI_mul, nI_add, nI_clamp (by omega)]
              have hP2 : PC P p (u2 (u2 (u2 i 44 c (nM 1)) 45 c (nI 0)) 44 c (nI (k * 8 + q))) := PC_fr hP' (fun a ha => u2_r (by omega))
              have ht2 := told_ok (l := l) (w := 0) hp hw hP2 (by omega) (s := s) (r := r) (q := p)
              rw [show nI 13 = nI (13 + 0) from rfl, ht2, crI_t, ifc_b, gd_in hc28 (by omega), gd_in hc28 (by omega)]
              have e1 : ∀ y, u2 (u2 (u2 (u2 i 44 c (nM 1)) 45 c (nI 0)) 44 c (nI (k * 8 + q))) 45 c y = u2 (u2 i 44 c (nI (8 * k + q))) 45 c y := by
                intro y
                rw [u2_comm (a := 45) (b := 44) (by decide), u2_u2, u2_u2, Nat.mul_comm]
              rw [e1, e1]
              have e2 : ∀ x y : Option (Option Value × AM), ifc ((msk (nrb P D (D n) k) (pN P) &&& (msk (nrb P D (D n) k) (pN P) - nI 1)) = 0) x y = if multi (msk (nrb P D (D n) k) (pN P)) = true then y else x := by
                intro x y
                unfold multi
                by_cases h : (msk (nrb P D (D n) k) (pN P) &&& (msk (nrb P D (D n) k) (pN P) - nI 1)) = 0
                · rw [ifc_t h, if_neg (by simp [h])]
                · rw [ifc_f h, if_pos (by simp [h])]
              rw [e2]
              show _ = some (none, (u2 (u2 i 44 c (nI (8 * k + q))) 45 c (if tld P 0 && multi (msk (nrb P D (D n) k) (pN P)) then msk (nrb P D (D n) k) (pN P) else nI 0), l, Rp s r p))
              cases tld P 0
              · rfl
              · cases multi (msk (nrb P D (D n) k) (pN P)) <;> rfl
        · simp only [if_true]
          rw [Net_lookUp_73_eq _ _ _ _ _ _ _ _ _ _ _ hp, ifc_bit _ (by omega), show bt (nI 0) n = false from b_0 n, if_neg (by decide), hnext, ihk]
    exact key _ 0 rfl (by omega)
  · have hu : upl P D (bt cut) (fun _ => 0) n = none := if_neg h99
    rw [hu, Net_lookUp_31_eq _ _ _ _ _ _ _ _ _ _ hp, hL', ifc_f (show ¬ nI (D n) < nI 99 from nI_nlt (by omega) (by have := hD9 n; omega))]
    by_cases h0 : nI 0 < nI (pL P)
    · rw [ifc_t h0]; rfl
    · rw [ifc_f h0]; rfl
end
end

section
/-! the component's measure, preferred, climb -/
noncomputable def fd (P : PL) (cut : Int32) (t : Nat) : Nat → Nat := dst (pN P) (pL P) (mem P) (cst P) (bt cut) (rt P t)
theorem fd_99 (P : PL) (cut : Int32) (t n : Nat) : fd P cut t n ≤ 99 := itr_99 _ _ _ _ _ _ _ _
/-- what the Net holds of a node in a tree -/
def NR (P : PL) (i : Nat → Nat → Int32) (cut : Int32) (t n : Nat) : Prop :=
  i 43 (7 * t + n) = nI (fd P cut t n) ∧ i 44 (7 * t + n) = upc (upl P (fd P cut t) (bt cut) (fun _ => 0) n) ∧ i 45 (7 * t + n) = lkx P (fd P cut t) (bt cut) n (upl P (fd P cut t) (bt cut) (fun _ => 0) n)
def NetOk (P : PL) (i : Nat → Nat → Int32) (cut : Int32) : Prop := ∀ t n, t ≤ pS P → n < pN P → NR P i cut t n
/-- the Net, measured or not -/
def NetI (P : PL) (i : Nat → Nat → Int32) : Prop := i 26 4 = nI 0 ∨ i 26 4 = nI 1 ∧ NetOk P i (i 26 5)
def qNet (a k : Nat) : Bool := (a == 43 || a == 44 || a == 45) || (a == 26 && (k == 4 || k == 5))
section
variable {l : Nat → Nat → Int64} {s r p : Nat}
theorem root_ok {i : Nat → Nat → Int32} {P : PL} {t : Nat} (hp : p = 7 ∨ p = 27) (hw : pwf P) (hP : PC P p i) (ht : t ≤ pS P) {s r q : Nat} : Plan_root p (nI t) (i, l, Rp s r q) = some (some (.int (rt P t)), (i, l, Rp s r q)) := by
  have h7 := hw.1.1
  have h3 := hw.1.2.2.1
  rw [Plan_root_eq _ _ _ _ _ _ _ hp, show i p 11 = nI (pN P) from hP.1 11 (by omega) (by omega), ifc_z (by omega), show i p 16 = nI (pM P) from hP.1 16 (by omega) (by omega), ifc_z (by omega)]
  unfold rt
  by_cases h0 : pN P = 0
  · rw [if_pos h0, if_pos h0]
  · rw [if_neg h0, if_neg h0]
    by_cases ht0 : t = 0
    · rw [if_pos ht0, if_pos ht0]
    · rw [if_neg ht0, if_neg ht0, pk_sub (by omega), gd_in (by omega) (by omega), nI_clamp (by omega), (hP.2.2.2.2.1 (t - 1) (by omega)).2]
theorem PC_costs {i : Nat → Nat → Int32} {P : PL} (hw : pwf P) (k : Nat) (hk : k < pL P) : 0 < cst P k ∧ cst P k < 100 := by
  have := hw.2.2.2.1 k hk
  omega
theorem measure_ok {i : Nat → Nat → Int32} {P : PL} {cut : Int32} (hp : p = 7 ∨ p = 27) (hw : pwf P) (hP : PC P p i) (hI : NetI P i) :
    ∃ j, Net_measure cut (i, l, Rp s r p) = some (none, (j, l, Rp s r p)) ∧ fr qNet i j ∧ j 26 4 = nI 1 ∧ j 26 5 = cut ∧ NetOk P j cut := by
  have h7 := hw.1.1
  have h8 := hw.1.2.1
  have h3 := hw.1.2.2.1
  have main : ∃ j, Net_measure_18 cut (nI 0) (i, l, Rp s r p) = some (none, (j, l, Rp s r p)) ∧ fr qNet i j ∧ j 26 4 = nI 1 ∧ j 26 5 = cut ∧ NetOk P j cut := by
    have key : ∀ m t (j : Nat → Nat → Int32), m + t = pS P + 1 → (∀ a, a ≠ 43 → a ≠ 44 → a ≠ 45 → j a = i a) → (∀ t' n, t' < t → n < pN P → NR P j cut t' n) →
        ∃ j', Net_measure_18 cut (nI t) (j, l, Rp s r p) = some (none, (j', l, Rp s r p)) ∧ fr qNet i j' ∧ j' 26 4 = nI 1 ∧ j' 26 5 = cut ∧ NetOk P j' cut := by
      intro m
      induction m with
      | zero =>
        intro t j hm hf hN
        have hS : j p 13 = nI (pS P) := by rw [hf p (by omega) (by omega) (by omega)]; exact hP.1 13 (by omega) (by omega)
        rw [Net_measure_18_eq _ _ _ _ _ _ _ hp, hS, ifc_t (nI_lt (by omega) (by omega)), gd_1]
        refine ⟨_, rfl, ?_, ?_, u2_s _ _ _ _, ?_⟩
        · intro a k hq
          have h26 : ¬ (a = 26 ∧ (k = 4 ∨ k = 5)) := by
            intro h; obtain ⟨rfl, rfl | rfl⟩ := h <;> simp [qNet] at hq
          have hr : a ≠ 43 ∧ a ≠ 44 ∧ a ≠ 45 := by
            refine ⟨?_, ?_, ?_⟩ <;> (intro h; subst h; simp [qNet] at hq)
          have e : u2 (u2 j 26 4 (nI 1)) 26 5 cut a k = j a k := by
            by_cases ha : a = 26
            · subst ha
              rw [u2_k (by omega), u2_k (by omega)]
            · rw [u2_i ha, u2_i ha]
          rw [e, hf a hr.1 hr.2.1 hr.2.2]
        · rw [u2_k (by decide), u2_s]
        · intro t n ht hn
          obtain ⟨q1, q2, q3⟩ := hN t n (by omega) hn
          have e : ∀ a, a ≠ 26 → u2 (u2 j 26 4 (nI 1)) 26 5 cut a = j a := fun a ha => (u2_r ha).trans (u2_r ha)
          unfold NR
          rw [e 43 (by decide), e 44 (by decide), e 45 (by decide)]
          exact ⟨q1, q2, q3⟩
      | succ m ih =>
        intro t j hm hf hN
        have hrow : ∀ a, a < 16 → j (p + a) = i (p + a) := fun a ha => hf _ (by omega) (by omega) (by omega)
        have hPj : PC P p j := PC_fr hP hrow
        have hS : j p 13 = nI (pS P) := hPj.1 13 (by omega) (by omega)
        have hsp := spread_ok (i := j) (l := l) (p := p) (o1 := p + 2) (a := 43) (b := 7 * t) (N := pN P) (L := pL P) (x2 := cut) (root := rt P t) (mem := mem P) (cost := cst P) (s := s) (r := r) (q := p) (by omega) (hPj.1 11 (by omega) (by omega)) h7 (hPj.1 12 (by omega) (by omega)) h8 (by show 7 * t + pN P ≤ 28; omega) (fun k hk => (hPj.2.2.2.1 k hk).2) (fun k hk => (hPj.2.2.2.1 k hk).1) (fun k hk => (PC_costs (i := i) hw k hk).1) (fun k hk => (PC_costs (i := i) hw k hk).2)
        rw [Net_measure_18_eq _ _ _ _ _ _ _ hp, hS, ifc_f (nI_nlt (by omega) (by omega)), root_ok hp hw hPj (by omega), crI_t, nI_mul, Nat.mul_comm t 7, hsp, crV_t]
        have k62 : ∀ m2 n (j2 : Nat → Nat → Int32), m2 + n = pN P → (∀ a, a ≠ 43 → a ≠ 44 → a ≠ 45 → j2 a = i a) → (∀ t' n, t' < t → n < pN P → NR P j2 cut t' n) → (∀ n', n' < pN P → j2 43 (7 * t + n') = nI (fd P cut t n')) → (∀ n', n' < n → NR P j2 cut t n') →
            ∃ j', Net_measure_62 cut (nI t) (nI n) (j2, l, Rp s r p) = some (none, (j', l, Rp s r p)) ∧ fr qNet i j' ∧ j' 26 4 = nI 1 ∧ j' 26 5 = cut ∧ NetOk P j' cut := by
          intro m2
          induction m2 with
          | zero =>
            intro n j2 hm2 hf2 hN2 hD2 hR2
            have hNN : j2 p 11 = nI (pN P) := by rw [hf2 p (by omega) (by omega) (by omega)]; exact hP.1 11 (by omega) (by omega)
            rw [Net_measure_62_eq _ _ _ _ _ _ _ _ hp, hNN, ifc_f (nI_nlt (by omega) (by omega)), nI_add]
            refine ih (t + 1) j2 (by omega) hf2 (fun t' n' h1 h2 => ?_)
            by_cases e : t' = t
            · subst e; exact hR2 n' (by omega)
            · exact hN2 t' n' (by omega) h2
          | succ m2 ih2 =>
            intro n j2 hm2 hf2 hN2 hD2 hR2
            have hP2 : PC P p j2 := PC_fr hP (fun a ha => hf2 _ (by omega) (by omega) (by omega))
            have hlk := lookUp_ok (l := l) (s := s) (r := r) (cut := cut) (t := t) (n := n) (D := fd P cut t) hp hw hP2 (by omega) (by omega) hD2 (fd_99 P cut t)
            rw [Net_measure_62_eq _ _ _ _ _ _ _ _ hp, show j2 p 11 = nI (pN P) from hP2.1 11 (by omega) (by omega), ifc_t (nI_lt (by omega) (by omega)), nI_mul, Nat.mul_comm t 7, hlk, crV_t, nI_add]
            have e43 : ∀ x y k, u2 (u2 j2 44 (7 * t + n) x) 45 (7 * t + n) y 43 k = j2 43 k := fun x y k => by rw [u2_i (by decide), u2_i (by decide)]
            have eo : ∀ x y k, k ≠ 7 * t + n → u2 (u2 j2 44 (7 * t + n) x) 45 (7 * t + n) y 44 k = j2 44 k ∧ u2 (u2 j2 44 (7 * t + n) x) 45 (7 * t + n) y 45 k = j2 45 k := fun x y k hk => ⟨by rw [u2_i (by decide), u2_k hk], by rw [u2_k hk, u2_i (by decide)]⟩
            refine ih2 (n + 1) _ (by omega) (fun a h1 h2 h3 => by rw [u2_r h3, u2_r h2]; exact hf2 a h1 h2 h3) (fun t' n' h1 h2 => ?_) (fun n' h1 => by rw [e43]; exact hD2 n' h1) (fun n' h1 => ?_)
            · obtain ⟨q1, q2, q3⟩ := hN2 t' n' h1 h2
              obtain ⟨z1, z2⟩ := eo (upc (upl P (fd P cut t) (bt cut) (fun _ => 0) n)) (lkx P (fd P cut t) (bt cut) n (upl P (fd P cut t) (bt cut) (fun _ => 0) n)) (7 * t' + n') (by omega)
              exact ⟨(e43 _ _ _).trans q1, z1.trans q2, z2.trans q3⟩
            · by_cases e : n' = n
              · subst e
                exact ⟨(e43 _ _ _).trans (hD2 n' (by omega)), by rw [u2_i (by decide), u2_s], u2_s _ _ _ _⟩
              · obtain ⟨q1, q2, q3⟩ := hR2 n' (by omega)
                obtain ⟨z1, z2⟩ := eo (upc (upl P (fd P cut t) (bt cut) (fun _ => 0) n)) (lkx P (fd P cut t) (bt cut) n (upl P (fd P cut t) (bt cut) (fun _ => 0) n)) (7 * t + n') (by omega)
                exact ⟨(e43 _ _ _).trans q1, z1.trans q2, z2.trans q3⟩
        refine k62 (pN P) 0 _ (by omega) (fun a h1 h2 h3 => (ov_c h1).trans (hf a h1 h2 h3)) (fun t' n' h1 h2 => ?_) (fun n' h1 => ov_a j 43 (7 * t) _ h1) (fun n' h1 => by omega)
        obtain ⟨q1, q2, q3⟩ := hN t' n' h1 h2
        refine ⟨(ov_k (by omega)).trans q1, ?_, ?_⟩
        · rw [ov_c (by decide)]; exact q2
        · rw [ov_c (by decide)]; exact q3
    exact key (pS P + 1) 0 i (by omega) (fun _ _ _ _ => rfl) (fun t' n h _ => by omega)
  rw [Net_measure_eq]
  rcases hI with h0 | ⟨h1, h2⟩
  · rw [h0, ifc_t nI_0]; exact main
  · rw [h1, ifc_f (by decide)]
    by_cases hc : i 26 5 = cut
    · rw [ifc_t hc]
      exact ⟨i, rfl, fr_refl _ _, h1, hc, hc ▸ h2⟩
    · rw [ifc_f hc]; exact main
end
end

section
/-! the component's preferred and climb -/
theorem nI_div {a b : Nat} (ha : a < 2 ^ 31) (hb : b < 2 ^ 31) (h0 : 0 < b) : nI a / nI b = nI (a / b) := by
  apply Int32.toInt_inj.mp
  have hle : a / b ≤ a := Nat.div_le_self a b
  rw [lg_idiv_nonneg (by rw [nI_toInt ha]; omega) (by rw [nI_toInt hb]; omega), nI_toInt ha, nI_toInt hb, nI_toInt (by omega)]
  exact (Int.natCast_ediv a b).symm
/-- a law's value for a node in a tree -/
noncomputable def lw (P : PL) (w : Nat) (D : Nat → Nat) (σ : ST) (t n : Nat) : Option Int64 := lval (P.2.1 12) (P.2.1 13) (vls D σ t n) (P.2.1 14 w) (P.2.1 15 w)
noncomputable def mtv (P : PL) (D : Nat → Nat) (σ : ST) (t : Nat) : Nat → Int64 := fun q => (lw P 0 D σ t q).getD (lN (D q))
theorem lw_untold {P : PL} {w : Nat} (h : tld P w = false) (D : Nat → Nat) (σ : ST) (t n : Nat) : lw P w D σ t n = none := by
  unfold tld at h
  have h := of_decide_eq_false h
  unfold lw lval
  rw [show P.2.1 15 w - P.2.1 14 w = 0 by omega]
  rfl
theorem lw_bnd {P : PL} {w : Nat} (hw : pwf P) (hw3 : w < 3) {D : Nat → Nat} {σ : ST} {t n : Nat} (hD : D n ≤ 99) (ht : t < 100) (hn : n < 100) {v : Int64} (h : lw P w D σ t n = some v) : bnd v := by
  obtain ⟨g1, g2, g3, g4⟩ := hw.2.2.2.2.2.2.2.2 w hw3
  unfold lw lval at h
  obtain ⟨st, h1, h2⟩ := Option.bind_eq_some_iff.mp h
  have hb := lrun_bnd (vl := vls D σ t n) (fun k _ _ => vls_bnd hD ht hn k) (P.2.1 15 w - P.2.1 14 w) (fun j hj => ⟨(g4.1 j hj).1, g3 _ (by omega) (by omega)⟩) st h1
  match st, h2, hb with
  | x :: st, h2, hb =>
    have e : x = v := Option.some.inj h2
    exact e ▸ BS_hd hb
section
variable {i : Nat → Nat → Int32} {s r p : Nat}
theorem work_P {l : Nat → Nat → Int64} {P : PL} {cut : Int32} {o2 w t n : Nat} (ho : o2 = 51 ∨ o2 = 65) (hp : p = 7 ∨ p = 27) (hw : pwf P) (hP : PC P p i) (hs : swf P (fun a => i (o2 + a))) (hw3 : w < 3) (ht : t ≤ pS P) (hn : n < pN P) (hN : NetOk P i cut) :
    ∃ l', Net_work (nI (13 + w)) o2 (nI t) (nI n) (i, l, Rp s r p) = some (some (.long ((lw P w (fd P cut t) (fun a => i (o2 + a)) t n).getD (lN 9223372036854775808))), (i, l', Rp s r p)) ∧ ∀ a, a ≠ 46 → l' a = l a := by
  have h7 := hw.1.1
  have h3 := hw.1.2.2.1
  obtain ⟨g1, g2, g3, g4⟩ := hw.2.2.2.2.2.2.2.2 w hw3
  obtain ⟨c1, c2, c3⟩ := hP.2.2.2.2.2.2.2 w hw3
  exact work_ok ho hp hw3 c1 c2 g1 g2 (fun k h1 h2 => (c3 k h1 h2).1) (fun k h1 h2 => ⟨(c3 k h1 h2).2, g3 k h1 h2⟩) g4 (fun k l' h1 h2 => value_ok ho hs (by omega) (by omega) (hN t n ht hn).1 (fd_99 P cut t n) h1 h2) (fun k _ _ => vls_bnd (fd_99 P cut t n) (by omega) (by omega) k)
def pbest (u : Option Nat) : Int32 := match u with
  | none => nM 1
  | some q => nI q
def pleast (mv : Nat → Int64) (u : Option Nat) : Int64 := match u with
  | none => 0
  | some q => mv q
theorem preferred_ok {l : Nat → Nat → Int64} {P : PL} {cut : Int32} {o2 t : Nat} {f : Nat → Bool} (ho : o2 = 51 ∨ o2 = 65) (hp : p = 7 ∨ p = 27) (hw : pwf P) (hP : PC P p i) (hs : swf P (fun a => i (o2 + a))) (ht : t ≤ pS P) (hN : NetOk P i cut) :
    ∃ l', Net_preferred o2 (nI t) (msk f (pN P)) (i, l, Rp s r p) = some (some (.int (pbest (pk f (mtv P (fd P cut t) (fun a => i (o2 + a)) t) (pN P)))), (i, l', Rp s r p)) ∧ ∀ a, a ≠ 46 → l' a = l a := by
  have h7 := hw.1.1
  have h3 := hw.1.2.2.1
  have hNN : i p 11 = nI (pN P) := hP.1 11 (by omega) (by omega)
  generalize hmv : mtv P (fd P cut t) (fun a => i (o2 + a)) t = mv
  have key : ∀ m n (l1 : Nat → Nat → Int64), m + n = pN P → (∀ a, a ≠ 46 → l1 a = l a) → ∃ l', Net_preferred_9 o2 (nI t) (msk f (pN P)) (pbest (pk f mv n)) (pleast mv (pk f mv n)) (nI n) (i, l1, Rp s r p) = some (some (.int (pbest (pk f mv (pN P)))), (i, l', Rp s r p)) ∧ ∀ a, a ≠ 46 → l' a = l a := by
    intro m
    induction m with
    | zero =>
      intro n l1 hm hf
      have e : n = pN P := by omega
      subst e
      rw [Net_preferred_9_eq _ _ _ _ _ _ _ _ _ _ _ ho hp, hNN, ifc_f (nI_nlt (Nat.le_refl _) (by omega))]
      exact ⟨l1, rfl, hf⟩
    | succ m ih =>
      intro n l1 hm hf
      have hpk : pk f mv (n + 1) = if f n then (match pk f mv n with
        | none => some n
        | some u => if mv n < mv u then some n else some u) else pk f mv n := rfl
      rw [Net_preferred_9_eq _ _ _ _ _ _ _ _ _ _ _ ho hp, hNN, ifc_t (nI_lt (by omega) (by omega)), ifc_bit _ (by omega), msk_bt f _ (by omega) n (by omega), decide_eq_true (show n < pN P by omega), Bool.true_and, nI_add]
      cases hfn : f n
      · rw [if_neg (by decide)]
        have := ih (n + 1) l1 (by omega) hf
        rw [hpk, hfn, if_neg (by decide)] at this
        exact this
      · rw [if_pos rfl]
        obtain ⟨l2, hw1, hw2⟩ := work_P (l := l1) (s := s) (r := r) (w := 0) ho hp hw hP hs (by omega) ht (show n < pN P by omega) hN
        rw [show nI 13 = nI (13 + 0) from rfl, hw1, crL_t, ifc_leq, at7 (by omega) (by omega), gd_in (by omega) (by omega), nI_clamp (by omega), (hN t n ht (by omega)).1, nI_l (by have := fd_99 P cut t n; omega)]
        have e1 : ∀ (x y : Int64 → Option (Option Value × AM)), (if (lw P 0 (fd P cut t) (fun a => i (o2 + a)) t n).getD (lN 9223372036854775808) = lN 9223372036854775808 then Net_preferred_66 o2 (nI t) (msk f (pN P)) (pbest (pk f mv n)) (pleast mv (pk f mv n)) (nI n) (lN (fd P cut t n)) (i, l2, Rp s r p) else Net_preferred_66 o2 (nI t) (msk f (pN P)) (pbest (pk f mv n)) (pleast mv (pk f mv n)) (nI n) ((lw P 0 (fd P cut t) (fun a => i (o2 + a)) t n).getD (lN 9223372036854775808)) (i, l2, Rp s r p)) = Net_preferred_66 o2 (nI t) (msk f (pN P)) (pbest (pk f mv n)) (pleast mv (pk f mv n)) (nI n) (mv n) (i, l2, Rp s r p) := by
          intro _ _
          have e2 : mv n = (lw P 0 (fd P cut t) (fun a => i (o2 + a)) t n).getD (lN (fd P cut t n)) := by rw [← hmv]; rfl
          rw [e2]
          cases hlw : lw P 0 (fd P cut t) (fun a => i (o2 + a)) t n with
          | none => exact if_pos rfl
          | some v =>
            have hb := lw_bnd hw (by omega) (fd_99 P cut t n) (by omega) (by omega) hlw
            have hne : ¬ v = lN 9223372036854775808 := fun h => nbnd_min (h ▸ hb)
            exact if_neg hne
        have e3 := e1 (fun _ => none) (fun _ => none)
        rw [e3, Net_preferred_66_eq _ _ _ _ _ _ _ _ _ _ _ _ ho, ifc_llt, nI_add]
        have hf2 : ∀ a, a ≠ 46 → l2 a = l a := fun a ha => (hw2 a ha).trans (hf a ha)
        have := ih (n + 1) l2 (by omega) hf2
        rw [hpk, hfn, if_pos rfl] at this
        cases hpn : pk f mv n with
        | none =>
          rw [hpn] at this
          rw [ifc_t (show pbest none < 0 from nM_neg (by omega) (by omega))]
          exact this
        | some u =>
          rw [hpn] at this
          have hu := pk_some hpn
          rw [ifc_f (show ¬ pbest (some u) < 0 from nI_pos (by omega))]
          by_cases hl : mv n < mv u
          · rw [if_pos (show mv n < pleast mv (some u) from hl)]
            simp only [hl, if_true] at this
            exact this
          · rw [if_neg (show ¬ mv n < pleast mv (some u) from hl)]
            simp only [hl, if_false] at this
            exact this
  rw [Net_preferred_eq _ _ _ _ _ _ _ _ ho]
  exact key (pN P) 0 l (by omega) (fun _ _ => rfl)
theorem upk_none {P : PL} {D : Nat → Nat} {out : Nat → Bool} {mv mw : Nat → Int64} {n : Nat} (k : Nat) : upk P D out mv n k = none ↔ upk P D out mw n k = none := by
  unfold upk
  split
  · exact Iff.rfl
  · split
    · rw [pk_none, pk_none]
    · exact Iff.rfl
theorem climb_ok {l : Nat → Nat → Int64} {P : PL} {cut : Int32} {o2 t n : Nat} (ho : o2 = 51 ∨ o2 = 65) (hp : p = 7 ∨ p = 27) (hw : pwf P) (hP : PC P p i) (hs : swf P (fun a => i (o2 + a))) (ht : t ≤ pS P) (hn : n < pN P) (hN : NetOk P i cut) :
    ∃ l', Net_climb o2 (nI t) (nI n) (i, l, Rp s r p) = some (some (.int (upc (upl P (fd P cut t) (bt cut) (mtv P (fd P cut t) (fun a => i (o2 + a)) t) n))), (i, l', Rp s r p)) ∧ ∀ a, a ≠ 46 → l' a = l a := by
  have h7 := hw.1.1
  have h8 := hw.1.2.1
  have h3 := hw.1.2.2.1
  obtain ⟨q1, q2, q3⟩ := hN t n ht hn
  rw [Net_climb_eq _ _ _ _ _ _ _ _ ho, at7 (by omega) (by omega), gd_in (by omega) (by omega), gd_in (by omega) (by omega), gd_in (by omega) (by omega), nI_clamp (by omega), q2, q3]
  generalize hmv : mtv P (fd P cut t) (fun a => i (o2 + a)) t = mv
  unfold upl
  by_cases h99 : fd P cut t n < 99
  · rw [if_pos h99, if_pos h99]
    have hsame := fst1_same (f := upk P (fd P cut t) (bt cut) (fun _ => 0) n) (g := upk P (fd P cut t) (bt cut) mv n) upk_none (pL P) 0
    cases h0 : fst1 (upk P (fd P cut t) (bt cut) (fun _ => 0) n) (pL P) 0 with
    | none =>
      rw [h0] at hsame
      have h1 : fst1 (upk P (fd P cut t) (bt cut) mv n) (pL P) 0 = none := by
        cases hz : fst1 (upk P (fd P cut t) (bt cut) mv n) (pL P) 0 with
        | none => rfl
        | some z => rw [hz] at hsame; exact absurd hsame (by simp)
      rw [h1, show lkx P (fd P cut t) (bt cut) n none = nI 0 from rfl, ifc_t nI_0]
      exact ⟨l, rfl, fun _ _ => rfl⟩
    | some a0 =>
      rw [h0] at hsame
      cases h1 : fst1 (upk P (fd P cut t) (bt cut) mv n) (pL P) 0 with
      | none => rw [h1] at hsame; exact absurd hsame (by simp)
      | some a1 =>
        rw [h1] at hsame
        obtain ⟨k, q0⟩ := a0
        obtain ⟨k1, q⟩ := a1
        have ek : k = k1 := Option.some.inj hsame
        subst ek
        obtain ⟨_, hk, f0⟩ := fst1_some h0
        obtain ⟨_, _, f1⟩ := fst1_some h1
        have hpk0 : pk (nrb P (fd P cut t) (fd P cut t n) k) (fun _ => 0) (pN P) = some q0 := by
          unfold upk at f0
          split at f0
          · exact absurd f0 (by simp)
          · split at f0
            · exact f0
            · exact absurd f0 (by simp)
        have hpk1 : pk (nrb P (fd P cut t) (fd P cut t n) k) mv (pN P) = some q := by
          unfold upk at f1
          split at f1
          · exact absurd f1 (by simp)
          · split at f1
            · exact f1
            · exact absurd f1 (by simp)
        have b0 := pk_some hpk0
        have b1 := pk_some hpk1
        rw [show lkx P (fd P cut t) (bt cut) n (some (k, q0)) = if tld P 0 && multi (msk (nrb P (fd P cut t) (fd P cut t n) k) (pN P)) then msk (nrb P (fd P cut t) (fd P cut t n) k) (pN P) else nI 0 from rfl]
        cases hm : (tld P 0 && multi (msk (nrb P (fd P cut t) (fd P cut t n) k) (pN P)))
        · simp only [Bool.false_eq_true, if_false]
          rw [ifc_t nI_0]
          refine ⟨l, ?_, fun _ _ => rfl⟩
          have eq : q0 = q := by
            cases ht0 : tld P 0
            · have hc : pk (nrb P (fd P cut t) (fd P cut t n) k) mv (pN P) = pk (nrb P (fd P cut t) (fd P cut t n) k) (fun _ => 0) (pN P) := pk_const _ (fun a b ha hb fa fb => by
                rw [← hmv]
                unfold mtv
                rw [lw_untold ht0, lw_untold ht0]
                unfold nrb at fa fb
                simp only [Bool.and_eq_true, decide_eq_true_eq] at fa fb
                show lN _ = lN _
                rw [show fd P cut t a = fd P cut t b by omega])
              rw [hc, hpk0] at hpk1
              exact Option.some.inj hpk1
            · rw [ht0, Bool.true_and] at hm
              obtain ⟨v, v1, v2⟩ := mask_ex (x := msk (nrb P (fd P cut t) (fd P cut t n) k) (pN P)) (n := 7) (fun j hj hb => by have := msk_in (by omega) j hj hb; omega)
              have hb : ∀ j, j < pN P → nrb P (fd P cut t) (fd P cut t n) k j = true → bt (nI v) j = true := fun j h1 h2 => by
                rw [← v2, msk_bt _ _ (by omega) j (by omega), h2, decide_eq_true h1]; rfl
              rw [v2] at hm
              exact multi_f v1 hm (by omega) (by omega) (hb q0 b0.1 b0.2) (hb q b1.1 b1.2)
          rw [eq]
        · simp only [if_true]
          have hne : ¬ msk (nrb P (fd P cut t) (fd P cut t n) k) (pN P) = 0 := fun h => by
            have := (msk_0 (by omega)).mp h q b1.1
            rw [b1.2] at this; exact absurd this (by decide)
          obtain ⟨l2, z1, z2⟩ := preferred_ok (l := l) (s := s) (r := r) (f := nrb P (fd P cut t) (fd P cut t n) k) ho hp hw hP hs ht hN
          rw [hmv, hpk1] at z1
          rw [ifc_f hne, gd_n0 (by omega) (by omega), gd_in (by omega) (by omega), z1, crI_t]
          refine ⟨l2, ?_, z2⟩
          show some (some (Value.int (nI (8 * k + q0) / nI 8 * nI 8 + nI q)), _) = _
          rw [nI_div (by omega) (by omega) (by omega), nI_mul, nI_add, show (8 * k + q0) / 8 * 8 + q = 8 * k + q by omega]
          rfl
  · rw [if_neg h99, if_neg h99, show lkx P (fd P cut t) (bt cut) n none = nI 0 from rfl, ifc_t nI_0]
    exact ⟨l, rfl, fun _ _ => rfl⟩
end
end

section
/-! the reference's farOf, upLink -/
theorem u2_ck {α : Type} {f : Nat → Nat → α} {a k j : Nat} {x y : α} (h : k ≠ j) : u2 (u2 f a k x) a j y = u2 (u2 f a j y) a k x := by
  funext c m
  unfold u2
  by_cases h1 : c = a
  · simp only [h1, if_true]
    by_cases h2 : m = j
    · subst h2
      have h3 : ¬ m = k := fun h4 => h h4.symm
      simp only [h3, if_true, if_false]
    · simp only [h2, if_false]
  · simp only [h1, if_false]
section
variable {s r p : Nat}
theorem rootOf_ok {i : Nat → Nat → Int32} {l : Nat → Nat → Int64} {P : PL} {t : Nat} (hw : pwf P) (hP : PM P i) (ht : t ≤ pS P) : Mo_rootOf (nI t) (i, l, Rp s r p) = some (some (.int (rt P t)), (i, l, Rp s r p)) := by
  have h3 := hw.1.2.2.1
  rw [Mo_rootOf_eq, ifc_z (by omega), gd_in (by omega) (by omega)]
  by_cases h0 : t = 0
  · subst h0
    rw [if_pos rfl, show (nI 0).toNatClampNeg = 0 from rfl, hP.2.1]
  · have hs := hw.2.2.2.2.2.1 (t - 1) (by omega)
    rw [if_neg h0, pk_sub (by omega), gd_in (by omega) (by omega), nI_clamp (by omega), (hP.2.2.2.2.2.1 (t - 1) (by omega)).2]
    unfold rt
    rw [if_neg (by omega), if_neg h0]
theorem farOf_ok {i : Nat → Nat → Int32} {l : Nat → Nat → Int64} {P : PL} {b t n : Nat} {cut : Int32} (hw : pwf P) (hP : PM P i) (hc : i 82 73 = nM 1) (hb : b < 2) (hcut : i 108 b = cut) (ht : t ≤ pS P) (hn : n < 7) :
    Mo_farOf (nI b) (nI t) (nI n) (i, l, Rp s r p) = some (some (.int (nI (fd P cut t n))), (ov i 119 0 7 (fd P cut t), l, Rp s r p)) := by
  rw [Mo_farOf_eq, rootOf_ok hw hP ht, crI_t, gd_in hb (by omega), nI_clamp (by omega), hcut]
  have hl := layDist_ok (i := i) (l := l) (s := s) (r := r) (p := p) (N := pN P) (L := pL P) (root := rt P t) (out := cut) (mem := mem P) (cost := cst P) hP.1.1 hw.1.1 hP.1.2.1 hw.1.2.1 (fun k hk => (hP.2.2.2.2.1 k hk).2) (fun k hk => by
    have h8 := hw.1.2.1
    have hne : ¬ nI k = i 82 73 := by
      rw [hc]
      intro h
      have h1 := nM_neg (m := 1) (by omega) (by omega)
      rw [← h] at h1
      exact nI_pos (by omega) h1
    rw [if_neg hne, (hP.2.2.2.2.1 k hk).1]) (fun k hk => (PC_costs (i := i) hw k hk).1) (fun k hk => (PC_costs (i := i) hw k hk).2)
  rw [hl, crV_t, gd_in hn (by omega), nI_clamp (by omega), ov_0 i 119 _ hn]
  rfl
def lnk (u : Option (Nat × Nat)) : Int32 := match u with
  | none => nM 1
  | some q => nI q.1
def ndo (u : Option (Nat × Nat)) : Int32 := match u with
  | none => nM 1
  | some q => nI q.2
/-- the reference's memory while it looks for UP -/
def mU (i : Nat → Nat → Int32) (D : Nat → Nat) (e x : Int32) : Nat → Nat → Int32 := u2 (u2 (ov i 119 0 7 D) 82 53 e) 82 76 x
theorem mU_r {i : Nat → Nat → Int32} {D : Nat → Nat} {e x : Int32} {a : Nat} (h1 : a ≠ 119) (h2 : a ≠ 82) : mU i D e x a = i a := ((u2_r h2).trans (u2_r h2)).trans (ov_c h1)
theorem mU_k {i : Nat → Nat → Int32} {D : Nat → Nat} {e x : Int32} {k : Nat} (h1 : k ≠ 53) (h2 : k ≠ 76) : mU i D e x 82 k = i 82 k := ((u2_k h2).trans (u2_k h1)).trans (congrFun (ov_c (by decide)) k)
theorem mU_119 {i : Nat → Nat → Int32} {D : Nat → Nat} {e x : Int32} {k : Nat} (h : k < 7) : mU i D e x 119 k = nI (D k) := ((u2_i (by decide)).trans (u2_i (by decide))).trans (ov_0 i 119 D h)
theorem mU_53 {i : Nat → Nat → Int32} {D : Nat → Nat} {e x : Int32} : mU i D e x 82 53 = e := (u2_k (by decide)).trans (u2_s _ _ _ _)
theorem mU_76 {i : Nat → Nat → Int32} {D : Nat → Nat} {e x : Int32} : mU i D e x 82 76 = x := u2_s _ _ _ _
theorem mU_s53 {i : Nat → Nat → Int32} {D : Nat → Nat} {e x y : Int32} : u2 (mU i D e x) 82 53 y = mU i D y x := by
  unfold mU
  rw [u2_ck (by decide : (76 : Nat) ≠ 53), u2_u2]
theorem mU_s76 {i : Nat → Nat → Int32} {D : Nat → Nat} {e x y : Int32} : u2 (mU i D e x) 82 76 y = mU i D e y := u2_u2 _ _ _ _ _
theorem mU_PM {i : Nat → Nat → Int32} {D : Nat → Nat} {e x : Int32} {P : PL} (hw : pwf P) (hP : PM P i) : PM P (mU i D e x) := PM_fr hw hP (fun a k hq => by
  by_cases h1 : a = 119
  · subst h1; simp [qPM] at hq
  · by_cases h2 : a = 82
    · subst h2
      by_cases h3 : k = 53
      · subst h3; simp [qPM] at hq
      · by_cases h4 : k = 76
        · subst h4; simp [qPM] at hq
        · exact mU_k h3 h4
    · exact congrFun (mU_r h1 h2) k)
theorem mU_SM {i : Nat → Nat → Int32} {D : Nat → Nat} {e x : Int32} {b : Nat} {σ : ST} (h : SM b σ i) : SM b σ (mU i D e x) := SM_fr h (fun a h1 h2 => mU_r (by omega) (by omega))
theorem upLink_ok {i : Nat → Nat → Int32} {l : Nat → Nat → Int64} {P : PL} {σ : ST} {b t n : Nat} (hw : pwf P) (hP : PM P i) (hs : swf P σ) (hS : SM b σ i) (hc : i 82 73 = nM 1) (hb : b < 2) (ht : t ≤ pS P) (hn : n < pN P) :
    ∃ l' e, Mo_upLink (nI b) (nI t) (nI n) (i, l, Rp s r p) = some (some (.int (lnk (upl P (fd P (σ 0 8) t) (bt (σ 0 8)) (mtv P (fd P (σ 0 8) t) σ t) n))), (mU i (fd P (σ 0 8) t) e (ndo (upl P (fd P (σ 0 8) t) (bt (σ 0 8)) (mtv P (fd P (σ 0 8) t) σ t) n)), l', Rp s r p)) ∧ ∀ a, a ≠ 106 → a ≠ 107 → l' a = l a := by
  have h7 := hw.1.1
  have h8 := hw.1.2.1
  have h3 := hw.1.2.2.1
  have hcut : i 108 b = σ 0 8 := hS.1
  have hD9 := fd_99 P (σ 0 8) t
  rw [Mo_upLink_eq, farOf_ok hw hP hc hb hcut ht (by omega), crI_t]
  have e0 : u2 (ov i 119 0 7 (fd P (σ 0 8) t)) 82 76 (nM 1) = mU i (fd P (σ 0 8) t) (i 82 53) (nM 1) := by
    unfold mU
    rw [u2_self (f := ov i 119 0 7 (fd P (σ 0 8) t)) (congrFun (ov_c (by decide)) 53)]
  rw [e0, rootOf_ok hw (mU_PM hw hP) ht, crI_t]
  have hroot0 : nI n = rt P t → fd P (σ 0 8) t n = 0 := by
    intro h
    have h1 := itr_le (pN P) (pL P) (mem P) (cst P) (bt (σ 0 8)) (dst0 (rt P t)) n (pN P)
    have h2 : dst0 (rt P t) n = 0 := if_pos h
    unfold fd dst
    omega
  generalize hD : fd P (σ 0 8) t = D at *
  generalize hmv : mtv P D σ t = mv
  -- the candidates on one link
  have k81 : ∀ k, k < pL P → ∀ m q (l1 : Nat → Nat → Int64) (e : Int32), m + q = pN P → (∀ a, a ≠ 106 → a ≠ 107 → l1 a = l a) →
      ∃ l' e', Mo_upLink_81 (nI b) (nI t) (nI n) (nI (D n)) (nI k) (pleast mv (pk (nrb P D (D n) k) mv q)) (nI q) (mU i D e (pbest (pk (nrb P D (D n) k) mv q)), l1, Rp s r p) = (match pk (nrb P D (D n) k) mv (pN P) with
        | none => Mo_upLink_35 (nI b) (nI t) (nI n) (nI (D n)) (nI (k + 1)) (mU i D e' (nM 1), l', Rp s r p)
        | some u => some (some (.int (nI k)), (mU i D e' (nI u), l', Rp s r p))) ∧ ∀ a, a ≠ 106 → a ≠ 107 → l' a = l a := by
    intro k hk m
    have hck := hw.2.2.2.1 k hk
    induction m with
    | zero =>
      intro q l1 e hm hf
      have eq : q = pN P := by omega
      subst eq
      rw [Mo_upLink_81_eq, mU_k (by decide) (by decide), hP.1.1, ifc_f (nI_nlt (Nat.le_refl _) (by omega)), mU_76, nI_add]
      cases hpk : pk (nrb P D (D n) k) mv (pN P) with
      | none =>
        rw [ifc_t (show pbest none < 0 from nM_neg (by omega) (by omega))]
        exact ⟨l1, e, rfl, hf⟩
      | some u =>
        have hu := pk_some hpk
        rw [ifc_f (show ¬ pbest (some u) < 0 from nI_pos (by omega))]
        exact ⟨l1, e, rfl, hf⟩
    | succ m ih =>
      intro q l1 e hm hf
      have hq : q < pN P := by omega
      have hpk : pk (nrb P D (D n) k) mv (q + 1) = if nrb P D (D n) k q then (match pk (nrb P D (D n) k) mv q with
        | none => some q
        | some u => if mv q < mv u then some q else some u) else pk (nrb P D (D n) k) mv q := rfl
      have skip : nrb P D (D n) k q = false → ∀ (l1 : Nat → Nat → Int64) (e : Int32), (∀ a, a ≠ 106 → a ≠ 107 → l1 a = l a) → ∃ l' e', Mo_upLink_81 (nI b) (nI t) (nI n) (nI (D n)) (nI k) (pleast mv (pk (nrb P D (D n) k) mv q)) (nI (q + 1)) (mU i D e (pbest (pk (nrb P D (D n) k) mv q)), l1, Rp s r p) = (match pk (nrb P D (D n) k) mv (pN P) with
          | none => Mo_upLink_35 (nI b) (nI t) (nI n) (nI (D n)) (nI (k + 1)) (mU i D e' (nM 1), l', Rp s r p)
          | some u => some (some (.int (nI k)), (mU i D e' (nI u), l', Rp s r p))) ∧ ∀ a, a ≠ 106 → a ≠ 107 → l' a = l a := by
        intro hnb l1 e hf
        have := ih (q + 1) l1 e (by omega) hf
        rw [hpk, hnb] at this
        exact this
      rw [Mo_upLink_81_eq, mU_k (by decide) (by decide), hP.1.1, ifc_t (nI_lt hq (by omega)), ifc_eq (by omega) (by omega), nI_add]
      by_cases hqn : q = n
      · rw [if_pos hqn]
        refine skip ?_ l1 e hf
        unfold nrb
        rw [hqn, decide_eq_false (by omega), Bool.and_false]
      · rw [if_neg hqn, gd_in (by omega) (by omega), mU_r (show (90 : Nat) ≠ 119 by decide) (by decide), nI_clamp (by omega), (hP.2.2.2.2.1 k hk).2, isOf_ok _ (by omega), crI_t, ifc_b]
        cases hbq : bt (mem P k) q
        · rw [if_neg (by decide)]
          exact skip (by unfold nrb; rw [hbq]; rfl) l1 e hf
        · rw [if_pos rfl]
          have hq9 := hD9 q
          have hn9 := hD9 n
          rw [gd_in (by omega) (by omega), gd_in (by omega) (by omega), nI_clamp (by omega), mU_119 (by omega), mU_r (show (89 : Nat) ≠ 119 by decide) (by decide), nI_clamp (by omega), (hP.2.2.2.2.1 k hk).1, nI_add, ifc_eq (by omega) (by omega)]
          by_cases hdq : D q + cst P k = D n
          · rw [if_pos hdq, gd_in (by omega) (by omega), gd_in (by omega) (by omega), mU_r (show (98 : Nat) ≠ 119 by decide) (by decide), (hP.2.2.2.2.2.2.2.2 0 (by omega)).1, ifc_b, gd_in (by omega) (by omega)]
            have hnb : nrb P D (D n) k q = true := by
              unfold nrb
              rw [hbq, decide_eq_true hdq]; rfl
            -- with the candidate's number
            have take : ∀ (l2 : Nat → Nat → Int64) (e2 : Int32), (∀ a, a ≠ 106 → a ≠ 107 → l2 a = l a) → ∃ l' e', Mo_upLink_191 (nI b) (nI t) (nI n) (nI (D n)) (nI k) (pleast mv (pk (nrb P D (D n) k) mv q)) (nI q) (mv q) (mU i D e2 (pbest (pk (nrb P D (D n) k) mv q)), l2, Rp s r p) = (match pk (nrb P D (D n) k) mv (pN P) with
                | none => Mo_upLink_35 (nI b) (nI t) (nI n) (nI (D n)) (nI (k + 1)) (mU i D e' (nM 1), l', Rp s r p)
                | some u => some (some (.int (nI k)), (mU i D e' (nI u), l', Rp s r p))) ∧ ∀ a, a ≠ 106 → a ≠ 107 → l' a = l a := by
              intro l2 e2 hf2
              have := ih (q + 1) l2 e2 (by omega) hf2
              rw [hpk, hnb, if_pos rfl] at this
              rw [Mo_upLink_191_eq, mU_76, ifc_llt, mU_s76, nI_add]
              cases hpq : pk (nrb P D (D n) k) mv q with
              | none =>
                rw [hpq] at this
                rw [ifc_t (show pbest none < 0 from nM_neg (by omega) (by omega))]
                exact this
              | some u =>
                rw [hpq] at this
                have hu := pk_some hpq
                rw [ifc_f (show ¬ pbest (some u) < 0 from nI_pos (by omega))]
                by_cases hl : mv q < mv u
                · rw [if_pos (show mv q < pleast mv (some u) from hl)]
                  simp only [hl, if_true] at this
                  exact this
                · rw [if_neg (show ¬ mv q < pleast mv (some u) from hl)]
                  simp only [hl, if_false] at this
                  exact this
            have hmq : mv q = (lw P 0 D σ t q).getD (lN (D q)) := by rw [← hmv]; rfl
            cases htl : tld P 0
            · rw [if_neg (by decide), nI_l (by omega)]
              rw [lw_untold htl] at hmq
              rw [show lN (D q) = mv q from hmq.symm]
              exact take l1 e hf
            · rw [if_pos rfl]
              obtain ⟨l2, a1, a2, a3⟩ := lay_ok (i := mU i D e (pbest (pk (nrb P D (D n) k) mv q))) (l := l1) (s := s) (r := r) (p := p) (D := D) (f := D q) hw (mU_PM hw hP) hs (mU_SM hS) hb (show t < 4 by omega) (show q < 7 by omega) rfl hq9
              rw [a1, crV_t]
              obtain ⟨g1, g2, g3, g4⟩ := hw.2.2.2.2.2.2.2.2 0 (by omega)
              have hPU := mU_PM (D := D) (e := e) (x := pbest (pk (nrb P D (D n) k) mv q)) hw hP
              obtain ⟨_, d2⟩ := hPU.2.2.2.2.2.2.2.2 0 (by omega)
              obtain ⟨d3, d4, d5⟩ := d2 htl
              obtain ⟨l3, v, a4, a5, a6⟩ := lawOf_ok (l := l2) (s := s) (r := r) (p := p) (w := 0) (vl := vls D σ t q) (by omega) d3 d4 (of_decide_eq_true htl) g2 g3 g4 d5 a3 (fun k _ _ => vls_bnd hq9 (by omega) (by omega) k)
              rw [a4, crL_t, mU_s53, mU_53, ifc_b, nI_l (by omega)]
              have hf3 : ∀ a, a ≠ 106 → a ≠ 107 → l3 a = l a := fun a h1 h2 => (a5 a h2).trans ((a2 a h1).trans (hf a h1 h2))
              have hlw : lw P 0 D σ t q = lval (P.2.1 12) (P.2.1 13) (vls D σ t q) (P.2.1 14 0) (P.2.1 15 0) := rfl
              rw [hlw] at hmq
              cases hv : lval (P.2.1 12) (P.2.1 13) (vls D σ t q) (P.2.1 14 0) (P.2.1 15 0) with
              | none =>
                rw [hv] at hmq
                rw [if_pos (show (none : Option Int64).isNone = true from rfl), show lN (D q) = mv q from hmq.symm]
                exact take l3 _ hf3
              | some z =>
                rw [hv] at hmq a6
                rw [if_neg (show ¬ (some z).isNone = true from Bool.false_ne_true), show v = mv q from a6.trans hmq.symm]
                exact take l3 _ hf3
          · rw [if_neg hdq]
            exact skip (by unfold nrb; rw [decide_eq_false hdq, Bool.and_false]) l1 e hf
  -- the links
  have k35 : ∀ m k (l1 : Nat → Nat → Int64) (e : Int32), m + k = pL P → (∀ a, a ≠ 106 → a ≠ 107 → l1 a = l a) →
      ∃ l' e', Mo_upLink_35 (nI b) (nI t) (nI n) (nI (D n)) (nI k) (mU i D e (nM 1), l1, Rp s r p) = some (some (.int (lnk (fst1 (upk P D (bt (σ 0 8)) mv n) m k))), (mU i D e' (ndo (fst1 (upk P D (bt (σ 0 8)) mv n) m k)), l', Rp s r p)) ∧ ∀ a, a ≠ 106 → a ≠ 107 → l' a = l a := by
    intro m
    induction m with
    | zero =>
      intro k l1 e hm hf
      rw [Mo_upLink_35_eq, mU_k (by decide) (by decide), hP.1.2.1, ifc_f (nI_nlt (by omega) (by omega))]
      exact ⟨l1, e, rfl, hf⟩
    | succ m ih =>
      intro k l1 e hm hf
      have hf1 : fst1 (upk P D (bt (σ 0 8)) mv n) (m + 1) k = match upk P D (bt (σ 0 8)) mv n k with
        | some q => some (k, q)
        | none => fst1 (upk P D (bt (σ 0 8)) mv n) m (k + 1) := rfl
      have hupk : upk P D (bt (σ 0 8)) mv n k = if bt (σ 0 8) k then none else if bt (mem P k) n then pk (nrb P D (D n) k) mv (pN P) else none := rfl
      rw [hf1, hupk, Mo_upLink_35_eq, mU_k (by decide) (by decide), hP.1.2.1, ifc_t (nI_lt (by omega) (by omega)), gd_in hb (by omega), mU_r (show (108 : Nat) ≠ 119 by decide) (by decide), nI_clamp (by omega), hcut, isOf_ok _ (by omega), crI_t, ifc_b, nI_add]
      cases hct : bt (σ 0 8) k
      · simp only [Bool.false_eq_true, if_false]
        rw [gd_in (by omega) (by omega), mU_r (show (90 : Nat) ≠ 119 by decide) (by decide), nI_clamp (by omega), (hP.2.2.2.2.1 k (by omega)).2, isOf_ok _ (by omega), crI_t, ifc_b]
        cases hbn : bt (mem P k) n
        · simp only [Bool.false_eq_true, if_false]
          exact ih (k + 1) l1 e (by omega) hf
        · simp only [if_true]
          obtain ⟨l2, e2, z1, z2⟩ := k81 k (by omega) (pN P) 0 l1 e (by omega) hf
          have z3 : Mo_upLink_81 (nI b) (nI t) (nI n) (nI (D n)) (nI k) (lN 0) (nI 0) (mU i D e (nM 1), l1, Rp s r p) = (match pk (nrb P D (D n) k) mv (pN P) with
            | none => Mo_upLink_35 (nI b) (nI t) (nI n) (nI (D n)) (nI (k + 1)) (mU i D e2 (nM 1), l2, Rp s r p)
            | some u => some (some (.int (nI k)), (mU i D e2 (nI u), l2, Rp s r p))) := z1
          rw [z3]
          cases hpk : pk (nrb P D (D n) k) mv (pN P) with
          | none => exact ih (k + 1) l2 e2 (by omega) z2
          | some u => exact ⟨l2, e2, rfl, z2⟩
      · simp only [if_true]
        exact ih (k + 1) l1 e (by omega) hf
  have hup : upl P D (bt (σ 0 8)) mv n = if D n < 99 then fst1 (upk P D (bt (σ 0 8)) mv n) (pL P) 0 else none := rfl
  have hn9 := hD9 n
  by_cases hr : nI n = rt P t
  · rw [ifc_t hr]
    have h0 := hroot0 hr
    have hnone : upl P D (bt (σ 0 8)) mv n = none := by
      rw [hup]
      split
      · cases hz : fst1 (upk P D (bt (σ 0 8)) mv n) (pL P) 0 with
        | none => rfl
        | some a =>
          exfalso
          obtain ⟨k, q⟩ := a
          obtain ⟨_, z1, z2⟩ := fst1_some hz
          unfold upk at z2
          split at z2
          · exact absurd z2 (by simp)
          · split at z2
            · have z3 := (pk_some z2).2
              unfold nrb at z3
              simp only [Bool.and_eq_true, decide_eq_true_eq] at z3
              have := hw.2.2.2.1 k (by omega)
              omega
            · exact absurd z2 (by simp)
      · rfl
    rw [hnone]
    exact ⟨l, _, rfl, fun _ _ _ => rfl⟩
  · rw [ifc_f hr, ifc_lt (by omega) (by omega), hup]
    by_cases h99 : D n < 99
    · rw [if_pos h99, if_pos h99]
      exact k35 (pL P) 0 l _ (by omega) (fun _ _ _ => rfl)
    · rw [if_neg h99, if_neg h99]
      exact ⟨l, _, rfl, fun _ _ _ => rfl⟩
end
end
