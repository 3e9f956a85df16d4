section
/-! base rows: numbers, bits, memory, loops (the family bt out of kit/laws/BITS.to-paste) -/
def bt (x : Int32) (i : Nat) : Bool := x.toBitVec.getLsbD i
theorem b_ext {x y : Int32} (h : ∀ i, i < 32 → bt x i = bt y i) : x = y := Int32.toBitVec_inj.mp (BitVec.eq_of_getLsbD_eq (fun i hi => h i hi))
theorem b_or (x y : Int32) (i : Nat) : bt (x ||| y) i = (bt x i || bt y i) := by unfold bt; rw [Int32.toBitVec_or, BitVec.getLsbD_or]
theorem b_and (x y : Int32) (i : Nat) : bt (x &&& y) i = (bt x i && bt y i) := by unfold bt; rw [Int32.toBitVec_and, BitVec.getLsbD_and]
theorem b_xor (x y : Int32) (i : Nat) : bt (x ^^^ y) i = (bt x i ^^ bt y i) := by unfold bt; rw [Int32.toBitVec_xor, BitVec.getLsbD_xor]
theorem b_big {x : Int32} {i : Nat} (h : 32 ≤ i) : bt x i = false := BitVec.getLsbD_of_ge _ _ h
theorem b_255 (i : Nat) : bt 255 i = decide (i < 8) := by
  rcases Nat.lt_or_ge i 32 with h | h
  · exact (by decide +kernel : ∀ i, i < 32 → bt 255 i = decide (i < 8)) i h
  · rw [b_big h, decide_eq_false (by omega)]
theorem b_65535 (i : Nat) : bt 65535 i = decide (i < 16) := by
  rcases Nat.lt_or_ge i 32 with h | h
  · exact (by decide +kernel : ∀ i, i < 32 → bt 65535 i = decide (i < 16)) i h
  · rw [b_big h, decide_eq_false (by omega)]
theorem b_m1 : ∀ i, i < 32 → bt (-1) i = true := by decide +kernel
theorem b_0 (i : Nat) : bt 0 i = false := BitVec.getLsbD_zero
theorem s_l : ∀ n, n < 32 → ((nI n &&& 31).toBitVec.smod 32).toNat = n := by decide +kernel
theorem s_u : ∀ n, n < 32 → (((nI n).toUInt32 &&& Int32.toUInt32 31).toBitVec % 32).toNat = n := by decide +kernel
theorem b_shl (n : Nat) (hn : n < 32) (x : Int32) {i : Nat} (hi : i < 32) : bt (x <<< (nI n &&& 31)) i = (decide (n ≤ i) && bt x (i - n)) := by
  unfold bt
  rw [Int32.toBitVec_shiftLeft]
  show (x.toBitVec <<< ((nI n &&& 31).toBitVec.smod 32).toNat).getLsbD i = _
  rw [s_l n hn, BitVec.getLsbD_shiftLeft]
  rcases Nat.lt_or_ge i n with h | h
  · simp [h, Nat.not_le.mpr h]
  · simp [hi, h, Nat.not_lt.mpr h]
theorem b_ushr (n : Nat) (hn : n < 32) (x : Int32) (i : Nat) : bt ((x.toUInt32 >>> ((nI n).toUInt32 &&& Int32.toUInt32 31)).toInt32) i = bt x (n + i) := by
  show (x.toUInt32 >>> ((nI n).toUInt32 &&& Int32.toUInt32 31)).toBitVec.getLsbD i = x.toUInt32.toBitVec.getLsbD (n + i)
  rw [UInt32.toBitVec_shiftRight]
  show (x.toUInt32.toBitVec >>> (((nI n).toUInt32 &&& Int32.toUInt32 31).toBitVec % 32).toNat).getLsbD i = _
  rw [s_u n hn, BitVec.getLsbD_ushiftRight]
theorem b_sshr (n : Nat) (hn : n < 32) (x : Int32) {i : Nat} (hi : i < 32) : bt (x >>> (nI n &&& 31)) i = if n + i < 32 then bt x (n + i) else bt x 31 := by
  unfold bt
  rw [Int32.toBitVec_shiftRight]
  show (x.toBitVec.sshiftRight ((nI n &&& 31).toBitVec.smod 32).toNat).getLsbD i = _
  rw [s_l n hn, BitVec.getLsbD_sshiftRight, BitVec.msb_eq_getLsbD_last]
  simp [hi]
section
variable {α : Type}
theorem gd_t {c : Prop} {x : Option α} (h : c) : gd c x = x := by unfold gd; exact if_pos h
theorem crV_t {i i' : Nat → Nat → Int32} {l l' : Nat → Nat → Int64} {R : Nat → Nat → Option Nat} {f : (Nat → Nat → Int32) → (Nat → Nat → Int64) → Option α} : crV (some (none, (i', l', R))) (i, l, R) f = f i' l' := by
  unfold crV
  exact if_pos rfl
theorem crI_t {i i' : Nat → Nat → Int32} {l l' : Nat → Nat → Int64} {R : Nat → Nat → Option Nat} {x : Int32} {f : Int32 → (Nat → Nat → Int32) → (Nat → Nat → Int64) → Option α} : crI (some (some (.int x), (i', l', R))) (i, l, R) f = f x i' l' := by
  unfold crI
  exact if_pos rfl
theorem crL_t {i i' : Nat → Nat → Int32} {l l' : Nat → Nat → Int64} {R : Nat → Nat → Option Nat} {x : Int64} {f : Int64 → (Nat → Nat → Int32) → (Nat → Nat → Int64) → Option α} : crL (some (some (.long x), (i', l', R))) (i, l, R) f = f x i' l' := by
  unfold crL
  exact if_pos rfl
theorem rpOf_Rp (a b d : Nat) : rpOf (Rp a b d) = some (a, b, d) := by
  have hx : ∃ q : Nat × Nat × Nat, Rp a b d = Rp q.1 q.2.1 q.2.2 := ⟨(a, b, d), rfl⟩
  unfold rpOf
  rw [dif_pos hx]
  have h := hx.choose_spec
  have h1 : a = hx.choose.1 := Option.some.inj (congrFun (congrFun h 0) 1)
  have h2 : b = hx.choose.2.1 := Option.some.inj (congrFun (congrFun h 23) 3)
  have h3 : d = hx.choose.2.2 := Option.some.inj (congrFun (congrFun h 26) 6)
  exact congrArg some (Prod.ext h1.symm (Prod.ext h2.symm h3.symm))
theorem cmV_t {i' : Nat → Nat → Int32} {l' : Nat → Nat → Int64} {a b d : Nat} {f : (Nat → Nat → Int32) → (Nat → Nat → Int64) → Nat → Nat → Nat → Option α} : cmV (some (none, (i', l', Rp a b d))) f = f i' l' a b d := by
  simp only [cmV, rpOf_Rp]
theorem cmI_t {i' : Nat → Nat → Int32} {l' : Nat → Nat → Int64} {a b d : Nat} {x : Int32} {f : Int32 → (Nat → Nat → Int32) → (Nat → Nat → Int64) → Nat → Nat → Nat → Option α} : cmI (some (some (.int x), (i', l', Rp a b d))) f = f x i' l' a b d := by
  simp only [cmI, rpOf_Rp]
theorem u2_s (f : Nat → Nat → α) (a k : Nat) (x : α) : u2 f a k x a k = x := by simp [u2]
theorem u2_i {f : Nat → Nat → α} {a k : Nat} {x : α} {c j : Nat} (h : c ≠ a) : u2 f a k x c j = f c j := by simp [u2, h]
theorem u2_k {f : Nat → Nat → α} {a k : Nat} {x : α} {j : Nat} (h : j ≠ k) : u2 f a k x a j = f a j := by simp [u2, h]
/-- loops: up to n, by a relation -/
theorem loop_ex {σ β : Type} {F : Nat → σ → Option β} {I9 : Nat → σ → Prop} {n : Nat} (h : ∀ k s, k < n → I9 k s → ∃ s', F k s = F (k + 1) s' ∧ I9 (k + 1) s') : ∀ k s, k ≤ n → I9 k s → ∃ s', F k s = F n s' ∧ I9 n s' := by
  intro k s hk hi
  induction hd : n - k generalizing k s with
  | zero =>
    have e : k = n := by omega
    subst e
    exact ⟨s, rfl, hi⟩
  | succ m ih =>
    obtain ⟨s1, e1, i1⟩ := h k s (by omega) hi
    obtain ⟨s2, e2, i2⟩ := ih (k + 1) s1 (by omega) i1 (by omega)
    exact ⟨s2, e1.trans e2, i2⟩
/-- the same, where a turn may answer -/
theorem loop_ret {σ β : Type} {F : Nat → σ → Option β} {I9 : Nat → σ → Prop} {Q : β → Prop} {n : Nat} (h : ∀ k s, k < n → I9 k s → (∃ r, F k s = some r ∧ Q r) ∨ ∃ s', F k s = F (k + 1) s' ∧ I9 (k + 1) s') (he : ∀ s, I9 n s → ∃ r, F n s = some r ∧ Q r) : ∀ k s, k ≤ n → I9 k s → ∃ r, F k s = some r ∧ Q r := by
  intro k s hk hi
  induction hd : n - k generalizing k s with
  | zero =>
    have e : k = n := by omega
    subst e
    exact he s hi
  | succ m ih =>
    rcases h k s (by omega) hi with hr | ⟨s1, e1, i1⟩
    · exact hr
    · obtain ⟨r, e2, i2⟩ := ih (k + 1) s1 (by omega) i1 (by omega)
      exact ⟨r, e1.trans e2, i2⟩
/-- a loop by a measure -/
theorem loop_wf {σ β : Type} {F : σ → Option β} {I9 : σ → Prop} (μ : σ → Nat) {Q : β → Prop} (h : ∀ s, I9 s → (∃ r, F s = some r ∧ Q r) ∨ ∃ s', F s = F s' ∧ I9 s' ∧ μ s' < μ s) : ∀ s, I9 s → ∃ r, F s = some r ∧ Q r := by
  intro s hi
  induction hm : μ s using Nat.strongRecOn generalizing s with
  | _ m ih =>
    rcases h s hi with hr | ⟨s1, e1, i1, l1⟩
    · exact hr
    · obtain ⟨r, e2, q⟩ := ih (μ s1) (by omega) s1 i1 rfl
      exact ⟨r, e1.trans e2, q⟩
end
/-! numbers -/
theorem inB_nI {k n : Nat} (h : k < n) (hn : n < 2 ^ 31) : inB (nI k) n := ⟨nI_pos (by omega), by rw [nI_clamp (by omega)]; exact h⟩
theorem isB_0 : isB (nI 0) := Or.inl rfl
theorem isB_1 : isB (nI 1) := Or.inr rfl
theorem nM_neg {m : Nat} (h : 0 < m) (hm : m < 2 ^ 31) : nM m < 0 := by
  unfold nM
  rw [Int32.lt_iff_toInt_lt]
  have e : (-nI m).toInt = -(m : Int) := by
    rw [Int32.toInt_neg, nI_toInt hm]
    rw [Int.bmod_eq_of_le] <;> omega
  rw [e]
  show -(m : Int) < 0
  omega
theorem nI_nM {a b : Nat} (h : b ≤ a) : nI a + nM b = nI (a - b) := by
  unfold nM
  rw [← pk_sub h, Int32.sub_eq_add_neg]
theorem nI_inj {a b : Nat} (ha : a < 2 ^ 31) (hb : b < 2 ^ 31) (h : nI a = nI b) : a = b := (nI_eq ha hb).mp h
theorem nI_lt_t {a b : Nat} (h : a < b) (hb : b < 2 ^ 31) : nI a < nI b := nI_lt h hb
theorem nI_lt_f {a b : Nat} (h : b ≤ a) (ha : a < 2 ^ 31) : ¬ nI a < nI b := nI_nlt h ha
/-- one bit of a number, as the machine asks for it -/
theorem bit1 (x : Int32) {k : Nat} (hk : k < 32) : (x >>> (nI k &&& 31)) &&& nI 1 = if bt x k then nI 1 else nI 0 := by
  apply b_ext
  intro j hj
  rw [b_and, b_sshr k hk x hj]
  have h1 : bt (nI 1) j = decide (j = 0) := (by decide +kernel : ∀ j, j < 32 → bt (nI 1) j = decide (j = 0)) j hj
  rw [h1]
  by_cases h0 : j = 0
  · subst h0
    rw [Nat.add_zero, if_pos hk]
    cases bt x k
    · simp [b_0, show (nI 0 : Int32) = 0 from rfl]
    · simp [h1]
  · simp only [h0, decide_false, Bool.and_false]
    split
    · rw [h1, decide_eq_false h0]
    · exact (b_0 j).symm
theorem bit1_0 (x : Int32) {k : Nat} (hk : k < 32) : ((x >>> (nI k &&& 31)) &&& nI 1) = 0 ↔ bt x k = false := by
  rw [bit1 x hk]
  cases bt x k <;> decide
theorem bt_mask {k : Nat} (hk : k < 32) {j : Nat} (hj : j < 32) : bt (nI 1 <<< (nI k &&& 31)) j = decide (j = k) := by
  rw [b_shl k hk _ hj]
  by_cases h : k ≤ j
  · have h1 : bt (nI 1) (j - k) = decide (j - k = 0) := (by decide +kernel : ∀ j, j < 32 → bt (nI 1) j = decide (j = 0)) (j - k) (by omega)
    rw [h1, decide_eq_true h, Bool.true_and]
    by_cases h2 : j = k
    · subst h2; simp
    · rw [decide_eq_false h2, decide_eq_false (by omega)]
  · rw [decide_eq_false h, Bool.false_and, decide_eq_false (by omega)]
theorem bt_nM1 {j : Nat} (hj : j < 32) : bt (nM 1) j = true := (by decide +kernel : ∀ j, j < 32 → bt (nM 1) j = true) j hj
section
variable {α : Type}
theorem ifc_True (x y : Option α) : ifc True x y = x := ifc_t trivial
theorem ifc_False (x y : Option α) : ifc False x y = y := ifc_f id
theorem ifc_if {c d : Prop} [Decidable d] (h : c ↔ d) (x y : Option α) : ifc c x y = if d then x else y := by
  by_cases hd : d
  · rw [if_pos hd, ifc_t (h.mpr hd)]
  · rw [if_neg hd, ifc_f (fun hc => hd (h.mp hc))]
theorem ifc_lt {a b : Nat} (ha : a < 2 ^ 31) (hb : b < 2 ^ 31) (x y : Option α) : ifc (nI a < nI b) x y = if a < b then x else y := ifc_if (nI_ltI ha hb) x y
theorem ifc_eq {a b : Nat} (ha : a < 2 ^ 31) (hb : b < 2 ^ 31) (x y : Option α) : ifc (nI a = nI b) x y = if a = b then x else y := ifc_if (nI_eq ha hb) x y
theorem ifc_neg {a : Nat} (ha : a < 2 ^ 31) (x y : Option α) : ifc (nI a < 0) x y = y := ifc_f (nI_pos ha)
theorem ifc_pos {a : Nat} (ha : a < 2 ^ 31) (x y : Option α) : ifc (0 < nI a) x y = if 0 < a then x else y := ifc_lt (a := 0) (by omega) ha x y
theorem ifc_z {a : Nat} (ha : a < 2 ^ 31) (x y : Option α) : ifc (nI a = 0) x y = if a = 0 then x else y := ifc_eq (b := 0) ha (by omega) x y
theorem ifc_bit (m : Int32) {k : Nat} (hk : k < 32) (x y : Option α) : ifc (((m >>> (nI k &&& 31)) &&& nI 1) = 0) x y = if bt m k = true then y else x := by
  by_cases h : bt m k = true
  · rw [if_pos h, ifc_f (fun hh => by rw [(bit1_0 m hk).mp hh] at h; exact absurd h (by decide))]
  · rw [if_neg h, ifc_t ((bit1_0 m hk).mpr (by simpa using h))]
theorem gd_in {k n : Nat} (h : k < n) (hn : n < 2 ^ 31) (x : Option α) : gd (inB (nI k) n) x = x := gd_t (inB_nI h hn)
theorem gd_0 (x : Option α) : gd (isB (nI 0)) x = x := gd_t isB_0
theorem gd_1 (x : Option α) : gd (isB (nI 1)) x = x := gd_t isB_1
theorem gd_n0 {n : Nat} (h0 : 0 < n) (hn : n < 2 ^ 31) (x : Option α) : gd (nI n ≠ 0) x = x := gd_t (nI_ne0 h0 hn)
theorem upto {β : Type} (F : Nat → β) (n : Nat) (h : ∀ k, k < n → F k = F (k + 1)) : ∀ k, k ≤ n → F k = F n := by
  intro k hk
  induction hd : n - k generalizing k with
  | zero => have e : k = n := by omega
            rw [e]
  | succ m ih => rw [h k (by omega)]; exact ih (k + 1) (by omega) (by omega)
end
/-! a stretch of a row, by numbers -/
def ov (i : Nat → Nat → Int32) (a b n : Nat) (D : Nat → Nat) : Nat → Nat → Int32 := fun c k => if c = a then (if b ≤ k ∧ k < b + n then nI (D (k - b)) else i c k) else i c k
def updN (D : Nat → Nat) (k x : Nat) : Nat → Nat := fun j => if j = k then x else D j
theorem ov_a (i : Nat → Nat → Int32) (a b : Nat) {n : Nat} (D : Nat → Nat) {k : Nat} (h : k < n) : ov i a b n D a (b + k) = nI (D k) := by
  unfold ov
  rw [if_pos rfl, if_pos ⟨by omega, by omega⟩, Nat.add_sub_cancel_left]
theorem ov_0 (i : Nat → Nat → Int32) (a : Nat) {n : Nat} (D : Nat → Nat) {k : Nat} (h : k < n) : ov i a 0 n D a k = nI (D k) := by
  have := ov_a i a 0 D h
  rwa [Nat.zero_add] at this
theorem ov_c {i : Nat → Nat → Int32} {a b n : Nat} {D : Nat → Nat} {c : Nat} (h : c ≠ a) : ov i a b n D c = i c := by
  funext k
  exact if_neg h
theorem ov_k {i : Nat → Nat → Int32} {a b n : Nat} {D : Nat → Nat} {c k : Nat} (h : ¬ (b ≤ k ∧ k < b + n)) : ov i a b n D c k = i c k := by
  unfold ov
  by_cases hc : c = a
  · rw [if_pos hc, if_neg h]
  · rw [if_neg hc]
theorem ov_self {i : Nat → Nat → Int32} {a b n : Nat} {D : Nat → Nat} (h : ∀ k, k < n → i a (b + k) = nI (D k)) : ov i a b n D = i := by
  funext c k
  unfold ov
  by_cases hc : c = a
  · rw [if_pos hc]
    by_cases hk : b ≤ k ∧ k < b + n
    · rw [if_pos hk, ← h (k - b) (by omega), hc, Nat.add_sub_cancel' hk.1]
    · rw [if_neg hk]
  · rw [if_neg hc]
theorem ov_u {i : Nat → Nat → Int32} {a b n : Nat} {D : Nat → Nat} {k x : Nat} (h : k < n) : u2 (ov i a b n D) a (b + k) (nI x) = ov i a b n (updN D k x) := by
  funext c j
  unfold u2 ov updN
  by_cases hc : c = a
  · simp only [hc, if_true]
    by_cases hj : j = b + k
    · subst hj
      rw [if_pos rfl, if_pos ⟨by omega, by omega⟩, if_pos (by omega)]
    · rw [if_neg hj]
      by_cases hk : b ≤ j ∧ j < b + n
      · rw [if_pos hk, if_pos hk, if_neg (by omega)]
      · rw [if_neg hk, if_neg hk]
  · simp only [hc, if_false]
theorem ov_ov {i : Nat → Nat → Int32} {a b n : Nat} {D E : Nat → Nat} : ov (ov i a b n D) a b n E = ov i a b n E := by
  funext c j
  unfold ov
  by_cases hc : c = a
  · simp only [hc, if_true]
    split
    · rfl
    · rfl
  · simp only [hc, if_false]
theorem ov_cg {i : Nat → Nat → Int32} {a b n : Nat} {D E : Nat → Nat} (h : ∀ k, k < n → D k = E k) : ov i a b n D = ov i a b n E := by
  funext c j
  unfold ov
  by_cases hc : c = a
  · simp only [hc, if_true]
    split
    · rename_i hk
      rw [h _ (by omega)]
    · rfl
  · simp only [hc, if_false]
/-- the first so many of one row, the others of another -/
def mix (A B : Nat → Nat) (k : Nat) : Nat → Nat := fun j => if j < k then A j else B j
theorem mix_0 (A B : Nat → Nat) : mix A B 0 = B := rfl
theorem mix_k (A B : Nat → Nat) (k : Nat) : mix A B k k = B k := if_neg (Nat.lt_irrefl k)
theorem mix_lt (A B : Nat → Nat) {k j : Nat} (h : j < k) : mix A B k j = A j := if_pos h
theorem mix_u {A B : Nat → Nat} {k x : Nat} (h : A k = x) : updN (mix A B k) k x = mix A B (k + 1) := by
  funext j
  unfold updN mix
  by_cases e : j = k
  · subst e; rw [if_pos rfl, if_pos (by omega), h]
  · rw [if_neg e]
    by_cases e2 : j < k
    · rw [if_pos e2, if_pos (by omega)]
    · rw [if_neg e2, if_neg (by omega)]
theorem mix_s {A B : Nat → Nat} {k : Nat} (h : A k = B k) : mix A B k = mix A B (k + 1) := by
  funext j
  unfold mix
  by_cases e : j = k
  · subst e; rw [if_neg (by omega), if_pos (by omega), h]
  · by_cases e2 : j < k
    · rw [if_pos e2, if_pos (by omega)]
    · rw [if_neg e2, if_neg (by omega)]
theorem ov_mix {i : Nat → Nat → Int32} {a b n : Nat} {A B : Nat → Nat} : ov i a b n (mix A B n) = ov i a b n A := ov_cg (fun k hk => if_pos hk)
theorem lN0 : lN 0 = 0 := rfl
theorem lN1 : lN 1 = 1 := rfl
end

section
/-! distances: rounds of one function; they stand still within as many rounds as there are nodes -/
def cnt (q : Nat → Bool) : Nat → Nat
  | 0 => 0
  | n + 1 => cnt q n + (if q n then 1 else 0)
theorem cnt_le (q : Nat → Bool) : ∀ n, cnt q n ≤ n
  | 0 => Nat.le_refl 0
  | n + 1 => by
    have h := cnt_le q n
    unfold cnt
    split <;> omega
theorem cnt_lt (q : Nat → Bool) : ∀ n k, k < n → q k = false → cnt q n < n
  | 0, k, h, _ => by omega
  | n + 1, k, h, hq => by
    unfold cnt
    by_cases e : k = n
    · subst e
      have := cnt_le q k
      rw [hq]
      simp
      omega
    · have := cnt_lt q n k (by omega) hq
      split <;> omega
theorem cnt_mono {q w : Nat → Bool} : ∀ n, (∀ k, k < n → q k = true → w k = true) → cnt q n ≤ cnt w n
  | 0, _ => Nat.le_refl 0
  | n + 1, h => by
    have h1 := cnt_mono (q := q) (w := w) n (fun k hk => h k (by omega))
    unfold cnt
    cases hq : q n
    · simp; omega
    · rw [h n (by omega) hq]; simp; omega
theorem cnt_mono_lt {q w : Nat → Bool} : ∀ n k, k < n → (∀ k, k < n → q k = true → w k = true) → q k = false → w k = true → cnt q n < cnt w n
  | 0, k, h, _, _, _ => by omega
  | n + 1, k, h, hm, hq, hw => by
    unfold cnt
    by_cases e : k = n
    · subst e
      have h1 := cnt_mono (q := q) (w := w) k (fun j hj => hm j (by omega))
      rw [hq, hw]
      simp
      omega
    · have h1 := cnt_mono_lt n k (by omega) (fun j hj => hm j (by omega)) hq hw
      cases hqn : q n
      · simp; omega
      · rw [hm n (by omega) hqn]; simp; omega
/-- the least of the rows' numbers at the bits of m, 99 at most -/
def near (m : Int32) (D : Nat → Nat) : Nat → Nat
  | 0 => 99
  | k + 1 => if bt m k then min (near m D k) (D k) else near m D k
theorem near_99 (m : Int32) (D : Nat → Nat) : ∀ n, near m D n ≤ 99
  | 0 => Nat.le_refl _
  | n + 1 => by
    have := near_99 m D n
    unfold near
    split <;> omega
theorem near_le (m : Int32) (D : Nat → Nat) : ∀ n k, k < n → bt m k = true → near m D n ≤ D k
  | 0, k, h, _ => by omega
  | n + 1, k, h, hb => by
    unfold near
    by_cases e : k = n
    · subst e
      rw [if_pos hb]
      exact Nat.min_le_right _ _
    · have := near_le m D n k (by omega) hb
      split <;> omega
theorem near_at (m : Int32) (D : Nat → Nat) : ∀ n, near m D n < 99 → ∃ k, k < n ∧ bt m k = true ∧ near m D n = D k
  | 0, h => by simp [near] at h
  | n + 1, h => by
    unfold near at h ⊢
    by_cases hb : bt m n = true
    · rw [if_pos hb] at h ⊢
      by_cases hc : near m D n ≤ D n
      · rw [Nat.min_eq_left hc] at h ⊢
        obtain ⟨k, h1, h2, h3⟩ := near_at m D n h
        exact ⟨k, by omega, h2, h3⟩
      · rw [Nat.min_eq_right (by omega)]
        exact ⟨n, by omega, hb, rfl⟩
    · rw [if_neg hb] at h ⊢
      obtain ⟨k, h1, h2, h3⟩ := near_at m D n h
      exact ⟨k, by omega, h2, h3⟩
theorem near_cg (m : Int32) {D E : Nat → Nat} : ∀ n, (∀ k, k < n → D k = E k) → near m D n = near m E n
  | 0, _ => rfl
  | n + 1, h => by
    unfold near
    rw [near_cg m n (fun k hk => h k (by omega)), h n (by omega)]
theorem near_mono (m : Int32) {D E : Nat → Nat} : ∀ n, (∀ k, k < n → D k ≤ E k) → near m D n ≤ near m E n
  | 0, _ => Nat.le_refl _
  | n + 1, h => by
    have h1 := near_mono m n (fun k hk => h k (by omega))
    have h2 := h n (by omega)
    unfold near
    split <;> omega
/-- a link's turn -/
def rlx (N : Nat) (m : Int32) (c : Nat) (D : Nat → Nat) : Nat → Nat := fun k => if k < N ∧ bt m k = true ∧ near m D N + c < D k then near m D N + c else D k
theorem rlx_t {N : Nat} {m : Int32} {c : Nat} {D : Nat → Nat} {k : Nat} (h1 : k < N) (h2 : bt m k = true) (h3 : near m D N + c < D k) : rlx N m c D k = near m D N + c := if_pos ⟨h1, h2, h3⟩
theorem rlx_f {N : Nat} {m : Int32} {c : Nat} {D : Nat → Nat} {k : Nat} (h : ¬ (k < N ∧ bt m k = true ∧ near m D N + c < D k)) : rlx N m c D k = D k := if_neg h
theorem rlx_le (N : Nat) (m : Int32) (c : Nat) (D : Nat → Nat) (k : Nat) : rlx N m c D k ≤ D k := by
  unfold rlx
  split <;> omega
theorem rlx_mono {N : Nat} {m : Int32} {c : Nat} {D E : Nat → Nat} (h : ∀ k, D k ≤ E k) (k : Nat) : rlx N m c D k ≤ rlx N m c E k := by
  have h1 := near_mono m N (fun j _ => h j)
  have h2 := h k
  unfold rlx
  by_cases hb : k < N ∧ bt m k = true
  · by_cases h3 : near m D N + c < D k
    · rw [if_pos ⟨hb.1, hb.2, h3⟩]
      split <;> omega
    · rw [if_neg (fun h => h3 h.2.2)]
      split <;> omega
  · rw [if_neg (fun h => hb ⟨h.1, h.2.1⟩), if_neg (fun h => hb ⟨h.1, h.2.1⟩)]
    exact h2
theorem rlx_via {N : Nat} {m : Int32} {c : Nat} {D : Nat → Nat} {k u : Nat} (hk : k < N) (hu : u < N) (bk : bt m k = true) (bu : bt m u = true) : rlx N m c D k ≤ D u + c := by
  have h1 := near_le m D N u hu bu
  unfold rlx
  split
  · omega
  · rename_i h
    have : ¬ (near m D N + c < D k) := fun hh => h ⟨hk, bk, hh⟩
    omega
/-- a round over the first links -/
def rnd (N : Nat) (mem : Nat → Int32) (cost : Nat → Nat) (out : Nat → Bool) : Nat → (Nat → Nat) → Nat → Nat
  | 0, D => D
  | n + 1, D => if out n then rnd N mem cost out n D else rlx N (mem n) (cost n) (rnd N mem cost out n D)
theorem rnd_le (N : Nat) (mem : Nat → Int32) (cost : Nat → Nat) (out : Nat → Bool) (D : Nat → Nat) (k : Nat) : ∀ n, rnd N mem cost out n D k ≤ D k
  | 0 => Nat.le_refl _
  | n + 1 => by
    have h := rnd_le N mem cost out D k n
    unfold rnd
    split
    · exact h
    · exact Nat.le_trans (rlx_le _ _ _ _ _) h
theorem rnd_mono {N : Nat} {mem : Nat → Int32} {cost : Nat → Nat} {out : Nat → Bool} {D E : Nat → Nat} (h : ∀ k, D k ≤ E k) : ∀ n k, rnd N mem cost out n D k ≤ rnd N mem cost out n E k
  | 0, k => h k
  | n + 1, k => by
    unfold rnd
    split
    · exact rnd_mono h n k
    · exact rlx_mono (rnd_mono h n) k
theorem rnd_step {N : Nat} {mem : Nat → Int32} {cost : Nat → Nat} {out : Nat → Bool} {D : Nat → Nat} (k : Nat) : ∀ {a n : Nat}, a ≤ n → rnd N mem cost out n D k ≤ rnd N mem cost out a D k := by
  intro a n h
  induction n with
  | zero => have e : a = 0 := by omega
            subst e; exact Nat.le_refl _
  | succ n ih =>
    by_cases e : a = n + 1
    · subst e; exact Nat.le_refl _
    · have h1 := ih (by omega)
      have h2 : rnd N mem cost out (n + 1) D k ≤ rnd N mem cost out n D k := by
        show (if out n then _ else _ : Nat → Nat) k ≤ _
        split
        · exact Nat.le_refl _
        · exact rlx_le _ _ _ _ _
      omega
theorem rnd_via {N : Nat} {mem : Nat → Int32} {cost : Nat → Nat} {out : Nat → Bool} {D : Nat → Nat} {L j k u : Nat} (hj : j < L) (ho : out j = false) (hk : k < N) (hu : u < N) (bk : bt (mem j) k = true) (bu : bt (mem j) u = true) : rnd N mem cost out L D k ≤ D u + cost j := by
  have h1 := rnd_step (N := N) (mem := mem) (cost := cost) (out := out) (D := D) k (show j + 1 ≤ L by omega)
  have h2 : rnd N mem cost out (j + 1) D k = rlx N (mem j) (cost j) (rnd N mem cost out j D) k := by
    show (if out j then _ else _ : Nat → Nat) k = _
    rw [ho]
    rfl
  have h3 := rlx_via (c := cost j) (D := rnd N mem cost out j D) hk hu bk bu
  have h4 := rnd_le N mem cost out D u j
  omega

/-- so many rounds -/
def itr (N L : Nat) (mem : Nat → Int32) (cost : Nat → Nat) (out : Nat → Bool) : Nat → (Nat → Nat) → Nat → Nat
  | 0, D => D
  | n + 1, D => rnd N mem cost out L (itr N L mem cost out n D)
def dst0 (root : Int32) : Nat → Nat := fun n => if nI n = root then 0 else 99
def dst (N L : Nat) (mem : Nat → Int32) (cost : Nat → Nat) (out : Nat → Bool) (root : Int32) : Nat → Nat := itr N L mem cost out N (dst0 root)
/-- each number is the root's, 99, or what a neighbour and the link give, or more -/
def spp (N L : Nat) (mem : Nat → Int32) (cost : Nat → Nat) (out : Nat → Bool) (root : Int32) (D : Nat → Nat) : Prop :=
  ∀ n, n < N → D n = dst0 root n ∨ ∃ j u, j < L ∧ out j = false ∧ u < N ∧ bt (mem j) n = true ∧ bt (mem j) u = true ∧ D u + cost j ≤ D n ∧ D u < 99
theorem rlx_spp {N L : Nat} {mem : Nat → Int32} {cost : Nat → Nat} {out : Nat → Bool} {root : Int32} {D : Nat → Nat} {j : Nat} (hj : j < L) (ho : out j = false) (h : spp N L mem cost out root D) (h9 : ∀ n, D n ≤ 99) : spp N L mem cost out root (rlx N (mem j) (cost j) D) := by
  intro n hn
  by_cases hc : n < N ∧ bt (mem j) n = true ∧ near (mem j) D N + cost j < D n
  · have e : rlx N (mem j) (cost j) D n = near (mem j) D N + cost j := if_pos hc
    have := h9 n
    obtain ⟨u, h1, h2, h3⟩ := near_at (mem j) D N (by omega)
    have h4 := rlx_le N (mem j) (cost j) D u
    exact .inr ⟨j, u, hj, ho, h1, hc.2.1, h2, by omega, by omega⟩
  · have e : rlx N (mem j) (cost j) D n = D n := if_neg hc
    rcases h n hn with h1 | ⟨j2, u, h1, h2, h3, h4, h5, h6, h7⟩
    · exact .inl (e.trans h1)
    · have h8 := rlx_le N (mem j) (cost j) D u
      exact .inr ⟨j2, u, h1, h2, h3, h4, h5, by omega, by omega⟩
theorem rnd_spp {N L : Nat} {mem : Nat → Int32} {cost : Nat → Nat} {out : Nat → Bool} {root : Int32} {D : Nat → Nat} (h : spp N L mem cost out root D) (h9 : ∀ n, D n ≤ 99) : ∀ n, n ≤ L → spp N L mem cost out root (rnd N mem cost out n D)
  | 0, _ => h
  | n + 1, hn => by
    have ih := rnd_spp h h9 n (by omega)
    unfold rnd
    cases ho : out n
    · exact rlx_spp (by omega) ho ih (fun k => Nat.le_trans (rnd_le _ _ _ _ _ _ _) (h9 k))
    · exact ih
theorem dst0_99 (root : Int32) (n : Nat) : dst0 root n ≤ 99 := by unfold dst0; split <;> omega
theorem itr_le (N L : Nat) (mem : Nat → Int32) (cost : Nat → Nat) (out : Nat → Bool) (D : Nat → Nat) (k : Nat) : ∀ n, itr N L mem cost out n D k ≤ D k
  | 0 => Nat.le_refl _
  | n + 1 => Nat.le_trans (rnd_le _ _ _ _ _ _ _) (itr_le N L mem cost out D k n)
theorem itr_99 (N L : Nat) (mem : Nat → Int32) (cost : Nat → Nat) (out : Nat → Bool) (root : Int32) (n k : Nat) : itr N L mem cost out n (dst0 root) k ≤ 99 := Nat.le_trans (itr_le _ _ _ _ _ _ _ _) (dst0_99 root k)
theorem itr_spp (N L : Nat) (mem : Nat → Int32) (cost : Nat → Nat) (out : Nat → Bool) (root : Int32) : ∀ n, spp N L mem cost out root (itr N L mem cost out n (dst0 root))
  | 0 => fun n hn => .inl rfl
  | n + 1 => rnd_spp (itr_spp N L mem cost out root n) (fun k => itr_99 N L mem cost out root n k) L (Nat.le_refl _)
theorem itr_dec (N L : Nat) (mem : Nat → Int32) (cost : Nat → Nat) (out : Nat → Bool) (D : Nat → Nat) (k : Nat) : ∀ {a b : Nat}, a ≤ b → itr N L mem cost out b D k ≤ itr N L mem cost out a D k := by
  intro a b h
  induction b with
  | zero => have e : a = 0 := by omega
            subst e; exact Nat.le_refl _
  | succ b ih =>
    by_cases e : a = b + 1
    · subst e; exact Nat.le_refl _
    · exact Nat.le_trans (rnd_le _ _ _ _ _ _ _) (ih (by omega))
def sumN (D : Nat → Nat) : Nat → Nat
  | 0 => 0
  | n + 1 => sumN D n + D n
theorem sumN_mono {D E : Nat → Nat} : ∀ n, (∀ k, k < n → D k ≤ E k) → sumN D n ≤ sumN E n
  | 0, _ => Nat.le_refl _
  | n + 1, h => by
    have h1 := sumN_mono n (fun k hk => h k (by omega))
    have h2 := h n (by omega)
    unfold sumN
    omega
theorem sumN_eq {D E : Nat → Nat} : ∀ n, (∀ k, k < n → D k ≤ E k) → sumN E n ≤ sumN D n → ∀ k, k < n → D k = E k
  | 0, _, _ => fun k hk => by omega
  | n + 1, h, hs => by
    have h1 := sumN_mono n (fun k hk => h k (by omega))
    have h2 := h n (by omega)
    unfold sumN at hs
    intro k hk
    by_cases e : k = n
    · subst e; omega
    · exact sumN_eq n (fun k hk => h k (by omega)) (by omega) k (by omega)
/-- outside the nodes nothing changes -/
theorem rlx_out {N : Nat} {m : Int32} {c : Nat} {D : Nat → Nat} {k : Nat} (h : N ≤ k) : rlx N m c D k = D k := if_neg (fun hh => absurd hh.1 (by omega))
theorem rnd_out {N : Nat} {mem : Nat → Int32} {cost : Nat → Nat} {out : Nat → Bool} {D : Nat → Nat} {k : Nat} (h : N ≤ k) : ∀ n, rnd N mem cost out n D k = D k
  | 0 => rfl
  | n + 1 => by
    unfold rnd
    split
    · exact rnd_out h n
    · rw [rlx_out h, rnd_out h n]
theorem itr_out {N L : Nat} {mem : Nat → Int32} {cost : Nat → Nat} {out : Nat → Bool} {D : Nat → Nat} {k : Nat} (h : N ≤ k) : ∀ n, itr N L mem cost out n D k = D k
  | 0 => rfl
  | n + 1 => (rnd_out h L).trans (itr_out h n)
/-- there is a round behind which nothing changes -/
theorem itr_stop (N L : Nat) (mem : Nat → Int32) (cost : Nat → Nat) (out : Nat → Bool) (D : Nat → Nat) : ∃ K, rnd N mem cost out L (itr N L mem cost out K D) = itr N L mem cost out K D := by
  have h : ∀ m K, sumN (itr N L mem cost out K D) N ≤ m → ∃ K, rnd N mem cost out L (itr N L mem cost out K D) = itr N L mem cost out K D := by
    intro m
    induction m with
    | zero =>
      intro K hK
      refine ⟨K, funext fun k => ?_⟩
      by_cases hk : k < N
      · exact sumN_eq (D := rnd N mem cost out L (itr N L mem cost out K D)) (E := itr N L mem cost out K D) N (fun k _ => rnd_le N mem cost out _ k L) (by omega) k hk
      · exact rnd_out (by omega) L
    | succ m ih =>
      intro K hK
      by_cases hs : sumN (itr N L mem cost out K D) N ≤ sumN (rnd N mem cost out L (itr N L mem cost out K D)) N
      · refine ⟨K, funext fun k => ?_⟩
        by_cases hk : k < N
        · exact sumN_eq N (fun k _ => rnd_le N mem cost out _ k L) hs k hk
        · exact rnd_out (by omega) L
      · exact ih (K + 1) (by show sumN (rnd N mem cost out L (itr N L mem cost out K D)) N ≤ m; omega)
  exact h _ 0 (Nat.le_refl _)
theorem itr_still {N L : Nat} {mem : Nat → Int32} {cost : Nat → Nat} {out : Nat → Bool} {D : Nat → Nat} {K : Nat} (h : rnd N mem cost out L (itr N L mem cost out K D) = itr N L mem cost out K D) : ∀ n, K ≤ n → itr N L mem cost out n D = itr N L mem cost out K D := by
  intro n hn
  induction n with
  | zero => have e : K = 0 := by omega
            subst e; rfl
  | succ n ih =>
    by_cases e : K = n + 1
    · subst e; rfl
    · show rnd N mem cost out L (itr N L mem cost out n D) = _
      rw [ih (by omega), h]
/-- what stands still is reached after so many rounds as numbers lie below -/
theorem itr_rank {N L : Nat} {mem : Nat → Int32} {cost : Nat → Nat} {out : Nat → Bool} {root : Int32} (hc : ∀ j, j < L → 0 < cost j) {K : Nat} (hf : rnd N mem cost out L (itr N L mem cost out K (dst0 root)) = itr N L mem cost out K (dst0 root)) :
    ∀ k n, n < N → cnt (fun u => decide (itr N L mem cost out K (dst0 root) u < itr N L mem cost out K (dst0 root) n)) N ≤ k → itr N L mem cost out k (dst0 root) n = itr N L mem cost out K (dst0 root) n := by
  have hge : ∀ k n, itr N L mem cost out K (dst0 root) n ≤ itr N L mem cost out k (dst0 root) n := by
    intro k n
    by_cases h : k ≤ K
    · exact itr_dec N L mem cost out _ n h
    · rw [itr_still hf k (by omega)]; exact Nat.le_refl _
  intro k
  induction k with
  | zero =>
    intro n hn hk
    have h1 := hge 0 n
    rcases itr_spp N L mem cost out root K n hn with h2 | ⟨j, u, h3, h4, h5, h6, h7, h8, h9⟩
    · exact h2.symm
    · have h10 : cnt (fun _ => false) N < cnt (fun u => decide (itr N L mem cost out K (dst0 root) u < itr N L mem cost out K (dst0 root) n)) N :=
        cnt_mono_lt N u h5 (fun _ _ h => by simp at h) rfl (by simp; have := hc j h3; omega)
      omega
  | succ k ih =>
    intro n hn hk
    have h1 := hge (k + 1) n
    rcases itr_spp N L mem cost out root K n hn with h2 | ⟨j, u, h3, h4, h5, h6, h7, h8, h9⟩
    · have h3 := itr_le N L mem cost out (dst0 root) n (k + 1)
      omega
    · have hcj := hc j h3
      have h10 : cnt (fun v => decide (itr N L mem cost out K (dst0 root) v < itr N L mem cost out K (dst0 root) u)) N < cnt (fun v => decide (itr N L mem cost out K (dst0 root) v < itr N L mem cost out K (dst0 root) n)) N :=
        cnt_mono_lt N u h5 (fun v _ h => by simp at h ⊢; omega) (by simp) (by simp; omega)
      have h11 := ih u h5 (by omega)
      have h12 := rnd_via (cost := cost) (D := itr N L mem cost out k (dst0 root)) h3 h4 hn h5 h6 h7
      have h13 : itr N L mem cost out (k + 1) (dst0 root) n = rnd N mem cost out L (itr N L mem cost out k (dst0 root)) n := rfl
      omega
theorem dst_still {N L : Nat} {mem : Nat → Int32} {cost : Nat → Nat} {out : Nat → Bool} {root : Int32} (hc : ∀ j, j < L → 0 < cost j) : rnd N mem cost out L (dst N L mem cost out root) = dst N L mem cost out root := by
  obtain ⟨K, hf⟩ := itr_stop N L mem cost out (dst0 root)
  have e : dst N L mem cost out root = itr N L mem cost out K (dst0 root) := by
    funext n
    by_cases hn : n < N
    · exact itr_rank hc hf N n hn (cnt_le _ _)
    · exact (itr_out (by omega) N).trans (itr_out (by omega) K).symm
  rw [e]
  exact hf
/-- wherever the rounds stand still it is the same -/
theorem dst_any {N L : Nat} {mem : Nat → Int32} {cost : Nat → Nat} {out : Nat → Bool} {root : Int32} (hc : ∀ j, j < L → 0 < cost j) {K : Nat} (hf : rnd N mem cost out L (itr N L mem cost out K (dst0 root)) = itr N L mem cost out K (dst0 root)) : itr N L mem cost out K (dst0 root) = dst N L mem cost out root := by
  funext n
  by_cases hn : n < N
  · exact (itr_rank hc hf N n hn (cnt_le _ _)).symm
  · exact (itr_out (by omega) K).trans (itr_out (by omega) N).symm
/-- whether a link's turn has moved one of the first nodes -/
def mvd (N : Nat) (m : Int32) (c : Nat) (D : Nat → Nat) : Nat → Bool
  | 0 => false
  | k + 1 => mvd N m c D k || decide (bt m k = true ∧ near m D N + c < D k)
theorem mvd_f {N : Nat} {m : Int32} {c : Nat} {D : Nat → Nat} : ∀ n, mvd N m c D n = false → ∀ k, k < n → ¬ (bt m k = true ∧ near m D N + c < D k)
  | 0, _, k, hk => by omega
  | n + 1, h, k, hk => by
    unfold mvd at h
    rw [Bool.or_eq_false_iff, decide_eq_false_iff_not] at h
    by_cases e : k = n
    · subst e; exact h.2
    · exact mvd_f n h.1 k (by omega)
theorem mvd_rlx {N : Nat} {m : Int32} {c : Nat} {D : Nat → Nat} (h : mvd N m c D N = false) : rlx N m c D = D := by
  funext k
  unfold rlx
  exact if_neg (fun hh => mvd_f N h k hh.1 hh.2)
theorem rlx_mvd {N : Nat} {m : Int32} {c : Nat} {D : Nat → Nat} (h : rlx N m c D = D) : ∀ n, n ≤ N → mvd N m c D n = false
  | 0, _ => rfl
  | n + 1, hn => by
    unfold mvd
    rw [rlx_mvd h n (by omega), Bool.false_or, decide_eq_false_iff_not]
    intro hh
    have := congrFun h n
    unfold rlx at this
    rw [if_pos ⟨by omega, hh.1, hh.2⟩] at this
    omega
/-- whether a round has moved one -/
def mvr (N : Nat) (mem : Nat → Int32) (cost : Nat → Nat) (out : Nat → Bool) (D : Nat → Nat) : Nat → Bool
  | 0 => false
  | n + 1 => if out n then mvr N mem cost out D n else (mvr N mem cost out D n || mvd N (mem n) (cost n) (rnd N mem cost out n D) N)
theorem mvr_rnd {N : Nat} {mem : Nat → Int32} {cost : Nat → Nat} {out : Nat → Bool} {D : Nat → Nat} : ∀ n, mvr N mem cost out D n = false → rnd N mem cost out n D = D
  | 0, _ => rfl
  | n + 1, h => by
    unfold mvr at h
    unfold rnd
    cases ho : out n
    · rw [ho] at h
      simp only [Bool.false_eq_true, if_false, Bool.or_eq_false_iff] at h
      simp only [Bool.false_eq_true, if_false]
      rw [mvd_rlx h.2, mvr_rnd n h.1]
    · rw [ho] at h
      simp only [if_true] at h ⊢
      exact mvr_rnd n h
theorem rnd_mvr {N : Nat} {mem : Nat → Int32} {cost : Nat → Nat} {out : Nat → Bool} {D : Nat → Nat} : ∀ n, rnd N mem cost out n D = D → mvr N mem cost out D n = false
  | 0, _ => rfl
  | n + 1, h => by
    have h1 : rnd N mem cost out n D = D := by
      funext k
      have h2 := rnd_step (N := N) (mem := mem) (cost := cost) (out := out) (D := D) k (show n ≤ n + 1 by omega)
      have h3 := rnd_le N mem cost out D k n
      rw [h] at h2
      omega
    have h4 := rnd_mvr n h1
    unfold mvr
    rw [h4]
    unfold rnd at h
    cases ho : out n
    · rw [ho] at h
      simp only [Bool.false_eq_true, if_false, Bool.false_or] at h ⊢
      rw [h1] at h ⊢
      exact rlx_mvd h N (Nat.le_refl _)
    · rfl
theorem rnd_99 {N : Nat} {mem : Nat → Int32} {cost : Nat → Nat} {out : Nat → Bool} {D : Nat → Nat} (h : ∀ k, D k ≤ 99) (n k : Nat) : rnd N mem cost out n D k ≤ 99 := Nat.le_trans (rnd_le _ _ _ _ _ _ _) (h k)
end

section
/-! distances in memory: Plan.relax, Plan.spread -/
section
variable {i : Nat → Nat → Int32} {l : Nat → Nat → Int64} {s r p : Nat}
theorem relax_ok {a b N c : Nat} {m : Int32} {D : Nat → Nat} (hj : p = 7 ∧ a = 43 ∨ p = 7 ∧ a = 80 ∨ p = 7 ∧ a = 81 ∨ p = 27 ∧ a = 43 ∨ p = 27 ∧ a = 80 ∨ p = 27 ∧ a = 81) {s r q : Nat}
    (hN : i p 11 = nI N) (h7 : N ≤ 7) (hb : b + N ≤ gN a) (hb' : b < 1000) (hg : gN a < 1000) (hc : c < 100) (hD : ∀ k, k < N → i a (b + k) = nI (D k)) (h9 : ∀ k, k < N → D k ≤ 99) :
    Plan_relax p m (nI c) a (nI b) (i, l, Rp s r q) = some (some (.int (nI (mvd N m c D N).toNat)), (ov i a b N (rlx N m c D), l, Rp s r q)) := by
  rw [Plan_relax_eq _ _ _ _ _ _ _ _ _ _ hj]
  have e1 := upto (fun k => Plan_relax_7 p m (nI c) a (nI b) (nI (near m D k)) (nI k) (i, l, Rp s r q)) N (fun k hk => by
    show Plan_relax_7 _ _ _ _ _ _ _ _ = Plan_relax_7 _ _ _ _ _ _ _ _
    rw [Plan_relax_7_eq _ _ _ _ _ _ _ _ _ _ _ _ hj, hN, ifc_t (nI_lt hk (by omega)), ifc_bit m (by omega), nI_add, nI_add, nI_clamp (by omega), gd_in (by omega) (by omega), hD k hk]
    have h1 := near_99 m D k
    have h2 := h9 k hk
    have h3 : near m D (k + 1) = if bt m k = true then min (near m D k) (D k) else near m D k := rfl
    rw [h3]
    by_cases hb : bt m k = true
    · rw [if_pos hb, if_pos hb]
      unfold mnI
      by_cases hlt : D k < near m D k
      · rw [if_pos (nI_lt hlt (by omega)), Nat.min_eq_right (by omega)]
      · rw [if_neg (nI_nlt (by omega) (by omega)), Nat.min_eq_left (by omega)]
    · rw [if_neg hb, if_neg hb]) 0 (by omega)
  rw [show nI 99 = nI (near m D 0) from rfl, e1, Plan_relax_7_eq _ _ _ _ _ _ _ _ _ _ _ _ hj, hN, ifc_f (nI_nlt (Nat.le_refl _) (by omega))]
  have hp : ¬ p = a := by rcases hj with ⟨rfl, rfl⟩ | ⟨rfl, rfl⟩ | ⟨rfl, rfl⟩ | ⟨rfl, rfl⟩ | ⟨rfl, rfl⟩ | ⟨rfl, rfl⟩ <;> decide
  have hn := near_99 m D N
  have e2 := upto (fun k => Plan_relax_51 p m (nI c) a (nI b) (nI (near m D N)) (nI (mvd N m c D k).toNat) (nI k) (ov i a b N (mix (rlx N m c D) D k), l, Rp s r q)) N (fun k hk => by
    show Plan_relax_51 _ _ _ _ _ _ _ _ _ = Plan_relax_51 _ _ _ _ _ _ _ _ _
    have h2 := h9 k hk
    rw [Plan_relax_51_eq _ _ _ _ _ _ _ _ _ _ _ _ _ hj, ov_c hp, hN, ifc_t (nI_lt hk (by omega)), ifc_bit m (by omega)]
    simp only [nI_add]
    rw [nI_clamp (by omega), ov_a i a b _ hk, mix_k, gd_in (by omega) (by omega), ifc_lt (by omega) (by omega), gd_in (by omega) (by omega), ov_u hk]
    have ev : mvd N m c D (k + 1) = (mvd N m c D k || decide (bt m k = true ∧ near m D N + c < D k)) := rfl
    by_cases hb : bt m k = true
    · rw [if_pos hb]
      by_cases hlt : near m D N + c < D k
      · rw [if_pos hlt, ev, decide_eq_true (show _ ∧ _ from ⟨hb, hlt⟩), Bool.or_true, mix_u (rlx_t hk hb hlt)]
        rfl
      · rw [if_neg hlt, ev, decide_eq_false (fun h => hlt h.2), Bool.or_false, mix_s (rlx_f (fun h => hlt h.2.2))]
    · rw [if_neg hb, ev, decide_eq_false (fun h => hb h.1), Bool.or_false, mix_s (rlx_f (fun h => hb h.2.1))]) 0 (by omega)
  simp only [mix_0, ov_mix, ov_self hD] at e2
  refine (show Plan_relax_51 p m (nI c) a (nI b) (nI (near m D N)) (nI 0) (nI 0) (i, l, Rp s r q) = _ from e2).trans ?_
  rw [Plan_relax_51_eq _ _ _ _ _ _ _ _ _ _ _ _ _ hj, ov_c hp, hN, ifc_f (nI_nlt (Nat.le_refl _) (by omega))]
  cases mvd N m c D N
  · exact gd_0 _
  · exact gd_1 _
theorem spread_ok {o1 a b N L : Nat} {x2 root : Int32} {mem : Nat → Int32} {cost : Nat → Nat} (hj : p = 7 ∧ o1 = 9 ∧ a = 43 ∨ p = 7 ∧ o1 = 9 ∧ a = 81 ∨ p = 7 ∧ o1 = 79 ∧ a = 80 ∨ p = 27 ∧ o1 = 29 ∧ a = 43 ∨ p = 27 ∧ o1 = 29 ∧ a = 81 ∨ p = 27 ∧ o1 = 79 ∧ a = 80) {s r q : Nat}
    (hN : i p 11 = nI N) (h7 : N ≤ 7) (hL : i p 12 = nI L) (h8 : L ≤ 8) (hb : b + N ≤ gN a) (hm : ∀ k, k < L → i (p + 3) k = mem k) (hc : ∀ k, k < L → i o1 k = nI (cost k)) (hc1 : ∀ k, k < L → 0 < cost k) (hc9 : ∀ k, k < L → cost k < 100) :
    Plan_spread p o1 x2 root a (nI b) (i, l, Rp s r q) = some (none, (ov i a b N (dst N L mem cost (bt x2) root), l, Rp s r q)) := by
  have hj2 : p = 7 ∧ a = 43 ∨ p = 7 ∧ a = 80 ∨ p = 7 ∧ a = 81 ∨ p = 27 ∧ a = 43 ∨ p = 27 ∧ a = 80 ∨ p = 27 ∧ a = 81 := by omega
  have hg : gN a < 1000 := by
    have h : a = 43 ∨ a = 80 ∨ a = 81 := by omega
    rcases h with rfl | rfl | rfl <;> decide
  have hp : ¬ p = a := by omega
  have hp3 : ¬ p + 3 = a := by omega
  have ho1 : ¬ o1 = a := by omega
  rw [Plan_spread_eq _ _ _ _ _ _ _ _ _ _ _ hj]
  -- the first numbers
  have e1 : ∀ (f : Nat → Nat), (∀ k, k < N → i a (b + k) = nI (f k)) ∨ True → Plan_spread_3 p o1 x2 root a (nI b) (nI 0) (i, l, Rp s r q) = Plan_spread_44 p o1 x2 a (nI b) (nI 1) (nI 0) (ov i a b N (dst0 root), l, Rp s r q) := by
    intro f _
    have h := upto (fun k => Plan_spread_3 p o1 x2 root a (nI b) (nI k) (ov i a b k (dst0 root), l, Rp s r q)) N (fun k hk => by
      show Plan_spread_3 _ _ _ _ _ _ _ _ = Plan_spread_3 _ _ _ _ _ _ _ _
      rw [Plan_spread_3_eq _ _ _ _ _ _ _ _ _ _ _ _ hj, ov_c hp, hN, ifc_t (nI_lt hk (by omega))]
      simp only [nI_add]
      rw [gd_in (by omega) (by omega), gd_in (by omega) (by omega), nI_clamp (by omega)]
      have h0 : ∀ x, dst0 root k = x → u2 (ov i a b k (dst0 root)) a (b + k) (nI x) = ov i a b (k + 1) (dst0 root) := by
        intro x hx
        funext c j
        unfold u2 ov
        by_cases hc : c = a
        · simp only [hc, if_true]
          by_cases hjj : j = b + k
          · subst hjj
            rw [if_pos rfl, if_pos ⟨by omega, by omega⟩, Nat.add_sub_cancel_left, hx]
          · rw [if_neg hjj]
            by_cases hk2 : b ≤ j ∧ j < b + k
            · rw [if_pos hk2, if_pos ⟨by omega, by omega⟩]
            · rw [if_neg hk2, if_neg (by omega)]
        · simp only [hc, if_false]
      by_cases hr : nI k = root
      · rw [ifc_t hr, h0 0 (if_pos hr)]
      · rw [ifc_f hr, h0 99 (if_neg hr)]) 0 (by omega)
    have h0 : ov i a b 0 (dst0 root) = i := ov_self (fun k hk => by omega)
    simp only [h0] at h
    rw [h, Plan_spread_3_eq _ _ _ _ _ _ _ _ _ _ _ _ hj, ov_c hp, hN, ifc_f (nI_nlt (Nat.le_refl _) (by omega))]
  rw [e1 (fun _ => 0) (.inr trivial)]
  -- a round
  have e2 : ∀ (D : Nat → Nat) (x7 : Int32), (∀ k, D k ≤ 99) → Plan_spread_64 p o1 x2 a (nI b) (nI 0) x7 (nI 0) (ov i a b N D, l, Rp s r q) = Plan_spread_44 p o1 x2 a (nI b) (nI (mvr N mem cost (bt x2) D L).toNat) (x7 + nI 1) (ov i a b N (rnd N mem cost (bt x2) L D), l, Rp s r q) := by
    intro D x7 h9
    have h := upto (fun k => Plan_spread_64 p o1 x2 a (nI b) (nI (mvr N mem cost (bt x2) D k).toNat) x7 (nI k) (ov i a b N (rnd N mem cost (bt x2) k D), l, Rp s r q)) L (fun k hk => by
      show Plan_spread_64 _ _ _ _ _ _ _ _ _ = Plan_spread_64 _ _ _ _ _ _ _ _ _
      have hck := hc9 k hk
      have e3 : rnd N mem cost (bt x2) (k + 1) D = if bt x2 k then rnd N mem cost (bt x2) k D else rlx N (mem k) (cost k) (rnd N mem cost (bt x2) k D) := rfl
      have e4 : mvr N mem cost (bt x2) D (k + 1) = if bt x2 k then mvr N mem cost (bt x2) D k else (mvr N mem cost (bt x2) D k || mvd N (mem k) (cost k) (rnd N mem cost (bt x2) k D) N) := rfl
      rw [Plan_spread_64_eq _ _ _ _ _ _ _ _ _ _ _ _ _ hj, ov_c hp, ov_c hp3, ov_c ho1, hL, ifc_t (nI_lt hk (by omega)), ifc_bit x2 (by omega), nI_clamp (by omega), gd_in (by omega) (by omega), gd_in (by omega) (by omega), hm k hk, hc k hk, nI_add, e3, e4]
      cases hb2 : bt x2 k
      · simp only [Bool.false_eq_true, if_false]
        rw [relax_ok (i := ov i a b N (rnd N mem cost (bt x2) k D)) (D := rnd N mem cost (bt x2) k D) (N := N) hj2 (by rw [ov_c hp, hN]) h7 hb (by omega) hg (by omega) (fun j hj => ov_a i a b _ hj) (fun j _ => rnd_99 h9 k j), crI_t, ov_ov, ifc_z (by cases mvd N (mem k) (cost k) (rnd N mem cost (bt x2) k D) N <;> decide)]
        cases mvd N (mem k) (cost k) (rnd N mem cost (bt x2) k D) N
        · rw [if_pos (by decide), Bool.or_false]
        · rw [if_neg (by decide), Bool.or_true]; rfl
      · simp only [if_true]) 0 (by omega)
    refine (show Plan_spread_64 p o1 x2 a (nI b) (nI 0) x7 (nI 0) (ov i a b N D, l, Rp s r q) = _ from h).trans ?_
    show Plan_spread_64 _ _ _ _ _ _ _ _ _ = _
    rw [Plan_spread_64_eq _ _ _ _ _ _ _ _ _ _ _ _ _ hj, ov_c hp, hL, ifc_f (nI_nlt (Nat.le_refl _) (by omega))]
  -- the rounds
  have e5 : ∀ n k f, n = N - k → k ≤ N → (f = 1 ∨ f = 0 ∧ rnd N mem cost (bt x2) L (itr N L mem cost (bt x2) k (dst0 root)) = itr N L mem cost (bt x2) k (dst0 root)) → Plan_spread_44 p o1 x2 a (nI b) (nI f) (nI k) (ov i a b N (itr N L mem cost (bt x2) k (dst0 root)), l, Rp s r q) = some (none, (ov i a b N (dst N L mem cost (bt x2) root), l, Rp s r q)) := by
    intro n
    induction n with
    | zero =>
      intro k f hn hk _
      have e : k = N := by omega
      subst e
      rw [Plan_spread_44_eq _ _ _ _ _ _ _ _ _ _ _ _ hj, ov_c hp, hN, ifc_f (nI_nlt (Nat.le_refl _) (by omega))]
      rfl
    | succ n ih =>
      intro k f hn hk hf
      rw [Plan_spread_44_eq _ _ _ _ _ _ _ _ _ _ _ _ hj, ov_c hp, hN, ifc_t (nI_lt (by omega) (by omega)), ifc_z (by omega)]
      rcases hf with rfl | ⟨rfl, hf⟩
      · rw [if_neg (by decide), e2 _ _ (fun j => itr_99 N L mem cost (bt x2) root k j), nI_add]
        refine ih (k + 1) _ (by omega) (by omega) ?_
        cases hmv : mvr N mem cost (bt x2) (itr N L mem cost (bt x2) k (dst0 root)) L
        · refine .inr ⟨rfl, ?_⟩
          have h1 := mvr_rnd L hmv
          show rnd N mem cost (bt x2) L (rnd N mem cost (bt x2) L (itr N L mem cost (bt x2) k (dst0 root))) = rnd N mem cost (bt x2) L (itr N L mem cost (bt x2) k (dst0 root))
          rw [h1, h1]
        · exact .inl rfl
      · rw [if_pos rfl, show dst N L mem cost (bt x2) root = itr N L mem cost (bt x2) N (dst0 root) from rfl, itr_still hf N hk]
  exact e5 N 0 1 (by omega) (by omega) (.inl rfl)
end
end

section
/-! the reference's distances: isOf, costNow, layDist -/
section
variable {i : Nat → Nat → Int32} {l : Nat → Nat → Int64} {s r p : Nat}
theorem bit_1 (m : Int32) {k : Nat} (hk : k < 32) : ((m >>> (nI k &&& 31)) &&& nI 1) = nI 1 ↔ bt m k = true := by
  rw [bit1 m hk]
  cases bt m k <;> decide
theorem isOf_ok (m : Int32) {k : Nat} (hk : k < 32) : Mo_isOf m (nI k) (i, l, Rp s r p) = some (some (.int (nI (bt m k).toNat)), (i, l, Rp s r p)) := by
  rw [Mo_isOf_eq, gd_1, gd_0]
  cases h : bt m k
  · rw [ifc_f (fun hh => by rw [(bit_1 m hk).mp hh] at h; exact absurd h (by decide))]; rfl
  · rw [ifc_t ((bit_1 m hk).mpr h)]; rfl
theorem ifc_b {α : Type} (b : Bool) (x y : Option α) : ifc (nI b.toNat = 0) x y = if b = true then y else x := by
  cases b
  · exact ifc_t rfl
  · exact ifc_f (by decide)
theorem costNow_ok {k : Nat} (hk : k < 16) : Mo_costNow (nI k) (i, l, Rp s r p) = some (some (.int (if nI k = i 82 73 then i 82 74 else i 89 k)), (i, l, Rp s r p)) := by
  rw [Mo_costNow_eq, gd_in hk (by omega), nI_clamp (by omega)]
  by_cases h : nI k = i 82 73
  · rw [ifc_t h, if_pos h]
  · rw [ifc_f h, if_neg h]
theorem layRound {N L : Nat} {out : Int32} {mem : Nat → Int32} {cost : Nat → Nat}
    (hN : i 82 12 = nI N) (h7 : N ≤ 7) (hL : i 82 13 = nI L) (h8 : L ≤ 8) (hm : ∀ k, k < L → i 90 k = mem k) (hc : ∀ k, k < L → (if nI k = i 82 73 then i 82 74 else i 89 k) = nI (cost k)) (hc9 : ∀ k, k < L → cost k < 100) {D : Nat → Nat} (h9 : ∀ k, D k ≤ 99) :
    Mo_layDist_42 out (nI 0) (nI 0) (ov i 119 0 7 D, l, Rp s r p) = Mo_layDist_33 out (nI (mvr N mem cost (bt out) D L).toNat) (ov i 119 0 7 (rnd N mem cost (bt out) L D), l, Rp s r p) := by
  have h82 : ∀ E, ov i 119 0 7 E 82 = i 82 := fun E => ov_c (by decide)
  have h90 : ∀ E, ov i 119 0 7 E 90 = i 90 := fun E => ov_c (by decide)
  have h89 : ∀ E, ov i 119 0 7 E 89 = i 89 := fun E => ov_c (by decide)
  have h := upto (fun k => Mo_layDist_42 out (nI (mvr N mem cost (bt out) D k).toNat) (nI k) (ov i 119 0 7 (rnd N mem cost (bt out) k D), l, Rp s r p)) L (fun k hk => by
    show Mo_layDist_42 _ _ _ _ = Mo_layDist_42 _ _ _ _
    have hck := hc9 k hk
    have e3 : rnd N mem cost (bt out) (k + 1) D = if bt out k then rnd N mem cost (bt out) k D else rlx N (mem k) (cost k) (rnd N mem cost (bt out) k D) := rfl
    have e4 : mvr N mem cost (bt out) D (k + 1) = if bt out k then mvr N mem cost (bt out) D k else (mvr N mem cost (bt out) D k || mvd N (mem k) (cost k) (rnd N mem cost (bt out) k D) N) := rfl
    have hE : ∀ j, rnd N mem cost (bt out) k D j ≤ 99 := rnd_99 h9 k
    rw [Mo_layDist_42_eq, h82, hL, ifc_t (nI_lt hk (by omega)), isOf_ok out (by omega), crI_t, ifc_b, nI_add, e3, e4]
    generalize rnd N mem cost (bt out) k D = E at *
    generalize mvr N mem cost (bt out) D k = f
    cases bt out k
    · simp only [Bool.false_eq_true, if_false]
      have a1 := upto (fun n => Mo_layDist_70 out (nI f.toNat) (nI k) (nI (near (mem k) E n)) (nI n) (ov i 119 0 7 E, l, Rp s r p)) N (fun n hn => by
        show Mo_layDist_70 _ _ _ _ _ _ = Mo_layDist_70 _ _ _ _ _ _
        rw [Mo_layDist_70_eq, h82, hN, ifc_t (nI_lt hn (by omega)), gd_in (by omega) (by omega), h90, nI_clamp (by omega), hm k hk, isOf_ok _ (by omega), crI_t, ifc_b, nI_clamp (by omega), ov_0 i 119 _ (show n < 7 by omega), gd_in (by omega) (by omega), gd_in (by omega) (by omega), nI_add]
        have h1 := near_99 (mem k) E n
        have h2 := hE n
        have h3 : near (mem k) E (n + 1) = if bt (mem k) n = true then min (near (mem k) E n) (E n) else near (mem k) E n := rfl
        rw [h3, ifc_lt (by omega) (by omega)]
        by_cases hb : bt (mem k) n = true
        · rw [if_pos hb, if_pos hb]
          by_cases hlt : E n < near (mem k) E n
          · rw [if_pos hlt, Nat.min_eq_right (by omega)]
          · rw [if_neg hlt, Nat.min_eq_left (by omega)]
        · rw [if_neg hb, if_neg hb]) 0 (by omega)
      rw [show nI 99 = nI (near (mem k) E 0) from rfl, a1, Mo_layDist_70_eq, h82, hN, ifc_f (nI_nlt (Nat.le_refl _) (by omega))]
      have hn9 := near_99 (mem k) E N
      have a2 := upto (fun n => Mo_layDist_129 out (nI (f || mvd N (mem k) (cost k) E n).toNat) (nI k) (nI (near (mem k) E N)) (nI n) (ov i 119 0 7 (mix (rlx N (mem k) (cost k) E) E n), l, Rp s r p)) N (fun n hn => by
        show Mo_layDist_129 _ _ _ _ _ _ = Mo_layDist_129 _ _ _ _ _ _
        have h2 := hE n
        have ev : mvd N (mem k) (cost k) E (n + 1) = (mvd N (mem k) (cost k) E n || decide (bt (mem k) n = true ∧ near (mem k) E N + cost k < E n)) := rfl
        rw [Mo_layDist_129_eq, h82, hN, ifc_t (nI_lt hn (by omega)), gd_in (by omega) (by omega), h90, nI_clamp (by omega), hm k hk, isOf_ok _ (by omega), crI_t, ifc_b]
        simp only [costNow_ok (show k < 16 by omega), h82, h89, hc k hk, crI_t, nI_add]
        rw [nI_clamp (by omega), ov_0 i 119 _ (show n < 7 by omega), mix_k, gd_in (by omega) (by omega), gd_in (by omega) (by omega), ifc_lt (by omega) (by omega)]
        have hu := ov_u (i := i) (a := 119) (b := 0) (n := 7) (D := mix (rlx N (mem k) (cost k) E) E n) (k := n) (x := near (mem k) E N + cost k) (by omega)
        rw [Nat.zero_add] at hu
        rw [hu]
        by_cases hb : bt (mem k) n = true
        · rw [if_pos hb]
          by_cases hlt : near (mem k) E N + cost k < E n
          · rw [if_pos hlt, ev, decide_eq_true (show _ ∧ _ from ⟨hb, hlt⟩), Bool.or_true, Bool.or_true, mix_u (rlx_t hn hb hlt)]
            rfl
          · rw [if_neg hlt, ev, decide_eq_false (fun h => hlt h.2), Bool.or_false, mix_s (rlx_f (fun h => hlt h.2.2))]
        · rw [if_neg hb, ev, decide_eq_false (fun h => hb h.1), Bool.or_false, mix_s (rlx_f (fun h => hb h.2.1))]) 0 (by omega)
      simp only [mix_0, mvd, Bool.or_false] at a2
      rw [a2, Mo_layDist_129_eq, h82, hN, ifc_f (nI_nlt (Nat.le_refl _) (by omega)), nI_add]
      have e5 : ov i 119 0 7 (mix (rlx N (mem k) (cost k) E) E N) = ov i 119 0 7 (rlx N (mem k) (cost k) E) := ov_cg (fun j _ => by
        unfold mix
        split
        · rfl
        · exact (rlx_out (by omega)).symm)
      rw [e5]
    · simp only [if_true]) 0 (by omega)
  refine (show Mo_layDist_42 out (nI 0) (nI 0) (ov i 119 0 7 D, l, Rp s r p) = _ from h).trans ?_
  show Mo_layDist_42 _ _ _ _ = _
  rw [Mo_layDist_42_eq, h82, hL, ifc_f (nI_nlt (Nat.le_refl _) (by omega))]
theorem layDist_ok {N L : Nat} {root out : Int32} {mem : Nat → Int32} {cost : Nat → Nat}
    (hN : i 82 12 = nI N) (h7 : N ≤ 7) (hL : i 82 13 = nI L) (h8 : L ≤ 8) (hm : ∀ k, k < L → i 90 k = mem k) (hc : ∀ k, k < L → (if nI k = i 82 73 then i 82 74 else i 89 k) = nI (cost k)) (hc1 : ∀ k, k < L → 0 < cost k) (hc9 : ∀ k, k < L → cost k < 100) :
    Mo_layDist root out (i, l, Rp s r p) = some (none, (ov i 119 0 7 (dst N L mem cost (bt out) root), l, Rp s r p)) := by
  rw [Mo_layDist_eq]
  have h := upto (fun k => Mo_layDist_2 root out (nI k) (ov i 119 0 k (dst0 root), l, Rp s r p)) 7 (fun k hk => by
    show Mo_layDist_2 _ _ _ _ = Mo_layDist_2 _ _ _ _
    rw [Mo_layDist_2_eq, ifc_t (nI_lt hk (by omega)), gd_in (by omega) (by omega), gd_in (by omega) (by omega), nI_clamp (by omega), nI_add]
    have h0 : ∀ x, dst0 root k = x → u2 (ov i 119 0 k (dst0 root)) 119 k (nI x) = ov i 119 0 (k + 1) (dst0 root) := by
      intro x hx
      funext c j
      unfold u2 ov
      by_cases hc : c = 119
      · simp only [hc, if_true]
        by_cases hjj : j = k
        · subst hjj
          rw [if_pos rfl, if_pos ⟨by omega, by omega⟩, Nat.sub_zero, hx]
        · rw [if_neg hjj]
          by_cases hk2 : 0 ≤ j ∧ j < 0 + k
          · rw [if_pos hk2, if_pos ⟨by omega, by omega⟩]
          · rw [if_neg hk2, if_neg (by omega)]
      · simp only [hc, if_false]
    by_cases hr : nI k = root
    · rw [ifc_t hr, h0 0 (if_pos hr)]
    · rw [ifc_f hr, h0 99 (if_neg hr)]) 0 (by omega)
  have h0 : ov i 119 0 0 (dst0 root) = i := ov_self (fun k hk => by omega)
  simp only [h0] at h
  rw [h, Mo_layDist_2_eq, ifc_f (nI_nlt (Nat.le_refl _) (by omega))]
  have hr : ∀ m k, sumN (itr N L mem cost (bt out) k (dst0 root)) N ≤ m → Mo_layDist_33 out (nI 1) (ov i 119 0 7 (itr N L mem cost (bt out) k (dst0 root)), l, Rp s r p) = some (none, (ov i 119 0 7 (dst N L mem cost (bt out) root), l, Rp s r p)) := by
    intro m
    induction m with
    | zero =>
      intro k hk
      rw [Mo_layDist_33_eq, ifc_f (by decide), layRound hN h7 hL h8 hm hc hc9 (fun j => itr_99 N L mem cost (bt out) root k j)]
      have hs : rnd N mem cost (bt out) L (itr N L mem cost (bt out) k (dst0 root)) = itr N L mem cost (bt out) k (dst0 root) := by
        funext j
        by_cases hj : j < N
        · exact sumN_eq (D := rnd N mem cost (bt out) L (itr N L mem cost (bt out) k (dst0 root))) (E := itr N L mem cost (bt out) k (dst0 root)) N (fun k _ => rnd_le N mem cost _ _ k L) (by omega) j hj
        · exact rnd_out (by omega) L
      rw [rnd_mvr L hs, hs, dst_any hc1 hs, Mo_layDist_33_eq, ifc_t (by decide)]
    | succ m ih =>
      intro k hk
      rw [Mo_layDist_33_eq, ifc_f (by decide), layRound hN h7 hL h8 hm hc hc9 (fun j => itr_99 N L mem cost (bt out) root k j)]
      cases hv : mvr N mem cost (bt out) (itr N L mem cost (bt out) k (dst0 root)) L
      · have hs := mvr_rnd L hv
        rw [hs, dst_any hc1 hs, Mo_layDist_33_eq, ifc_t (by decide)]
      · refine ih (k + 1) ?_
        have hlt : ¬ sumN (itr N L mem cost (bt out) k (dst0 root)) N ≤ sumN (rnd N mem cost (bt out) L (itr N L mem cost (bt out) k (dst0 root))) N := by
          intro hle
          have hs : rnd N mem cost (bt out) L (itr N L mem cost (bt out) k (dst0 root)) = itr N L mem cost (bt out) k (dst0 root) := by
            funext j
            by_cases hj : j < N
            · exact sumN_eq (D := rnd N mem cost (bt out) L (itr N L mem cost (bt out) k (dst0 root))) (E := itr N L mem cost (bt out) k (dst0 root)) N (fun k _ => rnd_le N mem cost _ _ k L) hle j hj
            · exact rnd_out (by omega) L
          rw [rnd_mvr L hs] at hv
          exact absurd hv (by decide)
        show sumN (rnd N mem cost (bt out) L (itr N L mem cost (bt out) k (dst0 root))) N ≤ m
        omega
  exact hr _ 0 (Nat.le_refl _)
end
end

section
/-! laws: signs, worked out on both sides -/
def bnd (v : Int64) : Prop := -1000000000000 ≤ v.toInt ∧ v.toInt ≤ 1000000000000
def l01 (c : Bool) : Int64 := if c then 1 else 0
/-- whether a product stays within the bound -/
def fts (a b : Int64) : Bool := decide ((a.toInt * b.toInt).natAbs ≤ 1000000000000)
noncomputable def jn (k : Nat) (a b : Int64) : Option Int64 :=
  if k = 16 then some (l01 (decide (¬ (a = 0 ∧ b = 0)))) else
  if k = 17 then some (l01 (decide (¬ (a = 0 ∨ b = 0)))) else
  if k = 31 then (if (a.toInt + b.toInt).natAbs ≤ 1000000000000 then some (a + b) else none) else
  if k = 32 then (if (a.toInt - b.toInt).natAbs ≤ 1000000000000 then some (a - b) else none) else
  if k = 33 then (if fts a b then some (a * b) else none) else
  if k = 34 then (if b = 0 then none else some (a / b)) else
  if k = 35 then some (l01 (decide (a < b))) else
  if k = 36 then some (l01 (decide (¬ b < a))) else
  if k = 37 then some (l01 (decide (a = b))) else
  if k = 38 then some (l01 (decide (¬ a = b))) else
  if k = 39 then some (l01 (decide (¬ a < b))) else
  if k = 40 then some (l01 (decide (b < a))) else none
def okj (k : Nat) : Prop := k = 16 ∨ k = 17 ∨ (31 ≤ k ∧ k ≤ 40)
theorem bnd_01 (c : Bool) : bnd (l01 c) := by cases c <;> exact ⟨by decide +kernel, by decide +kernel⟩
theorem lE : (lN 1000000000000).toInt = 1000000000000 := by decide +kernel
theorem lM : (lN 18446743073709551616).toInt = -1000000000000 := by decide +kernel
theorem lMin : (lN 9223372036854775808).toInt = -9223372036854775808 := by decide +kernel
theorem nbnd_min : ¬ bnd (lN 9223372036854775808) := fun h => absurd h.1 (by decide +kernel)
theorem add64 {a b : Int64} (ha : bnd a) (hb : bnd b) : (a + b).toInt = a.toInt + b.toInt := by
  obtain ⟨h1, h2⟩ := ha
  obtain ⟨h3, h4⟩ := hb
  rw [Int64.toInt_add]
  apply Int.bmod_eq_of_le <;> omega
theorem sub64 {a b : Int64} (ha : bnd a) (hb : bnd b) : (a - b).toInt = a.toInt - b.toInt := by
  obtain ⟨h1, h2⟩ := ha
  obtain ⟨h3, h4⟩ := hb
  rw [Int64.toInt_sub]
  apply Int.bmod_eq_of_le <;> omega
theorem neg64 {a : Int64} (ha : bnd a) : (-a).toInt = -a.toInt := by
  obtain ⟨h1, h2⟩ := ha
  rw [Int64.toInt_neg]
  apply Int.bmod_eq_of_le <;> omega
theorem eq0 (a : Int64) : a = 0 ↔ a.toInt = 0 := by
  rw [← Int64.toInt_inj]
  exact Iff.rfl
theorem eq0' (a : Int64) : a = lN 0 ↔ a.toInt = 0 := eq0 a
theorem lt64 (a b : Int64) : a < b ↔ a.toInt < b.toInt := Int64.lt_iff_toInt_lt
theorem div64 {a b : Int64} (ha : bnd a) (hb : b ≠ 0) : (a / b).toInt = a.toInt.tdiv b.toInt ∧ bnd (a / b) := by
  obtain ⟨h1, h2⟩ := ha
  have hb0 : b.toInt ≠ 0 := fun h => hb ((eq0 b).mpr h)
  have hq : (a.toInt.tdiv b.toInt).natAbs ≤ a.toInt.natAbs := by
    rw [Int.natAbs_tdiv]
    exact Nat.div_le_self _ _
  have e : (a / b).toInt = a.toInt.tdiv b.toInt := by
    rw [Int64.toInt_div]
    apply Int.bmod_eq_of_le <;> omega
  refine ⟨e, ?_⟩
  unfold bnd
  rw [e]
  omega
/-- the product's bound, as both sides ask for it -/
theorem fts_iff {x y : Int} (hx : 0 < x) (hy : 0 ≤ y) : y ≤ 1000000000000 / x ↔ x * y ≤ 1000000000000 := by
  rw [Int.le_ediv_iff_mul_le hx, Int.mul_comm]
theorem fts_cmp {a b z w : Int64} (hz0 : 0 < z.toInt) (hz : z.toInt = a.toInt.natAbs) (hw : w.toInt = b.toInt.natAbs) : (0 < lg_cmp w (lN 1000000000000 / z)) ↔ fts a b = false := by
  rw [lg_cmp_gt, lt64, lg_ldiv_nonneg (by rw [lE]; omega) hz0, lE]
  have h := fts_iff (y := w.toInt) hz0 (by omega)
  have e : ((a.toInt * b.toInt).natAbs : Int) = z.toInt * w.toInt := by
    rw [Int.natAbs_mul, hz, hw]
    exact Int.natCast_mul _ _
  have hd : 1000000000000 / z.toInt < w.toInt ↔ ¬ (w.toInt ≤ 1000000000000 / z.toInt) := by omega
  rw [hd, h, ← e]
  unfold fts
  rw [decide_eq_false_iff_not]
  omega
section
variable {i : Nat → Nat → Int32} {l : Nat → Nat → Int64} {s r p : Nat}
theorem fits_ok {a b : Int64} (ha : bnd a) (hb : bnd b) : Net_fitsTimes a b (i, l, Rp s r p) = some (some (.int (nI (fts a b).toNat)), (i, l, Rp s r p)) := by
  have key : ∀ z : Int64, z.toInt = a.toInt.natAbs → Net_fitsTimes_12 b z (i, l, Rp s r p) = some (some (.int (nI (fts a b).toNat)), (i, l, Rp s r p)) := by
    intro z hz
    rw [Net_fitsTimes_12_eq]
    simp only [gd_1, gd_0]
    by_cases h0 : z.toInt = 0
    · rw [ifc_t ((lg_cmp_eq _ _).mpr ((eq0' z).mpr h0))]
      have e : fts a b = true := by
        unfold fts
        have : a.toInt = 0 := by omega
        rw [this, Int.zero_mul]
        rfl
      rw [e]
      rfl
    · rw [ifc_f (fun h => h0 ((eq0' z).mp ((lg_cmp_eq _ _).mp h)))]
      have hz0 : 0 < z.toInt := by omega
      rw [gd_t (fun h => h0 ((eq0 z).mp h)), gd_t (fun h => h0 ((eq0 z).mp h))]
      by_cases hbn : b.toInt < 0
      · rw [ifc_t ((lg_cmp_lt _ _).mpr ((lt64 _ _).mpr hbn))]
        have hc := fts_cmp (a := a) (b := b) (w := -b) hz0 hz (by rw [neg64 hb]; omega)
        cases hf : fts a b
        · rw [ifc_t (hc.mpr hf)]; rfl
        · rw [ifc_f (fun h => by rw [hc.mp h] at hf; exact absurd hf (by decide))]; rfl
      · rw [ifc_f (fun h => hbn ((lt64 _ _).mp ((lg_cmp_lt _ _).mp h)))]
        have hc := fts_cmp (a := a) (b := b) (w := b) hz0 hz (by omega)
        cases hf : fts a b
        · rw [ifc_t (hc.mpr hf)]; rfl
        · rw [ifc_f (fun h => by rw [hc.mp h] at hf; exact absurd hf (by decide))]; rfl
  rw [Net_fitsTimes_eq]
  by_cases han : a.toInt < 0
  · rw [ifc_t ((lg_cmp_lt _ _).mpr ((lt64 _ _).mpr han)), key (-a) (by rw [neg64 ha]; omega)]
  · rw [ifc_f (fun h => han ((lt64 _ _).mp ((lg_cmp_lt _ _).mp h))), key a (by omega)]
theorem mul64 {a b : Int64} (h : fts a b = true) : (a * b).toInt = a.toInt * b.toInt ∧ bnd (a * b) := by
  unfold fts at h
  have h := of_decide_eq_true h
  have e : (a * b).toInt = a.toInt * b.toInt := by
    rw [Int64.toInt_mul]
    apply Int.bmod_eq_of_le <;> omega
  refine ⟨e, ?_⟩
  unfold bnd
  rw [e]
  omega
theorem ifc_l0 {α : Type} (a : Int64) (x y : Option α) : ifc (lg_cmp a (lN 0) = 0) x y = if a = 0 then x else y := ifc_if (lg_cmp_eq _ _) x y
theorem ifc_leq {α : Type} (a b : Int64) (x y : Option α) : ifc (lg_cmp a b = 0) x y = if a = b then x else y := ifc_if (lg_cmp_eq _ _) x y
theorem ifc_llt {α : Type} (a b : Int64) (x y : Option α) : ifc (lg_cmp a b < 0) x y = if a < b then x else y := ifc_if (lg_cmp_lt _ _) x y
theorem ifc_lgt {α : Type} (a b : Int64) (x y : Option α) : ifc (0 < lg_cmp a b) x y = if b < a then x else y := ifc_if (lg_cmp_gt _ _) x y
theorem join_ok {k : Nat} (hk : okj k) {a b : Int64} (ha : bnd a) (hb : bnd b) : ∃ v, Net_join (nI k) a b (i, l, Rp s r p) = some (some (.long v), (i, l, Rp s r p)) ∧ (jn k a b = some v ∧ bnd v ∨ jn k a b = none ∧ ¬ bnd v) := by
  have h01 : ∀ c : Bool, bnd (l01 c) := bnd_01
  have hk2 : k = 16 ∨ k = 17 ∨ k = 31 ∨ k = 32 ∨ k = 33 ∨ k = 34 ∨ k = 35 ∨ k = 36 ∨ k = 37 ∨ k = 38 ∨ k = 39 ∨ k = 40 := by unfold okj at hk; omega
  rw [Net_join_eq]
  simp only [ifc_leq, ifc_llt, ifc_lgt, lN0, lN1]
  rcases hk2 with rfl | rfl | rfl | rfl | rfl | rfl | rfl | rfl | rfl | rfl | rfl | rfl
  all_goals simp (disch := decide) only [ifc_eq, reduceIte, Nat.reduceEqDiff, if_true, if_false, ifc_True, ifc_False]
  · refine ⟨l01 (decide (¬ (a = 0 ∧ b = 0))), ?_, .inl ⟨rfl, h01 _⟩⟩
    by_cases h1 : a = 0 <;> by_cases h2 : b = 0 <;> simp [h1, h2, l01]
  · refine ⟨l01 (decide (¬ (a = 0 ∨ b = 0))), ?_, .inl ⟨rfl, h01 _⟩⟩
    by_cases h1 : a = 0 <;> by_cases h2 : b = 0 <;> simp [h1, h2, l01]
  · refine ⟨a + b, rfl, ?_⟩
    have e := add64 ha hb
    show (if _ then some (a + b) else none) = _ ∧ _ ∨ (if _ then some (a + b) else none) = _ ∧ _
    by_cases h : (a.toInt + b.toInt).natAbs ≤ 1000000000000
    · rw [if_pos h]; exact .inl ⟨rfl, by unfold bnd; omega⟩
    · rw [if_neg h]; exact .inr ⟨rfl, by unfold bnd; omega⟩
  · refine ⟨a - b, rfl, ?_⟩
    have e := sub64 ha hb
    show (if _ then some (a - b) else none) = _ ∧ _ ∨ (if _ then some (a - b) else none) = _ ∧ _
    by_cases h : (a.toInt - b.toInt).natAbs ≤ 1000000000000
    · rw [if_pos h]; exact .inl ⟨rfl, by unfold bnd; omega⟩
    · rw [if_neg h]; exact .inr ⟨rfl, by unfold bnd; omega⟩
  · rw [fits_ok ha hb, crI_t, ifc_b]
    show ∃ v, _ ∧ ((if fts a b then some (a * b) else none) = _ ∧ _ ∨ (if fts a b then some (a * b) else none) = _ ∧ _)
    cases h : fts a b
    · exact ⟨_, rfl, .inr ⟨rfl, nbnd_min⟩⟩
    · exact ⟨_, rfl, .inl ⟨rfl, (mul64 h).2⟩⟩
  · show ∃ v, _ ∧ ((if b = 0 then none else some (a / b)) = _ ∧ _ ∨ (if b = 0 then none else some (a / b)) = _ ∧ _)
    by_cases h : b = 0
    · rw [if_pos h, if_pos h]; exact ⟨_, rfl, .inr ⟨rfl, nbnd_min⟩⟩
    · rw [if_neg h, if_neg h, gd_t h]; exact ⟨_, rfl, .inl ⟨rfl, (div64 ha h).2⟩⟩
  · refine ⟨l01 (decide (a < b)), ?_, .inl ⟨rfl, h01 _⟩⟩
    by_cases h1 : a < b <;> simp [h1, l01]
  · refine ⟨l01 (decide (¬ b < a)), ?_, .inl ⟨rfl, h01 _⟩⟩
    by_cases h1 : b < a <;> simp [h1, l01]
  · refine ⟨l01 (decide (a = b)), ?_, .inl ⟨rfl, h01 _⟩⟩
    by_cases h1 : a = b <;> simp [h1, l01]
  · refine ⟨l01 (decide (¬ a = b)), ?_, .inl ⟨rfl, h01 _⟩⟩
    by_cases h1 : a = b <;> simp [h1, l01]
  · refine ⟨l01 (decide (¬ a < b)), ?_, .inl ⟨rfl, h01 _⟩⟩
    by_cases h1 : a < b <;> simp [h1, l01]
  · refine ⟨l01 (decide (b < a)), ?_, .inl ⟨rfl, h01 _⟩⟩
    by_cases h1 : b < a <;> simp [h1, l01]
end
end

section
/-! a law, worked out from its row: the stack, the component's work, the reference's lawOf -/
def okk (k : Nat) : Prop := k = 27 ∨ (19 ≤ k ∧ k ≤ 25) ∨ k = 18 ∨ okj k
noncomputable def lstp (k n : Nat) (vl : Nat → Int64) (st : List Int64) : Option (List Int64) :=
  if k = 27 then some (lN n :: st) else
  if 19 ≤ k ∧ k ≤ 25 then some (vl k :: st) else
  if k = 18 then (match st with
    | a :: t => some (l01 (decide (a = 0)) :: t)
    | [] => none) else
  (match st with
    | b :: a :: t => (jn k a b).map (fun v => v :: t)
    | _ => none)
noncomputable def lrun (kd nm : Nat → Nat) (vl : Nat → Int64) (b : Nat) : Nat → Option (List Int64)
  | 0 => some []
  | n + 1 => (lrun kd nm vl b n).bind (lstp (kd (b + n)) (nm (b + n)) vl)
/-- the places of what lies on the stack, the top first -/
def ixs (kd : Nat → Nat) (b : Nat) : Nat → List Nat
  | 0 => []
  | n + 1 => (b + n) :: (if kd (b + n) = 27 ∨ (19 ≤ kd (b + n) ∧ kd (b + n) ≤ 25) then ixs kd b n else if kd (b + n) = 18 then (ixs kd b n).tail else (ixs kd b n).tail.tail)
/-- a law's row is well made -/
def lwf (kd : Nat → Nat) (b n : Nat) : Prop := (∀ j, j < n → okk (kd (b + j)) ∧ (kd (b + j) = 18 → 1 ≤ (ixs kd b j).length) ∧ (okj (kd (b + j)) → 2 ≤ (ixs kd b j).length)) ∧ (0 < n → (ixs kd b n).length = 1)
def SK : List Int64 → (Nat → Int64) → Prop
  | [], _ => True
  | v :: st, f => f st.length = v ∧ SK st f
theorem SK_u {f : Nat → Nat → Int64} {x : Int64} : ∀ (st : List Int64) (k : Nat), st.length ≤ k → SK st (f 46) → SK st (u2 f 46 k x 46)
  | [], _, _, _ => trivial
  | v :: st, k, hk, h => ⟨(u2_k (by simp at hk; omega)).trans h.1, SK_u st k (by simp at hk; omega) h.2⟩
theorem SK_push {f : Nat → Nat → Int64} {x : Int64} {st : List Int64} (h : SK st (f 46)) : SK (x :: st) (u2 f 46 st.length x 46) := ⟨u2_s f 46 st.length x, SK_u st _ (Nat.le_refl _) h⟩
def BS (st : List Int64) : Prop := ∀ v ∈ st, bnd v
theorem BS_nil : BS [] := fun v h => by simp at h
theorem BS_cons {v : Int64} {st : List Int64} (h : bnd v) (hs : BS st) : BS (v :: st) := fun w hw => by
  rcases List.mem_cons.mp hw with rfl | hw
  · exact h
  · exact hs w hw
theorem BS_hd {v : Int64} {st : List Int64} (h : BS (v :: st)) : bnd v := h v (List.mem_cons_self ..)
theorem BS_tl {v : Int64} {st : List Int64} (h : BS (v :: st)) : BS st := fun w hw => h w (List.mem_cons_of_mem _ hw)
theorem bnd_n {n : Nat} (h : n < 2 ^ 31) : bnd (lN n) := by
  have := lN_toInt h
  unfold bnd
  omega
/-- a row's stack is as long as its places -/
theorem lrun_len {kd nm : Nat → Nat} {vl : Nat → Int64} {b : Nat} : ∀ n, (∀ j, j < n → okk (kd (b + j)) ∧ (kd (b + j) = 18 → 1 ≤ (ixs kd b j).length) ∧ (okj (kd (b + j)) → 2 ≤ (ixs kd b j).length)) → ∀ st, lrun kd nm vl b n = some st → st.length = (ixs kd b n).length
  | 0, _, st, h => by
    have e : st = [] := (Option.some.inj h).symm
    rw [e]; rfl
  | n + 1, hw, st, h => by
    obtain ⟨t, h1, h2⟩ := Option.bind_eq_some_iff.mp h
    have ih := lrun_len n (fun j hj => hw j (by omega)) t h1
    obtain ⟨w1, w2, w3⟩ := hw n (by omega)
    unfold lstp at h2
    unfold ixs
    by_cases c1 : kd (b + n) = 27
    · rw [if_pos c1] at h2
      rw [if_pos (.inl c1)]
      rw [← Option.some.inj h2]
      simp [ih]
    · rw [if_neg c1] at h2
      by_cases c2 : 19 ≤ kd (b + n) ∧ kd (b + n) ≤ 25
      · rw [if_pos c2] at h2
        rw [if_pos (.inr c2)]
        rw [← Option.some.inj h2]
        simp [ih]
      · rw [if_neg c2] at h2
        rw [if_neg (by omega)]
        by_cases c3 : kd (b + n) = 18
        · rw [if_pos c3] at h2 ⊢
          have := w2 c3
          match t, ih, h2 with
          | a :: t, ih, h2 =>
            rw [← Option.some.inj h2]
            simp at ih ⊢
            omega
        · rw [if_neg c3] at h2 ⊢
          have hj : okj (kd (b + n)) := by unfold okk okj at w1; unfold okj; omega
          have := w3 hj
          match t, ih, h2 with
          | x :: a :: t, ih, h2 =>
            obtain ⟨v, _, hv⟩ := Option.map_eq_some_iff.mp h2
            rw [← hv]
            simp at ih ⊢
            omega
theorem lrun_bnd {kd nm : Nat → Nat} {vl : Nat → Int64} {b : Nat} (hv : ∀ k, 19 ≤ k → k ≤ 25 → bnd (vl k)) : ∀ n, (∀ j, j < n → okk (kd (b + j)) ∧ nm (b + j) < 2 ^ 31) → ∀ st, lrun kd nm vl b n = some st → BS st
  | 0, _, st, h => by
    have e : st = [] := (Option.some.inj h).symm
    rw [e]; exact BS_nil
  | n + 1, hw, st, h => by
    obtain ⟨t, h1, h2⟩ := Option.bind_eq_some_iff.mp h
    have ih := lrun_bnd hv n (fun j hj => hw j (by omega)) t h1
    obtain ⟨w1, w4⟩ := hw n (by omega)
    unfold lstp at h2
    by_cases c1 : kd (b + n) = 27
    · rw [if_pos c1] at h2
      rw [← Option.some.inj h2]
      exact BS_cons (bnd_n w4) ih
    · rw [if_neg c1] at h2
      by_cases c2 : 19 ≤ kd (b + n) ∧ kd (b + n) ≤ 25
      · rw [if_pos c2] at h2
        rw [← Option.some.inj h2]
        exact BS_cons (hv _ c2.1 c2.2) ih
      · rw [if_neg c2] at h2
        by_cases c3 : kd (b + n) = 18
        · rw [if_pos c3] at h2
          match t, ih, h2 with
          | a :: t, ih, h2 =>
            rw [← Option.some.inj h2]
            exact BS_cons (bnd_01 _) (BS_tl ih)
        · rw [if_neg c3] at h2
          have hj : okj (kd (b + n)) := by unfold okk okj at w1; unfold okj; omega
          match t, ih, h2 with
          | x :: a :: t, ih, h2 =>
            obtain ⟨v, h5, h6⟩ := Option.map_eq_some_iff.mp h2
            rw [← h6]
            have h7 := join_ok (i := fun _ _ => 0) (l := fun _ _ => 0) (s := 0) (r := 0) (p := 0) hj (BS_hd (BS_tl ih)) (BS_hd ih)
            obtain ⟨w, _, h8 | h8⟩ := h7
            · have e : w = v := Option.some.inj (h8.1.symm.trans h5)
              exact BS_cons (e ▸ h8.2) (BS_tl (BS_tl ih))
            · rw [h8.1] at h5; exact absurd h5 (by simp)
/-- a law's value; none: an error, or not told -/
noncomputable def lval (kd nm : Nat → Nat) (vl : Nat → Int64) (b e : Nat) : Option Int64 := (lrun kd nm vl b (e - b)).bind List.head?
theorem if2 {α : Type} {c d : Prop} [Decidable c] [Decidable d] {x y : α} (h : c ∨ d) : (if c then x else if d then x else y) = x := by
  by_cases hc : c
  · rw [if_pos hc]
  · rw [if_neg hc, if_pos (h.resolve_left hc)]
theorem ex1 {α : Type} : ∀ {st : List α}, 1 ≤ st.length → ∃ a t, st = a :: t
  | a :: t, _ => ⟨a, t, rfl⟩
theorem ex2 {α : Type} : ∀ {st : List α}, 2 ≤ st.length → ∃ a b t, st = a :: b :: t
  | a :: b :: t, _ => ⟨a, b, t, rfl⟩
section
variable {i : Nat → Nat → Int32} {s r p : Nat}
theorem work_ok {l : Nat → Nat → Int64} {w o2 b e : Nat} {x3 x4 : Int32} {kd nm : Nat → Nat} {vl : Nat → Int64} (hj : o2 = 51 ∨ o2 = 65) (hp : p = 7 ∨ p = 27) (hw : w < 3)
    (hb : i (p + 14) w = nI b) (he : i (p + 15) w = nI e) (hbe : b ≤ e) (he64 : e ≤ 64)
    (hk : ∀ k, b ≤ k → k < e → i (p + 12) k = nI (kd k)) (hn : ∀ k, b ≤ k → k < e → i (p + 13) k = nI (nm k) ∧ nm k < 2 ^ 31) (hwf : lwf kd b (e - b))
    (hv : ∀ k (l' : Nat → Nat → Int64), 19 ≤ k → k ≤ 25 → Net_value (nI k) o2 x3 x4 (i, l', Rp s r p) = some (some (.long (vl k)), (i, l', Rp s r p))) (hvb : ∀ k, 19 ≤ k → k ≤ 25 → bnd (vl k)) :
    ∃ l', Net_work (nI (13 + w)) o2 x3 x4 (i, l, Rp s r p) = some (some (.long ((lval kd nm vl b e).getD (lN 9223372036854775808))), (i, l', Rp s r p)) ∧ ∀ a, a ≠ 46 → l' a = l a := by
  have h13 : nI (13 + w) - nI 13 = nI w := by rw [pk_sub (by omega), Nat.add_sub_cancel_left]
  rw [Net_work_eq _ _ _ _ _ _ _ _ _ hj hp, h13, gd_in hw (by omega), nI_clamp (by omega), hb]
  have key : ∀ m n (l1 : Nat → Nat → Int64) st, m = e - b - n → n ≤ e - b → lrun kd nm vl b n = some st → SK st (l1 46) → (∀ a, a ≠ 46 → l1 a = l a) →
      ∃ l', Net_work_24 (nI (13 + w)) o2 x3 x4 (p + 11) (nI st.length) (nI (b + n)) (i, l1, Rp s r p) = some (some (.long ((lval kd nm vl b e).getD (lN 9223372036854775808))), (i, l', Rp s r p)) ∧ ∀ a, a ≠ 46 → l' a = l a := by
    intro m
    induction m with
    | zero =>
      intro n l1 st hm hne hr hs hf
      have en : n = e - b := by omega
      have hlen := lrun_len n (fun j hj => hwf.1 j (by omega)) st hr
      rw [Net_work_24_eq _ _ _ _ _ _ _ _ _ _ _ hj hp, h13, gd_in hw (by omega), nI_clamp (by omega), he, ifc_f (nI_nlt (by omega) (by omega))]
      refine ⟨l1, ?_, hf⟩
      by_cases h0 : e - b = 0
      · have e1 : st = [] := by
          rw [en, h0] at hr
          exact (Option.some.inj hr).symm
        subst e1
        rw [ifc_t (show nI ([] : List Int64).length = 0 from rfl)]
        unfold lval
        rw [h0]
        rfl
      · have h1 := hwf.2 (by omega)
        rw [en] at hlen
        rw [h1] at hlen
        match st, hlen, hs, hr with
        | [v], _, hs, hr =>
          show ifc (nI 1 = 0) _ _ = _
          rw [ifc_f (show ¬ nI 1 = 0 by decide), gd_in (by omega) (by omega)]
          unfold lval
          rw [← en, hr]
          have : l1 46 (nI 0).toNatClampNeg = v := hs.1
          rw [this]
          rfl
    | succ m ih =>
      intro n l1 st hm hne hr hs hf
      have hlen := lrun_len n (fun j hj => hwf.1 j (by omega)) st hr
      have hbs := lrun_bnd hvb n (fun j hj => ⟨(hwf.1 j (by omega)).1, (hn (b + j) (by omega) (by omega)).2⟩) st hr
      obtain ⟨w1, w2, w3⟩ := hwf.1 n (by omega)
      have hl64 : st.length ≤ n := by
        have : ∀ n, (ixs kd b n).length ≤ n := by
          intro n
          induction n with
          | zero => exact Nat.le_refl _
          | succ n ih =>
            unfold ixs
            split
            · simp; omega
            · split <;> simp <;> omega
        rw [hlen]; exact this n
      have hnext : lrun kd nm vl b (n + 1) = lstp (kd (b + n)) (nm (b + n)) vl st := by
        show (lrun kd nm vl b n).bind _ = _
        rw [hr]; rfl
      have hkk : kd (b + n) ≤ 40 := by unfold okk okj at w1; omega
      have hbn : b + n < e := by omega
      rw [Net_work_24_eq _ _ _ _ _ _ _ _ _ _ _ hj hp, h13, gd_in hw (by omega), nI_clamp (by omega), he, ifc_t (nI_lt hbn (by omega)), gd_in (by omega) (by omega), nI_clamp (by omega), hk _ (by omega) hbn, (hn _ (by omega) hbn).1]
      rw [ifc_eq (by omega) (by omega), ifc_lt (by omega) (by omega), ifc_lt (by omega) (by omega)]
      rw [gd_in (by omega) (by omega), gd_in (by omega) (by omega)]
      simp only [nI_add, nI_clamp (show st.length < 2 ^ 31 by omega), nI_l (hn _ (by omega) hbn).2]
      unfold lstp at hnext
      by_cases c1 : kd (b + n) = 27
      · rw [if_pos c1] at hnext ⊢
        exact ih (n + 1) _ _ (by omega) (by omega) hnext (SK_push hs) (fun a ha => by rw [← hf a ha]; funext j; exact u2_i ha)
      · rw [if_neg c1] at hnext ⊢
        by_cases c2 : 19 ≤ kd (b + n) ∧ kd (b + n) ≤ 25
        · rw [if_pos c2] at hnext
          rw [if_neg (by omega), if_neg (by omega), hv _ _ c2.1 c2.2, crL_t, gd_in (by omega) (by omega)]
          exact ih (n + 1) _ _ (by omega) (by omega) hnext (SK_push hs) (fun a ha => by rw [← hf a ha]; funext j; exact u2_i ha)
        · rw [if_neg c2] at hnext
          rw [if2 (show kd (b + n) < 19 ∨ 25 < kd (b + n) by omega)]
          rw [Net_work_115_eq _ _ _ _ _ _ _ _ _ _ _ _ hj hp, ifc_eq (by omega) (by omega)]
          by_cases c3 : kd (b + n) = 18
          · rw [if_pos c3] at hnext ⊢
            have hl1 := w2 c3
            obtain ⟨a, t, rfl⟩ := ex1 (st := st) (by omega)
            have e2 : nI (a :: t).length - nI 1 = nI t.length := by rw [pk_sub (by simp)]; rfl
            simp only [List.length_cons] at hl64
            rw [ifc_t (by rw [show (0 : Int32) = nI 0 from rfl]; exact nI_lt (by simp) (by simp; omega)), e2, gd_in (by omega) (by omega), nI_clamp (by omega), hs.1, ifc_leq, lN0, gd_in (by omega) (by omega), gd_in (by omega) (by omega), nI_add]
            have e3 : ∀ c : Bool, SK (l01 c :: t) (u2 l1 46 t.length (l01 c) 46) := fun c => SK_push hs.2
            by_cases c5 : a = 0
            · rw [if_pos c5]
              simp only [c5, decide_true] at hnext
              exact ih (n + 1) _ (l01 true :: t) (by omega) (by omega) hnext (e3 _) (fun a ha => by rw [← hf a ha]; funext j; exact u2_i ha)
            · rw [if_neg c5]
              simp only [c5, decide_false] at hnext
              exact ih (n + 1) _ (l01 false :: t) (by omega) (by omega) hnext (e3 _) (fun a ha => by rw [← hf a ha]; funext j; exact u2_i ha)
          · rw [if_neg c3] at hnext ⊢
            have hjk : okj (kd (b + n)) := by unfold okk okj at w1; unfold okj; omega
            have hl2 := w3 hjk
            obtain ⟨x, a, t, rfl⟩ := ex2 (st := st) (by omega)
            have e2 : nI (x :: a :: t).length + nM 1 = nI (t.length + 1) := by rw [nI_nM (by simp)]; rfl
            have e3 : nI (t.length + 1) - nI 1 = nI t.length := by rw [pk_sub (by omega)]; rfl
            simp only [List.length_cons] at hl64
            rw [Net_work_158_eq _ _ _ _ _ _ _ _ _ _ _ _ hj hp, ifc_t (nI_lt (by simp) (by simp; omega)), e2, e3, gd_in (by omega) (by omega), gd_in (by omega) (by omega)]
            simp only [nI_clamp (show t.length < 2 ^ 31 by omega), nI_clamp (show t.length + 1 < 2 ^ 31 by omega)]
            have q1 : l1 46 (t.length + 1) = x := hs.1
            have q2 : l1 46 t.length = a := hs.2.1
            rw [q1, q2]
            obtain ⟨v, hv1, hv2⟩ := join_ok (i := i) (l := l1) (s := s) (r := r) (p := p) hjk (BS_hd (BS_tl hbs)) (BS_hd hbs)
            rw [hv1, crL_t, ifc_lgt, ifc_llt, gd_in (by omega) (by omega), nI_add]
            rcases hv2 with ⟨hv2, hv3⟩ | ⟨hv2, hv3⟩
            · have n1 : ¬ lN 1000000000000 < v := by rw [lt64, lE]; have := hv3.2; omega
              have n2 : ¬ v < lN 18446743073709551616 := by rw [lt64, lM]; have := hv3.1; omega
              rw [if_neg n1, if_neg n2]
              simp only [hv2, Option.map_some] at hnext
              exact ih (n + 1) _ _ (by omega) (by omega) hnext (SK_push hs.2.2) (fun a ha => by rw [← hf a ha]; funext j; exact u2_i ha)
            · refine ⟨l1, ?_, hf⟩
              have hnone : ∀ d, lrun kd nm vl b (n + 1 + d) = none := by
                intro d
                induction d with
                | zero =>
                  simp only [hv2, Option.map_none] at hnext
                  exact hnext
                | succ d ihd =>
                  show (lrun kd nm vl b (n + 1 + d)).bind _ = none
                  rw [ihd]; rfl
              have hl : lval kd nm vl b e = none := by
                unfold lval
                have := hnone (e - b - (n + 1))
                rw [show n + 1 + (e - b - (n + 1)) = e - b by omega] at this
                rw [this]; rfl
              rw [hl]
              by_cases n1 : lN 1000000000000 < v
              · rw [if_pos n1]; rfl
              · rw [if_neg n1]
                by_cases n2 : v < lN 18446743073709551616
                · rw [if_pos n2]; rfl
                · rw [lt64, lE] at n1
                  rw [lt64, lM] at n2
                  exact absurd ⟨by omega, by omega⟩ hv3
  exact key _ 0 l [] rfl (by omega) rfl trivial (fun _ _ => rfl)
end
end

section
/-! the reference's laws: valueOf, lawOf -/
def km (k : Nat) : Nat := if k = 16 then 4 else if k = 17 then 3 else if k ≤ 34 then k - 20 else k - 30
theorem u2_u2 {α : Type} (f : Nat → Nat → α) (a k : Nat) (x y : α) : u2 (u2 f a k x) a k y = u2 f a k y := by
  funext b j
  unfold u2
  by_cases h1 : b = a
  · by_cases h2 : j = k
    · simp [h1, h2]
    · simp [h1, h2]
  · simp [h1]
theorem u2_self {α : Type} {f : Nat → Nat → α} {a k : Nat} {x : α} (h : f a k = x) : u2 f a k x = f := by
  funext b j
  unfold u2
  by_cases h1 : b = a
  · by_cases h2 : j = k
    · rw [if_pos h1, if_pos h2, h1, h2, h]
    · rw [if_pos h1, if_neg h2]
  · rw [if_neg h1]
theorem u2_r {α : Type} {f : Nat → Nat → α} {a k : Nat} {x : α} {c : Nat} (h : c ≠ a) : u2 f a k x c = f c := by
  funext j
  exact u2_i h
section
variable {i : Nat → Nat → Int32} {l : Nat → Nat → Int64} {s r p : Nat}
theorem bounded_ok {e : Bool} (he : i 82 53 = nI e.toNat) (v : Int64) : ∃ w e', Mo_bounded v (i, l, Rp s r p) = some (some (.long w), (u2 i 82 53 (nI e'.toNat), l, Rp s r p)) ∧ (e = true → e' = true) ∧ (e = false → bnd v → w = v ∧ e' = false) ∧ (e = false → ¬ bnd v → e' = true) := by
  rw [Mo_bounded_eq, Mo_bounded_24_eq, he, ifc_b, ifc_lgt, ifc_llt]
  simp only [gd_1, gd_0, ifc_t nI_0]
  rw [ifc_f (by decide : ¬ nI 1 = 0)]
  cases e
  · rw [if_neg (by decide)]
    by_cases n1 : lN 1000000000000 < v
    · rw [if_pos n1]
      rw [lt64, lE] at n1
      exact ⟨_, true, rfl, fun _ => rfl, fun _ hb => by have := hb.2; omega, fun _ _ => rfl⟩
    · rw [if_neg n1]
      by_cases n2 : v < lN 18446743073709551616
      · rw [if_pos n2]
        rw [lt64, lM] at n2
        exact ⟨_, true, rfl, fun _ => rfl, fun _ hb => by have := hb.1; omega, fun _ _ => rfl⟩
      · rw [if_neg n2]
        rw [lt64, lE] at n1
        rw [lt64, lM] at n2
        exact ⟨_, false, rfl, fun h => absurd h (by decide), fun _ _ => ⟨rfl, rfl⟩, fun _ hb => absurd ⟨by omega, by omega⟩ hb⟩
  · rw [if_pos rfl]
    exact ⟨_, true, rfl, fun _ => rfl, fun h => absurd h (by decide), fun h => absurd h (by decide)⟩
theorem times_ok {e : Bool} (he : i 82 53 = nI e.toNat) (a b : Int64) : ∃ w e', Mo_times a b (i, l, Rp s r p) = some (some (.long w), (u2 i 82 53 (nI e'.toNat), l, Rp s r p)) ∧ (e = true → e' = true) ∧ (e = false → bnd a → bnd b → (fts a b = true ∧ w = a * b ∧ e' = false) ∨ (fts a b = false ∧ e' = true)) := by
  have k49 : ∀ f : Bool, ∃ w, Mo_times_49 a b (nI f.toNat) (i, l, Rp s r p) = some (some (.long w), (u2 i 82 53 (nI (e || f).toNat), l, Rp s r p)) ∧ (e = false → f = false → w = a * b) := by
    intro f
    rw [Mo_times_49_eq, he, ifc_b, ifc_b]
    simp only [gd_1, gd_0, ifc_t nI_0]
    rw [ifc_f (by decide : ¬ nI 1 = 0)]
    cases e
    · cases f
      · exact ⟨_, rfl, fun _ _ => rfl⟩
      · exact ⟨_, rfl, fun _ h => absurd h (by decide)⟩
    · exact ⟨_, rfl, fun h => absurd h (by decide)⟩
  have fin : ∀ f : Bool, (bnd a → bnd b → fts a b = !f) → ∃ w e', Mo_times_49 a b (nI f.toNat) (i, l, Rp s r p) = some (some (.long w), (u2 i 82 53 (nI e'.toNat), l, Rp s r p)) ∧ (e = true → e' = true) ∧ (e = false → bnd a → bnd b → (fts a b = true ∧ w = a * b ∧ e' = false) ∨ (fts a b = false ∧ e' = true)) := by
    intro f hf
    obtain ⟨w, h1, h2⟩ := k49 f
    refine ⟨w, e || f, h1, fun h => by rw [h]; rfl, fun h ha hb => ?_⟩
    have h3 := hf ha hb
    cases f
    · exact .inl ⟨h3, h2 h rfl, by rw [h]; rfl⟩
    · exact .inr ⟨h3, by rw [h]; rfl⟩
  rw [Mo_times_eq]
  simp only [ifc_leq, ifc_llt, lN0]
  by_cases h0 : a = 0
  · rw [if_pos h0]
    refine fin false (fun _ _ => ?_)
    unfold fts
    rw [(eq0 a).mp h0, Int.zero_mul]; rfl
  · rw [if_neg h0]
    by_cases h1 : b = 0
    · rw [if_pos h1]
      refine fin false (fun _ _ => ?_)
      unfold fts
      rw [(eq0 b).mp h1, Int.mul_zero]; rfl
    · rw [if_neg h1]
      have ha0 : a.toInt ≠ 0 := fun h => h0 ((eq0 a).mpr h)
      have k24 : ∀ w : Int64, (bnd b → w.toInt = b.toInt.natAbs) → ∃ w' e', Mo_times_24 a b w (i, l, Rp s r p) = some (some (.long w'), (u2 i 82 53 (nI e'.toNat), l, Rp s r p)) ∧ (e = true → e' = true) ∧ (e = false → bnd a → bnd b → (fts a b = true ∧ w' = a * b ∧ e' = false) ∨ (fts a b = false ∧ e' = true)) := by
        intro w hw
        rw [Mo_times_24_eq]
        simp only [ifc_llt, lN0]
        have hneg : -a ≠ 0 := fun h => h0 (by have := congrArg (fun z => -z) h; simpa using this)
        rw [gd_t h0, gd_t hneg]
        have kz : ∀ z : Int64, (bnd a → z.toInt = a.toInt.natAbs) → ∃ w' e', ifc (0 < lg_cmp w (lN 1000000000000 / z)) (Mo_times_49 a b (nI 1) (i, l, Rp s r p)) (Mo_times_49 a b (nI 0) (i, l, Rp s r p)) = some (some (.long w'), (u2 i 82 53 (nI e'.toNat), l, Rp s r p)) ∧ (e = true → e' = true) ∧ (e = false → bnd a → bnd b → (fts a b = true ∧ w' = a * b ∧ e' = false) ∨ (fts a b = false ∧ e' = true)) := by
          intro z hz
          by_cases hc : 0 < lg_cmp w (lN 1000000000000 / z)
          · rw [ifc_t hc]
            exact fin true (fun ha hb => (fts_cmp (by rw [hz ha]; omega) (hz ha) (hw hb)).mp hc)
          · rw [ifc_f hc]
            refine fin false (fun ha hb => ?_)
            cases hf : fts a b
            · exact absurd ((fts_cmp (by rw [hz ha]; omega) (hz ha) (hw hb)).mpr hf) hc
            · rfl
        by_cases hn : a < 0
        · rw [if_pos hn]
          refine kz (-a) (fun ha => ?_)
          rw [neg64 ha]
          have := (lt64 _ _).mp hn
          have : a.toInt < 0 := this
          omega
        · rw [if_neg hn]
          refine kz a (fun ha => ?_)
          have : ¬ a.toInt < 0 := fun h => hn ((lt64 _ _).mpr h)
          omega
      by_cases hn : b < 0
      · rw [if_pos hn]
        refine k24 (-b) (fun hb => ?_)
        rw [neg64 hb]
        have : b.toInt < 0 := (lt64 _ _).mp hn
        omega
      · rw [if_neg hn]
        refine k24 b (fun hb => ?_)
        have : ¬ b.toInt < 0 := fun h => hn ((lt64 _ _).mpr h)
        omega
theorem valueOf_bin {k kd pa ot : Nat} {e : Bool} (hk : k < 64) (hkd : okj kd) (h1 : i 101 k = nI (km kd)) (h2 : i 102 k = nI pa) (h3 : i 103 k = nI ot) (hpa : pa < 64) (hot : ot < 64) (he : i 82 53 = nI e.toNat) :
    ∃ w e', Mo_valueOf (nI k) (i, l, Rp s r p) = some (some (.long w), (u2 i 82 53 (nI e'.toNat), l, Rp s r p)) ∧ (e = true → e' = true) ∧ (e = false → bnd (l 107 pa) → bnd (l 107 ot) → (jn kd (l 107 pa) (l 107 ot) = some w ∧ e' = false) ∨ (jn kd (l 107 pa) (l 107 ot) = none ∧ e' = true)) := by
  rw [Mo_valueOf_eq, nI_clamp (by omega), h1, h2, h3]
  simp only [gd_in (show k < 128 by omega) (show 128 < 2 ^ 31 by omega), gd_in hpa (show 64 < 2 ^ 31 by omega), gd_in hot (show 64 < 2 ^ 31 by omega), nI_clamp (show pa < 2 ^ 31 by omega), nI_clamp (show ot < 2 ^ 31 by omega)]
  generalize l 107 pa = a
  generalize l 107 ot = b
  have hs : u2 i 82 53 (nI e.toNat) = i := u2_self he
  have h259 : ∀ (c : Bool) (x : Int32), i 101 k = x → Mo_compares x a b (i, l, Rp s r p) = some (some (.int (nI c.toNat)), (i, l, Rp s r p)) → Mo_valueOf_259 (nI k) a b (i, l, Rp s r p) = some (some (.long (l01 c)), (u2 i 82 53 (nI e.toNat), l, Rp s r p)) := by
    intro c x hx hc
    rw [Mo_valueOf_259_eq, nI_clamp (by omega), gd_in (by omega) (by omega), hx, hc, crI_t, ifc_b, hs]
    cases c <;> rfl
  have cmpF : ∀ (c : Bool) (x : Nat) (g : Prop), (e = false → jn kd a b = some (l01 c)) → Mo_valueOf_259 (nI k) a b (i, l, Rp s r p) = some (some (.long (l01 c)), (u2 i 82 53 (nI e.toNat), l, Rp s r p)) → ∃ w e', Mo_valueOf_259 (nI k) a b (i, l, Rp s r p) = some (some (.long w), (u2 i 82 53 (nI e'.toNat), l, Rp s r p)) ∧ (e = true → e' = true) ∧ (e = false → bnd a → bnd b → (jn kd a b = some w ∧ e' = false) ∨ (jn kd a b = none ∧ e' = true)) := by
    intro c x g hj h
    exact ⟨_, e, h, id, fun h0 _ _ => .inl ⟨hj h0, h0⟩⟩
  have hk2 : kd = 16 ∨ kd = 17 ∨ kd = 31 ∨ kd = 32 ∨ kd = 33 ∨ kd = 34 ∨ kd = 35 ∨ kd = 36 ∨ kd = 37 ∨ kd = 38 ∨ kd = 39 ∨ kd = 40 := by unfold okj at hkd; omega
  simp only [ifc_leq, lN0, lN1, he, ifc_b]
  have z0 : ∀ n, 0 < n → n < 20 → ¬ nI n = 0 := fun n h h' => nI_ne0 h (by omega)
  rcases hk2 with rfl | rfl | rfl | rfl | rfl | rfl | rfl | rfl | rfl | rfl | rfl | rfl
  · rw [show nI (km 16) = nI 4 from rfl]
    simp (disch := decide) only [ifc_z, ifc_eq, reduceIte, Nat.reduceEqDiff, if_true, if_false, ifc_True, ifc_False]
    refine ⟨l01 (decide (¬ (a = 0 ∧ b = 0))), e, ?_, id, fun h0 _ _ => .inl ⟨rfl, h0⟩⟩
    rw [hs]
    by_cases c1 : a = 0 <;> by_cases c2 : b = 0 <;> simp [c1, c2, l01]
  · rw [show nI (km 17) = nI 3 from rfl]
    simp (disch := decide) only [ifc_z, ifc_eq, reduceIte, Nat.reduceEqDiff, if_true, if_false, ifc_True, ifc_False]
    refine ⟨l01 (decide (¬ (a = 0 ∨ b = 0))), e, ?_, id, fun h0 _ _ => .inl ⟨rfl, h0⟩⟩
    rw [hs]
    by_cases c1 : a = 0 <;> by_cases c2 : b = 0 <;> simp [c1, c2, l01]
  · rw [show nI (km 31) = nI 11 from rfl]
    simp (disch := decide) only [ifc_z, ifc_eq, reduceIte, Nat.reduceEqDiff, if_true, if_false, ifc_True, ifc_False]
    obtain ⟨w, e', q1, q2, q3, q4⟩ := bounded_ok (l := l) (s := s) (r := r) (p := p) he (a + b)
    refine ⟨w, e', by rw [q1, crL_t], q2, fun h0 ha hb => ?_⟩
    have ea := add64 ha hb
    show (if _ then some (a + b) else none) = _ ∧ _ ∨ (if _ then some (a + b) else none) = _ ∧ _
    by_cases h : (a.toInt + b.toInt).natAbs ≤ 1000000000000
    · obtain ⟨q5, q6⟩ := q3 h0 (by unfold bnd; omega)
      rw [if_pos h, q5]; exact .inl ⟨rfl, q6⟩
    · rw [if_neg h]; exact .inr ⟨rfl, q4 h0 (by unfold bnd; omega)⟩
  · rw [show nI (km 32) = nI 12 from rfl]
    simp (disch := decide) only [ifc_z, ifc_eq, reduceIte, Nat.reduceEqDiff, if_true, if_false, ifc_True, ifc_False]
    obtain ⟨w, e', q1, q2, q3, q4⟩ := bounded_ok (l := l) (s := s) (r := r) (p := p) he (a - b)
    refine ⟨w, e', by rw [q1, crL_t], q2, fun h0 ha hb => ?_⟩
    have ea := sub64 ha hb
    show (if _ then some (a - b) else none) = _ ∧ _ ∨ (if _ then some (a - b) else none) = _ ∧ _
    by_cases h : (a.toInt - b.toInt).natAbs ≤ 1000000000000
    · obtain ⟨q5, q6⟩ := q3 h0 (by unfold bnd; omega)
      rw [if_pos h, q5]; exact .inl ⟨rfl, q6⟩
    · rw [if_neg h]; exact .inr ⟨rfl, q4 h0 (by unfold bnd; omega)⟩
  · rw [show nI (km 33) = nI 13 from rfl]
    simp (disch := decide) only [ifc_z, ifc_eq, reduceIte, Nat.reduceEqDiff, if_true, if_false, ifc_True, ifc_False]
    obtain ⟨w, e', q1, q2, q3⟩ := times_ok (l := l) (s := s) (r := r) (p := p) he a b
    refine ⟨w, e', by rw [q1, crL_t], q2, fun h0 ha hb => ?_⟩
    show (if fts a b then some (a * b) else none) = _ ∧ _ ∨ (if fts a b then some (a * b) else none) = _ ∧ _
    rcases q3 h0 ha hb with ⟨q4, q5, q6⟩ | ⟨q4, q5⟩
    · rw [q4, q5]; exact .inl ⟨rfl, q6⟩
    · rw [q4]; exact .inr ⟨rfl, q5⟩
  · rw [show nI (km 34) = nI 14 from rfl]
    simp (disch := decide) only [ifc_z, ifc_eq, reduceIte, Nat.reduceEqDiff, if_true, if_false, ifc_True, ifc_False, gd_0, gd_1]
    show ∃ w e', _ ∧ _ ∧ (_ → _ → _ → (if b = 0 then none else some (a / b)) = _ ∧ _ ∨ (if b = 0 then none else some (a / b)) = _ ∧ _)
    cases e
    · rw [if_neg (by decide)]
      by_cases c : b = 0
      · rw [if_pos c, if_pos c]
        exact ⟨_, true, rfl, fun _ => rfl, fun _ _ _ => .inr ⟨rfl, rfl⟩⟩
      · rw [if_neg c, if_neg c, gd_t c]
        exact ⟨_, false, rfl, fun h => absurd h (by decide), fun _ _ _ => .inl ⟨rfl, rfl⟩⟩
    · rw [if_pos rfl]
      exact ⟨_, true, rfl, fun _ => rfl, fun h => absurd h (by decide)⟩
  · rw [show nI (km 35) = nI 5 from rfl]
    simp (disch := decide) only [ifc_z, ifc_eq, reduceIte, Nat.reduceEqDiff, if_true, if_false, ifc_True, ifc_False]
    refine cmpF (decide (a < b)) 0 True (fun _ => rfl) (h259 _ (nI 5) h1 ?_)
    rw [Mo_compares_eq]
    simp (disch := decide) only [ifc_z, ifc_eq, reduceIte, Nat.reduceEqDiff, if_true, if_false, ifc_True, ifc_False, gd_0, gd_1, ifc_leq, ifc_llt, ifc_lgt]
    by_cases c1 : a < b <;> simp [c1]
  · rw [show nI (km 36) = nI 6 from rfl]
    simp (disch := decide) only [ifc_z, ifc_eq, reduceIte, Nat.reduceEqDiff, if_true, if_false, ifc_True, ifc_False]
    refine cmpF (decide (¬ b < a)) 0 True (fun _ => rfl) (h259 _ (nI 6) h1 ?_)
    rw [Mo_compares_eq]
    simp (disch := decide) only [ifc_z, ifc_eq, reduceIte, Nat.reduceEqDiff, if_true, if_false, ifc_True, ifc_False, gd_0, gd_1, ifc_leq, ifc_llt, ifc_lgt]
    by_cases c1 : b < a <;> simp [c1]
  · rw [show nI (km 37) = nI 7 from rfl]
    simp (disch := decide) only [ifc_z, ifc_eq, reduceIte, Nat.reduceEqDiff, if_true, if_false, ifc_True, ifc_False]
    refine cmpF (decide (a = b)) 0 True (fun _ => rfl) (h259 _ (nI 7) h1 ?_)
    rw [Mo_compares_eq]
    simp (disch := decide) only [ifc_z, ifc_eq, reduceIte, Nat.reduceEqDiff, if_true, if_false, ifc_True, ifc_False, gd_0, gd_1, ifc_leq, ifc_llt, ifc_lgt]
    by_cases c1 : a = b <;> simp [c1]
  · rw [show nI (km 38) = nI 8 from rfl]
    simp (disch := decide) only [ifc_z, ifc_eq, reduceIte, Nat.reduceEqDiff, if_true, if_false, ifc_True, ifc_False]
    refine cmpF (decide (¬ a = b)) 0 True (fun _ => rfl) (h259 _ (nI 8) h1 ?_)
    rw [Mo_compares_eq]
    simp (disch := decide) only [ifc_z, ifc_eq, reduceIte, Nat.reduceEqDiff, if_true, if_false, ifc_True, ifc_False, gd_0, gd_1, ifc_leq, ifc_llt, ifc_lgt]
    by_cases c1 : a = b <;> simp [c1]
  · rw [show nI (km 39) = nI 9 from rfl]
    simp (disch := decide) only [ifc_z, ifc_eq, reduceIte, Nat.reduceEqDiff, if_true, if_false, ifc_True, ifc_False]
    refine cmpF (decide (¬ a < b)) 0 True (fun _ => rfl) (h259 _ (nI 9) h1 ?_)
    rw [Mo_compares_eq]
    simp (disch := decide) only [ifc_z, ifc_eq, reduceIte, Nat.reduceEqDiff, if_true, if_false, ifc_True, ifc_False, gd_0, gd_1, ifc_leq, ifc_llt, ifc_lgt]
    by_cases c1 : a < b <;> simp [c1]
  · rw [show nI (km 40) = nI 10 from rfl]
    simp (disch := decide) only [ifc_z, ifc_eq, reduceIte, Nat.reduceEqDiff, if_true, if_false, ifc_True, ifc_False]
    refine cmpF (decide (b < a)) 0 True (fun _ => rfl) (h259 _ (nI 10) h1 ?_)
    rw [Mo_compares_eq]
    simp (disch := decide) only [ifc_z, ifc_eq, reduceIte, Nat.reduceEqDiff, if_true, if_false, ifc_True, ifc_False, gd_0, gd_1, ifc_leq, ifc_llt, ifc_lgt]
    by_cases c1 : b < a <;> simp [c1]
end
end

section
/-! the reference's laws: lawOf -/
def VR : List Nat → List Int64 → (Nat → Int64) → Prop
  | [], [], _ => True
  | x :: xs, v :: vs, f => f x = v ∧ VR xs vs f
  | _, _, _ => False
theorem VR_u {f : Nat → Nat → Int64} {k : Nat} {x : Int64} : ∀ (xs : List Nat) (vs : List Int64), (∀ y ∈ xs, y < k) → VR xs vs (f 107) → VR xs vs (u2 f 107 k x 107)
  | [], [], _, _ => trivial
  | y :: xs, v :: vs, hx, h => ⟨(u2_k (by have := hx y (List.mem_cons_self ..); omega)).trans h.1, VR_u xs vs (fun z hz => hx z (List.mem_cons_of_mem _ hz)) h.2⟩
theorem ixs_lt (kd : Nat → Nat) (b : Nat) : ∀ n, ∀ x ∈ ixs kd b n, b ≤ x ∧ x < b + n
  | 0, x, h => by simp [ixs] at h
  | n + 1, x, h => by
    have ih := ixs_lt kd b n
    unfold ixs at h
    rcases List.mem_cons.mp h with rfl | h
    · omega
    · have hm : x ∈ ixs kd b n := by
        split at h
        · exact h
        · split at h
          · exact List.mem_of_mem_tail h
          · exact List.mem_of_mem_tail (List.mem_of_mem_tail h)
      have := ih x hm
      omega
/-- the reference's knots tell the row -/
def knr (i : Nat → Nat → Int32) (kd nm : Nat → Nat) (b n : Nat) : Prop := ∀ j, j < n →
  (kd (b + j) = 27 → i 101 (b + j) = nI 0 ∧ i 102 (b + j) = nI (nm (b + j))) ∧
  (19 ≤ kd (b + j) ∧ kd (b + j) ≤ 25 → i 101 (b + j) = nI 1 ∧ i 102 (b + j) = nI (kd (b + j) - 19)) ∧
  (kd (b + j) = 18 → i 101 (b + j) = nI 2 ∧ i 102 (b + j) = nI ((ixs kd b j).headD 0)) ∧
  (okj (kd (b + j)) → i 101 (b + j) = nI (km (kd (b + j))) ∧ i 103 (b + j) = nI ((ixs kd b j).headD 0) ∧ i 102 (b + j) = nI ((ixs kd b j).tail.headD 0))
section
variable {s r p : Nat}
theorem lawOf_ok {i : Nat → Nat → Int32} {l : Nat → Nat → Int64} {w b e : Nat} {kd nm : Nat → Nat} {vl : Nat → Int64} (hw : w < 6)
    (hb : i 99 w = nI b) (he : i 100 w = nI e) (hbe : b < e) (he64 : e ≤ 64) (hn : ∀ k, b ≤ k → k < e → nm k < 2 ^ 31) (hwf : lwf kd b (e - b)) (hkn : knr i kd nm b (e - b))
    (hv : ∀ k, 19 ≤ k → k ≤ 25 → l 106 (k - 19) = vl k) (hvb : ∀ k, 19 ≤ k → k ≤ 25 → bnd (vl k)) :
    ∃ l' v, Mo_lawOf (nI w) (i, l, Rp s r p) = some (some (.long v), (u2 i 82 53 (nI (lval kd nm vl b e).isNone.toNat), l', Rp s r p)) ∧ (∀ a, a ≠ 107 → l' a = l a) ∧ v = (lval kd nm vl b e).getD 0 := by
  rw [Mo_lawOf_eq, gd_0, gd_in (by omega) (by omega), nI_clamp (by omega), hb]
  have key : ∀ m n (l1 : Nat → Nat → Int64) (er : Bool), m = e - b - n → n ≤ e - b → (∀ a, a ≠ 107 → l1 a = l a) → ((er = false ∧ ∃ st, lrun kd nm vl b n = some st ∧ VR (ixs kd b n) st (l1 107)) ∨ (er = true ∧ lrun kd nm vl b n = none)) →
      ∃ l' v, Mo_lawOf_12 (nI w) (nI (b + n)) (u2 i 82 53 (nI er.toNat), l1, Rp s r p) = some (some (.long v), (u2 i 82 53 (nI (lval kd nm vl b e).isNone.toNat), l', Rp s r p)) ∧ (∀ a, a ≠ 107 → l' a = l a) ∧ v = (lval kd nm vl b e).getD 0 := by
    intro m
    induction m with
    | zero =>
      intro n l1 er hm hne hf hst
      have en : n = e - b := by omega
      rw [Mo_lawOf_12_eq, gd_in (by omega) (by omega), nI_clamp (by omega), u2_r (show (100 : Nat) ≠ 82 by decide), he, ifc_f (nI_nlt (by omega) (by omega)), u2_s, ifc_b, gd_in (by omega) (by omega), pk_sub (by omega), gd_in (by omega) (by omega), nI_clamp (by omega)]
      rcases hst with ⟨rfl, st, h1, h2⟩ | ⟨rfl, h1⟩
      · have hlen := lrun_len n (fun j hj => hwf.1 j (by omega)) st h1
        have h3 := hwf.2 (by omega)
        rw [en, h3] at hlen
        match st, hlen, h1, h2 with
        | [v], _, h1, h2 =>
          have h4 : lval kd nm vl b e = some v := by
            unfold lval
            rw [← en, h1]; rfl
          rw [h4]
          have h5 : ixs kd b n = [e - 1] := by
            have h6 : ∃ m, n = m + 1 := ⟨n - 1, by omega⟩
            obtain ⟨m, rfl⟩ := h6
            have h7 : (ixs kd b (m + 1)).length = 1 := by rw [en]; exact h3
            unfold ixs at h7 ⊢
            rw [List.length_cons] at h7
            have h8 := List.eq_nil_of_length_eq_zero (Nat.succ.inj h7)
            rw [h8, show b + m = e - 1 by omega]
          rw [h5] at h2
          exact ⟨l1, _, rfl, hf, h2.1⟩
      · have h4 : lval kd nm vl b e = none := by
          unfold lval
          rw [← en, h1]; rfl
        rw [h4]
        exact ⟨l1, _, rfl, hf, rfl⟩
    | succ m ih =>
      intro n l1 er hm hne hf hst
      have hbn : b + n < e := by omega
      obtain ⟨w1, w2, w3⟩ := hwf.1 n (by omega)
      obtain ⟨k1, k2, k3, k4⟩ := hkn n (by omega)
      have r1 : ∀ a, a ≠ 82 → u2 i 82 53 (nI er.toNat) a = i a := fun a ha => u2_r ha
      have hix := ixs_lt kd b n
      rw [Mo_lawOf_12_eq, gd_in (by omega) (by omega), nI_clamp (by omega), r1 100 (by decide), he, ifc_t (nI_lt hbn (by omega))]
      -- what the next knot gives
      have step : ∀ (x : Int64) (er' : Bool), Mo_valueOf (nI (b + n)) (u2 i 82 53 (nI er.toNat), l1, Rp s r p) = some (some (.long x), (u2 i 82 53 (nI er'.toNat), l1, Rp s r p)) → ((er' = false ∧ ∃ st, lrun kd nm vl b (n + 1) = some st ∧ VR (ixs kd b (n + 1)) st (u2 l1 107 (b + n) x 107)) ∨ (er' = true ∧ lrun kd nm vl b (n + 1) = none)) →
          ∃ l' v, (crL (Mo_valueOf (nI (b + n)) (u2 i 82 53 (nI er.toNat), l1, Rp s r p)) (u2 i 82 53 (nI er.toNat), l1, Rp s r p) fun x_1 i_1 l_1 => gd (inB (nI (b + n)) 64) (Mo_lawOf_12 (nI w) (nI (b + n) + nI 1) (i_1, u2 l_1 107 (nI (b + n)).toNatClampNeg x_1, Rp s r p))) = some (some (.long v), (u2 i 82 53 (nI (lval kd nm vl b e).isNone.toNat), l', Rp s r p)) ∧ (∀ a, a ≠ 107 → l' a = l a) ∧ v = (lval kd nm vl b e).getD 0 := by
        intro x er' h1 h2
        rw [h1, crL_t, gd_in (by omega) (by omega), nI_add, nI_clamp (by omega)]
        exact ih (n + 1) _ er' (by omega) (by omega) (fun a ha => by rw [← hf a ha]; exact u2_r ha) h2
      have hnone : er = true → lrun kd nm vl b n = none := fun h => by
        rcases hst with ⟨h1, _⟩ | ⟨_, h1⟩
        · rw [h1] at h; exact absurd h (by decide)
        · exact h1
      have hnone' : er = true → lrun kd nm vl b (n + 1) = none := fun h => by
        show (lrun kd nm vl b n).bind _ = none
        rw [hnone h]; rfl
      have hk64 : b + n < 64 := by omega
      have v106 : ∀ k, 19 ≤ k → k ≤ 25 → l1 106 (k - 19) = vl k := fun k h1 h2 => by rw [hf 106 (by decide)]; exact hv k h1 h2
      have hix1 : ixs kd b (n + 1) = (b + n) :: (if kd (b + n) = 27 ∨ (19 ≤ kd (b + n) ∧ kd (b + n) ≤ 25) then ixs kd b n else if kd (b + n) = 18 then (ixs kd b n).tail else (ixs kd b n).tail.tail) := rfl
      have hl : ∀ st, lrun kd nm vl b n = some st → lrun kd nm vl b (n + 1) = lstp (kd (b + n)) (nm (b + n)) vl st := fun st h => by
        show (lrun kd nm vl b n).bind _ = _
        rw [h]; rfl
      by_cases c1 : kd (b + n) = 27
      · obtain ⟨q1, q2⟩ := k1 c1
        refine step (lN (nm (b + n))) er ?_ ?_
        · rw [Mo_valueOf_eq, nI_clamp (by omega), r1 101 (by decide), r1 102 (by decide), q1, q2, gd_in (by omega) (by omega), ifc_t nI_0, gd_in (by omega) (by omega), nI_l (hn _ (by omega) hbn)]
        · rcases hst with ⟨h1, st, h2, h3⟩ | ⟨h1, h2⟩
          · refine .inl ⟨h1, lN (nm (b + n)) :: st, ?_, ?_⟩
            · rw [hl st h2]; unfold lstp; rw [if_pos c1]
            · rw [hix1, if_pos (.inl c1)]
              exact ⟨u2_s _ _ _ _, VR_u _ _ (fun y hy => (hix y hy).2) h3⟩
          · exact .inr ⟨h1, hnone' h1⟩
      · by_cases c2 : 19 ≤ kd (b + n) ∧ kd (b + n) ≤ 25
        · obtain ⟨q1, q2⟩ := k2 c2
          refine step (vl (kd (b + n))) er ?_ ?_
          · rw [Mo_valueOf_eq, nI_clamp (by omega), r1 101 (by decide), r1 102 (by decide), q1, q2]
            simp only [gd_in (show b + n < 128 by omega) (show 128 < 2 ^ 31 by omega), gd_in (show kd (b + n) - 19 < 7 by omega) (show 7 < 2 ^ 31 by omega), nI_clamp (show kd (b + n) - 19 < 2 ^ 31 by omega)]
            rw [ifc_f (by decide), ifc_True, v106 _ c2.1 c2.2]
          · rcases hst with ⟨h1, st, h2, h3⟩ | ⟨h1, h2⟩
            · refine .inl ⟨h1, vl (kd (b + n)) :: st, ?_, ?_⟩
              · rw [hl st h2]; unfold lstp; rw [if_neg c1, if_pos c2]
              · rw [hix1, if_pos (.inr c2)]
                exact ⟨u2_s _ _ _ _, VR_u _ _ (fun y hy => (hix y hy).2) h3⟩
            · exact .inr ⟨h1, hnone' h1⟩
        · by_cases c3 : kd (b + n) = 18
          · obtain ⟨q1, q2⟩ := k3 c3
            obtain ⟨a, t, ha⟩ := ex1 (st := ixs kd b n) (w2 c3)
            have hal := hix a (by rw [ha]; exact List.mem_cons_self ..)
            rw [ha] at q2
            refine step (l01 (decide (l1 107 a = 0))) er ?_ ?_
            · rw [Mo_valueOf_eq, nI_clamp (by omega), r1 101 (by decide), r1 102 (by decide), q1, q2]
              simp only [List.headD_cons, gd_in (show b + n < 128 by omega) (show 128 < 2 ^ 31 by omega), gd_in (show a < 64 by omega) (show 64 < 2 ^ 31 by omega), nI_clamp (show a < 2 ^ 31 by omega)]
              rw [ifc_f (by decide), ifc_f (by decide), ifc_True, ifc_leq, lN0, lN1]
              by_cases c4 : l1 107 a = 0
              · rw [if_pos c4, decide_eq_true c4]; rfl
              · rw [if_neg c4, decide_eq_false c4]; rfl
            · rcases hst with ⟨h1, st, h2, h3⟩ | ⟨h1, h2⟩
              · rw [ha] at h3
                match st, h2, h3 with
                | v :: vs, h2, h3 =>
                  refine .inl ⟨h1, l01 (decide (v = 0)) :: vs, ?_, ?_⟩
                  · rw [hl _ h2]; unfold lstp; rw [if_neg c1, if_neg c2, if_pos c3]
                  · rw [hix1, if_neg (by omega), if_pos c3, ha]
                    have h4 : l1 107 a = v := h3.1
                    rw [h4]
                    exact ⟨u2_s _ _ _ _, VR_u _ _ (fun y hy => (hix y (by rw [ha]; exact List.mem_cons_of_mem _ hy)).2) h3.2⟩
              · exact .inr ⟨h1, hnone' h1⟩
          · have hjk : okj (kd (b + n)) := by unfold okk okj at w1; unfold okj; omega
            obtain ⟨q1, q2, q3⟩ := k4 hjk
            obtain ⟨x, a, t, ha⟩ := ex2 (st := ixs kd b n) (w3 hjk)
            have hxl := hix x (by rw [ha]; exact List.mem_cons_self ..)
            have hal := hix a (by rw [ha]; exact List.mem_cons_of_mem _ (List.mem_cons_self ..))
            rw [ha] at q2 q3
            obtain ⟨v, e', g1, g2, g3⟩ := valueOf_bin (i := u2 i 82 53 (nI er.toNat)) (l := l1) (s := s) (r := r) (p := p) (k := b + n) (pa := a) (ot := x) (e := er) hk64 hjk ((congrFun (r1 101 (by decide)) _).trans q1) ((congrFun (r1 102 (by decide)) _).trans q3) ((congrFun (r1 103 (by decide)) _).trans q2) (by omega) (by omega) (u2_s _ _ _ _)
            rw [u2_u2] at g1
            refine step v e' g1 ?_
            rcases hst with ⟨h1, st, h2, h3⟩ | ⟨h1, h2⟩
            · have hbs := lrun_bnd hvb n (fun j hj => ⟨(hwf.1 j (by omega)).1, hn (b + j) (by omega) (by omega)⟩) st h2
              rw [ha] at h3
              match st, h2, h3, hbs with
              | vx :: va :: vs, h2, h3, hbs =>
                have h4 : l1 107 x = vx := h3.1
                have h5 : l1 107 a = va := h3.2.1
                rw [h4, h5] at g3
                have hl2 : lrun kd nm vl b (n + 1) = (jn (kd (b + n)) va vx).map (fun v => v :: vs) := by
                  rw [hl _ h2]; unfold lstp; rw [if_neg c1, if_neg c2, if_neg c3]
                rcases g3 h1 (BS_hd (BS_tl hbs)) (BS_hd hbs) with ⟨g4, g5⟩ | ⟨g4, g5⟩
                · refine .inl ⟨g5, v :: vs, by rw [hl2, g4]; rfl, ?_⟩
                  rw [hix1, if_neg (by omega), if_neg c3, ha]
                  exact ⟨u2_s _ _ _ _, VR_u _ _ (fun y hy => (hix y (by rw [ha]; exact List.mem_cons_of_mem _ (List.mem_cons_of_mem _ hy))).2) h3.2.2⟩
                · exact .inr ⟨g5, by rw [hl2, g4]; rfl⟩
            · exact .inr ⟨g2 h1, hnone' h1⟩
  exact key _ 0 l false rfl (by omega) (fun _ _ => rfl) (.inl ⟨rfl, [], rfl, trivial⟩)
end
end
