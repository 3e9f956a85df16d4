section
/-! whether a packet is lost on a link -/
def rn1 (x : Int32) : Int32 := (x * nI 1103515245 + nI 12345) &&& nI 2147483647
def od (P : PL) (m : MD) : Nat := if m.2.2.1 = 0 then 0 else P.1 18
def lst (P : PL) (m : MD) (x : Int32) : Bool × Int32 :=
  if od P m = 0 then (false, x) else if od P m = 100 then (true, x) else if m.1 then (decide (rn1 x / nI 65536 - rn1 x / nI 65536 / nI 100 * nI 100 < nI (od P m)), rn1 x) else (decide (50 ≤ od P m), x)
theorem rn1_n (n : Nat) : rn1 (nI n) = nI ((n * 1103515245 + 12345) % 2 ^ 31) := by
  unfold rn1
  rw [nI_mul, nI_add, pk_and (nI (n * 1103515245 + 12345)) 31 (by decide +kernel)]
  generalize n * 1103515245 + 12345 = q
  refine congrArg nI ?_
  have e : (nI q).toBitVec.toNat = q % 2 ^ 32 := BitVec.toNat_ofNat q 32
  rw [e, Nat.mod_mod_of_dvd _ (by decide)]
theorem rn1_pos (x : Int32) : ¬ rn1 x < 0 := by
  unfold rn1
  obtain ⟨j, h1, h2⟩ := pk_andE (x * nI 1103515245 + nI 12345) (m := nI 2147483647) 31 (by decide +kernel)
  rw [h2]
  exact nI_pos h1
theorem lst_pos {P : PL} {m : MD} {x : Int32} (h : ¬ x < 0) : ¬ (lst P m x).2 < 0 := by
  unfold lst
  split
  · exact h
  · split
    · exact h
    · split
      · exact rn1_pos x
      · exact h
theorem l_and (n : Nat) : lN n &&& lN 2147483647 = lN (n % 2 ^ 31) := by
  apply Int64.toBitVec_inj.mp
  rw [Int64.toBitVec_and]
  apply BitVec.eq_of_toNat_eq
  rw [BitVec.toNat_and]
  show (BitVec.ofNat 64 n).toNat &&& (BitVec.ofNat 64 2147483647).toNat = (BitVec.ofNat 64 (n % 2 ^ 31)).toNat
  rw [BitVec.toNat_ofNat, BitVec.toNat_ofNat, BitVec.toNat_ofNat, show 2147483647 % 2 ^ 64 = 2 ^ 31 - 1 from rfl, Nat.and_two_pow_sub_one_eq_mod, Nat.mod_mod_of_dvd _ (by decide)]
  have := Nat.mod_lt n (show 0 < 2 ^ 31 by decide)
  exact (Nat.mod_eq_of_lt (by omega)).symm
/-- what the reference's numbers change of longs -/
def fL (m : MD) (l l' : Nat → Nat → Int64) : Prop := (∀ a, a ≠ 82 → a ≠ 106 → a ≠ 107 → l' a = l a) ∧ (∀ k, k ≠ 65 → l' 82 k = l 82 k) ∧ (m.1 = false → l' 82 65 = l 82 65)
theorem fL_refl (m : MD) (l : Nat → Nat → Int64) : fL m l l := ⟨fun _ _ _ _ => rfl, fun _ _ => rfl, fun _ => rfl⟩
theorem fL_trans {m : MD} {l l1 l2 : Nat → Nat → Int64} (h1 : fL m l l1) (h2 : fL m l1 l2) : fL m l l2 := ⟨fun a x y z => (h2.1 a x y z).trans (h1.1 a x y z), fun k hk => (h2.2.1 k hk).trans (h1.2.1 k hk), fun h => (h2.2.2 h).trans (h1.2.2 h)⟩
theorem fL_of {m : MD} {l l' : Nat → Nat → Int64} (h : ∀ a, a ≠ 106 → a ≠ 107 → l' a = l a) : fL m l l' := ⟨fun a _ y z => h a y z, fun k _ => by rw [h 82 (by decide) (by decide)], fun _ => by rw [h 82 (by decide) (by decide)]⟩
section
variable {i : Nat → Nat → Int32} {l : Nat → Nat → Int64} {s r p : Nat}
theorem lost_ok {P : PL} {o : Nat} {m : MD} (ho : o = 51 ∨ o = 65) (hp : p = 7 ∨ p = 27) (hw : pwf P) (hP : PC P p i) (hm : m.2.2.1 ≤ 5) (hM : CM m i) :
    Course_lost o (i, l, Rp s r p) = some (some (.int (nI (lst P m (i o 12)).1.toNat)), (u2 i o 12 (lst P m (i o 12)).2, l, Rp s r p)) := by
  have hl : i p 18 = nI (P.1 18) := hP.1 18 (by omega) (by omega)
  have h100 := hw.2.2.1.2.2.1
  have e1 : ∀ z, z = od P m → Course_lost_21 o (nI z) (i, l, Rp s r p) = some (some (.int (nI (lst P m (i o 12)).1.toNat)), (u2 i o 12 (lst P m (i o 12)).2, l, Rp s r p)) := by
    intro z hz
    have hz100 : z ≤ 100 := by rw [hz]; unfold od; split <;> omega
    rw [Course_lost_21_eq _ _ _ _ _ _ _ ho]
    unfold lst
    rw [← hz, hM.1]
    simp (disch := omega) only [nI_mul, nI_add, nI_clamp, gd_in, gd_0, gd_1, gd_b, gd_n0, ifc_lt, ifc_eq, ifc_neg, ifc_z, ifc_pos, ifc_b, if_pos, if_neg, crV_t, crI_t, crL_t, ifc_True, ifc_False, if_true, if_false]
    by_cases z0 : z = 0
    · subst z0
      rw [if_pos rfl, if_pos rfl, u2_self rfl]; rfl
    · rw [if_neg z0, if_neg z0]
      by_cases z1 : z = 100
      · subst z1
        rw [if_pos rfl, if_pos rfl, u2_self rfl]; rfl
      · rw [if_neg z1, if_neg z1]
        cases hd : m.1
        · simp only [Bool.false_eq_true, if_false]
          rw [u2_self rfl]
          by_cases h50 : z < 50
          · rw [if_pos h50, decide_eq_false (by omega)]; rfl
          · rw [if_neg h50, decide_eq_true (by omega)]; rfl
        · simp only [if_true]
          show ifc (rn1 (i o 12) / nI 65536 - rn1 (i o 12) / nI 65536 / nI 100 * nI 100 < nI z) (some (some (Value.int (nI 1)), u2 i o 12 (rn1 (i o 12)), l, Rp s r p)) (some (some (Value.int (nI 0)), u2 i o 12 (rn1 (i o 12)), l, Rp s r p)) = _
          by_cases hx : rn1 (i o 12) / nI 65536 - rn1 (i o 12) / nI 65536 / nI 100 * nI 100 < nI z
          · rw [ifc_t hx, decide_eq_true hx]; rfl
          · rw [ifc_f hx, decide_eq_false hx]; rfl
  rw [Course_lost_eq _ _ _ _ _ _ ho hp, hl]
  by_cases ht : m.2.2.1 = 0
  · rw [ifc_t (((tr_eq hm hM (by omega)).mpr ht).trans nI_0)]
    exact e1 0 (by unfold od; rw [if_pos ht])
  · rw [ifc_f (fun h => ht ((tr_eq hm hM (by omega)).mp (h.trans nI_0.symm)))]
    exact e1 _ (by unfold od; rw [if_neg ht])
theorem isLost_ok {P : PL} {m : MD} {x : Int32} (hw : pwf P) (hP : PM P i) (hM : RM m i) (hx : ¬ x < 0) (hd : m.1 = true → l 82 65 = x.toInt64) :
    ∃ l', Mo_isLost (i, l, Rp s r p) = some (some (.int (nI (lst P m x).1.toNat)), (i, l', Rp s r p)) ∧ (m.1 = true → l' 82 65 = (lst P m x).2.toInt64) ∧ fL m l l' := by
  have h100 := hw.2.2.1.2.2.1
  have e1 : ∀ z, z = od P m → ∃ l', Mo_isLost_17 (nI z) (i, l, Rp s r p) = some (some (.int (nI (lst P m x).1.toNat)), (i, l', Rp s r p)) ∧ (m.1 = true → l' 82 65 = (lst P m x).2.toInt64) ∧ fL m l l' := by
    intro z hz
    have hz100 : z ≤ 100 := by rw [hz]; unfold od; split <;> omega
    rw [Mo_isLost_17_eq, Mo_number1_eq]
    unfold lst
    rw [← hz, hM.1]
    simp (disch := omega) only [nI_mul, nI_add, nI_clamp, gd_in, gd_0, gd_1, gd_b, gd_n0, ifc_lt, ifc_eq, ifc_neg, ifc_z, ifc_pos, ifc_b, if_pos, if_neg, crV_t, crI_t, crL_t, ifc_True, ifc_False, if_true, if_false]
    by_cases z0 : z = 0
    · subst z0
      simp only [show ¬ (0 : Nat) = 100 by decide, show ¬ 0 < 0 by decide, if_true, if_false]
      exact ⟨l, rfl, hd, fL_refl _ _⟩
    · rw [if_neg z0]
      by_cases z1 : z = 100
      · subst z1
        simp only [if_true]
        exact ⟨l, rfl, hd, fL_refl _ _⟩
      · rw [if_neg z1, if_neg z1, if_pos (show 0 < z by omega)]
        cases hdr : m.1
        · simp only [Bool.false_eq_true, if_false]
          refine ⟨l, ?_, fun h => absurd h (by decide), fL_refl _ _⟩
          by_cases h50 : z < 50
          · rw [if_pos h50, decide_eq_false (by omega)]; rfl
          · rw [if_neg h50, decide_eq_true (by omega)]; rfl
        · simp only [if_true]
          obtain ⟨n, hn, rfl⟩ := nI_of hx
          have hd2 := hd hdr
          rw [nI_l hn] at hd2
          have hmod := Nat.mod_lt (n * 1103515245 + 12345) (show 0 < 2 ^ 31 by decide)
          rw [hd2, lN_mul, lN_add, l_and, rn1_n, gd_t (by decide), gd_t (by decide +kernel), crI_t, nI_l (show 100 < 2 ^ 31 by decide), pk_lDiv (by omega) (by decide) (by decide), pk_lRem (by omega) (by decide) (by decide), lN_i]
          rw [nI_div (by omega) (by decide) (by decide), nI_mod (by omega) (by decide) (by decide)]
          refine ⟨u2 l 82 65 (lN ((n * 1103515245 + 12345) % 2 ^ 31)), ?_, fun _ => ?_, ?_⟩
          · by_cases hc : nI ((n * 1103515245 + 12345) % 2 ^ 31 / 65536 % 100) < nI z
            · rw [ifc_t hc, decide_eq_true hc]; rfl
            · rw [ifc_f hc, decide_eq_false hc]; rfl
          · rw [u2_s, nI_l hmod]
          · exact ⟨fun a h1 _ _ => u2_r h1, fun k hk => u2_k hk, fun h => absurd h (by rw [hdr]; decide)⟩
  rw [Mo_isLost_eq, hM.2.1, ifc_b, gd_in (by omega) (by omega), show (nI 1).toNatClampNeg = 1 from rfl, hP.2.2.1.2.1]
  by_cases ht : m.2.2.1 = 0
  · rw [show (m.2.2.1 == 0) = true by simpa using ht, if_pos rfl]
    exact e1 0 (by unfold od; rw [if_pos ht])
  · rw [show (m.2.2.1 == 0) = false by simpa using ht, if_neg (by decide)]
    exact e1 _ (by unfold od; rw [if_neg ht])
end
end

section
/-! down a tree: the pure rounds, and the component's -/
theorem or_assoc3 (x y z : Int32) : (x ||| y) ||| z = x ||| (y ||| z) := by
  apply b_ext
  intro k hk
  simp only [b_or, Bool.or_assoc]
def tks (up : Nat → Option (Nat × Nat)) (N k n : Nat) : Int32 := msk (fun q => decide (up q = some (k, n))) N
def ps1 (P : PL) (m : MD) (up : Nat → Option (Nat × Nat)) (M : Int32) (n k : Nat) (w : Int32 × Int32) : Int32 × Int32 :=
  if bt M k then ((lst P m w.1).2, if (lst P m w.1).1 then w.2 else w.2 ||| tks up (pN P) k n) else w
def pss (P : PL) (m : MD) (up : Nat → Option (Nat × Nat)) (M : Int32) (n : Nat) (z : Int32 × Int32) : Nat → Int32 × Int32
  | 0 => z
  | k + 1 => ps1 P m up M n k (pss P m up M n z k)
/-- random, asserts, links taken, those who come next -/
abbrev DnS : Type := Int32 × Int32 × Int32 × Int32
def onl (σ : ST) (t n : Nat) : Int32 := σ 6 (7 * t + n) &&& (σ 0 8 ^^^ nM 1)
def dn1 (P : PL) (m : MD) (up : Nat → Option (Nat × Nat)) (σ : ST) (t : Nat) (bar came rd : Int32) (n : Nat) (S : DnS) : DnS :=
  if bt rd n then ((pss P m up (onl σ t n &&& (S.2.2.1 ^^^ nM 1)) n (S.1, nI 0) (pL P)).1, S.2.1 + nI (cnt (bt (onl σ t n &&& S.2.2.1)) 8), S.2.2.1 ||| onl σ t n, S.2.2.2 ||| (((pss P m up (onl σ t n &&& (S.2.2.1 ^^^ nM 1)) n (S.1, nI 0) (pL P)).2 &&& (came ^^^ nM 1)) &&& (bar ^^^ nM 1))) else S
def dnn (P : PL) (m : MD) (up : Nat → Option (Nat × Nat)) (σ : ST) (t : Nat) (bar came rd : Int32) (S : DnS) : Nat → DnS
  | 0 => S
  | n + 1 => dn1 P m up σ t bar came rd n (dnn P m up σ t bar came rd S n)
/-- random, asserts, links taken, those to whom it came, the round -/
abbrev RnS : Type := Int32 × Int32 × Int32 × Int32 × Int32
def dst1 (P : PL) (m : MD) (up : Nat → Option (Nat × Nat)) (σ : ST) (t : Nat) (bar : Int32) (Z : RnS) : RnS :=
  ((dnn P m up σ t bar Z.2.2.2.1 Z.2.2.2.2 (Z.1, Z.2.1, Z.2.2.1, nI 0) (pN P)).1, (dnn P m up σ t bar Z.2.2.2.1 Z.2.2.2.2 (Z.1, Z.2.1, Z.2.2.1, nI 0) (pN P)).2.1, (dnn P m up σ t bar Z.2.2.2.1 Z.2.2.2.2 (Z.1, Z.2.1, Z.2.2.1, nI 0) (pN P)).2.2.1, Z.2.2.2.1 ||| (dnn P m up σ t bar Z.2.2.2.1 Z.2.2.2.2 (Z.1, Z.2.1, Z.2.2.1, nI 0) (pN P)).2.2.2, (dnn P m up σ t bar Z.2.2.2.1 Z.2.2.2.2 (Z.1, Z.2.1, Z.2.2.1, nI 0) (pN P)).2.2.2)
def dwn (P : PL) (m : MD) (up : Nat → Option (Nat × Nat)) (σ : ST) (t : Nat) (bar : Int32) : Nat → RnS → RnS
  | 0, Z => Z
  | f + 1, Z => if Z.2.2.2.2 = 0 then Z else dwn P m up σ t bar f (dst1 P m up σ t bar Z)
def upB (N L : Nat) (up : Nat → Option (Nat × Nat)) : Prop := ∀ q u, q < N → up q = some u → u.1 < L ∧ u.2 < N
theorem upc_eq {up : Option (Nat × Nat)} {k n : Nat} (hu : ∀ u, up = some u → u.1 < 8 ∧ u.2 < 8) (hk : k < 8) (hn : n < 8) : upc up = nI (k * 8 + n) ↔ up = some (k, n) := by
  cases up with
  | none =>
    constructor
    · intro h
      have h3 := nM_neg (m := 1) (by omega) (by omega)
      rw [show nM 1 = nI (k * 8 + n) from h] at h3
      exact absurd h3 (nI_pos (by omega))
    · intro h; exact absurd h (by simp)
  | some u =>
    obtain ⟨h1, h2⟩ := hu u rfl
    obtain ⟨a, c⟩ := u
    show nI (8 * a + c) = nI (k * 8 + n) ↔ _
    rw [nI_eq (by simp at h1 h2; omega) (by omega)]
    simp at h1 h2 ⊢
    omega
def mX (i : Nat → Nat → Int32) (o : Nat) (A x : Int32) : Nat → Nat → Int32 := u2 (u2 i o 11 A) o 12 x
theorem mX_r {i : Nat → Nat → Int32} {o : Nat} {A x : Int32} {a : Nat} (h : a ≠ o) : mX i o A x a = i a := (u2_r h).trans (u2_r h)
theorem mX_k {i : Nat → Nat → Int32} {o : Nat} {A x : Int32} {k : Nat} (h1 : k ≠ 11) (h2 : k ≠ 12) : mX i o A x o k = i o k := (u2_k h2).trans (u2_k h1)
theorem mX_12 {i : Nat → Nat → Int32} {o : Nat} {A x : Int32} : mX i o A x o 12 = x := u2_s _ _ _ _
theorem mX_11 {i : Nat → Nat → Int32} {o : Nat} {A x : Int32} : mX i o A x o 11 = A := (u2_k (by decide)).trans (u2_s _ _ _ _)
theorem mX_s12 {i : Nat → Nat → Int32} {o : Nat} {A x y : Int32} : u2 (mX i o A x) o 12 y = mX i o A y := u2_u2 _ _ _ _ _
theorem mX_s11 {i : Nat → Nat → Int32} {o : Nat} {A x y : Int32} : u2 (mX i o A x) o 11 y = mX i o y x := by
  unfold mX
  rw [u2_ck (show 12 ≠ 11 by decide), u2_u2]
theorem mX_self {i : Nat → Nat → Int32} {o : Nat} : mX i o (i o 11) (i o 12) = i := by
  unfold mX
  rw [u2_self (f := i) rfl, u2_self rfl]
section
variable {l : Nat → Nat → Int64} {s r p : Nat}
theorem passOn_ok {i : Nat → Nat → Int32} {P : PL} {o o4 n : Nat} {m : MD} {up : Nat → Option (Nat × Nat)} {M A x : Int32} (ho : o = 51 ∨ o = 65) (h4 : o4 = 49 ∨ o4 = 50) (hp : p = 7 ∨ p = 27) (hw : pwf P) (hP : PC P p i) (hm : m.2.2.1 ≤ 5) (hM : CM m i) (hup : upB (pN P) (pL P) up) (hU : ∀ q, q < pN P → i o4 q = upc (up q)) (hn : n < pN P) :
    Course_passOn o (nI n) M o4 (mX i o A x, l, Rp s r p) = some (some (.int (pss P m up M n (x, nI 0) (pL P)).2), (mX i o A (pss P m up M n (x, nI 0) (pL P)).1, l, Rp s r p)) := by
  have h7 := hw.1.1
  have h8 := hw.1.2.1
  have hj : o = 51 ∧ o4 = 49 ∨ o = 51 ∧ o4 = 50 ∨ o = 65 ∧ o4 = 49 ∨ o = 65 ∧ o4 = 50 := by omega
  have hN : ∀ x, mX i o A x p 11 = nI (pN P) := fun x => by rw [mX_r (by omega)]; exact hP.1 11 (by omega) (by omega)
  have hL : ∀ x, mX i o A x p 12 = nI (pL P) := fun x => by rw [mX_r (by omega)]; exact hP.1 12 (by omega) (by omega)
  rw [Course_passOn_eq _ _ _ _ _ _ _ _ _ hj]
  have h := upto (fun k => Course_passOn_6 o (nI n) M o4 (pss P m up M n (x, nI 0) k).2 (nI k) (mX i o A (pss P m up M n (x, nI 0) k).1, l, Rp s r p)) (pL P) (fun k hk => by
    show Course_passOn_6 _ _ _ _ _ _ _ = Course_passOn_6 _ _ _ _ _ _ _
    generalize hw0 : pss P m up M n (x, nI 0) k = w
    have hs : pss P m up M n (x, nI 0) (k + 1) = ps1 P m up M n k w := by rw [← hw0]; rfl
    rw [hs, Course_passOn_6_eq _ _ _ _ _ _ _ _ _ _ _ hj hp, hL]
    simp (disch := omega) only [nI_mul, nI_add, nI_clamp, gd_in, gd_0, gd_1, gd_b, gd_n0, ifc_lt, ifc_eq, ifc_neg, ifc_z, ifc_pos, ifc_b, if_pos, if_neg, crV_t, crI_t, crL_t, ifc_True, ifc_False, if_true, if_false]
    rw [ifc_bit _ (by omega)]
    unfold ps1
    cases hb : bt M k
    · simp only [Bool.false_eq_true, if_false]
    · simp only [if_true]
      rw [lost_ok ho hp hw (PC_fr hP (fun a ha => mX_r (by omega))) hm (by unfold CM; rw [mX_r (by omega)]; exact hM), crI_t, ifc_b, mX_12, mX_s12]
      cases hl : (lst P m w.1).1
      · simp only [Bool.false_eq_true, if_false]
        have h41 := upto (fun q => Course_passOn_41 o (nI n) M o4 (w.2 ||| msk (fun q => decide (up q = some (k, n))) q) (nI k) (nI q) (mX i o A (lst P m w.1).2, l, Rp s r p)) (pN P) (fun q hq => by
          show Course_passOn_41 _ _ _ _ _ _ _ _ = Course_passOn_41 _ _ _ _ _ _ _ _
          rw [Course_passOn_41_eq _ _ _ _ _ _ _ _ _ _ _ _ hj hp, hN]
          simp (disch := omega) only [nI_mul, nI_add, nI_clamp, gd_in, gd_0, gd_1, gd_b, gd_n0, ifc_lt, ifc_eq, ifc_neg, ifc_z, ifc_pos, ifc_b, if_pos, if_neg, crV_t, crI_t, crL_t, ifc_True, ifc_False, if_true, if_false]
          rw [mX_r (by omega), hU q hq, ifc_if (upc_eq (fun u hu => by have := hup q u hq hu; omega) (by omega) (by omega)), or_0, or_assoc3]
          have e : msk (fun q => decide (up q = some (k, n))) (q + 1) = if decide (up q = some (k, n)) then msk (fun q => decide (up q = some (k, n))) q ||| (nI 1 <<< (nI q &&& 31)) else msk (fun q => decide (up q = some (k, n))) q := rfl
          rw [e]
          by_cases hc : up q = some (k, n)
          · rw [if_pos hc, if_pos (decide_eq_true hc)]
          · rw [if_neg hc, if_neg (by rw [decide_eq_false hc]; decide)]) 0 (by omega)
        have e0 : w.2 ||| msk (fun q => decide (up q = some (k, n))) 0 = w.2 := or_0 _
        simp only [e0] at h41
        rw [h41, Course_passOn_41_eq _ _ _ _ _ _ _ _ _ _ _ _ hj hp, hN, ifc_f (nI_nlt (Nat.le_refl _) (by omega)), nI_add]
        rfl
      · simp only [if_true]) 0 (by omega)
  refine (show Course_passOn_6 o (nI n) M o4 (nI 0) (nI 0) (mX i o A x, l, Rp s r p) = _ from h).trans ?_
  show Course_passOn_6 _ _ _ _ _ _ _ = _
  rw [Course_passOn_6_eq _ _ _ _ _ _ _ _ _ _ _ hj hp, hL, ifc_f (nI_nlt (Nat.le_refl _) (by omega))]
theorem onl_8 {P : PL} {σ : ST} (hs : swf P σ) {t n : Nat} (ht : t < 4) (hn : n < 7) {k : Nat} (hk : k < 32) : bt (onl σ t n) k = (decide (k < 8) && (decide (σ 5 (56 * t + 8 * n + k) ≠ 0) && !bt (σ 0 8) k)) := by
  unfold onl
  rw [b_and, b_xor, bt_nM1 hk, hs.2.1 (7 * t + n) (by omega) k hk, show 8 * (7 * t + n) + k = 56 * t + 8 * n + k by omega]
  cases bt (σ 0 8) k <;> simp
theorem down_ok {i : Nat → Nat → Int32} {P : PL} {o o4 t : Nat} {m : MD} {up : Nat → Option (Nat × Nat)} {bar : Int32} (ho : o = 51 ∨ o = 65) (h4 : o4 = 49 ∨ o4 = 50) (hp : p = 7 ∨ p = 27) (hw : pwf P) (hP : PC P p i) (hm : m.2.2.1 ≤ 5) (hM : CM m i) (hs : swf P (vw o i)) (ht : t ≤ pS P) (hup : upB (pN P) (pL P) up) (hU : ∀ q, q < pN P → i o4 q = upc (up q)) {A x : Int32} {a1 : Int32} (ha : a1 = nI 1 <<< (rt P t &&& 31)) :
    Course_down o (nI t) o4 bar (mX i o A x, l, Rp s r p) = some (some (.int (dwn P m up (vw o i) t bar 8 (x, A, nI 0, a1, a1)).2.2.2.1), (mX i o (dwn P m up (vw o i) t bar 8 (x, A, nI 0, a1, a1)).2.1 (dwn P m up (vw o i) t bar 8 (x, A, nI 0, a1, a1)).1, l, Rp s r p)) := by
  have h7 := hw.1.1
  have h8 := hw.1.2.1
  have h3 := hw.1.2.2.1
  have hj : o = 51 ∧ o4 = 49 ∨ o = 51 ∧ o4 = 50 ∨ o = 65 ∧ o4 = 49 ∨ o = 65 ∧ o4 = 50 := by omega
  have hN : ∀ A x, mX i o A x p 11 = nI (pN P) := fun A x => by rw [mX_r (by omega)]; exact hP.1 11 (by omega) (by omega)
  have node : ∀ n came rd (rdn : Nat) (S : DnS), n < pN P → Course_down_43 o (nI t) o4 bar came rd S.2.2.1 (nI rdn) S.2.2.2 (nI n) (mX i o S.2.1 S.1, l, Rp s r p) = Course_down_43 o (nI t) o4 bar came rd (dn1 P m up (vw o i) t bar came rd n S).2.2.1 (nI rdn) (dn1 P m up (vw o i) t bar came rd n S).2.2.2 (nI (n + 1)) (mX i o (dn1 P m up (vw o i) t bar came rd n S).2.1 (dn1 P m up (vw o i) t bar came rd n S).1, l, Rp s r p) := by
    intro n came rd rdn S hn
    rw [Course_down_43_eq _ _ _ _ _ _ _ _ _ _ _ _ _ _ _ hj hp, hN]
    simp (disch := omega) only [nI_mul, nI_add, nI_clamp, gd_in, gd_0, gd_1, gd_b, gd_n0, ifc_lt, ifc_eq, ifc_neg, ifc_z, ifc_pos, ifc_b, if_pos, if_neg, crV_t, crI_t, crL_t, ifc_True, ifc_False, if_true, if_false]
    rw [ifc_bit _ (by omega)]
    unfold dn1
    cases hb : bt rd n
    · simp only [Bool.false_eq_true, if_false]
    · simp only [if_true]
      have e6 : mX i o S.2.1 S.1 (o + 6) (t * 7 + n) = vw o i 6 (7 * t + n) := by rw [mX_r (by omega), Nat.mul_comm t 7]; rfl
      have e8 : mX i o S.2.1 S.1 o 8 = vw o i 0 8 := mX_k (by decide) (by decide)
      rw [e6, e8, mX_11]
      have eo : vw o i 6 (7 * t + n) &&& (vw o i 0 8 ^^^ nM 1) = onl (vw o i) t n := rfl
      rw [eo, bitCount_ok (fun k hk h => by
        rw [b_and, onl_8 hs (by omega) (by omega) hk] at h
        by_cases h9 : k < 8
        · exact h9
        · rw [decide_eq_false h9] at h; simp at h), crI_t, mX_s11, passOn_ok ho h4 hp hw hP hm hM hup hU hn, crI_t]
  have nodes : ∀ came rd (rdn : Nat) (S : DnS), Course_down_43 o (nI t) o4 bar came rd S.2.2.1 (nI rdn) S.2.2.2 (nI 0) (mX i o S.2.1 S.1, l, Rp s r p) = Course_down_43 o (nI t) o4 bar came rd (dnn P m up (vw o i) t bar came rd S (pN P)).2.2.1 (nI rdn) (dnn P m up (vw o i) t bar came rd S (pN P)).2.2.2 (nI (pN P)) (mX i o (dnn P m up (vw o i) t bar came rd S (pN P)).2.1 (dnn P m up (vw o i) t bar came rd S (pN P)).1, l, Rp s r p) := by
    intro came rd rdn S
    exact upto (fun n => Course_down_43 o (nI t) o4 bar came rd (dnn P m up (vw o i) t bar came rd S n).2.2.1 (nI rdn) (dnn P m up (vw o i) t bar came rd S n).2.2.2 (nI n) (mX i o (dnn P m up (vw o i) t bar came rd S n).2.1 (dnn P m up (vw o i) t bar came rd S n).1, l, Rp s r p)) (pN P) (fun n hn => node n came rd rdn _ hn) 0 (by omega)
  have rounds : ∀ f k (Z : RnS), f + k = 8 → Course_down_25 o (nI t) o4 bar Z.2.2.2.1 Z.2.2.2.2 Z.2.2.1 (nI k) (mX i o Z.2.1 Z.1, l, Rp s r p) = some (some (.int (dwn P m up (vw o i) t bar f Z).2.2.2.1), (mX i o (dwn P m up (vw o i) t bar f Z).2.1 (dwn P m up (vw o i) t bar f Z).1, l, Rp s r p)) := by
    intro f
    induction f with
    | zero =>
      intro k Z hk
      rw [Course_down_25_eq _ _ _ _ _ _ _ _ _ _ _ _ _ hj, ifc_t (nI_lt (by omega) (by omega))]
      rfl
    | succ f ih =>
      intro k Z hk
      rw [Course_down_25_eq _ _ _ _ _ _ _ _ _ _ _ _ _ hj, ifc_f (nI_nlt (by omega) (by omega))]
      unfold dwn
      by_cases h0 : Z.2.2.2.2 = 0
      · rw [ifc_t h0, if_pos h0]
      · rw [ifc_f h0, if_neg h0]
        have hn := nodes Z.2.2.2.1 Z.2.2.2.2 k (Z.1, Z.2.1, Z.2.2.1, nI 0)
        refine hn.trans ?_
        rw [Course_down_43_eq _ _ _ _ _ _ _ _ _ _ _ _ _ _ _ hj hp, hN, ifc_f (nI_nlt (Nat.le_refl _) (by omega)), nI_add]
        exact ih (k + 1) (dst1 P m up (vw o i) t bar Z) (by omega)
  rw [Course_down_eq _ _ _ _ _ _ _ _ _ hj hp, root_ok hp hw (PC_fr hP (fun a ha => mX_r (by omega))) ht, crI_t, ← ha]
  exact rounds 8 0 (x, A, nI 0, a1, a1) (by omega)
end
end

section
/-! what laws and UP look at; the reference's cameTo, goesDown -/
def ueq (σ τ : ST) : Prop := σ 0 8 = τ 0 8 ∧ σ 0 6 = τ 0 6 ∧ σ 2 = τ 2 ∧ σ 3 = τ 3 ∧ σ 6 = τ 6
theorem vls_ueq {σ τ : ST} (h : ueq σ τ) (D : Nat → Nat) (t n : Nat) : vls D σ t n = vls D τ t n := by
  obtain ⟨h1, h2, h3, h4, h5⟩ := h
  unfold vls
  rw [h2, h3, h4, h5]
theorem lw_ueq {P : PL} {w : Nat} {σ τ : ST} (h : ueq σ τ) (D : Nat → Nat) (t n : Nat) : lw P w D σ t n = lw P w D τ t n := by
  unfold lw
  rw [vls_ueq h]
theorem upo_ueq {P : PL} {σ τ : ST} (h : ueq σ τ) (t n : Nat) : upo P σ t n = upo P τ t n := by
  have e : mtv P (fd P (τ 0 8) t) σ t = mtv P (fd P (τ 0 8) t) τ t := by
    funext q
    unfold mtv
    rw [lw_ueq h]
  unfold upo
  rw [h.1, e]
theorem ueq_11 {σ : ST} {A : Int32} : ueq (u2 σ 0 11 A) σ := ⟨u2_k (by decide), u2_k (by decide), u2_r (by decide), u2_r (by decide), u2_r (by decide)⟩
/-- who takes a packet -/
def mor (up : Nat → Option (Nat × Nat)) (cam bar : Int32) (k n : Nat) : Nat → Bool := fun q => decide (up q = some (k, n)) && (!bt cam q && !bt bar q)
theorem msk_s (f : Nat → Bool) (n : Nat) : msk f (n + 1) = if f n then msk f n ||| (nI 1 <<< (nI n &&& 31)) else msk f n := rfl
section
variable {l : Nat → Nat → Int64} {s r p : Nat}
theorem cameTo_ok {i : Nat → Nat → Int32} {P : PL} {σ τ : ST} {b t sr n k : Nat} {m : MD} {cam bar : Int32} (hw : pwf P) (hP : PM P i) (hM : RM m i) (hs : swf P τ) (hb : b < 2) (hS : SM b τ i) (hu : ueq τ σ) (ht : t ≤ pS P) (hsr : sr < pS P) (hn : n < pN P) (hk : k < pL P)
    (hc : i 121 t = cam) (hbar : ∀ q, q < 32 → bt bar q = (t == 0 && (bt (τ 1 sr) q && bt (i 121 (1 + sr)) q))) :
    ∃ j l', Mo_cameTo (nI b) (nI t) (nI sr) (nI n) (nI k) (i, l, Rp s r p) = some (some (.int (msk (mor (upo P σ t) cam bar k n) (pN P))), (j, l', Rp s r p)) ∧ (∀ a, a ≠ 82 → a ≠ 119 → j a = i a) ∧ fr (qR b) i j ∧ ∀ a, a ≠ 106 → a ≠ 107 → l' a = l a := by
  have h7 := hw.1.1
  have h8 := hw.1.2.1
  have h3 := hw.1.2.2.1
  rw [Mo_cameTo_eq]
  have h := loop_ex (F := fun q (M : (Nat → Nat → Int32) × (Nat → Nat → Int64)) => Mo_cameTo_6 (nI b) (nI t) (nI sr) (nI n) (nI k) (msk (mor (upo P σ t) cam bar k n) q) (nI q) (M.1, M.2, Rp s r p)) (I9 := fun q M => (∀ a, a ≠ 82 → a ≠ 119 → M.1 a = i a) ∧ fr (qR b) i M.1 ∧ ∀ a, a ≠ 106 → a ≠ 107 → M.2 a = l a) (n := pN P) (fun q M hq hI => by
    obtain ⟨q1, q2, q3⟩ := hI
    obtain ⟨j, lj⟩ := M
    simp only at q1 q2 q3
    show ∃ M' : (Nat → Nat → Int32) × (Nat → Nat → Int64), Mo_cameTo_6 _ _ _ _ _ _ _ (j, lj, Rp s r p) = Mo_cameTo_6 _ _ _ _ _ (msk (mor (upo P σ t) cam bar k n) (q + 1)) (nI (q + 1)) (M'.1, M'.2, Rp s r p) ∧ _
    have hPj := PM_qR hw hP q2
    have hMj := RM_qR hM q2
    have hSj : SM b τ j := SM_fr hS (fun a h1 h2 => q1 a (by omega) (by omega))
    have e90 : j 90 k = mem P k := (hPj.2.2.2.2.1 k hk).2
    have e121 : ∀ c, j 121 c = i 121 c := fun c => by rw [q1 121 (by decide) (by decide)]
    have e110 : j 110 (3 * b + sr) = τ 1 sr := hSj.2.2.1 sr (by omega)
    have skip : mor (upo P σ t) cam bar k n q = false → ∃ M' : (Nat → Nat → Int32) × (Nat → Nat → Int64), Mo_cameTo_6 (nI b) (nI t) (nI sr) (nI n) (nI k) (msk (mor (upo P σ t) cam bar k n) q) (nI (q + 1)) (j, lj, Rp s r p) = Mo_cameTo_6 (nI b) (nI t) (nI sr) (nI n) (nI k) (msk (mor (upo P σ t) cam bar k n) (q + 1)) (nI (q + 1)) (M'.1, M'.2, Rp s r p) ∧ (∀ a, a ≠ 82 → a ≠ 119 → M'.1 a = i a) ∧ fr (qR b) i M'.1 ∧ ∀ a, a ≠ 106 → a ≠ 107 → M'.2 a = l a := fun hf => ⟨(j, lj), by rw [msk_s, hf]; simp, q1, q2, q3⟩
    have k95 : (!bt cam q && !bt bar q) = true → ∃ M' : (Nat → Nat → Int32) × (Nat → Nat → Int64), Mo_cameTo_95 (nI b) (nI t) (nI sr) (nI n) (nI k) (msk (mor (upo P σ t) cam bar k n) q) (nI q) (j, lj, Rp s r p) = Mo_cameTo_6 (nI b) (nI t) (nI sr) (nI n) (nI k) (msk (mor (upo P σ t) cam bar k n) (q + 1)) (nI (q + 1)) (M'.1, M'.2, Rp s r p) ∧ (∀ a, a ≠ 82 → a ≠ 119 → M'.1 a = i a) ∧ fr (qR b) i M'.1 ∧ ∀ a, a ≠ 106 → a ≠ 107 → M'.2 a = l a := fun hf => by
      obtain ⟨l2, e, c1, c2⟩ := upLink_ok (l := lj) (s := s) (r := r) (p := p) hw hPj hs hSj hMj.2.2.2.2.2.2.2 hb ht hq
      have eu : upl P (fd P (τ 0 8) t) (bt (τ 0 8)) (mtv P (fd P (τ 0 8) t) τ t) q = upo P σ t q := (show _ = upo P τ t q from rfl).trans (upo_ueq hu t q)
      rw [eu] at c1
      rw [Mo_cameTo_95_eq, c1, crI_t, mU_76, msk_s]
      unfold mor
      rw [hf, Bool.and_true]
      have fin : ∀ x, (∀ a, a ≠ 82 → a ≠ 119 → mU j (fd P (τ 0 8) t) e x a = i a) ∧ fr (qR b) i (mU j (fd P (τ 0 8) t) e x) ∧ ∀ a, a ≠ 106 → a ≠ 107 → l2 a = l a := fun x => ⟨fun a h1 h2 => (mU_r h2 h1).trans (q1 a h1 h2), fr_trans q2 fr_mU, fun a h1 h2 => (c2 a h1 h2).trans (q3 a h1 h2)⟩
      cases hx : upo P σ t q with
      | none =>
        rw [ifc_f (fun hh => by
          have h9 := nM_neg (m := 1) (by omega) (by omega)
          rw [show nM 1 = nI k from hh] at h9
          exact absurd h9 (nI_pos (by omega))), or_0, nI_add]
        exact ⟨(_, l2), by simp; rfl, fin _⟩
      | some u =>
        obtain ⟨u1, u2', _⟩ := upo_some hx
        rw [show lnk (some u) = nI u.1 from rfl, show ndo (some u) = nI u.2 from rfl, ifc_eq (by omega) (by omega), ifc_eq (by omega) (by omega), or_0, nI_add]
        obtain ⟨a, c⟩ := u
        simp only at u1 u2'
        by_cases ea : a = k
        · by_cases ec : c = n
          · subst ea ec
            exact ⟨(_, l2), by simp; rfl, fin _⟩
          · exact ⟨(_, l2), by simp [ea, ec]; rfl, fin _⟩
        · exact ⟨(_, l2), by simp [ea]; rfl, fin _⟩
    rw [Mo_cameTo_6_eq, hPj.1.1]
    simp (disch := omega) only [nI_mul, nI_add, nI_clamp, gd_in, gd_0, gd_1, gd_b, gd_n0, ifc_lt, ifc_eq, ifc_neg, ifc_z, ifc_pos, ifc_b, if_pos, if_neg, crV_t, crI_t, crL_t, ifc_True, ifc_False, if_true, if_false, e90, e121, hc, e110, isOf_ok]
    by_cases eqn : q = n
    · rw [if_pos eqn]
      refine skip ?_
      unfold mor
      have : ¬ upo P σ t q = some (k, n) := fun h => by
        obtain ⟨_, _, _, _, _, h6⟩ := upo_some h
        have := (hw.2.2.2.1 k hk).1
        simp only at h6
        rw [eqn] at h6
        omega
      rw [decide_eq_false this]; rfl
    · rw [if_neg eqn]
      cases hmq : bt (mem P k) q
      · simp only [Bool.false_eq_true, if_false]
        refine skip ?_
        unfold mor
        have : ¬ upo P σ t q = some (k, n) := fun h => by
          obtain ⟨_, _, _, h4, _, _⟩ := upo_some h
          rw [hmq] at h4; exact absurd h4 (by decide)
        rw [decide_eq_false this]; rfl
      · simp only [if_true]
        cases hcq : bt cam q
        · simp only [Bool.false_eq_true, if_false]
          have hbq := hbar q (by omega)
          by_cases ht0 : t = 0
          · rw [if_pos ht0]
            have hz : (t == 0) = true := by simpa using ht0
            rw [hz, Bool.true_and] at hbq
            cases h1q : bt (τ 1 sr) q
            · simp only [Bool.false_eq_true, if_false]
              exact k95 (by rw [hcq, hbq, h1q]; rfl)
            · simp only [if_true]
              cases hoq : bt (i 121 (1 + sr)) q
              · simp only [Bool.false_eq_true, if_false]
                exact k95 (by rw [hcq, hbq, h1q, hoq]; rfl)
              · simp only [if_true]
                exact skip (by unfold mor; rw [hbq, h1q, hoq]; simp)
          · rw [if_neg ht0]
            have hz : (t == 0) = false := by simpa using ht0
            exact k95 (by rw [hcq, hbq, hz]; rfl)
        · simp only [if_true]
          exact skip (by unfold mor; rw [hcq]; simp)) 0 (i, l) (by omega) ⟨fun _ _ _ => rfl, fr_refl _ _, fun _ _ _ => rfl⟩
  obtain ⟨M', q0, q1, q2, q3⟩ := h
  refine ⟨M'.1, M'.2, (show Mo_cameTo_6 (nI b) (nI t) (nI sr) (nI n) (nI k) (nI 0) (nI 0) (i, l, Rp s r p) = _ from q0).trans ?_, q1, q2, q3⟩
  show Mo_cameTo_6 _ _ _ _ _ _ _ _ = _
  rw [Mo_cameTo_6_eq, (PM_qR hw hP q2).1.1, ifc_f (nI_nlt (Nat.le_refl _) (by omega))]
end
end

section
/-! the reference goes down -/
theorem pss_pos {P : PL} {m : MD} {up : Nat → Option (Nat × Nat)} {M : Int32} {n : Nat} {z : Int32 × Int32} (hz : ¬ z.1 < 0) : ∀ k, ¬ (pss P m up M n z k).1 < 0
  | 0 => hz
  | k + 1 => by
    show ¬ (ps1 P m up M n k (pss P m up M n z k)).1 < 0
    unfold ps1
    split
    · exact lst_pos (pss_pos hz k)
    · exact pss_pos hz k
theorem pss_in {P : PL} {m : MD} {up : Nat → Option (Nat × Nat)} {M : Int32} {n : Nat} {z : Int32 × Int32} (h7 : pN P ≤ 32) (hz : z.2 = nI 0) : ∀ k q, q < 32 → bt (pss P m up M n z k).2 q = true → q < pN P
  | 0, q, hq, h => by
    rw [show pss P m up M n z 0 = z from rfl, hz, nI_0, b_0] at h; exact absurd h (by decide)
  | k + 1, q, hq, h => by
    have ih := pss_in (P := P) (m := m) (up := up) (M := M) (n := n) h7 hz k q hq
    have e : pss P m up M n z (k + 1) = ps1 P m up M n k (pss P m up M n z k) := rfl
    rw [e] at h
    unfold ps1 at h
    split at h
    · simp only at h
      split at h
      · exact ih h
      · rw [b_or] at h
        cases hb : bt (pss P m up M n z k).2 q
        · rw [hb, Bool.false_or] at h
          exact msk_in h7 q hq h
        · exact ih hb
    · exact ih h
theorem dnn_in {P : PL} {m : MD} {up : Nat → Option (Nat × Nat)} {σ : ST} {t : Nat} {bar came rd : Int32} {S : DnS} (h7 : pN P ≤ 32) (hS : ∀ q, q < 32 → bt S.2.2.2 q = true → q < pN P ∧ bt came q = false) : ∀ n q, q < 32 → bt (dnn P m up σ t bar came rd S n).2.2.2 q = true → q < pN P ∧ bt came q = false
  | 0, q, hq, h => hS q hq h
  | n + 1, q, hq, h => by
    have ih := dnn_in (m := m) (up := up) (σ := σ) (t := t) (bar := bar) (rd := rd) h7 hS n q hq
    have e : dnn P m up σ t bar came rd S (n + 1) = dn1 P m up σ t bar came rd n (dnn P m up σ t bar came rd S n) := rfl
    rw [e] at h
    unfold dn1 at h
    split at h
    · simp only at h
      rw [b_or] at h
      cases hb : bt (dnn P m up σ t bar came rd S n).2.2.2 q
      · rw [hb, Bool.false_or, b_and, b_and, b_xor, bt_nM1 hq] at h
        simp at h
        exact ⟨pss_in h7 rfl _ q hq h.1.1, by simpa using h.1.2⟩
      · exact ih hb
    · exact ih h
theorem dnn_pos {P : PL} {m : MD} {up : Nat → Option (Nat × Nat)} {σ : ST} {t : Nat} {bar came rd : Int32} {S : DnS} (hS : ¬ S.1 < 0) : ∀ n, ¬ (dnn P m up σ t bar came rd S n).1 < 0
  | 0 => hS
  | n + 1 => by
    have ih := dnn_pos (P := P) (m := m) (up := up) (σ := σ) (t := t) (bar := bar) (came := came) (rd := rd) hS n
    have e : dnn P m up σ t bar came rd S (n + 1) = dn1 P m up σ t bar came rd n (dnn P m up σ t bar came rd S n) := rfl
    rw [e]
    generalize dnn P m up σ t bar came rd S n = T at ih
    unfold dn1
    split
    · have := pss_pos (P := P) (m := m) (up := up) (M := onl σ t n &&& (T.2.2.1 ^^^ nM 1)) (n := n) (z := (T.1, nI 0)) ih (pL P)
      simp only
      exact this
    · exact ih
theorem dwn_pos {P : PL} {m : MD} {up : Nat → Option (Nat × Nat)} {σ : ST} {t : Nat} {bar : Int32} : ∀ f (Z : RnS), ¬ Z.1 < 0 → ¬ (dwn P m up σ t bar f Z).1 < 0
  | 0, Z, h => h
  | f + 1, Z, h => by
    unfold dwn
    split
    · exact h
    · refine dwn_pos f _ ?_
      have e : (dst1 P m up σ t bar Z).1 = (dnn P m up σ t bar Z.2.2.2.1 Z.2.2.2.2 (Z.1, Z.2.1, Z.2.2.1, nI 0) (pN P)).1 := rfl
      rw [e]
      exact dnn_pos (S := (Z.1, Z.2.1, Z.2.2.1, nI 0)) h _
def nwk (w came bar : Int32) : Int32 := (w &&& (came ^^^ nM 1)) &&& (bar ^^^ nM 1)
theorem bt_nwk {w came bar : Int32} {q : Nat} (hq : q < 32) : bt (nwk w came bar) q = (bt w q && (!bt came q && !bt bar q)) := by
  unfold nwk
  rw [b_and, b_and, b_xor, b_xor, bt_nM1 hq]
  cases bt w q <;> cases bt came q <;> cases bt bar q <;> rfl
theorem bl6 (nx w ca ba e1 e2 : Bool) : ((nx || (w && (!ca && !ba))) || (e1 && (e2 && (!(ca || (nx || (w && (!ca && !ba)))) && !ba)))) = (nx || ((w || (e1 && e2)) && (!ca && !ba))) := by
  cases nx <;> cases w <;> cases ca <;> cases ba <;> cases e1 <;> cases e2 <;> rfl
/-- what holds of the reference's memory between two links -/
def GD (b t : Nat) (m : MD) (σ : ST) (i0 : Nat → Nat → Int32) (l0 : Nat → Nat → Int64) (x A cam : Int32) (tk : Nat → Prop) (M : (Nat → Nat → Int32) × (Nat → Nat → Int64)) : Prop :=
  SM b (u2 σ 0 11 A) M.1 ∧ M.1 121 t = cam ∧ (∀ c, c ≠ t → M.1 121 c = i0 121 c) ∧ (∀ k, k < 8 → (M.1 122 k < 0 ↔ ¬ tk k)) ∧ fr (qR b) i0 M.1 ∧ (m.1 = true → M.2 82 65 = x.toInt64) ∧ fL m l0 M.2
section
variable {s r p : Nat}
theorem gd64_ok {i0 : Nat → Nat → Int32} {l0 : Nat → Nat → Int64} {P : PL} {σ : ST} {b t sr n : Nat} {m : MD} {bar came rd : Int32} {S : DnS} (hw : pwf P) (hP : PM P i0) (hM : RM m i0) (hs : swf P σ) (hb : b < 2) (ht : t ≤ pS P) (hsr : sr < pS P) (hn : n < pN P) (hx : ¬ S.1 < 0)
    (hbar : ∀ q, q < 32 → bt bar q = (t == 0 && (bt (σ 1 sr) q && bt (i0 121 (1 + sr)) q)))
    (M : (Nat → Nat → Int32) × (Nat → Nat → Int64)) (hI : GD b t m σ i0 l0 S.1 S.2.1 (came ||| S.2.2.2) (fun k => bt S.2.2.1 k = true) M) :
    ∃ M' : (Nat → Nat → Int32) × (Nat → Nat → Int64), Mo_goesDown_64 (nI b) (nI t) (nI sr) rd S.2.2.2 (nI n) (nI 0) (M.1, M.2, Rp s r p) = Mo_goesDown_64 (nI b) (nI t) (nI sr) rd (dn1 P m (upo P σ t) σ t bar came rd n S).2.2.2 (nI n) (nI (pL P)) (M'.1, M'.2, Rp s r p) ∧ GD b t m σ i0 l0 (dn1 P m (upo P σ t) σ t bar came rd n S).1 (dn1 P m (upo P σ t) σ t bar came rd n S).2.1 (came ||| (dn1 P m (upo P σ t) σ t bar came rd n S).2.2.2) (fun k => bt (dn1 P m (upo P σ t) σ t bar came rd n S).2.2.1 k = true) M' := by
  have h7 := hw.1.1
  have h8 := hw.1.2.1
  have h3 := hw.1.2.2.1
  unfold dn1
  cases hrd : bt rd n
  · simp only [Bool.false_eq_true, if_false]
    refine ⟨M, ?_, hI⟩
    refine upto (fun k => Mo_goesDown_64 (nI b) (nI t) (nI sr) rd S.2.2.2 (nI n) (nI k) (M.1, M.2, Rp s r p)) (pL P) (fun k hk => ?_) 0 (by omega)
    show Mo_goesDown_64 _ _ _ _ _ _ _ _ = Mo_goesDown_64 _ _ _ _ _ _ _ _
    rw [Mo_goesDown_64_eq, (PM_qR hw hP hI.2.2.2.2.1).1.2.1, ifc_t (nI_lt hk (by omega)), isOf_ok _ (by omega), crI_t, hrd, ifc_b, if_neg (by decide), Mo_goesDown_186_eq, nI_add]
  · simp only [if_true]
    obtain ⟨x, A, tk, nx⟩ := S
    simp only at hx hI ⊢
    generalize hon : onl σ t n = on
    generalize hpk : (fun k => pss P m (upo P σ t) (on &&& (tk ^^^ nM 1)) n (x, nI 0) k) = pk
    have hpk1 : ∀ k, pss P m (upo P σ t) (on &&& (tk ^^^ nM 1)) n (x, nI 0) k = pk k := fun k => by rw [← hpk]
    have hpks : ∀ k, pk (k + 1) = ps1 P m (upo P σ t) (on &&& (tk ^^^ nM 1)) n k (pk k) := fun k => by rw [← hpk]; rfl
    have hpp : ∀ k, ¬ (pk k).1 < 0 := fun k => by rw [← hpk1]; exact pss_pos (z := (x, nI 0)) hx k
    have hpi : ∀ k q, q < 32 → bt (pk k).2 q = true → q < pN P := fun k q hq => by rw [← hpk1]; exact pss_in (by omega) rfl k q hq
    have hM0 : ∀ k, k < 32 → bt (on &&& (tk ^^^ nM 1)) k = (bt on k && !bt tk k) := fun k hk => by
      rw [b_and, b_xor, bt_nM1 hk]
      cases bt tk k <;> simp
    have honk : ∀ k, k < 8 → bt on k = (decide (σ 5 (56 * t + 8 * n + k) ≠ 0) && !bt (σ 0 8) k) := fun k hk => by
      rw [← hon, onl_8 hs (by omega) (by omega) (by omega), decide_eq_true hk, Bool.true_and]
    have h := loop_ex (F := fun k (M : (Nat → Nat → Int32) × (Nat → Nat → Int64)) => Mo_goesDown_64 (nI b) (nI t) (nI sr) rd (nx ||| nwk (pk k).2 came bar) (nI n) (nI k) (M.1, M.2, Rp s r p)) (I9 := fun k M => GD b t m σ i0 l0 (pk k).1 (A + nI (cnt (bt (on &&& tk)) k)) (came ||| (nx ||| nwk (pk k).2 came bar)) (fun k' => bt tk k' = true ∨ (k' < k ∧ bt on k' = true)) M) (n := pL P) (fun k M hk hI => by
      obtain ⟨j, lj⟩ := M
      obtain ⟨g1, g2, g3, g4, g5, g6, g7⟩ := hI
      simp only at g1 g2 g3 g4 g5 g6 g7
      have hPj := PM_qR hw hP g5
      have hMj := RM_qR hM g5
      show ∃ M' : (Nat → Nat → Int32) × (Nat → Nat → Int64), Mo_goesDown_64 (nI b) (nI t) (nI sr) rd (nx ||| nwk (pk k).2 came bar) (nI n) (nI k) (j, lj, Rp s r p) = Mo_goesDown_64 (nI b) (nI t) (nI sr) rd (nx ||| nwk (pk (k + 1)).2 came bar) (nI n) (nI (k + 1)) (M'.1, M'.2, Rp s r p) ∧ _
      have e108 : j 108 b = σ 0 8 := g1.1.trans (u2_k (by decide))
      have e111 : j 111 (224 * b + (56 * t + 8 * n + k)) = σ 5 (56 * t + 8 * n + k) := (g1.2.2.2.1 _ (by omega)).trans (u2_i (by decide))
      have e117 : j 117 b = A + nI (cnt (bt (on &&& tk)) k) := g1.2.2.2.2.2.2.2.1.trans (u2_s _ _ _ _)
      have hcn : cnt (bt (on &&& tk)) (k + 1) = cnt (bt (on &&& tk)) k + (if bt (on &&& tk) k then 1 else 0) := rfl
      have hand : bt (on &&& tk) k = (bt on k && bt tk k) := b_and _ _ _
      have hok := honk k (by omega)
      -- nothing is sent there
      have skip : bt on k = false → ∃ M' : (Nat → Nat → Int32) × (Nat → Nat → Int64), Mo_goesDown_186 (nI b) (nI t) (nI sr) rd (nx ||| nwk (pk k).2 came bar) (nI n) (nI k) (j, lj, Rp s r p) = Mo_goesDown_64 (nI b) (nI t) (nI sr) rd (nx ||| nwk (pk (k + 1)).2 came bar) (nI n) (nI (k + 1)) (M'.1, M'.2, Rp s r p) ∧ GD b t m σ i0 l0 (pk (k + 1)).1 (A + nI (cnt (bt (on &&& tk)) (k + 1))) (came ||| (nx ||| nwk (pk (k + 1)).2 came bar)) (fun k' => bt tk k' = true ∨ (k' < k + 1 ∧ bt on k' = true)) M' := fun hf => by
        have e1 : pk (k + 1) = pk k := by rw [hpks]; unfold ps1; rw [hM0 k (by omega), hf]; rfl
        have e2 : cnt (bt (on &&& tk)) (k + 1) = cnt (bt (on &&& tk)) k := by rw [hcn, hand, hf]; rfl
        rw [e1, e2, Mo_goesDown_186_eq, nI_add]
        refine ⟨(j, lj), rfl, g1, g2, g3, fun k' hk' => (g4 k' hk').trans ?_, g5, g6, g7⟩
        have : k' < k + 1 ∧ bt on k' = true ↔ k' < k ∧ bt on k' = true := by
          constructor
          · intro hh
            refine ⟨?_, hh.2⟩
            by_cases e : k' = k
            · subst e; rw [hf] at hh; exact absurd hh.2 (by decide)
            · omega
          · intro hh; exact ⟨by omega, hh.2⟩
        simp only [this]
      rw [Mo_goesDown_64_eq, hPj.1.2.1]
      simp (disch := omega) only [nI_mul, nI_add, nI_clamp, gd_in, gd_0, gd_1, gd_b, gd_n0, ifc_lt, ifc_eq, ifc_neg, ifc_z, ifc_pos, ifc_b, if_pos, if_neg, crV_t, crI_t, crL_t, ifc_True, ifc_False, if_true, if_false, isOf_ok, heldAt_ok, hrd, e108, e111]
      cases hcut : bt (σ 0 8) k
      · simp only [Bool.false_eq_true, if_false]
        by_cases h50 : σ 5 (56 * t + 8 * n + k) = 0
        · rw [ifc_t h50]
          exact skip (by rw [hok, decide_eq_false (fun h => h h50)]; rfl)
        · rw [ifc_f h50]
          have hon1 : bt on k = true := by rw [hok, decide_eq_true h50, hcut]; rfl
          have h4k := g4 k (by omega)
          cases htk : bt tk k
          · -- it is the first one there
            rw [ifc_t (h4k.mpr (by rw [htk]; simp))]
            have e2 : cnt (bt (on &&& tk)) (k + 1) = cnt (bt (on &&& tk)) k := by rw [hcn, hand, htk, Bool.and_false]; rfl
            have hbt : bt (on &&& (tk ^^^ nM 1)) k = true := by rw [hM0 k (by omega), hon1, htk]; rfl
            generalize hj2 : u2 j 122 k (nI n) = j2
            have f2 : fr (qR b) i0 j2 := by rw [← hj2]; exact fr_trans g5 (fr_u2 (by simp [qR]))
            have s2 : SM b (u2 σ 0 11 (A + nI (cnt (bt (on &&& tk)) k))) j2 := by rw [← hj2]; exact SM_fr g1 (fun a h1 h2 => u2_r (by omega))
            have g2' : ∀ c, j2 121 c = j 121 c := fun c => by rw [← hj2]; exact u2_i (by decide)
            have g4' : ∀ k', k' < 8 → (j2 122 k' < 0 ↔ ¬ (bt tk k' = true ∨ (k' < k + 1 ∧ bt on k' = true))) := fun k' hk' => by
              rw [← hj2]
              by_cases e : k' = k
              · subst e
                rw [u2_s]
                constructor
                · intro h; exact absurd h (nI_pos (by omega))
                · intro h; exact absurd (Or.inr ⟨by omega, hon1⟩) h
              · rw [u2_k e, g4 k' hk']
                have : k' < k + 1 ↔ k' < k := by omega
                simp only [this]
            obtain ⟨l2, d1, d2, d3⟩ := isLost_ok (l := lj) (s := s) (r := r) (p := p) (x := (pk k).1) hw (PM_qR hw hP f2) (RM_qR hM f2) (hpp k) g6
            rw [d1, crI_t, ifc_b]
            have e1 : pk (k + 1) = ((lst P m (pk k).1).2, if (lst P m (pk k).1).1 then (pk k).2 else (pk k).2 ||| tks (upo P σ t) (pN P) k n) := by rw [hpks]; unfold ps1; rw [hbt]; rfl
            cases hl : (lst P m (pk k).1).1
            · simp only [Bool.false_eq_true, if_false]
              rw [hl] at e1
              simp only [Bool.false_eq_true, if_false] at e1
              obtain ⟨j3, l3, c1, c2, c3, c4⟩ := cameTo_ok (σ := σ) (l := l2) (s := s) (r := r) (p := p) (sr := sr) (n := n) (k := k) (bar := bar) hw (PM_qR hw hP f2) (RM_qR hM f2) (swf_0 (by decide) (by decide) (by decide) hs) hb s2 ueq_11 ht hsr hn hk ((g2' t).trans g2) (fun q hq => by
                rw [hbar q hq, u2_i (by decide)]
                by_cases ht0 : t = 0
                · rw [g2' (1 + sr), g3 (1 + sr) (by omega)]
                · have hz : (t == 0) = false := by simpa using ht0
                  rw [hz]; rfl)
              rw [c1, crI_t]
              rw [Mo_goesDown_186_eq, nI_add, c2 121 (by decide) (by decide), g2' t, g2]
              have hbits : ∀ q, q < 32 → (bt (nx ||| nwk (pk k).2 came bar ||| msk (mor (upo P σ t) (came ||| (nx ||| nwk (pk k).2 came bar)) bar k n) (pN P)) q = bt (nx ||| nwk (pk (k + 1)).2 came bar) q) := fun q hq => by
                rw [e1]
                unfold mor tks
                rw [b_or, b_or, b_or, bt_nwk hq, bt_nwk hq, b_or, msk_bt _ _ (by omega) q hq, msk_bt _ _ (by omega) q hq, b_or, b_or, bt_nwk hq]
                exact bl6 _ _ _ _ _ _
              have hb1 : nx ||| nwk (pk k).2 came bar ||| msk (mor (upo P σ t) (came ||| (nx ||| nwk (pk k).2 came bar)) bar k n) (pN P) = nx ||| nwk (pk (k + 1)).2 came bar := b_ext hbits
              have hb2 : came ||| (nx ||| nwk (pk k).2 came bar) ||| msk (mor (upo P σ t) (came ||| (nx ||| nwk (pk k).2 came bar)) bar k n) (pN P) = came ||| (nx ||| nwk (pk (k + 1)).2 came bar) := by rw [or_assoc3, hb1]
              rw [hb1, hb2, e2]
              refine ⟨(u2 j3 121 t (came ||| (nx ||| nwk (pk (k + 1)).2 came bar)), l3), rfl, ?_, ?_, fun c hc => ?_, fun k' hk' => ?_, ?_, fun hd => ?_, fL_trans g7 (fL_trans d3 (fL_of c4))⟩
              · exact SM_fr s2 (fun a h1 h2 => (u2_r (by omega)).trans (c2 a (by omega) (by omega)))
              · show u2 j3 121 t (came ||| (nx ||| nwk (pk (k + 1)).2 came bar)) 121 t = _
                rw [u2_s]
              · show u2 j3 121 t (came ||| (nx ||| nwk (pk (k + 1)).2 came bar)) 121 c = _
                rw [u2_k hc, c2 121 (by decide) (by decide), g2' c, g3 c hc]
              · have : u2 j3 121 t (came ||| (nx ||| nwk (pk (k + 1)).2 came bar)) 122 k' = j2 122 k' := by rw [u2_i (by decide), c2 122 (by decide) (by decide)]
                show u2 j3 121 t (came ||| (nx ||| nwk (pk (k + 1)).2 came bar)) 122 k' < 0 ↔ _
                rw [this]; exact g4' k' hk'
              · exact fr_trans f2 (fr_trans c3 (fr_u2 (by simp [qR])))
              · show l3 82 65 = _
                rw [c4 82 (by decide) (by decide), d2 hd, e1]
            · simp only [if_true]
              rw [hl] at e1
              simp only [if_true] at e1
              rw [Mo_goesDown_186_eq, nI_add, e2, e1]
              exact ⟨(j2, l2), rfl, s2, (g2' t).trans g2, fun c hc => (g2' c).trans (g3 c hc), g4', f2, d2, fL_trans g7 d3⟩
          · -- somebody was there
            rw [ifc_f (fun h => (h4k.mp h) (Or.inl htk))]
            have hbt : bt (on &&& (tk ^^^ nM 1)) k = false := by rw [hM0 k (by omega), htk]; simp
            have e1 : pk (k + 1) = pk k := by rw [hpks]; unfold ps1; rw [hbt]; rfl
            have e2 : cnt (bt (on &&& tk)) (k + 1) = cnt (bt (on &&& tk)) k + 1 := by rw [hcn, hand, hon1, htk]; rfl
            rw [Mo_goesDown_186_eq, nI_add, e117, e1, e2]
            have e3 : A + nI (cnt (bt (on &&& tk)) k) + nI 1 = A + nI (cnt (bt (on &&& tk)) k + 1) := by rw [Int32.add_assoc, nI_add]
            rw [e3]
            refine ⟨(u2 j 117 b (A + nI (cnt (bt (on &&& tk)) k + 1)), lj), rfl, ?_, ?_, fun c hc => ?_, fun k' hk' => ?_, fr_trans g5 (fr_u2 (by simp [qR])), g6, g7⟩
            · have := SM_11 (x := A + nI (cnt (bt (on &&& tk)) k + 1)) g1
              rw [u2_u2] at this
              exact this
            · show u2 j 117 b (A + nI (cnt (bt (on &&& tk)) k + 1)) 121 t = _
              rw [u2_i (by decide)]; exact g2
            · show u2 j 117 b (A + nI (cnt (bt (on &&& tk)) k + 1)) 121 c = _
              rw [u2_i (by decide)]; exact g3 c hc
            · show u2 j 117 b (A + nI (cnt (bt (on &&& tk)) k + 1)) 122 k' < 0 ↔ _
              rw [u2_i (by decide), g4 k' hk']
              by_cases e : k' = k
              · subst e; simp [htk]
              · have : k' < k + 1 ↔ k' < k := by omega
                simp only [this]
      · simp only [if_true]
        exact skip (by rw [hok, hcut]; simp)) 0 M (by omega) (by
        have e0 : nx ||| nwk (pk 0).2 came bar = nx := by
          apply b_ext
          intro q hq
          rw [b_or, bt_nwk hq, ← hpk1 0, show (pss P m (upo P σ t) (on &&& (tk ^^^ nM 1)) n (x, nI 0) 0).2 = nI 0 from rfl, nI_0, b_0]
          simp
        have e1 : A + nI (cnt (bt (on &&& tk)) 0) = A := by
          show A + nI 0 = A
          rw [nI_0, Int32.add_zero]
        rw [e0, e1, ← hpk1 0]
        obtain ⟨g1, g2, g3, g4, g5, g6, g7⟩ := hI
        exact ⟨g1, g2, g3, fun k hk => (g4 k hk).trans (by simp), g5, g6, g7⟩)
    obtain ⟨M', q0, g1, g2, g3, g4, g5, g6, g7⟩ := h
    have e0 : nx ||| nwk (pk 0).2 came bar = nx := by
      apply b_ext
      intro q hq
      rw [b_or, bt_nwk hq, ← hpk1 0, show (pss P m (upo P σ t) (on &&& (tk ^^^ nM 1)) n (x, nI 0) 0).2 = nI 0 from rfl, nI_0, b_0]
      simp
    rw [e0] at q0
    have hout : ∀ k, pL P ≤ k → k < 8 → bt on k = false := fun k h1 h2 => by
      rw [honk k h2, hs.2.2.1 t n k (by omega) (by omega) h2 (by omega)]; rfl
    have ec : cnt (bt (on &&& tk)) 8 = cnt (bt (on &&& tk)) (pL P) := cnt_more 8 h8 (fun k h1 h2 => by rw [b_and, hout k h1 h2]; rfl)
    rw [hpk1, ec]
    refine ⟨M', q0, g1, g2, g3, fun k hk => (g4 k hk).trans ?_, g5, g6, g7⟩
    have : (bt tk k = true ∨ (k < pL P ∧ bt on k = true)) ↔ bt (tk ||| on) k = true := by
      rw [b_or]
      constructor
      · intro hh
        rcases hh with hh | hh
        · rw [hh]; rfl
        · rw [hh.2]; simp
      · intro hh
        cases h1 : bt tk k
        · rw [h1, Bool.false_or] at hh
          refine Or.inr ⟨?_, hh⟩
          by_cases h9 : k < pL P
          · exact h9
          · rw [hout k (by omega) hk] at hh; exact absurd hh (by decide)
        · exact Or.inl rfl
    simp only [this]
end
end

section
/-! the reference's goesDown, whole -/
theorem oi_s {i : Nat → Nat → Int32} {a k : Nat} {f : Nat → Int32} {x : Int32} (h : f k = x) : u2 (oi i a 0 k f) a k x = oi i a 0 (k + 1) f := by
  funext c j
  unfold u2 oi
  by_cases hc : c = a
  · simp only [hc, if_true]
    by_cases hj : j = k
    · subst hj; rw [if_pos rfl, if_pos ⟨by omega, by omega⟩, ← h]; rfl
    · rw [if_neg hj]
      by_cases hl : 0 ≤ j ∧ j < 0 + k
      · rw [if_pos hl, if_pos ⟨by omega, by omega⟩]
      · rw [if_neg hl, if_neg (by omega)]
  · simp only [hc, if_false]
theorem oi_00 {i : Nat → Nat → Int32} {a : Nat} {f : Nat → Int32} : oi i a 0 0 f = i := oi_self (fun k hk => by omega)
def fre (P : PL) (Z : RnS) : Nat := cnt (fun q => !bt Z.2.2.2.1 q) (pN P)
theorem fre_lt {P : PL} {m : MD} {up : Nat → Option (Nat × Nat)} {σ : ST} {t : Nat} {bar : Int32} {Z : RnS} (h7 : pN P ≤ 32) (h : ¬ (dst1 P m up σ t bar Z).2.2.2.2 = 0) : fre P (dst1 P m up σ t bar Z) < fre P Z := by
  have e1 : (dst1 P m up σ t bar Z).2.2.2.2 = (dnn P m up σ t bar Z.2.2.2.1 Z.2.2.2.2 (Z.1, Z.2.1, Z.2.2.1, nI 0) (pN P)).2.2.2 := rfl
  have e2 : (dst1 P m up σ t bar Z).2.2.2.1 = Z.2.2.2.1 ||| (dnn P m up σ t bar Z.2.2.2.1 Z.2.2.2.2 (Z.1, Z.2.1, Z.2.2.1, nI 0) (pN P)).2.2.2 := rfl
  have hin := dnn_in (P := P) (m := m) (up := up) (σ := σ) (t := t) (bar := bar) (came := Z.2.2.2.1) (rd := Z.2.2.2.2) (S := (Z.1, Z.2.1, Z.2.2.1, nI 0)) h7 (fun q hq hh => by
    rw [show (Z.1, Z.2.1, Z.2.2.1, nI 0).2.2.2 = nI 0 from rfl, nI_0, b_0] at hh; exact absurd hh (by decide)) (pN P)
  unfold fre
  rw [e2]
  rw [e1] at h
  generalize (dnn P m up σ t bar Z.2.2.2.1 Z.2.2.2.2 (Z.1, Z.2.1, Z.2.2.1, nI 0) (pN P)).2.2.2 = nx at *
  have hex : ∃ q, q < 32 ∧ bt nx q = true := by
    refine Classical.byContradiction (fun hno => h ?_)
    apply b_ext
    intro q hq
    rw [b_0]
    cases hb : bt nx q
    · rfl
    · exact absurd ⟨q, hq, hb⟩ hno
  obtain ⟨q, hq, hb⟩ := hex
  obtain ⟨h1, h2⟩ := hin q hq hb
  refine cnt_mono_lt (pN P) q h1 (fun k _ hk => ?_) ?_ ?_
  · rw [b_or] at hk
    cases hc : bt Z.2.2.2.1 k
    · rfl
    · rw [hc] at hk; simp at hk
  · rw [b_or, hb]; simp
  · rw [h2]; rfl
section
variable {s r p : Nat}
theorem gdRounds {i0 : Nat → Nat → Int32} {l0 : Nat → Nat → Int64} {P : PL} {σ : ST} {b t sr : Nat} {m : MD} {bar : Int32} (hw : pwf P) (hP : PM P i0) (hM : RM m i0) (hs : swf P σ) (hb : b < 2) (ht : t ≤ pS P) (hsr : sr < pS P)
    (hbar : ∀ q, q < 32 → bt bar q = (t == 0 && (bt (σ 1 sr) q && bt (i0 121 (1 + sr)) q))) :
    ∀ f (Z : RnS) (M : (Nat → Nat → Int32) × (Nat → Nat → Int64)), ¬ Z.1 < 0 → (Z.2.2.2.2 = 0 ∨ fre P Z < f) → GD b t m σ i0 l0 Z.1 Z.2.1 Z.2.2.2.1 (fun k => bt Z.2.2.1 k = true) M →
      ∃ M' : (Nat → Nat → Int32) × (Nat → Nat → Int64), Mo_goesDown_41 (nI b) (nI t) (nI sr) Z.2.2.2.2 (M.1, M.2, Rp s r p) = some (none, (M'.1, M'.2, Rp s r p)) ∧ GD b t m σ i0 l0 (dwn P m (upo P σ t) σ t bar f Z).1 (dwn P m (upo P σ t) σ t bar f Z).2.1 (dwn P m (upo P σ t) σ t bar f Z).2.2.2.1 (fun k => bt (dwn P m (upo P σ t) σ t bar f Z).2.2.1 k = true) M' := by
  have h7 := hw.1.1
  have h8 := hw.1.2.1
  have h3 := hw.1.2.2.1
  intro f
  induction f with
  | zero =>
    intro Z M hx hf hI
    have h0 : Z.2.2.2.2 = 0 := by
      rcases hf with h | h
      · exact h
      · omega
    rw [Mo_goesDown_41_eq, ifc_t h0]
    exact ⟨M, rfl, hI⟩
  | succ f ih =>
    intro Z M hx hf hI
    rw [Mo_goesDown_41_eq]
    unfold dwn
    by_cases h0 : Z.2.2.2.2 = 0
    · rw [ifc_t h0, if_pos h0]
      exact ⟨M, rfl, hI⟩
    · rw [ifc_f h0, if_neg h0]
      have hI2 : GD b t m σ i0 l0 Z.1 Z.2.1 (Z.2.2.2.1 ||| nI 0) (fun k => bt Z.2.2.1 k = true) M := by rw [or_0]; exact hI
      have h := loop_ex (F := fun n (M : (Nat → Nat → Int32) × (Nat → Nat → Int64)) => Mo_goesDown_52 (nI b) (nI t) (nI sr) Z.2.2.2.2 (dnn P m (upo P σ t) σ t bar Z.2.2.2.1 Z.2.2.2.2 (Z.1, Z.2.1, Z.2.2.1, nI 0) n).2.2.2 (nI n) (M.1, M.2, Rp s r p)) (I9 := fun n M => GD b t m σ i0 l0 (dnn P m (upo P σ t) σ t bar Z.2.2.2.1 Z.2.2.2.2 (Z.1, Z.2.1, Z.2.2.1, nI 0) n).1 (dnn P m (upo P σ t) σ t bar Z.2.2.2.1 Z.2.2.2.2 (Z.1, Z.2.1, Z.2.2.1, nI 0) n).2.1 (Z.2.2.2.1 ||| (dnn P m (upo P σ t) σ t bar Z.2.2.2.1 Z.2.2.2.2 (Z.1, Z.2.1, Z.2.2.1, nI 0) n).2.2.2) (fun k => bt (dnn P m (upo P σ t) σ t bar Z.2.2.2.1 Z.2.2.2.2 (Z.1, Z.2.1, Z.2.2.1, nI 0) n).2.2.1 k = true) M) (n := pN P) (fun n M hn hI => by
        have hp0 := dnn_pos (P := P) (m := m) (up := upo P σ t) (σ := σ) (t := t) (bar := bar) (came := Z.2.2.2.1) (rd := Z.2.2.2.2) (S := (Z.1, Z.2.1, Z.2.2.1, nI 0)) hx n
        obtain ⟨M', q0, q1⟩ := gd64_ok (s := s) (r := r) (p := p) (n := n) (rd := Z.2.2.2.2) (came := Z.2.2.2.1) hw hP hM hs hb ht hsr hn hp0 hbar M hI
        refine ⟨M', ?_, q1⟩
        show Mo_goesDown_52 _ _ _ _ _ _ _ = Mo_goesDown_52 _ _ _ _ _ _ _
        rw [Mo_goesDown_52_eq, (PM_qR hw hP hI.2.2.2.2.1).1.1, ifc_t (nI_lt hn (by omega)), q0, Mo_goesDown_64_eq, (PM_qR hw hP q1.2.2.2.2.1).1.2.1, ifc_f (nI_nlt (Nat.le_refl _) (by omega)), nI_add]
        rfl) 0 M (by omega) hI2
      obtain ⟨M', q0, q1⟩ := h
      have hx2 : ¬ (dst1 P m (upo P σ t) σ t bar Z).1 < 0 := by
        have e : (dst1 P m (upo P σ t) σ t bar Z).1 = (dnn P m (upo P σ t) σ t bar Z.2.2.2.1 Z.2.2.2.2 (Z.1, Z.2.1, Z.2.2.1, nI 0) (pN P)).1 := rfl
        rw [e]
        exact dnn_pos (S := (Z.1, Z.2.1, Z.2.2.1, nI 0)) hx _
      have hf2 : (dst1 P m (upo P σ t) σ t bar Z).2.2.2.2 = 0 ∨ fre P (dst1 P m (upo P σ t) σ t bar Z) < f := by
        by_cases h9 : (dst1 P m (upo P σ t) σ t bar Z).2.2.2.2 = 0
        · exact Or.inl h9
        · have := fre_lt (show pN P ≤ 32 by omega) h9
          rcases hf with h | h
          · exact absurd h h0
          · exact Or.inr (by omega)
      obtain ⟨M2, r0, r1⟩ := ih (dst1 P m (upo P σ t) σ t bar Z) M' hx2 hf2 q1
      refine ⟨M2, ?_, r1⟩
      refine (show Mo_goesDown_52 (nI b) (nI t) (nI sr) Z.2.2.2.2 (nI 0) (nI 0) (M.1, M.2, Rp s r p) = _ from q0).trans ?_
      show Mo_goesDown_52 _ _ _ _ _ _ _ = _
      rw [Mo_goesDown_52_eq, (PM_qR hw hP q1.2.2.2.2.1).1.1, ifc_f (nI_nlt (Nat.le_refl _) (by omega))]
      exact r0
theorem goesDown_ok {i : Nat → Nat → Int32} {l : Nat → Nat → Int64} {P : PL} {σ : ST} {b t sr : Nat} {m : MD} {bar x A a1 : Int32} (hw : pwf P) (hP : PM P i) (hM : RM m i) (hs : swf P σ) (hb : b < 2) (ht : t ≤ pS P) (hsr : sr < pS P) (hx : ¬ x < 0) (hd : m.1 = true → l 82 65 = x.toInt64) (hS : SM b (u2 σ 0 11 A) i)
    (hbar : ∀ q, q < 32 → bt bar q = (t == 0 && (bt (σ 1 sr) q && bt (i 121 (1 + sr)) q))) (ha : a1 = nI 1 <<< (rt P t &&& 31)) :
    ∃ j l', Mo_goesDown (nI b) (nI t) (nI sr) (i, l, Rp s r p) = some (none, (j, l', Rp s r p)) ∧ SM b (u2 σ 0 11 (dwn P m (upo P σ t) σ t bar 8 (x, A, nI 0, a1, a1)).2.1) j ∧ j 121 t = (dwn P m (upo P σ t) σ t bar 8 (x, A, nI 0, a1, a1)).2.2.2.1 ∧ (∀ c, c ≠ t → j 121 c = i 121 c) ∧ fr (qR b) i j ∧ (m.1 = true → l' 82 65 = (dwn P m (upo P σ t) σ t bar 8 (x, A, nI 0, a1, a1)).1.toInt64) ∧ fL m l l' := by
  have h7 := hw.1.1
  have h3 := hw.1.2.2.1
  have h0 := upto (fun k => Mo_goesDown_3 (nI b) (nI t) (nI sr) (nI k) (oi i 122 0 k (fun _ => nM 1), l, Rp s r p)) 8 (fun k hk => by
    show Mo_goesDown_3 _ _ _ _ _ = Mo_goesDown_3 _ _ _ _ _
    rw [Mo_goesDown_3_eq]
    simp (disch := omega) only [nI_mul, nI_add, nI_clamp, gd_in, gd_0, gd_1, gd_b, gd_n0, ifc_lt, ifc_eq, ifc_neg, ifc_z, ifc_pos, ifc_b, if_pos, if_neg, crV_t, crI_t, crL_t, ifc_True, ifc_False, if_true, if_false]
    rw [oi_s rfl]) 0 (by omega)
  simp only [oi_00] at h0
  have f0 : fr (qR b) i (oi i 122 0 8 (fun _ => nM 1)) := fr_oi (fun k => by simp [qR])
  have hP0 := PM_qR hw hP f0
  rw [Mo_goesDown_eq, h0, Mo_goesDown_3_eq, ifc_f (by decide), rootOf_ok hw hP0 ht, crI_t]
  simp (disch := omega) only [nI_mul, nI_add, nI_clamp, gd_in, gd_0, gd_1, gd_b, gd_n0, ifc_lt, ifc_eq, ifc_neg, ifc_z, ifc_pos, ifc_b, if_pos, if_neg, crV_t, crI_t, crL_t, ifc_True, ifc_False, if_true, if_false]
  rw [← ha]
  obtain ⟨M', q0, q1, q2, q3, q4, q5, q6, q7⟩ := gdRounds (s := s) (r := r) (p := p) (i0 := i) (l0 := l) (sr := sr) hw hP hM hs hb ht hsr hbar 8 (x, A, nI 0, a1, a1) (u2 (oi i 122 0 8 (fun _ => nM 1)) 121 t a1, l) hx (Or.inr (by have := cnt_le (fun q => !bt a1 q) (pN P); unfold fre; simp only; omega)) ⟨SM_fr hS (fun a h1 h2 => (u2_r (by omega)).trans (oi_c (by omega))), by
      show u2 (oi i 122 0 8 (fun _ => nM 1)) 121 t a1 121 t = a1
      rw [u2_s], fun c hc => by
      show u2 (oi i 122 0 8 (fun _ => nM 1)) 121 t a1 121 c = _
      rw [u2_k hc, oi_c (by decide)], fun k hk => by
      show u2 (oi i 122 0 8 (fun _ => nM 1)) 121 t a1 122 k < 0 ↔ ¬ bt (nI 0) k = true
      rw [u2_i (by decide), oi_0 i 122 _ hk, nI_0, b_0]
      exact ⟨fun _ => by decide, fun _ => nM_neg (by omega) (by omega)⟩, fr_trans f0 (fr_u2 (by simp [qR])), hd, fL_refl _ _⟩
  exact ⟨M'.1, M'.2, q0, q1, q2, q3, q5, q6, q7⟩
end
end

section
/-! who hears, who switches -/
def tms (own sh : Int32) (n : Nat) : Nat := (if bt own n then 1 else 0) + (if bt sh n then 1 else 0)
def he1 (own sh : Int32) (n : Nat) (σ : ST) : ST :=
  if bt (σ 0 7) n then u2 (u2 (u2 σ 2 n (σ 2 n + nI (if 0 < tms own sh n then 1 else 0))) 3 n (σ 3 n + nI (if 1 < tms own sh n then 1 else 0))) 4 n (σ 4 n + nI (if tms own sh n = 0 then 1 else 0)) else σ
def her (own sh : Int32) (σ : ST) : Nat → ST
  | 0 => σ
  | n + 1 => he1 own sh n (her own sh σ n)
theorem her_r {own sh : Int32} {σ : ST} {a : Nat} (h2 : a ≠ 2) (h3 : a ≠ 3) (h4 : a ≠ 4) : ∀ n, her own sh σ n a = σ a
  | 0 => rfl
  | n + 1 => by
    have ih := her_r (own := own) (sh := sh) (σ := σ) h2 h3 h4 n
    have e : her own sh σ (n + 1) = he1 own sh n (her own sh σ n) := rfl
    rw [e]
    unfold he1
    split
    · rw [u2_r h4, u2_r h3, u2_r h2, ih]
    · exact ih
theorem swf_her {P : PL} {own sh : Int32} {σ : ST} (h : swf P σ) : ∀ n, swf P (her own sh σ n)
  | 0 => h
  | n + 1 => by
    have ih := swf_her (own := own) (sh := sh) h n
    have e : her own sh σ (n + 1) = he1 own sh n (her own sh σ n) := rfl
    rw [e]
    unfold he1
    split
    · exact swf_r (by omega) (swf_r (by omega) (swf_r (by omega) ih))
    · exact ih
noncomputable def sw1 (P : PL) (sr : Nat) (came : Int32) (n : Nat) (σ : ST) : ST :=
  if bt (σ 0 7) n && (bt came n && !bt (σ 1 sr) n) then (if lw P 1 (fd P (σ 0 8) (1 + sr)) σ (1 + sr) n = some 0 then σ else u2 σ 1 sr (stb (σ 1 sr) n)) else σ
noncomputable def swo (P : PL) (sr : Nat) (came : Int32) (σ : ST) : Nat → ST
  | 0 => σ
  | n + 1 => sw1 P sr came n (swo P sr came σ n)
theorem swo_r {P : PL} {sr : Nat} {came : Int32} {σ : ST} {a : Nat} (h : a ≠ 1) : ∀ n, swo P sr came σ n a = σ a
  | 0 => rfl
  | n + 1 => by
    have ih := swo_r (P := P) (sr := sr) (came := came) (σ := σ) h n
    have e : swo P sr came σ (n + 1) = sw1 P sr came n (swo P sr came σ n) := rfl
    rw [e]
    unfold sw1
    split
    · split
      · exact ih
      · rw [u2_r h, ih]
    · exact ih
theorem swo_k {P : PL} {sr : Nat} {came : Int32} {σ : ST} {q : Nat} (hq : q < 32) : ∀ n, n ≤ q → bt (swo P sr came σ n 1 sr) q = bt (σ 1 sr) q
  | 0, _ => rfl
  | n + 1, hn => by
    have ih := swo_k (P := P) (sr := sr) (came := came) (σ := σ) hq n (by omega)
    have e : swo P sr came σ (n + 1) = sw1 P sr came n (swo P sr came σ n) := rfl
    rw [e]
    unfold sw1
    split
    · split
      · exact ih
      · rw [u2_s, bt_stb _ (by omega) hq, decide_eq_false (by omega), Bool.or_false, ih]
    · exact ih
theorem swf_swo {P : PL} {sr : Nat} {came : Int32} {σ : ST} (hw : pwf P) (hsr : sr < pS P) (h : swf P σ) : ∀ n, n ≤ pN P → swf P (swo P sr came σ n)
  | 0, _ => h
  | n + 1, hn => by
    have h7 := hw.1.1
    have h3 := hw.1.2.2.1
    have ih := swf_swo (came := came) hw hsr h n (by omega)
    have e : swo P sr came σ (n + 1) = sw1 P sr came n (swo P sr came σ n) := rfl
    rw [e]
    unfold sw1
    split
    · split
      · exact ih
      · refine swf_1 (fun k hk hb => ?_) ih
        rw [bt_stb _ (by omega) hk] at hb
        by_cases e : k = n
        · omega
        · exact ih.2.2.2.2.2.1 sr (by omega) k hk (by simpa [e] using hb)
    · exact ih
theorem ueq_swo {P : PL} {sr : Nat} {came : Int32} {σ : ST} (n : Nat) : ueq (swo P sr came σ n) σ := by
  have e := fun a (h : a ≠ 1) => swo_r (P := P) (sr := sr) (came := came) (σ := σ) h n
  exact ⟨by rw [e 0 (by decide)], by rw [e 0 (by decide)], e 2 (by decide), e 3 (by decide), e 6 (by decide)⟩
theorem bitn (x : Int32) {k : Nat} (hk : k < 32) : (x >>> (nI k &&& 31)) &&& nI 1 = nI (if bt x k then 1 else 0) := by
  rw [bit1 x hk]
  cases bt x k <;> rfl
section
variable {l : Nat → Nat → Int64} {s r p : Nat}
theorem hear_ok {i : Nat → Nat → Int32} {P : PL} {o : Nat} {own sh : Int32} (ho : o = 51 ∨ o = 65) (hp : p = 7 ∨ p = 27) (hw : pwf P) (hP : PC P p i) :
    ∃ j, Course_hear o own sh (i, l, Rp s r p) = some (none, (j, l, Rp s r p)) ∧ vw o j = her own sh (vw o i) (pN P) ∧ ∀ a, a ≠ o + 2 → a ≠ o + 3 → a ≠ o + 4 → j a = i a := by
  have h7 := hw.1.1
  have h := loop_ex (F := fun n (j : Nat → Nat → Int32) => Course_hear_3 o own sh (nI n) (j, l, Rp s r p)) (I9 := fun n j => vw o j = her own sh (vw o i) n ∧ ∀ a, a ≠ o + 2 → a ≠ o + 3 → a ≠ o + 4 → j a = i a) (n := pN P) (fun n j hn hI => by
    obtain ⟨q1, q2⟩ := hI
    show ∃ j', Course_hear_3 o own sh (nI n) (j, l, Rp s r p) = Course_hear_3 o own sh (nI (n + 1)) (j', l, Rp s r p) ∧ _
    have hN : j p 11 = nI (pN P) := by rw [q2 p (by omega) (by omega) (by omega)]; exact hP.1 11 (by omega) (by omega)
    have e : her own sh (vw o i) (n + 1) = he1 own sh n (her own sh (vw o i) n) := rfl
    have htm : (if bt own n = true then 1 else 0) + (if bt sh n = true then 1 else 0) = tms own sh n := rfl
    rw [Course_hear_3_eq _ _ _ _ _ _ _ _ _ ho hp, hN, e, ← q1, ifc_bit _ (by omega), bitn own (by omega), bitn sh (by omega), nI_add, htm]
    have hle : tms own sh n ≤ 2 := by unfold tms; split <;> split <;> omega
    simp (disch := omega) only [nI_mul, nI_add, nI_clamp, gd_in, gd_0, gd_1, gd_b, gd_n0, ifc_lt, ifc_eq, ifc_neg, ifc_z, ifc_pos, ifc_b, if_pos, if_neg, crV_t, crI_t, crL_t, ifc_True, ifc_False, if_true, if_false]
    have e7 : j o 7 = vw o j 0 7 := rfl
    rw [e7]
    unfold he1
    cases hb : bt (vw o j 0 7) n
    · simp only [Bool.false_eq_true, if_false]
      exact ⟨j, rfl, rfl, q2⟩
    · simp only [if_true]
      generalize tms own sh n = tm at hle
      have key : (if 0 < tm then Course_hear_63 o own sh (nI n) (nI tm) (o + 2) (nI n) (j (o + 2) n) (nI 1) (j, l, Rp s r p) else Course_hear_63 o own sh (nI n) (nI tm) (o + 2) (nI n) (j (o + 2) n) (nI 0) (j, l, Rp s r p)) = Course_hear_3 o own sh (nI (n + 1)) (u2 (u2 (u2 j (o + 2) n (j (o + 2) n + nI (if 0 < tm then 1 else 0))) (o + 3) n (j (o + 3) n + nI (if 1 < tm then 1 else 0))) (o + 4) n (j (o + 4) n + nI (if tm = 0 then 1 else 0)), l, Rp s r p) := by
        have e63 : ∀ z, Course_hear_63 o own sh (nI n) (nI tm) (o + 2) (nI n) (j (o + 2) n) (nI z) (j, l, Rp s r p) = Course_hear_3 o own sh (nI (n + 1)) (u2 (u2 (u2 j (o + 2) n (j (o + 2) n + nI z)) (o + 3) n (j (o + 3) n + nI (if 1 < tm then 1 else 0))) (o + 4) n (j (o + 4) n + nI (if tm = 0 then 1 else 0)), l, Rp s r p) := by
          intro z
          rw [Course_hear_63_eq _ _ _ _ _ _ _ _ _ _ _ _ _ ho]
          simp (disch := omega) only [nI_mul, nI_add, nI_clamp, gd_in, gd_0, gd_1, gd_b, gd_n0, ifc_lt, ifc_eq, ifc_neg, ifc_z, ifc_pos, ifc_b, if_pos, if_neg, crV_t, crI_t, crL_t, ifc_True, ifc_False, if_true, if_false]
          rw [Course_hear_84_eq _ _ _ _ _ _ _ _ _ _ _ _ _ ho, Course_hear_84_eq _ _ _ _ _ _ _ _ _ _ _ _ _ ho]
          simp (disch := omega) only [nI_mul, nI_add, nI_clamp, gd_in, gd_0, gd_1, gd_b, gd_n0, ifc_lt, ifc_eq, ifc_neg, ifc_z, ifc_pos, ifc_b, if_pos, if_neg, crV_t, crI_t, crL_t, ifc_True, ifc_False, if_true, if_false, u2_s, u2_i, u2_k]
          rcases (show tm = 0 ∨ tm = 1 ∨ tm = 2 by omega) with rfl | rfl | rfl <;> rfl
        rcases (show tm = 0 ∨ tm = 1 ∨ tm = 2 by omega) with rfl | rfl | rfl
        · exact e63 0
        · exact e63 1
        · exact e63 1
      refine ⟨_, key, ?_, fun a h1 h2 h3 => ?_⟩
      · rw [vw_s, vw_s, vw_s]; rfl
      · rw [u2_r h3, u2_r h2, u2_r h1]; exact q2 a h1 h2 h3) 0 i (by omega) ⟨rfl, fun _ _ _ _ => rfl⟩
  obtain ⟨j, q0, q1, q2⟩ := h
  rw [Course_hear_eq _ _ _ _ _ _ _ _ ho]
  refine ⟨j, q0.trans ?_, q1, q2⟩
  show Course_hear_3 o own sh (nI (pN P)) (j, l, Rp s r p) = _
  have hN : j p 11 = nI (pN P) := by rw [q2 p (by omega) (by omega) (by omega)]; exact hP.1 11 (by omega) (by omega)
  rw [Course_hear_3_eq _ _ _ _ _ _ _ _ _ ho hp, hN, ifc_f (nI_nlt (Nat.le_refl _) (by omega))]
theorem switchOver_ok {i : Nat → Nat → Int32} {P : PL} {o sr : Nat} {came : Int32} (ho : o = 51 ∨ o = 65) (hp : p = 7 ∨ p = 27) (hw : pwf P) (hP : PC P p i) (hs : swf P (vw o i)) (hN : NetOk P i (vw o i 0 8)) (hsr : sr < pS P) :
    ∃ j l', Course_switchOver o (nI sr) came (i, l, Rp s r p) = some (none, (j, l', Rp s r p)) ∧ vw o j = swo P sr came (vw o i) (pN P) ∧ (∀ a, a ≠ o + 1 → j a = i a) ∧ ∀ a, a ≠ 46 → l' a = l a := by
  have h7 := hw.1.1
  have h3 := hw.1.2.2.1
  rw [Course_switchOver_eq _ _ _ _ _ _ _ _ ho]
  simp (disch := omega) only [nI_mul, nI_add, nI_clamp, gd_in, gd_0, gd_1, gd_b, gd_n0, ifc_lt, ifc_eq, ifc_neg, ifc_z, ifc_pos, ifc_b, if_pos, if_neg, crV_t, crI_t, crL_t, ifc_True, ifc_False, if_true, if_false]
  have hask : ∀ q, q < 32 → bt (i o 7 &&& came &&& (i (o + 1) sr ^^^ nM 1)) q = (bt (vw o i 0 7) q && (bt came q && !bt (vw o i 1 sr) q)) := fun q hq => by
    rw [b_and, b_and, b_xor, bt_nM1 hq]
    show (bt (vw o i 0 7) q && bt came q && (bt (vw o i 1 sr) q ^^ true)) = _
    cases bt (vw o i 0 7) q <;> cases bt came q <;> cases bt (vw o i 1 sr) q <;> rfl
  generalize i o 7 &&& came &&& (i (o + 1) sr ^^^ nM 1) = ask at *
  have h := loop_ex (F := fun n (M : (Nat → Nat → Int32) × (Nat → Nat → Int64)) => Course_switchOver_20 o (nI sr) ask (nI n) (M.1, M.2, Rp s r p)) (I9 := fun n M => vw o M.1 = swo P sr came (vw o i) n ∧ (∀ a, a ≠ o + 1 → M.1 a = i a) ∧ ∀ a, a ≠ 46 → M.2 a = l a) (n := pN P) (fun n M hn hI => by
    obtain ⟨j, lj⟩ := M
    obtain ⟨q1, q2, q3⟩ := hI
    simp only at q1 q2 q3
    show ∃ M' : (Nat → Nat → Int32) × (Nat → Nat → Int64), Course_switchOver_20 o (nI sr) ask (nI n) (j, lj, Rp s r p) = Course_switchOver_20 o (nI sr) ask (nI (n + 1)) (M'.1, M'.2, Rp s r p) ∧ _
    have hPj : PC P p j := PC_fr hP (fun a ha => q2 _ (by omega))
    have hNj : NetOk P j (vw o j 0 8) := by
      have e8 : vw o j 0 8 = vw o i 0 8 := by rw [q1, swo_r (by decide)]
      rw [e8]
      intro t n ht hn
      unfold NR
      rw [q2 43 (by omega), q2 44 (by omega), q2 45 (by omega)]
      exact hN t n ht hn
    have hsj : swf P (vw o j) := by rw [q1]; exact swf_swo hw hsr hs n (by omega)
    have e : swo P sr came (vw o i) (n + 1) = sw1 P sr came n (swo P sr came (vw o i) n) := rfl
    rw [Course_switchOver_20_eq _ _ _ _ _ _ _ _ _ ho hp, show j p 11 = nI (pN P) from hPj.1 11 (by omega) (by omega), e, ← q1]
    simp (disch := omega) only [nI_mul, nI_add, nI_clamp, gd_in, gd_0, gd_1, gd_b, gd_n0, ifc_lt, ifc_eq, ifc_neg, ifc_z, ifc_pos, ifc_b, if_pos, if_neg, crV_t, crI_t, crL_t, ifc_True, ifc_False, if_true, if_false, ifc_bit]
    have hb0 : bt (vw o j 0 7) n = bt (vw o i 0 7) n := by rw [q1, swo_r (by decide)]
    have hb1 : bt (vw o j 1 sr) n = bt (vw o i 1 sr) n := by rw [q1]; exact swo_k (by omega) n (Nat.le_refl _)
    rw [hask n (by omega)]
    unfold sw1
    rw [hb0, hb1]
    cases hc : (bt (vw o i 0 7) n && (bt came n && !bt (vw o i 1 sr) n))
    · simp only [Bool.false_eq_true, if_false]
      exact ⟨(j, lj), rfl, rfl, q2, q3⟩
    · simp only [if_true]
      obtain ⟨l2, w1, w2⟩ := work_P (l := lj) (s := s) (r := r) (w := 1) (t := sr + 1) (n := n) ho hp hw hPj hsj (by omega) (by omega) hn hNj
      rw [show nI 14 = nI (13 + 1) from rfl, w1, crL_t, ifc_l0]
      have el : lw P 1 (fd P (vw o j 0 8) (sr + 1)) (fun a => j (o + a)) (sr + 1) n = lw P 1 (fd P (vw o j 0 8) (1 + sr)) (vw o j) (1 + sr) n := by rw [Nat.add_comm sr 1]; rfl
      rw [el]
      have fl : ∀ a, a ≠ 46 → l2 a = l a := fun a ha => (w2 a ha).trans (q3 a ha)
      have sw : ∃ M' : (Nat → Nat → Int32) × (Nat → Nat → Int64), Course_switchOver_20 o (nI sr) ask (nI (n + 1)) (u2 j (o + 1) sr (j (o + 1) sr ||| nI 1 <<< (nI n &&& 31)), l2, Rp s r p) = Course_switchOver_20 o (nI sr) ask (nI (n + 1)) (M'.1, M'.2, Rp s r p) ∧ vw o M'.1 = u2 (vw o j) 1 sr (stb (vw o j 1 sr) n) ∧ (∀ a, a ≠ o + 1 → M'.1 a = i a) ∧ ∀ a, a ≠ 46 → M'.2 a = l a := ⟨(u2 j (o + 1) sr (j (o + 1) sr ||| nI 1 <<< (nI n &&& 31)), l2), rfl, vw_s, fun a ha => (u2_r ha).trans (q2 a ha), fl⟩
      cases hlw : lw P 1 (fd P (vw o j 0 8) (1 + sr)) (vw o j) (1 + sr) n with
      | none =>
        rw [if_neg (show ¬ (none : Option Int64).getD (lN 9223372036854775808) = 0 by decide), if_neg (by simp)]
        exact sw
      | some v =>
        show ∃ M' : (Nat → Nat → Int32) × (Nat → Nat → Int64), (if v = 0 then _ else _) = _ ∧ _
        by_cases hv : v = 0
        · rw [if_pos hv, if_pos (by rw [hv])]
          exact ⟨(j, l2), rfl, rfl, q2, fl⟩
        · rw [if_neg hv, if_neg (fun h => hv (Option.some.inj h))]
          exact sw) 0 (i, l) (by omega) ⟨rfl, fun _ _ => rfl, fun _ _ => rfl⟩
  obtain ⟨M', q0, q1, q2, q3⟩ := h
  refine ⟨M'.1, M'.2, q0.trans ?_, q1, q2, q3⟩
  show Course_switchOver_20 o (nI sr) ask (nI (pN P)) (M'.1, M'.2, Rp s r p) = _
  have hN : M'.1 p 11 = nI (pN P) := by rw [q2 p (by omega)]; exact hP.1 11 (by omega) (by omega)
  rw [Course_switchOver_20_eq _ _ _ _ _ _ _ _ _ ho hp, hN, ifc_f (nI_nlt (Nat.le_refl _) (by omega))]
end
end

section
/-! a packet: pure, and the component's -/
def rtb (P : PL) (t : Nat) : Int32 := nI 1 <<< (rt P t &&& 31)
noncomputable def pd1 (P : PL) (m : MD) (σ : ST) (sr : Nat) : RnS := dwn P m (upo P σ (1 + sr)) σ (1 + sr) (nI 0) 8 (σ 0 12, σ 0 11, nI 0, rtb P (1 + sr), rtb P (1 + sr))
noncomputable def pOwn (P : PL) (m : MD) (σ : ST) (sr : Nat) : Int32 := (pd1 P m σ sr).2.2.2.1
noncomputable def pReg (P : PL) (m : MD) (σ : ST) (sr : Nat) : Bool := !bt (pOwn P m σ sr) (pM P) && decide (fd P (σ 0 8) (1 + sr) (pM P) < 99)
noncomputable def pThr (P : PL) (m : MD) (σ : ST) (sr : Nat) : Bool := bt (pOwn P m σ sr) (pM P) || decide (fd P (σ 0 8) (1 + sr) (pM P) < 99)
noncomputable def pd2 (P : PL) (m : MD) (σ : ST) (sr : Nat) : RnS := if pThr P m σ sr then dwn P m (upo P σ 0) σ 0 (pOwn P m σ sr &&& σ 1 sr) 8 ((pd1 P m σ sr).1, (pd1 P m σ sr).2.1, nI 0, rtb P 0, rtb P 0) else ((pd1 P m σ sr).1, (pd1 P m σ sr).2.1, nI 0, nI 0, nI 0)
noncomputable def pSh (P : PL) (m : MD) (σ : ST) (sr : Nat) : Int32 := (pd2 P m σ sr).2.2.2.1
noncomputable def pS9 (P : PL) (m : MD) (σ : ST) (sr : Nat) : ST := if pReg P m σ sr then u2 σ 0 9 (σ 0 9 + nI 1) else σ
noncomputable def pS2 (P : PL) (m : MD) (σ : ST) (sr : Nat) : ST := u2 (u2 (pS9 P m σ sr) 0 11 (pd2 P m σ sr).2.1) 0 12 (pd2 P m σ sr).1
noncomputable def pS3 (P : PL) (m : MD) (σ : ST) (sr : Nat) : ST := her (pOwn P m σ sr) (pSh P m σ sr) (pS2 P m σ sr) (pN P)
noncomputable def pkt (P : PL) (m : MD) (σ : ST) (sr : Nat) : ST := if m.2.2.1 = 1 then pS3 P m σ sr else swo P sr (pSh P m σ sr) (pS3 P m σ sr) (pN P)
noncomputable def pkb (P : PL) (m : MD) (σ : ST) (sr : Nat) : Int32 := σ 0 7 &&& (pOwn P m σ sr ||| pSh P m σ sr)
theorem dnn_cg {P : PL} {m : MD} {up : Nat → Option (Nat × Nat)} {σ τ : ST} {t : Nat} {bar came rd : Int32} {S : DnS} (h : ∀ n, onl σ t n = onl τ t n) : ∀ n, dnn P m up σ t bar came rd S n = dnn P m up τ t bar came rd S n
  | 0 => rfl
  | n + 1 => by
    have ih := dnn_cg (P := P) (m := m) (up := up) (bar := bar) (came := came) (rd := rd) (S := S) h n
    show dn1 P m up σ t bar came rd n (dnn P m up σ t bar came rd S n) = dn1 P m up τ t bar came rd n (dnn P m up τ t bar came rd S n)
    rw [ih]
    unfold dn1
    rw [h n]
theorem dwn_cg {P : PL} {m : MD} {up : Nat → Option (Nat × Nat)} {σ τ : ST} {t : Nat} {bar : Int32} (h : ∀ n, onl σ t n = onl τ t n) : ∀ f Z, dwn P m up σ t bar f Z = dwn P m up τ t bar f Z
  | 0, Z => rfl
  | f + 1, Z => by
    unfold dwn
    have e : dst1 P m up σ t bar Z = dst1 P m up τ t bar Z := by
      unfold dst1
      rw [dnn_cg h]
    rw [e]
    split
    · rfl
    · exact dwn_cg h f _
theorem pd1_pos {P : PL} {m : MD} {σ : ST} {sr : Nat} (h : ¬ σ 0 12 < 0) : ¬ (pd1 P m σ sr).1 < 0 := by
  unfold pd1
  exact dwn_pos 8 (σ 0 12, σ 0 11, nI 0, rtb P (1 + sr), rtb P (1 + sr)) h
theorem pd2_pos {P : PL} {m : MD} {σ : ST} {sr : Nat} (h : ¬ σ 0 12 < 0) : ¬ (pd2 P m σ sr).1 < 0 := by
  unfold pd2
  split
  · exact dwn_pos 8 ((pd1 P m σ sr).1, (pd1 P m σ sr).2.1, nI 0, rtb P 0, rtb P 0) (pd1_pos h)
  · exact pd1_pos h
theorem swf_pS9 {P : PL} {m : MD} {σ : ST} {sr : Nat} (h : swf P σ) : swf P (pS9 P m σ sr) := by
  unfold pS9
  split
  · exact swf_0 (by decide) (by decide) (by decide) h
  · exact h
theorem swf_pS2 {P : PL} {m : MD} {σ : ST} {sr : Nat} (h : swf P σ) : swf P (pS2 P m σ sr) := by
  unfold pS2
  exact swf_12 (pd2_pos h.2.2.2.2.2.2) (swf_0 (by decide) (by decide) (by decide) (swf_pS9 h))
theorem swf_pkt {P : PL} {m : MD} {σ : ST} {sr : Nat} (hw : pwf P) (hsr : sr < pS P) (h : swf P σ) : swf P (pkt P m σ sr) := by
  have h3 : swf P (pS3 P m σ sr) := by
    unfold pS3
    exact swf_her (swf_pS2 h) _
  unfold pkt
  split
  · exact h3
  · exact swf_swo hw hsr h3 _ (Nat.le_refl _)
theorem pS2_r {P : PL} {m : MD} {σ : ST} {sr a : Nat} (h : a ≠ 0) : pS2 P m σ sr a = σ a := by
  unfold pS2 pS9
  rw [u2_r h, u2_r h]
  split
  · exact u2_r h
  · rfl
theorem pS2_0 {P : PL} {m : MD} {σ : ST} {sr k : Nat} (h9 : k ≠ 9) (h11 : k ≠ 11) (h12 : k ≠ 12) : pS2 P m σ sr 0 k = σ 0 k := by
  unfold pS2 pS9
  rw [u2_k h12, u2_k h11]
  split
  · exact u2_k h9
  · rfl
theorem pS3_0 {P : PL} {m : MD} {σ : ST} {sr k : Nat} (h9 : k ≠ 9) (h11 : k ≠ 11) (h12 : k ≠ 12) : pS3 P m σ sr 0 k = σ 0 k := by
  unfold pS3
  rw [her_r (by decide) (by decide) (by decide)]
  exact pS2_0 h9 h11 h12
theorem pkt_0 {P : PL} {m : MD} {σ : ST} {sr k : Nat} (h9 : k ≠ 9) (h11 : k ≠ 11) (h12 : k ≠ 12) : pkt P m σ sr 0 k = σ 0 k := by
  unfold pkt
  split
  · exact pS3_0 h9 h11 h12
  · rw [swo_r (by decide)]
    exact pS3_0 h9 h11 h12
theorem upB_upo {P : PL} {σ : ST} {t : Nat} : upB (pN P) (pL P) (upo P σ t) := fun q u _ h => ⟨(upo_some h).1, (upo_some h).2.1⟩
theorem mX_s9 {i : Nat → Nat → Int32} {o : Nat} {A x y : Int32} : u2 (mX i o A x) o 9 y = mX (u2 i o 9 y) o A x := by
  unfold mX
  rw [u2_ck (show 12 ≠ 9 by decide), u2_ck (show 11 ≠ 9 by decide)]
theorem vw_mX {i : Nat → Nat → Int32} {o : Nat} {A x : Int32} : vw o (mX i o A x) = u2 (u2 (vw o i) 0 11 A) 0 12 x := by
  unfold mX
  rw [vw_0, vw_0]
section
variable {s r p : Nat}
theorem cpacket_ok {i : Nat → Nat → Int32} {l : Nat → Nat → Int64} {P : PL} {o sr : Nat} {m : MD} (ho : o = 51 ∨ o = 65) (hp : p = 7 ∨ p = 27) (hw : pwf P) (hP : PC P p i) (hm : m.2.2.1 ≤ 5) (hM : CM m i) (hs : swf P (vw o i)) (hN : NetOk P i (vw o i 0 8)) (hsr : sr < pS P) :
    ∃ j l', Course_packet o (nI sr) (i, l, Rp s r p) = some (some (.int (pkb P m (vw o i) sr)), (j, l', Rp s r p)) ∧ vw o j = pkt P m (vw o i) sr ∧ fr (qD o) i j ∧ ∀ a, a ≠ 46 → l' a = l a := by
  have h7 := hw.1.1
  have h8 := hw.1.2.1
  have h3 := hw.1.2.2.1
  have hNp : 0 < pN P := by have := hw.2.2.2.2.2.1 sr hsr; omega
  have hpm : pM P < pN P := by have := hw.2.1; omega
  have hM16 : i p 16 = nI (pM P) := hP.1 16 (by omega) (by omega)
  rw [Course_packet_eq _ _ _ _ _ _ _ ho hp, hM16, nI_add]
  have h := loop_ex (F := fun n (M : (Nat → Nat → Int32) × (Nat → Nat → Int64)) => Course_packet_19 o (nI sr) (nI (sr + 1)) (nI (pM P)) (nI n) (M.1, M.2, Rp s r p)) (I9 := fun n M => (∀ a, a ≠ 49 → a ≠ 50 → M.1 a = i a) ∧ (∀ q, q < n → M.1 49 q = upc (upo P (vw o i) (1 + sr) q) ∧ M.1 50 q = upc (upo P (vw o i) 0 q)) ∧ ∀ a, a ≠ 46 → M.2 a = l a) (n := pN P) (fun n M hn hI => by
    obtain ⟨j, lj⟩ := M
    obtain ⟨q1, q2, q3⟩ := hI
    simp only at q1 q2 q3
    show ∃ M' : (Nat → Nat → Int32) × (Nat → Nat → Int64), Course_packet_19 o (nI sr) (nI (sr + 1)) (nI (pM P)) (nI n) (j, lj, Rp s r p) = Course_packet_19 o (nI sr) (nI (sr + 1)) (nI (pM P)) (nI (n + 1)) (M'.1, M'.2, Rp s r p) ∧ _
    have hv : ∀ f : Nat → Nat → Int32, (∀ a, a ≠ 49 → a ≠ 50 → f a = i a) → vw o f = vw o i := fun f hf => funext fun a => hf (o + a) (by omega) (by omega)
    have hPf : ∀ f : Nat → Nat → Int32, (∀ a, a ≠ 49 → a ≠ 50 → f a = i a) → PC P p f := fun f hf => PC_fr hP (fun a ha => hf _ (by omega) (by omega))
    have hNf : ∀ f : Nat → Nat → Int32, (∀ a, a ≠ 49 → a ≠ 50 → f a = i a) → NetOk P f (vw o i 0 8) := fun f hf t n ht hn => by
      unfold NR
      rw [hf 43 (by decide) (by decide), hf 44 (by decide) (by decide), hf 45 (by decide) (by decide)]
      exact hN t n ht hn
    have clm : ∀ (f : Nat → Nat → Int32) (lf : Nat → Nat → Int64) t, t ≤ pS P → (∀ a, a ≠ 49 → a ≠ 50 → f a = i a) → ∃ l', Net_climb o (nI t) (nI n) (f, lf, Rp s r p) = some (some (.int (upc (upo P (vw o i) t n))), (f, l', Rp s r p)) ∧ ∀ a, a ≠ 46 → l' a = lf a := by
      intro f lf t ht hf
      have h1 := climb_ok (i := f) (l := lf) (s := s) (r := r) (n := n) ho hp hw (hPf f hf) (show swf P (vw o f) by rw [hv f hf]; exact hs) ht hn (hNf f hf)
      have e : (fun a => f (o + a)) = vw o i := hv f hf
      rw [e] at h1
      exact h1
    obtain ⟨l2, c1, c2⟩ := clm j lj (sr + 1) (by omega) q1
    rw [Course_packet_19_eq _ _ _ _ _ _ _ _ _ _ ho hp, show j p 11 = nI (pN P) from (hPf j q1).1 11 (by omega) (by omega), ifc_t (nI_lt hn (by omega)), c1, crI_t]
    simp (disch := omega) only [nI_mul, nI_add, nI_clamp, gd_in, gd_0, gd_1, gd_b, gd_n0, ifc_lt, ifc_eq, ifc_neg, ifc_z, ifc_pos, ifc_b, if_pos, if_neg, crV_t, crI_t, crL_t, ifc_True, ifc_False, if_true, if_false]
    have q1' : ∀ a, a ≠ 49 → a ≠ 50 → u2 j 49 n (upc (upo P (vw o i) (sr + 1) n)) a = i a := fun a h1 h2 => (u2_r h1).trans (q1 a h1 h2)
    obtain ⟨l3, d1, d2⟩ := clm _ l2 0 (by omega) q1'
    rw [d1, crI_t]
    refine ⟨(u2 (u2 j 49 n (upc (upo P (vw o i) (sr + 1) n))) 50 n (upc (upo P (vw o i) 0 n)), l3), rfl, fun a h1 h2 => (u2_r h2).trans (q1' a h1 h2), fun q hq => ?_, fun a ha => (d2 a ha).trans ((c2 a ha).trans (q3 a ha))⟩
    show u2 (u2 j 49 n (upc (upo P (vw o i) (sr + 1) n))) 50 n (upc (upo P (vw o i) 0 n)) 49 q = _ ∧ u2 (u2 j 49 n (upc (upo P (vw o i) (sr + 1) n))) 50 n (upc (upo P (vw o i) 0 n)) 50 q = _
    by_cases e : q = n
    · subst e
      rw [u2_i (by decide), u2_s, u2_s, Nat.add_comm sr 1]
      exact ⟨rfl, rfl⟩
    · rw [u2_i (by decide), u2_k e, u2_k e, u2_i (by decide)]
      exact q2 q (by omega)) 0 (i, l) (by omega) ⟨fun _ _ _ => rfl, fun q hq => by omega, fun _ _ => rfl⟩
  obtain ⟨⟨j, lj⟩, q0, q1, q2, q3⟩ := h
  simp only at q1 q2 q3
  have q0' : Course_packet_19 o (nI sr) (nI (sr + 1)) (nI (pM P)) (nI 0) (i, l, Rp s r p) = Course_packet_19 o (nI sr) (nI (sr + 1)) (nI (pM P)) (nI (pN P)) (j, lj, Rp s r p) := q0
  rw [q0']
  have hv : vw o j = vw o i := funext fun a => q1 (o + a) (by omega) (by omega)
  have hPj : PC P p j := PC_fr hP (fun a ha => q1 _ (by omega) (by omega))
  have hMj : CM m j := by unfold CM; rw [q1 47 (by decide) (by decide)]; exact hM
  have fj : fr (qD o) i j := fun a k hq => by
    have h1 : a ≠ 49 := fun e => by subst e; simp [qD] at hq
    have h2 : a ≠ 50 := fun e => by subst e; simp [qD] at hq
    rw [q1 a h1 h2]
  generalize hσ : vw o i = σ at *
  have eo : ∀ k, j o k = σ 0 k := fun k => by rw [← hv]; rfl
  have hd1 := down_ok (i := j) (l := lj) (s := s) (r := r) (m := m) (up := upo P σ (1 + sr)) (t := 1 + sr) (bar := nI 0) (A := j o 11) (x := j o 12) (a1 := rtb P (1 + sr)) (o4 := 49) ho (Or.inl rfl) hp hw hPj hm hMj (by rw [hv]; exact hs) (by omega) upB_upo (fun q hq => (q2 q hq).1) rfl
  rw [mX_self, hv, eo 11, eo 12] at hd1
  have hd1' : dwn P m (upo P σ (1 + sr)) σ (1 + sr) (nI 0) 8 (σ 0 12, σ 0 11, nI 0, rtb P (1 + sr), rtb P (1 + sr)) = pd1 P m σ sr := rfl
  rw [hd1'] at hd1
  rw [Course_packet_19_eq _ _ _ _ _ _ _ _ _ _ ho hp, show j p 11 = nI (pN P) from hPj.1 11 (by omega) (by omega), ifc_f (nI_nlt (Nat.le_refl _) (by omega)), show nI (sr + 1) = nI (1 + sr) by rw [Nat.add_comm], hd1, crI_t, ifc_bit _ (by omega)]
  have hOwn : (pd1 P m σ sr).2.2.2.1 = pOwn P m σ sr := rfl
  rw [hOwn]
  -- the tail: from packet_172 on
  have tail : ∀ (f : Nat → Nat → Int32), fr (qD o) i f → vw o f = pS2 P m σ sr → ∃ j' l', Course_packet_172 o (nI sr) (pOwn P m σ sr) (pSh P m σ sr) (f, lj, Rp s r p) = some (some (.int (pkb P m σ sr)), (j', l', Rp s r p)) ∧ vw o j' = pkt P m σ sr ∧ fr (qD o) i j' ∧ ∀ a, a ≠ 46 → l' a = l a := by
    intro f hf hvf
    have hPf := PC_qC ho hp hP (fr_DC hf)
    have hMf := CM_qC ho hM (fr_DC hf)
    obtain ⟨g, g0, g1, g2⟩ := hear_ok (i := f) (l := lj) (s := s) (r := r) (own := pOwn P m σ sr) (sh := pSh P m σ sr) ho hp hw hPf
    rw [hvf] at g1
    have g1' : vw o g = pS3 P m σ sr := g1
    have fg : fr (qD o) i g := fr_trans hf (fun a k hq => by
      have e : ∀ c, c < 7 → a ≠ o + c := fun c hc e => by rw [e, qD_s hc] at hq; exact absurd hq (by decide)
      rw [g2 a (e 2 (by omega)) (e 3 (by omega)) (e 4 (by omega))])
    have hMg := CM_qC ho hM (fr_DC fg)
    have e7 : g o 7 = σ 0 7 := by
      have : vw o g 0 7 = σ 0 7 := by rw [g1']; exact pS3_0 (by decide) (by decide) (by decide)
      exact this
    rw [Course_packet_172_eq _ _ _ _ _ _ _ _ _ ho, g0, crV_t]
    unfold pkt
    by_cases ht1 : m.2.2.1 = 1
    · rw [ifc_t ((tr_eq hm hMg (by omega)).mpr ht1), if_pos ht1, e7]
      exact ⟨g, lj, rfl, g1', fg, q3⟩
    · rw [ifc_f (fun h => ht1 ((tr_eq hm hMg (by omega)).mp h)), if_neg ht1]
      have hsg : swf P (vw o g) := by rw [g1']; unfold pS3; exact swf_her (swf_pS2 hs) _
      have h08 : vw o g 0 8 = σ 0 8 := by rw [g1']; exact pS3_0 (by decide) (by decide) (by decide)
      obtain ⟨g3, l3, w0, w1, w2, w3⟩ := switchOver_ok (i := g) (l := lj) (s := s) (r := r) (sr := sr) (came := pSh P m σ sr) ho hp hw (PC_qC ho hp hP (fr_DC fg)) hsg (by rw [h08]; exact NetOk_D ho hN fg) hsr
      rw [w0, crV_t]
      refine ⟨g3, l3, ?_, by rw [w1, g1'], fr_trans fg (fun a k hq => ?_), fun a ha => (w3 a ha).trans (q3 a ha)⟩
      · rw [w2 o (by omega), e7]; rfl
      · have e : a ≠ o + 1 := fun e => by rw [e, qD_s (by omega)] at hq; exact absurd hq (by decide)
        rw [w2 a e]
  have fX : ∀ (f : Nat → Nat → Int32) A x, fr (qD o) i f → fr (qD o) i (mX f o A x) := fun f A x hf => fr_trans hf (fun a k hq => by
    have e : a ≠ o := fun e => by
      have h0 := qD_s (o := o) (a := 0) (k := k) (by omega)
      rw [Nat.add_zero] at h0
      rw [e, h0] at hq; exact absurd hq (by decide)
    rw [mX_r e])
  have k144 : ∀ (f : Nat → Nat → Int32), fr (qD o) i f → vw o f = pS9 P m σ sr → (∀ q, q < pN P → f 50 q = upc (upo P σ 0 q)) → ∃ j' l', Course_packet_144 o (nI sr) (pOwn P m σ sr) (nI (pThr P m σ sr).toNat) (mX f o (pd1 P m σ sr).2.1 (pd1 P m σ sr).1, lj, Rp s r p) = some (some (.int (pkb P m σ sr)), (j', l', Rp s r p)) ∧ vw o j' = pkt P m σ sr ∧ fr (qD o) i j' ∧ ∀ a, a ≠ 46 → l' a = l a := by
    intro f hf hvf hf50
    have hs9 : swf P (vw o f) := by rw [hvf]; exact swf_pS9 hs
    rw [Course_packet_144_eq _ _ _ _ _ _ _ _ _ ho, ifc_b]
    cases hth : pThr P m σ sr
    · simp only [Bool.false_eq_true, if_false]
      have e2 : pd2 P m σ sr = ((pd1 P m σ sr).1, (pd1 P m σ sr).2.1, nI 0, nI 0, nI 0) := by unfold pd2; rw [hth]; rfl
      have hsh : pSh P m σ sr = nI 0 := by unfold pSh; rw [e2]
      have ht := tail (mX f o (pd1 P m σ sr).2.1 (pd1 P m σ sr).1) (fX _ _ _ hf) (by rw [vw_mX, hvf]; unfold pS2; rw [e2])
      rw [hsh] at ht
      exact ht
    · simp only [if_true]
      have e2 : pd2 P m σ sr = dwn P m (upo P σ 0) σ 0 (pOwn P m σ sr &&& σ 1 sr) 8 ((pd1 P m σ sr).1, (pd1 P m σ sr).2.1, nI 0, rtb P 0, rtb P 0) := by unfold pd2; rw [hth]; rfl
      have hd2 := down_ok (i := f) (l := lj) (s := s) (r := r) (m := m) (up := upo P σ 0) (t := 0) (bar := pOwn P m σ sr &&& σ 1 sr) (A := (pd1 P m σ sr).2.1) (x := (pd1 P m σ sr).1) (a1 := rtb P 0) (o4 := 50) ho (Or.inr rfl) hp hw (PC_qC ho hp hP (fr_DC hf)) hm (CM_qC ho hM (fr_DC hf)) hs9 (by omega) upB_upo hf50 rfl
      have hcg : ∀ n, onl (vw o f) 0 n = onl σ 0 n := fun n => by
        rw [hvf]
        unfold onl pS9
        split
        · rw [u2_i (by decide), u2_k (by decide)]
        · rfl
      rw [dwn_cg hcg, ← e2] at hd2
      simp (disch := omega) only [nI_mul, nI_add, nI_clamp, gd_in, gd_0, gd_1, gd_b, gd_n0, ifc_lt, ifc_eq, ifc_neg, ifc_z, ifc_pos, ifc_b, if_pos, if_neg, crV_t, crI_t, crL_t, ifc_True, ifc_False, if_true, if_false]
      have e1 : mX f o (pd1 P m σ sr).2.1 (pd1 P m σ sr).1 (o + 1) sr = σ 1 sr := by
        rw [mX_r (by omega)]
        have : vw o f 1 sr = σ 1 sr := by
          rw [hvf]
          unfold pS9
          split
          · exact u2_i (by decide)
          · rfl
        exact this
      rw [e1, hd2, crI_t]
      exact tail (mX f o (pd2 P m σ sr).2.1 (pd2 P m σ sr).1) (fX _ _ _ hf) (by rw [vw_mX, hvf]; rfl)
  -- whether it is registered
  have e43 : mX j o (pd1 P m σ sr).2.1 (pd1 P m σ sr).1 43 ((1 + sr) * 7 + pM P) = nI (fd P (σ 0 8) (1 + sr) (pM P)) := by
    rw [mX_r (by omega), q1 43 (by decide) (by decide), show (1 + sr) * 7 + pM P = 7 * (1 + sr) + pM P by omega]
    exact (hN (1 + sr) (pM P) (by omega) hpm).1
  have hf99 := fd_99 P (σ 0 8) (1 + sr) (pM P)
  cases hbo : bt (pOwn P m σ sr) (pM P)
  · simp only [Bool.false_eq_true, if_false]
    rw [Course_packet_104_eq _ _ _ _ _ _ _ _ _ _ _ ho]
    simp (disch := omega) only [nI_mul, nI_add, nI_clamp, gd_in, ifc_z, if_pos, e43]
    rw [ifc_lt (by omega) (by omega)]
    by_cases h99 : fd P (σ 0 8) (1 + sr) (pM P) < 99
    · rw [if_pos h99, mX_k (by decide) (by decide), eo 9, mX_s9]
      have hr : pReg P m σ sr = true := by unfold pReg; rw [hbo, decide_eq_true h99]; rfl
      have ht : pThr P m σ sr = true := by unfold pThr; rw [decide_eq_true h99, Bool.or_true]
      have hk := k144 (u2 j o 9 (σ 0 9 + nI 1)) (fr_trans fj (fr_u2 (qD_s (a := 0) (by omega)))) (by rw [vw_0, hv]; unfold pS9; rw [hr]; rfl) (fun q hq => by rw [u2_i (by omega)]; exact (q2 q hq).2)
      rw [ht] at hk
      exact hk
    · rw [if_neg h99]
      have hr : pReg P m σ sr = false := by unfold pReg; rw [decide_eq_false h99, Bool.and_false]
      have ht : pThr P m σ sr = false := by unfold pThr; rw [hbo, decide_eq_false h99]; rfl
      have hk := k144 j fj (by rw [hv]; unfold pS9; rw [hr]; rfl) (fun q hq => (q2 q hq).2)
      rw [ht] at hk
      exact hk
  · simp only [if_true]
    rw [Course_packet_104_eq _ _ _ _ _ _ _ _ _ _ _ ho, ifc_z (by omega), if_neg (by decide)]
    have hr : pReg P m σ sr = false := by unfold pReg; rw [hbo]; rfl
    have ht : pThr P m σ sr = true := by unfold pThr; rw [hbo]; rfl
    have hk := k144 j fj (by rw [hv]; unfold pS9; rw [hr]; rfl) (fun q hq => (q2 q hq).2)
    rw [ht] at hk
    exact hk
end
end

section
/-! a packet: the reference's -/
section
variable {s r p : Nat}
theorem flw_ok {i : Nat → Nat → Int32} {l : Nat → Nat → Int64} {P : PL} {σ : ST} {b t n w : Nat} (hw : pwf P) (hP : PM P i) (hs : swf P σ) (hS : SM b σ i) (hc : i 82 73 = nM 1) (hb : b < 2) (ht : t ≤ pS P) (hn : n < pN P) (hw3 : w < 3) (htl : tld P w = true) :
    ∃ l2 l3 v, Mo_farOf (nI b) (nI t) (nI n) (i, l, Rp s r p) = some (some (.int (nI (fd P (σ 0 8) t n))), (ov i 119 0 7 (fd P (σ 0 8) t), l, Rp s r p)) ∧ Mo_lay (nI b) (nI t) (nI n) (nI (fd P (σ 0 8) t n)) (ov i 119 0 7 (fd P (σ 0 8) t), l, Rp s r p) = some (none, (ov i 119 0 7 (fd P (σ 0 8) t), l2, Rp s r p)) ∧
      Mo_lawOf (nI w) (ov i 119 0 7 (fd P (σ 0 8) t), l2, Rp s r p) = some (some (.long v), (u2 (ov i 119 0 7 (fd P (σ 0 8) t)) 82 53 (nI (lw P w (fd P (σ 0 8) t) σ t n).isNone.toNat), l3, Rp s r p)) ∧ v = (lw P w (fd P (σ 0 8) t) σ t n).getD 0 ∧ (∀ a, a ≠ 106 → a ≠ 107 → l3 a = l a) ∧ (∀ x, fr qW i (u2 (ov i 119 0 7 (fd P (σ 0 8) t)) 82 53 x)) := by
  have h7 := hw.1.1
  have h3 := hw.1.2.2.1
  have hfo : fr qW i (ov i 119 0 7 (fd P (σ 0 8) t)) := fr_ov (fun k => rfl)
  have hPO : PM P (ov i 119 0 7 (fd P (σ 0 8) t)) := PM_fr hw hP (fun a k h => hfo a k (qW_PM h))
  have hSO : SM b σ (ov i 119 0 7 (fd P (σ 0 8) t)) := SM_fr hS (fun a h1 h2 => ov_c (by omega))
  obtain ⟨l2, a1, a2, a3⟩ := lay_ok (l := l) (s := s) (r := r) (p := p) (D := fd P (σ 0 8) t) (f := fd P (σ 0 8) t n) hw hPO hs hSO hb (show t < 4 by omega) (show n < 7 by omega) rfl (fd_99 _ _ _ _)
  obtain ⟨g1, g2, g3, g4⟩ := hw.2.2.2.2.2.2.2.2 w hw3
  obtain ⟨_, d2⟩ := hPO.2.2.2.2.2.2.2.2 w hw3
  obtain ⟨d3, d4, d5⟩ := d2 htl
  obtain ⟨l3, v, a4, a5, a6⟩ := lawOf_ok (l := l2) (s := s) (r := r) (p := p) (w := w) (vl := vls (fd P (σ 0 8) t) σ t n) (by omega) d3 d4 (of_decide_eq_true htl) g2 g3 g4 d5 a3 (fun k _ _ => vls_bnd (fd_99 _ _ _ _) (by omega) (by omega) k)
  exact ⟨l2, l3, v, farOf_ok hw hP hc hb hS.1 ht (by omega), a1, a4, a6, fun a h1 h2 => (a5 a h2).trans (a2 a h1), fun x => fr_trans hfo (fr_u2 rfl)⟩
theorem switches_ok {i : Nat → Nat → Int32} {l : Nat → Nat → Int64} {P : PL} {σ : ST} {b sr : Nat} {m : MD} {came : Int32} (hw : pwf P) (hP : PM P i) (hM : RM m i) (hs : swf P σ) (hb : b < 2) (hS : SM b σ i) (hsr : sr < pS P) (hc : i 121 0 = came) :
    ∃ j l', Mo_switches (nI b) (nI sr) (i, l, Rp s r p) = some (none, (j, l', Rp s r p)) ∧ SM b (if m.2.2.1 = 1 then σ else swo P sr came σ (pN P)) j ∧ fr (qR b) i j ∧ ∀ a, a ≠ 106 → a ≠ 107 → l' a = l a := by
  have h7 := hw.1.1
  have h3 := hw.1.2.2.1
  rw [Mo_switches_eq]
  by_cases ht1 : m.2.2.1 = 1
  · rw [if_pos ht1]
    refine ⟨i, l, ?_, hS, fr_refl _ _, fun _ _ _ => rfl⟩
    have h := upto (fun n => Mo_switches_2 (nI b) (nI sr) (nI n) (i, l, Rp s r p)) (pN P) (fun n hn => by
      show Mo_switches_2 _ _ _ _ = Mo_switches_2 _ _ _ _
      rw [Mo_switches_2_eq, hP.1.1, ifc_t (nI_lt hn (by omega)), hM.2.2.1, show (m.2.2.1 == 1) = true by simpa using ht1, ifc_b, if_pos rfl, nI_add]) 0 (by omega)
    refine h.trans ?_
    show Mo_switches_2 (nI b) (nI sr) (nI (pN P)) (i, l, Rp s r p) = _
    rw [Mo_switches_2_eq, hP.1.1, ifc_f (nI_nlt (Nat.le_refl _) (by omega))]
  · rw [if_neg ht1]
    have h := loop_ex (F := fun n (M : (Nat → Nat → Int32) × (Nat → Nat → Int64)) => Mo_switches_2 (nI b) (nI sr) (nI n) (M.1, M.2, Rp s r p)) (I9 := fun n M => SM b (swo P sr came σ n) M.1 ∧ M.1 121 0 = came ∧ fr (qR b) i M.1 ∧ ∀ a, a ≠ 106 → a ≠ 107 → M.2 a = l a) (n := pN P) (fun n M hn hI => by
      obtain ⟨j, lj⟩ := M
      obtain ⟨q1, q2, q3, q4⟩ := hI
      simp only at q1 q2 q3 q4
      show ∃ M' : (Nat → Nat → Int32) × (Nat → Nat → Int64), Mo_switches_2 (nI b) (nI sr) (nI n) (j, lj, Rp s r p) = Mo_switches_2 (nI b) (nI sr) (nI (n + 1)) (M'.1, M'.2, Rp s r p) ∧ _
      have hPj := PM_qR hw hP q3
      have hMj := RM_qR hM q3
      have e : swo P sr came σ (n + 1) = sw1 P sr came n (swo P sr came σ n) := rfl
      have hsj : swf P (swo P sr came σ n) := swf_swo hw hsr hs n (by omega)
      rw [e]
      generalize hτ : swo P sr came σ n = τ at *
      have e109 : j 109 b = τ 0 7 := q1.2.1
      have e110 : j 110 (3 * b + sr) = τ 1 sr := q1.2.2.1 sr (by omega)
      have hbb : bt (τ 0 7 &&& came &&& (τ 1 sr ^^^ nM 1)) n = (bt (τ 0 7) n && (bt came n && !bt (τ 1 sr) n)) := by
        rw [b_and, b_and, b_xor, bt_nM1 (by omega)]
        cases bt (τ 0 7) n <;> cases bt came n <;> cases bt (τ 1 sr) n <;> rfl
      have k111 : ∀ (g : Nat → Nat → Int32) (lg : Nat → Nat → Int64) (z : Bool), SM b τ g → g 121 0 = came → fr (qR b) i g → (∀ a, a ≠ 106 → a ≠ 107 → lg a = l a) → ∃ M' : (Nat → Nat → Int32) × (Nat → Nat → Int64), Mo_switches_111 (nI b) (nI sr) (nI n) (nI z.toNat) (g, lg, Rp s r p) = Mo_switches_2 (nI b) (nI sr) (nI (n + 1)) (M'.1, M'.2, Rp s r p) ∧ SM b (if z then u2 τ 1 sr (stb (τ 1 sr) n) else τ) M'.1 ∧ M'.1 121 0 = came ∧ fr (qR b) i M'.1 ∧ ∀ a, a ≠ 106 → a ≠ 107 → M'.2 a = l a := by
        intro g lg z g1 g2 g3 g4
        have eg : g 110 (3 * b + sr) = τ 1 sr := g1.2.2.1 sr (by omega)
        rw [Mo_switches_111_eq]
        simp (disch := omega) only [nI_mul, nI_add, nI_clamp, gd_in, gd_0, gd_1, gd_b, gd_n0, ifc_lt, ifc_eq, ifc_neg, ifc_z, ifc_pos, ifc_b, if_pos, if_neg, crV_t, crI_t, crL_t, ifc_True, ifc_False, if_true, if_false, eg]
        cases z
        · simp only [Bool.false_eq_true, if_false]
          rw [or_0, u2_self eg]
          exact ⟨(g, lg), rfl, g1, g2, g3, g4⟩
        · simp only [if_true]
          refine ⟨(u2 g 110 (3 * b + sr) (stb (τ 1 sr) n), lg), rfl, SM_r1 (by omega) g1, ?_, fr_trans g3 (fr_u2 ?_), g4⟩
          · show u2 g 110 (3 * b + sr) (stb (τ 1 sr) n) 121 0 = _
            rw [u2_i (by decide)]; exact g2
          · simp [qR]; omega
      rw [Mo_switches_2_eq, hPj.1.1, hMj.2.2.1, show (m.2.2.1 == 1) = false by simpa using ht1]
      simp (disch := omega) only [nI_mul, nI_add, nI_clamp, gd_in, gd_0, gd_1, gd_b, gd_n0, ifc_lt, ifc_eq, ifc_neg, ifc_z, ifc_pos, ifc_b, if_pos, if_neg, crV_t, crI_t, crL_t, ifc_True, ifc_False, if_true, if_false, e109, e110, q2, isOf_ok, hbb]
      simp only [Bool.false_eq_true, if_false]
      unfold sw1
      cases hc : (bt (τ 0 7) n && (bt came n && !bt (τ 1 sr) n))
      · simp only [Bool.false_eq_true, if_false]
        exact ⟨(j, lj), rfl, q1, q2, q3, q4⟩
      · simp only [if_true]
        rw [(hPj.2.2.2.2.2.2.2.2 1 (by omega)).1, ifc_b]
        cases htl : tld P 1
        · simp only [Bool.false_eq_true, if_false]
          rw [lw_untold htl]
          have hk := k111 j lj true q1 q2 q3 q4
          exact hk
        · simp only [if_true]
          obtain ⟨l2, l3, v, f1, f2, f3, f4, f5, f6⟩ := flw_ok (l := lj) (s := s) (r := r) (p := p) (t := 1 + sr) (n := n) (w := 1) hw hPj hsj q1 hMj.2.2.2.2.2.2.2 hb (by omega) hn (by omega) htl
          rw [f1, crI_t, f2, crV_t, f3, crL_t, u2_s, ifc_b, ifc_l0]
          generalize hL : lw P 1 (fd P (τ 0 8) (1 + sr)) τ (1 + sr) n = L at *
          have hg : ∀ x, ∀ z : Bool, ∃ M' : (Nat → Nat → Int32) × (Nat → Nat → Int64), Mo_switches_111 (nI b) (nI sr) (nI n) (nI z.toNat) (u2 (ov j 119 0 7 (fd P (τ 0 8) (1 + sr))) 82 53 x, l3, Rp s r p) = Mo_switches_2 (nI b) (nI sr) (nI (n + 1)) (M'.1, M'.2, Rp s r p) ∧ SM b (if z then u2 τ 1 sr (stb (τ 1 sr) n) else τ) M'.1 ∧ M'.1 121 0 = came ∧ fr (qR b) i M'.1 ∧ ∀ a, a ≠ 106 → a ≠ 107 → M'.2 a = l a := fun x z => k111 _ _ z (SM_W q1 (f6 x)) (by rw [u2_i (by decide), ov_c (by decide)]; exact q2) (fr_trans q3 (fr_mono (fun _ _ => qW_qR) (f6 x))) (fun a h1 h2 => (f5 a h1 h2).trans (q4 a h1 h2))
          cases L with
          | none =>
            have hk := hg (nI (none : Option Int64).isNone.toNat) true
            exact hk
          | some z =>
            have ez : v = z := f4
            subst ez
            by_cases hv : v = 0
            · rw [if_neg (show ¬ (some v).isNone = true from Bool.false_ne_true), if_pos hv, if_pos (by rw [hv])]
              exact hg (nI (some v).isNone.toNat) false
            · rw [if_neg (show ¬ (some v).isNone = true from Bool.false_ne_true), if_neg hv, if_neg (fun h => hv (Option.some.inj h))]
              exact hg (nI (some v).isNone.toNat) true) 0 (i, l) (by omega) ⟨hS, hc, fr_refl _ _, fun _ _ _ => rfl⟩
    obtain ⟨M', q0, q1, q2, q3, q4⟩ := h
    refine ⟨M'.1, M'.2, q0.trans ?_, q1, q3, q4⟩
    show Mo_switches_2 (nI b) (nI sr) (nI (pN P)) (M'.1, M'.2, Rp s r p) = _
    rw [Mo_switches_2_eq, (PM_qR hw hP q3).1.1, ifc_f (nI_nlt (Nat.le_refl _) (by omega))]
def hbt (own sh : Int32) (σ : ST) : Nat → Bool := fun q => bt (σ 0 7) q && decide (0 < tms own sh q)
theorem phear_ok {i : Nat → Nat → Int32} {l : Nat → Nat → Int64} {P : PL} {σ : ST} {b sr : Nat} {own sh : Int32} (hw : pwf P) (hP : PM P i) (hb : b < 2) (hS : SM b σ i) (hsr : sr < pS P) (h0 : i 121 0 = sh) (h1 : i 121 (1 + sr) = own) :
    ∃ j, Mo_packet_86 (nI b) (nI sr) (nI 0) (nI 0) (i, l, Rp s r p) = Mo_packet_86 (nI b) (nI sr) (msk (hbt own sh σ) (pN P)) (nI (pN P)) (j, l, Rp s r p) ∧ SM b (her own sh σ (pN P)) j ∧ fr (qR b) i j ∧ j 121 = i 121 := by
  have h7 := hw.1.1
  have h3 := hw.1.2.2.1
  have h := loop_ex (F := fun n (j : Nat → Nat → Int32) => Mo_packet_86 (nI b) (nI sr) (msk (hbt own sh σ) n) (nI n) (j, l, Rp s r p)) (I9 := fun n j => SM b (her own sh σ n) j ∧ fr (qR b) i j ∧ j 121 = i 121) (n := pN P) (fun n j hn hI => by
    obtain ⟨q1, q2, q3⟩ := hI
    show ∃ j', Mo_packet_86 (nI b) (nI sr) (msk (hbt own sh σ) n) (nI n) (j, l, Rp s r p) = Mo_packet_86 (nI b) (nI sr) (msk (hbt own sh σ) (n + 1)) (nI (n + 1)) (j', l, Rp s r p) ∧ _
    have hPj := PM_qR hw hP q2
    have e : her own sh σ (n + 1) = he1 own sh n (her own sh σ n) := rfl
    have e7 : her own sh σ n 0 7 = σ 0 7 := by rw [her_r (by decide) (by decide) (by decide)]
    have htm : (if bt sh n = true then 1 else 0) + (if bt own n = true then 1 else 0) = tms own sh n := Nat.add_comm _ _
    have hle : tms own sh n ≤ 2 := by unfold tms; split <;> split <;> omega
    have e109 : j 109 b = σ 0 7 := q1.2.1.trans e7
    rw [e, Mo_packet_86_eq, hPj.1.1]
    simp (disch := omega) only [nI_mul, nI_add, nI_clamp, gd_in, ifc_lt, if_pos, e109, isOf_ok, crI_t, ifc_b]
    rw [q3, h0, h1, bitn sh (by omega), bitn own (by omega), nI_add, htm, ifc_pos (by omega), msk_s]
    unfold he1 hbt
    rw [e7]
    cases hbn : bt (σ 0 7) n
    · simp only [Bool.false_eq_true, if_false, Bool.false_and]
      exact ⟨j, rfl, q1, q2, q3⟩
    · simp only [if_true, Bool.true_and]
      obtain ⟨a2, a3, a4⟩ := q1.2.2.2.2.1 n (by omega)
      rw [a2]
      generalize her own sh σ n = τ at *
      have fin : ∀ tm, tms own sh n = tm → ∃ j', Mo_packet_162 (nI b) (nI sr) (msk (fun q => bt (σ 0 7) q && decide (0 < tms own sh q)) n) (nI n) (nI tm) (nI (7 * b + n)) (τ 2 n) (nI (if 0 < tm then 1 else 0)) (j, l, Rp s r p) = Mo_packet_86 (nI b) (nI sr) (if 0 < tm then msk (fun q => bt (σ 0 7) q && decide (0 < tms own sh q)) n ||| (nI 1 <<< (nI n &&& 31)) else msk (fun q => bt (σ 0 7) q && decide (0 < tms own sh q)) n) (nI (n + 1)) (j', l, Rp s r p) ∧ SM b (u2 (u2 (u2 τ 2 n (τ 2 n + nI (if 0 < tm then 1 else 0))) 3 n (τ 3 n + nI (if 1 < tm then 1 else 0))) 4 n (τ 4 n + nI (if tm = 0 then 1 else 0))) j' ∧ fr (qR b) i j' ∧ j' 121 = i 121 := by
        intro tm htm2
        have hle2 : tm ≤ 2 := by omega
        refine ⟨u2 (u2 (u2 j 112 (7 * b + n) (τ 2 n + nI (if 0 < tm then 1 else 0))) 113 (7 * b + n) (τ 3 n + nI (if 1 < tm then 1 else 0))) 114 (7 * b + n) (τ 4 n + nI (if tm = 0 then 1 else 0)), ?_, SM_r4 (by omega) (SM_r3 (by omega) (SM_r2 (by omega) q1)), ?_, ?_⟩
        · rw [Mo_packet_162_eq]
          simp (disch := omega) only [nI_mul, nI_add, nI_clamp, gd_in, gd_0, gd_1, gd_b, gd_n0, ifc_lt, ifc_eq, ifc_neg, ifc_z, ifc_pos, ifc_b, if_pos, if_neg, crV_t, crI_t, crL_t, ifc_True, ifc_False, if_true, if_false]
          rw [a3]
          rcases (show tm = 0 ∨ tm = 1 ∨ tm = 2 by omega) with rfl | rfl | rfl
          all_goals
            simp (disch := omega) only [Mo_packet_188_eq, nI_mul, nI_add, nI_clamp, gd_in, gd_0, gd_1, gd_b, gd_n0, ifc_lt, ifc_eq, ifc_neg, ifc_z, ifc_pos, ifc_b, if_pos, if_neg, crV_t, crI_t, crL_t, ifc_True, ifc_False, if_true, if_false, u2_s, u2_i, u2_k, a4]
            rw [Mo_packet_213_eq]
            simp (disch := omega) only [nI_mul, nI_add, nI_clamp, gd_in, gd_0, gd_1, gd_b, gd_n0, ifc_lt, ifc_eq, ifc_neg, ifc_z, ifc_pos, ifc_b, if_pos, if_neg, crV_t, crI_t, crL_t, ifc_True, ifc_False, if_true, if_false, or_0]
        · refine fr_trans q2 (fr_trans (fr_trans (fr_u2 ?_) (fr_u2 ?_)) (fr_u2 ?_)) <;> (simp [qR]; omega)
        · rw [u2_r (by decide), u2_r (by decide), u2_r (by decide)]; exact q3
      have hf := fin _ rfl
      generalize tms own sh n = tm at *
      rcases (show tm = 0 ∨ tm = 1 ∨ tm = 2 by omega) with rfl | rfl | rfl
      · exact hf
      · exact hf
      · exact hf) 0 i (by omega) ⟨hS, fr_refl _ _, rfl⟩
  obtain ⟨j, q0, q1, q2, q3⟩ := h
  exact ⟨j, q0, q1, q2, q3⟩
end
end
