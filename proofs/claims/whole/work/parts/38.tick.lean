section
/-! states in memory; who wants a tree -/
def vw (o : Nat) (i : Nat → Nat → Int32) : ST := fun a => i (o + a)
theorem vw_s {o : Nat} {i : Nat → Nat → Int32} {a k : Nat} {x : Int32} : vw o (u2 i (o + a) k x) = u2 (vw o i) a k x := by
  funext c j
  unfold vw u2
  by_cases h : c = a
  · subst h; simp only [if_true]
  · have h2 : ¬ o + c = o + a := by omega
    simp only [h, h2, if_false]
theorem vw_0 {o : Nat} {i : Nat → Nat → Int32} {k : Nat} {x : Int32} : vw o (u2 i o k x) = u2 (vw o i) 0 k x := vw_s (a := 0)
theorem vw_l {o : Nat} {i : Nat → Nat → Int32} {b k : Nat} {x : Int32} (h : b < o) : vw o (u2 i b k x) = vw o i := by
  funext c j
  unfold vw
  rw [u2_i (by omega)]
theorem swf_cg {P : PL} {σ τ : ST} (h : ∀ a, a < 7 → σ a = τ a) (hs : swf P σ) : swf P τ := by
  unfold swf at hs ⊢
  rw [← h 0 (by omega), ← h 1 (by omega), ← h 5 (by omega), ← h 6 (by omega)]
  exact hs
theorem SM_cg {b : Nat} {σ τ : ST} {i : Nat → Nat → Int32} (h : ∀ a, a < 7 → σ a = τ a) (hs : SM b σ i) : SM b τ i := by
  unfold SM at hs ⊢
  rw [← h 0 (by omega), ← h 1 (by omega), ← h 2 (by omega), ← h 3 (by omega), ← h 4 (by omega), ← h 5 (by omega)]
  exact hs
/-- a call for a tree at a node -/
def cal (σ : ST) (t n : Nat) : Bool := decide (σ 6 (7 * t + n) ≠ 0) || (bt (σ 0 7) n && (t == 0 || bt (σ 1 (t - 1)) n))
def wnt (P : PL) (σ : ST) (t n : Nat) : Bool := cal σ t n || (decide (0 < t) && (n == pM P && cal σ 0 n))
theorem gd_b {α : Type} (b : Bool) (x : Option α) : gd (isB (nI b.toNat)) x = x := by
  cases b
  · exact gd_0 x
  · exact gd_1 x
theorem sum_b (b : Bool) : ∀ x y : Option (Option Value × AM), (if b = true then x else y) = if b = true then x else y := fun _ _ => rfl
section
variable {i : Nat → Nat → Int32} {l : Nat → Nat → Int64} {s r p : Nat}
theorem calls_ok {o t n : Nat} (ho : o = 51 ∨ o = 65) (ht : t < 4) (hn : n < 7) : Net_calls o (nI t) (nI n) (i, l, Rp s r p) = some (some (.int (nI (cal (vw o i) t n).toNat)), (i, l, Rp s r p)) := by
  rw [Net_calls_eq _ _ _ _ _ _ _ _ ho, at7 ht hn, gd_in (by omega) (by omega), nI_clamp (by omega)]
  simp only [gd_0, gd_1]
  unfold cal
  show _ = some (some (Value.int (nI (decide (i (o + 6) (7 * t + n) ≠ 0) || (bt (i o 7) n && (t == 0 || bt (i (o + 1) (t - 1)) n))).toNat)), _)
  by_cases h6 : i (o + 6) (7 * t + n) = 0
  · rw [ifc_t h6, decide_eq_false (fun h => h h6), Bool.false_or, ifc_z (by omega)]
    by_cases h0 : t = 0
    · subst h0
      rw [if_pos rfl, ifc_bit _ (by omega)]
      cases bt (i o 7) n <;> rfl
    · rw [if_neg h0, pk_sub (by omega), gd_in (by omega) (by omega), nI_clamp (by omega), ifc_bit _ (by omega), b_and]
      have h1 : (t == 0) = false := by simpa using h0
      rw [h1, Bool.false_or]
      cases (bt (i o 7) n && bt (i (o + 1) (t - 1)) n) <;> rfl
  · rw [ifc_f h6, decide_eq_true h6]; rfl
theorem wanted_ok {P : PL} {o t n : Nat} (ho : o = 51 ∨ o = 65) (hp : p = 7 ∨ p = 27) (hw : pwf P) (hP : PC P p i) (ht : t ≤ pS P) (hn : n < pN P) : Net_wanted o (nI t) (nI n) (i, l, Rp s r p) = some (some (.int (nI (wnt P (vw o i) t n).toNat)), (i, l, Rp s r p)) := by
  have h7 := hw.1.1
  have h3 := hw.1.2.2.1
  have hm : pM P < 7 := by have := hw.2.1; omega
  have hpm : i p 16 = nI (pM P) := hP.1 16 (by omega) (by omega)
  rw [Net_wanted_eq _ _ _ _ _ _ _ _ ho hp, calls_ok ho (by omega) (by omega), crI_t, ifc_b, hpm, ifc_pos (by omega), ifc_eq (by omega) (by omega), show nI 0 = nI 0 from rfl, calls_ok ho (show 0 < 4 by omega) (by omega), crI_t, ifc_b]
  simp only [gd_0, gd_1]
  unfold wnt
  cases cal (vw o i) t n
  · rw [if_neg (by decide), Bool.false_or]
    by_cases h0 : 0 < t
    · rw [if_pos h0, decide_eq_true h0, Bool.true_and]
      by_cases h1 : n = pM P
      · rw [if_pos h1, show (n == pM P) = true by simpa using h1, Bool.true_and]
        cases cal (vw o i) 0 n <;> rfl
      · rw [if_neg h1, show (n == pM P) = false by simpa using h1]; rfl
    · rw [if_neg h0, decide_eq_false h0]; rfl
  · rw [if_pos rfl]; rfl
theorem send_0 {P : PL} {σ : ST} (hs : swf P σ) {t n : Nat} (ht : t < 4) (hn : n < 7) : (0 < cnt (bt (σ 6 (7 * t + n))) 8) ↔ σ 6 (7 * t + n) ≠ 0 := by
  constructor
  · intro h h0
    rw [h0] at h
    have : cnt (bt 0) 8 = 0 := by rw [cnt_more (f := bt 0) (a := 0) 8 (by omega) (fun k _ _ => b_0 k)]; rfl
    omega
  · intro h
    refine Nat.pos_of_ne_zero (fun h0 => h ?_)
    apply b_ext
    intro k hk
    rw [b_0]
    cases hb : bt (σ 6 (7 * t + n)) k
    · rfl
    · exfalso
      have h8 : k < 8 := by
        have := hs.2.1 (7 * t + n) (by omega) k hk
        rw [this] at hb
        by_cases h9 : k < 8
        · exact h9
        · rw [decide_eq_false h9] at hb; exact absurd hb (by simp)
      have := cnt_mono_lt (q := fun _ => false) (w := bt (σ 6 (7 * t + n))) 8 k h8 (fun _ _ h => absurd h (by simp)) rfl hb
      omega
theorem wantsNow_ok {P : PL} {σ : ST} {b t n : Nat} (hw : pwf P) (hP : PM P i) (hs : swf P σ) (hS : SM b σ i) (hb : b < 2) (ht : t ≤ pS P) (hn : n < pN P) : Mo_wantsNow (nI b) (nI t) (nI n) (i, l, Rp s r p) = some (some (.int (nI (wnt P σ t n).toNat)), (i, l, Rp s r p)) := by
  have h7 := hw.1.1
  have h3 := hw.1.2.2.1
  have hm : pM P < 7 := by have := hw.2.1; omega
  have hc8 : ∀ t n, cnt (bt (σ 6 (7 * t + n))) 8 ≤ 8 := fun t n => cnt_le _ _
  have hc := hc8 t n
  have hc0 := hc8 0 n
  have hr : i 85 0 = nI (pM P) := by
    rw [hP.2.1]
    unfold rt
    rw [if_neg (by omega), if_pos rfl]
  have key : ∀ (x y : Option (Option Value × AM)), ifc (0 < nI (cnt (bt (σ 6 (7 * t + n))) 8)) x y = if σ 6 (7 * t + n) ≠ 0 then x else y := fun x y => by
    rw [ifc_pos (by omega)]
    by_cases h : 0 < cnt (bt (σ 6 (7 * t + n))) 8
    · rw [if_pos h, if_pos ((send_0 hs (by omega) (by omega)).mp h)]
    · rw [if_neg h, if_neg (fun h2 => h ((send_0 hs (by omega) (by omega)).mpr h2))]
  have key0 : ∀ (x y : Option (Option Value × AM)), ifc (0 < nI (cnt (bt (σ 6 (7 * 0 + n))) 8)) x y = if σ 6 (7 * 0 + n) ≠ 0 then x else y := fun x y => by
    rw [ifc_pos (by omega)]
    by_cases h : 0 < cnt (bt (σ 6 (7 * 0 + n))) 8
    · rw [if_pos h, if_pos ((send_0 hs (by omega) (by omega)).mp h)]
    · rw [if_neg h, if_neg (fun h2 => h ((send_0 hs (by omega) (by omega)).mpr h2))]
  have k61 : Mo_wantsNow_61 (nI b) (nI n) (i, l, Rp s r p) = some (some (.int (nI (n == pM P && cal σ 0 n).toNat)), (i, l, Rp s r p)) := by
    rw [Mo_wantsNow_61_eq, gd_in (by omega) (by omega), show (nI 0).toNatClampNeg = 0 from rfl, hr, ifc_eq (by omega) (by omega), heldMany_ok hw hP hs hS hb (show 0 < 4 by omega) (by omega), crI_t, key0, gd_in hb (by omega), nI_clamp (by omega), hS.2.1, isOf_ok _ (by omega), crI_t, ifc_b]
    simp only [gd_0, gd_1]
    by_cases h1 : n = pM P
    · rw [if_pos h1, show (n == pM P) = true by simpa using h1, Bool.true_and]
      unfold cal
      by_cases h2 : σ 6 (7 * 0 + n) ≠ 0
      · rw [if_pos h2, decide_eq_true h2]; rfl
      · rw [if_neg h2, decide_eq_false h2, Bool.false_or]
        cases bt (σ 0 7) n <;> rfl
    · rw [if_neg h1, show (n == pM P) = false by simpa using h1]; rfl
  rw [Mo_wantsNow_eq, heldMany_ok hw hP hs hS hb (by omega) (by omega), crI_t, key, ifc_z (by omega), gd_in hb (by omega), gd_in hb (by omega), nI_clamp (by omega), hS.2.1, isOf_ok _ (by omega), crI_t, crI_t, ifc_b]
  rw [gd_b, gd_1]
  unfold wnt
  generalize hz : cal σ 0 n = z at k61
  rw [k61]
  unfold cal at hz ⊢
  by_cases h6 : σ 6 (7 * t + n) ≠ 0
  · rw [if_pos h6, decide_eq_true h6]; rfl
  · rw [if_neg h6, decide_eq_false h6, Bool.false_or]
    by_cases h0 : t = 0
    · subst h0
      rw [if_pos rfl]
      cases bt (σ 0 7) n <;> rfl
    · have h1 : (t == 0) = false := by simpa using h0
      rw [if_neg h0, h1, Bool.false_or, decide_eq_true (show 0 < t by omega), Bool.true_and]
      cases bt (σ 0 7) n
      · rw [if_neg (by decide), Bool.false_and, Bool.false_or]
        done
      · rw [if_pos rfl, Bool.true_and, nI_mul, nI_add, pk_sub (by omega), gd_in (by omega) (by omega), nI_clamp (by omega), show 3 * b + t - 1 = 3 * b + (t - 1) by omega, hS.2.2.1 (t - 1) (by omega), isOf_ok _ (by omega), crI_t, ifc_b, gd_1]
        cases bt (σ 1 (t - 1)) n
        · rw [if_neg (by decide), k61, Bool.false_or]
        · rfl
end
end

section
/-! for how long a link is held -/
noncomputable def kpt (P : PL) (br : Bool) (σ : ST) (t q : Nat) : Nat := if br then 1 else match lw P 2 (fd P (σ 0 8) t) σ t q with
  | none => P.1 17
  | some v => if v < 1 then 1 else if 99 < v then 99 else v.toInt.toNat
theorem kpt_r {P : PL} (hw : pwf P) (br : Bool) (σ : ST) (t q : Nat) : 1 ≤ kpt P br σ t q ∧ kpt P br σ t q ≤ 99 := by
  unfold kpt
  split
  · omega
  · split
    · have := hw.2.2.1; omega
    · split
      · omega
      · split
        · omega
        · rename_i v _ h1 h2
          rw [lt64] at h1 h2
          have e1 : (1 : Int64).toInt = 1 := rfl
          have e2 : (99 : Int64).toInt = 99 := rfl
          rw [e1] at h1
          rw [e2] at h2
          omega
theorem lN_self {v : Int64} (h0 : 0 ≤ v.toInt) (h : v.toInt < 2 ^ 31) : lN v.toInt.toNat = v := by
  apply Int64.toInt_inj.mp
  rw [lN_toInt (by omega)]
  omega
def qW (a k : Nat) : Bool := a == 119 || (a == 82 && k == 53)
theorem qW_PM {a k : Nat} (h : qPM a k = true) : qW a k = false := by
  unfold qW
  by_cases h1 : a = 119
  · subst h1; simp [qPM] at h
  · by_cases h2 : a = 82
    · subst h2
      by_cases h3 : k = 53
      · subst h3; simp [qPM] at h
      · simp [h3]
    · simp [h1, h2]
section
variable {i : Nat → Nat → Int32} {l : Nat → Nat → Int64} {s r p : Nat}
theorem holding_ok {P : PL} {o t q : Nat} {br : Bool} (ho : o = 51 ∨ o = 65) (hp : p = 7 ∨ p = 27) (hw : pwf P) (hP : PC P p i) (hs : swf P (vw o i)) (ht : t ≤ pS P) (hq : q < pN P) (hN : NetOk P i (vw o i 0 8)) (hb : i 47 6 = nI 4 ↔ br = true) :
    ∃ l', Course_holding o (nI t) (nI q) (i, l, Rp s r p) = some (some (.int (nI (kpt P br (vw o i) t q))), (i, l', Rp s r p)) ∧ ∀ a, a ≠ 46 → l' a = l a := by
  have hph : i p 17 = nI (P.1 17) := hP.1 17 (by omega) (by omega)
  have h7 := hw.1.1
  have h3 := hw.1.2.2.1
  rw [Course_holding_eq _ _ _ _ _ _ _ _ ho hp]
  unfold kpt
  cases br
  · rw [ifc_f (fun h => absurd (hb.mp h) (by decide))]
    obtain ⟨l2, w1, w2⟩ := work_P (l := l) (s := s) (r := r) (w := 2) ho hp hw hP hs (by omega) ht hq hN
    refine ⟨l2, ?_, w2⟩
    rw [show nI 15 = nI (13 + 2) from rfl, w1, crL_t, ifc_leq, hph]
    have e : lw P 2 (fd P (vw o i 0 8) t) (fun a => i (o + a)) t q = lw P 2 (fd P (vw o i 0 8) t) (vw o i) t q := rfl
    rw [e]
    simp only [Bool.false_eq_true, if_false]
    cases hlw : lw P 2 (fd P (vw o i 0 8) t) (vw o i) t q with
    | none => exact if_pos rfl
    | some v =>
      have hb := lw_bnd hw (by omega) (fd_99 P _ t q) (by omega) (by omega) hlw
      have hne : ¬ v = lN 9223372036854775808 := fun h => nbnd_min (h ▸ hb)
      refine (if_neg hne).trans ?_
      refine congrArg (fun z => some (some (Value.int z), (i, l2, Rp s r p))) ?_
      show (mxL (lN 1) (mnL (lN 99) v)).toInt32 = _
      have e1 : (1 : Int64).toInt = 1 := rfl
      have e2 : (99 : Int64).toInt = 99 := rfl
      unfold mxL mnL
      rw [show lN 99 = 99 from rfl, show lN 1 = 1 from rfl]
      show _ = nI (if v < 1 then 1 else if 99 < v then 99 else v.toInt.toNat)
      by_cases h1 : v < 1
      · have h2 : v < 99 := by rw [lt64] at h1 ⊢; rw [e1] at h1; rw [e2]; omega
        rw [if_pos h2, if_pos h1, if_pos h1]; rfl
      · rw [if_neg h1]
        by_cases h2 : v < 99
        · have h4 : ¬ 99 < v := by rw [lt64] at h2 ⊢; omega
          rw [if_pos h2, if_neg h1, if_neg h4]
          rw [lt64] at h1 h2
          rw [e1] at h1
          rw [e2] at h2
          rw [← lN_i, lN_self (by omega) (by omega)]
        · rw [if_neg h2, if_neg (by decide)]
          by_cases h4 : 99 < v
          · rw [if_pos h4]; rfl
          · rw [if_neg h4]
            rw [lt64] at h2 h4
            rw [e2] at h2 h4
            rw [show v.toInt = 99 by omega]; rfl
  · rw [ifc_t (hb.mpr rfl)]
    exact ⟨l, rfl, fun _ _ => rfl⟩
theorem keptFor_ok {P : PL} {σ : ST} {b t q : Nat} {br : Bool} (hw : pwf P) (hP : PM P i) (hs : swf P σ) (hS : SM b σ i) (hc : i 82 73 = nM 1) (hb : b < 2) (ht : t ≤ pS P) (hq : q < pN P) (hbr : i 82 70 = nI br.toNat) :
    ∃ j l', Mo_keptFor (nI b) (nI t) (nI q) (i, l, Rp s r p) = some (some (.int (nI (kpt P br σ t q))), (j, l', Rp s r p)) ∧ fr qW i j ∧ ∀ a, a ≠ 106 → a ≠ 107 → l' a = l a := by
  have h7 := hw.1.1
  have h3 := hw.1.2.2.1
  have hcut : i 108 b = σ 0 8 := hS.1
  rw [Mo_keptFor_eq, hbr, ifc_b]
  unfold kpt
  cases br
  · rw [if_neg (by decide), gd_in (by omega) (by omega), show (nI 2).toNatClampNeg = 2 from rfl, show (nI 0).toNatClampNeg = 0 from rfl, gd_in (by omega) (by omega), hP.2.2.1.1, (hP.2.2.2.2.2.2.2.2 2 (by omega)).1, ifc_b]
    simp only [Bool.false_eq_true, if_false]
    cases htl : tld P 2
    · rw [lw_untold htl]
      exact ⟨i, l, rfl, fr_refl _ _, fun _ _ _ => rfl⟩
    · simp only [if_true]
      rw [farOf_ok hw hP hc hb hcut ht (by omega), crI_t]
      have hfo : fr qW i (ov i 119 0 7 (fd P (σ 0 8) t)) := fr_ov (fun k => rfl)
      have hPO : PM P (ov i 119 0 7 (fd P (σ 0 8) t)) := PM_fr hw hP (fun a k h => hfo a k (qW_PM h))
      have hSO : SM b σ (ov i 119 0 7 (fd P (σ 0 8) t)) := SM_fr hS (fun a h1 h2 => ov_c (by omega))
      obtain ⟨l2, a1, a2, a3⟩ := lay_ok (l := l) (s := s) (r := r) (p := p) (D := fd P (σ 0 8) t) (f := fd P (σ 0 8) t q) hw hPO hs hSO hb (show t < 4 by omega) (show q < 7 by omega) rfl (fd_99 _ _ _ _)
      rw [a1, crV_t]
      obtain ⟨g1, g2, g3, g4⟩ := hw.2.2.2.2.2.2.2.2 2 (by omega)
      obtain ⟨_, d2⟩ := hPO.2.2.2.2.2.2.2.2 2 (by omega)
      obtain ⟨d3, d4, d5⟩ := d2 htl
      obtain ⟨l3, v, a4, a5, a6⟩ := lawOf_ok (l := l2) (s := s) (r := r) (p := p) (w := 2) (vl := vls (fd P (σ 0 8) t) σ t q) (by omega) d3 d4 (of_decide_eq_true htl) g2 g3 g4 d5 a3 (fun k _ _ => vls_bnd (fd_99 _ _ _ _) (by omega) (by omega) k)
      rw [a4, crL_t, u2_s, ifc_b, ifc_llt, ifc_lgt, gd_in (by omega) (by omega), u2_i (show (87 : Nat) ≠ 82 by decide), ov_c (show (87 : Nat) ≠ 119 by decide), hP.2.2.1.1]
      have hfr : ∀ x, fr qW i (u2 (ov i 119 0 7 (fd P (σ 0 8) t)) 82 53 x) := fun x => fr_trans hfo (fr_u2 rfl)
      have hlf : ∀ a, a ≠ 106 → a ≠ 107 → l3 a = l a := fun a h1 h2 => (a5 a h2).trans (a2 a h1)
      have hlw : lw P 2 (fd P (σ 0 8) t) σ t q = lval (P.2.1 12) (P.2.1 13) (vls (fd P (σ 0 8) t) σ t q) (P.2.1 14 2) (P.2.1 15 2) := rfl
      rw [hlw]
      cases hv : lval (P.2.1 12) (P.2.1 13) (vls (fd P (σ 0 8) t) σ t q) (P.2.1 14 2) (P.2.1 15 2) with
      | none => exact ⟨_, l3, if_pos rfl, hfr _, hlf⟩
      | some z =>
        rw [hv] at a6
        have e : v = z := a6
        subst e
        refine ⟨u2 (ov i 119 0 7 (fd P (σ 0 8) t)) 82 53 (nI (some v).isNone.toNat), l3, (if_neg (show ¬ (some v).isNone = true from Bool.false_ne_true)).trans ?_, hfr _, hlf⟩
        show _ = some (some (Value.int (nI (if v < 1 then 1 else if 99 < v then 99 else v.toInt.toNat))), _)
        rw [show lN 1 = 1 from rfl, show lN 99 = 99 from rfl]
        have e1 : (1 : Int64).toInt = 1 := rfl
        have e2 : (99 : Int64).toInt = 99 := rfl
        by_cases h1 : v < 1
        · rw [if_pos h1, if_pos h1]
        · rw [if_neg h1, if_neg h1]
          by_cases h2 : 99 < v
          · rw [if_pos h2, if_pos h2]
          · rw [if_neg h2, if_neg h2]
            rw [lt64] at h1 h2
            rw [e1] at h1
            rw [e2] at h2
            have hz : nI v.toInt.toNat = v.toInt32 := by rw [← lN_i, lN_self (by omega) (by omega)]
            rw [hz]
  · exact ⟨i, l, if_pos rfl, fr_refl _ _, fun _ _ _ => rfl⟩
end
end

section
/-! fade -/
def hfr (σ : ST) (m : Nat) : Nat → Int32 := fun j => if j < m ∧ σ 5 j ≠ 0 then σ 5 j - nI 1 else σ 5 j
def sfr (σ : ST) (m : Nat) : Nat → Int32 := fun a => if a < 28 then msk (fun k => decide (hfr σ m (8 * a + k) ≠ 0)) 8 else σ 6 a
def fad (σ : ST) : ST := fun a => if a = 5 then hfr σ 224 else if a = 6 then sfr σ 224 else σ a
theorem hfr_s {σ : ST} {m : Nat} (h : σ 5 m = 0) : hfr σ m = hfr σ (m + 1) := by
  funext j
  unfold hfr
  by_cases e : j = m
  · subst e
    rw [if_neg (fun hh => absurd hh.1 (by omega)), if_neg (fun hh => hh.2 h)]
  · by_cases h1 : j < m ∧ σ 5 j ≠ 0
    · rw [if_pos h1, if_pos ⟨by omega, h1.2⟩]
    · rw [if_neg h1, if_neg (fun hh => h1 ⟨by omega, hh.2⟩)]
theorem hfr_u {σ : ST} {m : Nat} {f : Nat → Nat → Int32} {o : Nat} (hf : f o = hfr σ m) (h : σ 5 m ≠ 0) : u2 f o m (f o m - nI 1) o = hfr σ (m + 1) := by
  funext j
  by_cases e : j = m
  · subst e
    rw [u2_s, hf]
    unfold hfr
    rw [if_neg (fun hh => absurd hh.1 (by omega)), if_pos ⟨by omega, h⟩]
  · rw [u2_k e, hf]
    unfold hfr
    by_cases h1 : j < m ∧ σ 5 j ≠ 0
    · rw [if_pos h1, if_pos ⟨by omega, h1.2⟩]
    · rw [if_neg h1, if_neg (fun hh => h1 ⟨by omega, hh.2⟩)]
theorem hfr_at {σ : ST} {m j : Nat} (h : m ≤ j) : hfr σ m j = σ 5 j := if_neg (fun hh => absurd hh.1 (by omega))
theorem sfr_bt {σ : ST} {m a k : Nat} (ha : a < 28) (hk : k < 32) : bt (sfr σ m a) k = (decide (k < 8) && decide (hfr σ m (8 * a + k) ≠ 0)) := by
  unfold sfr
  rw [if_pos ha, msk_bt _ _ (by omega) k hk]
theorem sfr_0 {P : PL} {σ : ST} (hs : swf P σ) : sfr σ 0 = σ 6 := by
  funext a
  by_cases ha : a < 28
  · apply b_ext
    intro k hk
    rw [sfr_bt ha hk, hs.2.1 a ha k hk, hfr_at (by omega)]
  · unfold sfr; rw [if_neg ha]
theorem hfr_0 (σ : ST) : hfr σ 0 = σ 5 := by
  funext j
  exact hfr_at (by omega)
section
variable {l : Nat → Nat → Int64} {s r p : Nat}
theorem fade_ok {i : Nat → Nat → Int32} {P : PL} {o : Nat} (ho : o = 51 ∨ o = 65) (hs : swf P (vw o i)) :
    ∃ j, State_fade o (i, l, Rp s r p) = some (none, (j, l, Rp s r p)) ∧ vw o j = fad (vw o i) ∧ ∀ a, a ≠ o + 5 → a ≠ o + 6 → j a = i a := by
  generalize hσ : vw o i = σ at *
  have h5 : i (o + 5) = σ 5 := by rw [← hσ]; rfl
  have h6 : i (o + 6) = σ 6 := by rw [← hσ]; rfl
  have fin : ∀ j : Nat → Nat → Int32, j (o + 5) = hfr σ 224 → j (o + 6) = sfr σ 224 → (∀ a, a ≠ o + 5 → a ≠ o + 6 → j a = i a) → vw o j = fad σ := by
    intro j q1 q2 q3
    funext a
    unfold fad
    by_cases e5 : a = 5
    · subst e5; rw [if_pos rfl, ← q1]; rfl
    · rw [if_neg e5]
      by_cases e6 : a = 6
      · subst e6; rw [if_pos rfl, ← q2]; rfl
      · rw [if_neg e6, ← hσ]
        exact q3 (o + a) (by omega) (by omega)
  have key : ∀ μ a k (j : Nat → Nat → Int32), 9 * (27 - a) + (8 - k) = μ → a < 28 → k ≤ 8 → j (o + 5) = hfr σ (8 * a + k) → j (o + 6) = sfr σ (8 * a + k) → (∀ a, a ≠ o + 5 → a ≠ o + 6 → j a = i a) →
      ∃ j', State_fade_13 o (nI a) (nI k) (j, l, Rp s r p) = some (none, (j', l, Rp s r p)) ∧ vw o j' = fad σ ∧ ∀ a, a ≠ o + 5 → a ≠ o + 6 → j' a = i a := by
    intro μ
    induction μ using Nat.strongRecOn with
    | _ μ ih =>
      intro a k j hμ ha hk q1 q2 q3
      have nxt : ∀ j : Nat → Nat → Int32, j (o + 5) = hfr σ (8 * a + 8) → j (o + 6) = sfr σ (8 * a + 8) → (∀ a, a ≠ o + 5 → a ≠ o + 6 → j a = i a) → 9 * (26 - a) + 8 < μ ∨ a = 27 → ∃ j', State_fade_2 o (nI (a + 1)) (j, l, Rp s r p) = some (none, (j', l, Rp s r p)) ∧ vw o j' = fad σ ∧ ∀ a, a ≠ o + 5 → a ≠ o + 6 → j' a = i a := by
        intro j q1 q2 q3 hlt
        rw [State_fade_2_eq _ _ _ _ _ _ _ ho, ifc_lt (by omega) (by omega)]
        by_cases h28 : a + 1 < 28
        · rw [if_pos h28]
          exact ih (9 * (27 - (a + 1)) + (8 - 0)) (by omega) (a + 1) 0 j rfl h28 (by omega) (by rw [q1]; rfl) (by rw [q2]; rfl) q3
        · rw [if_neg h28]
          have e : 8 * a + 8 = 224 := by omega
          rw [e] at q1 q2
          exact ⟨j, rfl, fin j q1 q2 q3, q3⟩
      rw [State_fade_13_eq _ _ _ _ _ _ _ _ ho, ifc_lt (by omega) (by omega)]
      simp only [nI_mul, nI_add]
      by_cases h8 : k < 8
      · rw [if_pos h8, gd_in (by omega) (by omega), gd_in (by omega) (by omega), nI_clamp (by omega), ifc_bit _ (by omega), nI_clamp (by omega)]
        simp only [gd_in (show a * 8 + k < 224 by omega) (show 224 < 2 ^ 31 by omega), gd_in (show a < 28 by omega) (show 28 < 2 ^ 31 by omega)]
        have hbit : bt (j (o + 6) a) k = decide (σ 5 (8 * a + k) ≠ 0) := by rw [q2, sfr_bt ha (by omega), hfr_at (Nat.le_refl _), decide_eq_true h8, Bool.true_and]
        have stay : σ 5 (8 * a + k) = 0 → ∃ j', State_fade_13 o (nI a) (nI (k + 1)) (j, l, Rp s r p) = some (none, (j', l, Rp s r p)) ∧ vw o j' = fad σ ∧ ∀ a, a ≠ o + 5 → a ≠ o + 6 → j' a = i a := fun h0 => by
          have e := hfr_s (σ := σ) h0
          refine ih (9 * (27 - a) + (8 - (k + 1))) (by omega) a (k + 1) j rfl ha (by omega) (by rw [q1, e]; rfl) ?_ q3
          rw [q2]
          unfold sfr
          rw [e]; rfl
        by_cases hz : (j (o + 6) a >>> (nI k &&& 31)) = 0
        · rw [ifc_t hz]
          -- nothing more at this place
          have hall : ∀ d, k + d ≤ 8 → hfr σ (8 * a + k) = hfr σ (8 * a + k + d) := by
            intro d
            induction d with
            | zero => intro _; rfl
            | succ d ihd =>
              intro hd
              rw [ihd (by omega)]
              apply hfr_s
              have hb := b_sshr k (by omega) (j (o + 6) a) (i := d) (by omega)
              rw [hz, b_0, if_pos (by omega), q2, sfr_bt ha (by omega), hfr_at (by omega), decide_eq_true (show k + d < 8 by omega), Bool.true_and] at hb
              have hb2 := of_decide_eq_false hb.symm
              rw [show 8 * a + k + d = 8 * a + (k + d) by omega]
              exact Classical.not_not.mp hb2
          have e := hall (8 - k) (by omega)
          rw [show 8 * a + k + (8 - k) = 8 * a + 8 by omega] at e
          refine nxt j (by rw [q1, e]) ?_ q3 (by omega)
          rw [q2]
          unfold sfr
          rw [e]
        · rw [ifc_f hz, hbit]
          by_cases h0 : σ 5 (8 * a + k) = 0
          · rw [if_neg (by simp [h0])]
            exact stay h0
          · rw [if_pos (by simp [h0]), Nat.mul_comm a 8, u2_s]
            have hu := hfr_u (f := j) (o := o + 5) q1 h0
            have hv : j (o + 5) (8 * a + k) = σ 5 (8 * a + k) := by rw [q1, hfr_at (Nat.le_refl _)]
            have hnew : hfr σ (8 * a + k + 1) (8 * a + k) = σ 5 (8 * a + k) - nI 1 := if_pos ⟨by omega, h0⟩
            have hoth : ∀ x, x ≠ 8 * a + k → hfr σ (8 * a + k + 1) x = hfr σ (8 * a + k) x := fun x hx => by
              rw [← hu, u2_k hx, q1]
            rw [hv] at hu ⊢
            by_cases hd : σ 5 (8 * a + k) - nI 1 = 0
            · rw [ifc_t hd]
              refine ih (9 * (27 - a) + (8 - (k + 1))) (by omega) a (k + 1) _ rfl ha (by omega) ?_ ?_ ?_
              · rw [u2_r (by omega)]; exact hu
              · funext c
                by_cases hc : c = a
                · subst hc
                  rw [u2_s]
                  apply b_ext
                  intro m hm
                  rw [b_and, b_xor, bt_mask (by omega) hm, bt_nM1 hm, q2, sfr_bt ha hm, sfr_bt ha hm]
                  by_cases e : m = k
                  · subst e
                    rw [show 8 * c + (m + 1) = 8 * c + m + 1 from rfl, hnew, hd]; simp
                  · rw [show 8 * c + (k + 1) = 8 * c + k + 1 from rfl, hoth _ (by omega)]; simp [e]
                · rw [u2_k hc, u2_r (by omega), q2]
                  unfold sfr
                  by_cases hc28 : c < 28
                  · rw [if_pos hc28, if_pos hc28]
                    apply b_ext
                    intro m hm
                    rw [msk_bt _ _ (by omega) m hm, msk_bt _ _ (by omega) m hm]
                    by_cases h9 : m < 8
                    · rw [show 8 * a + (k + 1) = 8 * a + k + 1 from rfl, hoth _ (by omega)]
                    · rw [decide_eq_false h9]; rfl
                  · rw [if_neg hc28, if_neg hc28]
              · intro c h1 h2
                rw [u2_r h2, u2_r h1]; exact q3 c h1 h2
            · rw [ifc_f hd]
              refine ih (9 * (27 - a) + (8 - (k + 1))) (by omega) a (k + 1) _ rfl ha (by omega) hu ?_ ?_
              · rw [u2_r (by omega), q2]
                funext c
                unfold sfr
                by_cases hc28 : c < 28
                · rw [if_pos hc28, if_pos hc28]
                  apply b_ext
                  intro m hm
                  rw [msk_bt _ _ (by omega) m hm, msk_bt _ _ (by omega) m hm]
                  by_cases h9 : m < 8
                  · by_cases e : 8 * c + m = 8 * a + k
                    · rw [e, show 8 * a + (k + 1) = 8 * a + k + 1 from rfl, hnew, hfr_at (Nat.le_refl _), decide_eq_true h0, decide_eq_true hd]
                    · rw [show 8 * a + (k + 1) = 8 * a + k + 1 from rfl, hoth _ e]
                  · rw [decide_eq_false h9]; rfl
                · rw [if_neg hc28, if_neg hc28]
              · intro c h1 h2
                rw [u2_r h1]; exact q3 c h1 h2
      · rw [if_neg h8]
        have e : k = 8 := by omega
        subst e
        exact nxt j q1 q2 q3 (by omega)
  rw [State_fade_eq _ _ _ _ _ _ ho, State_fade_2_eq _ _ _ _ _ _ _ ho, ifc_t (by decide)]
  exact key _ 0 0 i rfl (by omega) (by omega) (by rw [h5, hfr_0]) (by rw [h6, sfr_0 hs]) (fun _ _ _ => rfl)
end
end

section
/-! a stretch of a row, by Int32s; fade keeps a state well made; the reference's fade -/
def oi (i : Nat → Nat → Int32) (a b n : Nat) (f : Nat → Int32) : Nat → Nat → Int32 := fun c k => if c = a then (if b ≤ k ∧ k < b + n then f (k - b) else i c k) else i c k
def upI (f : Nat → Int32) (k : Nat) (x : Int32) : Nat → Int32 := fun j => if j = k then x else f j
theorem oi_a (i : Nat → Nat → Int32) (a b : Nat) {n : Nat} (f : Nat → Int32) {k : Nat} (h : k < n) : oi i a b n f a (b + k) = f k := by
  unfold oi
  rw [if_pos rfl, if_pos ⟨by omega, by omega⟩, Nat.add_sub_cancel_left]
theorem oi_0 (i : Nat → Nat → Int32) (a : Nat) {n : Nat} (f : Nat → Int32) {k : Nat} (h : k < n) : oi i a 0 n f a k = f k := by
  have := oi_a i a 0 f h
  rwa [Nat.zero_add] at this
theorem oi_c {i : Nat → Nat → Int32} {a b n : Nat} {f : Nat → Int32} {c : Nat} (h : c ≠ a) : oi i a b n f c = i c := by
  funext k
  exact if_neg h
theorem oi_k {i : Nat → Nat → Int32} {a b n : Nat} {f : Nat → Int32} {c k : Nat} (h : ¬ (b ≤ k ∧ k < b + n)) : oi i a b n f c k = i c k := by
  unfold oi
  by_cases hc : c = a
  · rw [if_pos hc, if_neg h]
  · rw [if_neg hc]
theorem oi_self {i : Nat → Nat → Int32} {a b n : Nat} {f : Nat → Int32} (h : ∀ k, k < n → i a (b + k) = f k) : oi i a b n f = i := by
  funext c k
  unfold oi
  by_cases hc : c = a
  · rw [if_pos hc]
    by_cases hk : b ≤ k ∧ k < b + n
    · rw [if_pos hk, ← h (k - b) (by omega), hc, Nat.add_sub_cancel' hk.1]
    · rw [if_neg hk]
  · rw [if_neg hc]
theorem oi_u {i : Nat → Nat → Int32} {a b n : Nat} {f : Nat → Int32} {k : Nat} {x : Int32} (h : k < n) : u2 (oi i a b n f) a (b + k) x = oi i a b n (upI f k x) := by
  funext c j
  unfold u2 oi upI
  by_cases hc : c = a
  · simp only [hc, if_true]
    by_cases hj : j = b + k
    · subst hj
      rw [if_pos rfl, if_pos ⟨by omega, by omega⟩, if_pos (by omega)]
    · rw [if_neg hj]
      by_cases hk : b ≤ j ∧ j < b + n
      · rw [if_pos hk, if_pos hk, if_neg (by omega)]
      · rw [if_neg hk, if_neg hk]
  · simp only [hc, if_false]
theorem oi_cg {i : Nat → Nat → Int32} {a b n : Nat} {f g : Nat → Int32} (h : ∀ k, k < n → f k = g k) : oi i a b n f = oi i a b n g := by
  funext c j
  unfold oi
  by_cases hc : c = a
  · simp only [hc, if_true]
    split
    · rename_i hk
      rw [h _ (by omega)]
    · rfl
  · simp only [hc, if_false]
theorem fr_oi {Q : Nat → Nat → Bool} {i : Nat → Nat → Int32} {a b n : Nat} {f : Nat → Int32} (h : ∀ k, Q a k = true) : fr Q i (oi i a b n f) := fun c j hq => by
  by_cases h1 : c = a
  · subst h1; rw [h j] at hq; exact absurd hq (by decide)
  · exact congrFun (oi_c h1) j
theorem fad_5 (σ : ST) : fad σ 5 = hfr σ 224 := rfl
theorem fad_6 (σ : ST) : fad σ 6 = sfr σ 224 := rfl
theorem fad_a {σ : ST} {a : Nat} (h5 : a ≠ 5) (h6 : a ≠ 6) : fad σ a = σ a := by unfold fad; rw [if_neg h5, if_neg h6]
theorem hfr_n {P : PL} {σ : ST} (hs : swf P σ) {m j : Nat} (hj : j < 224) (hm : j < m) : ∃ h, h ≤ 99 ∧ σ 5 j = nI h ∧ hfr σ m j = nI (h - 1) := by
  obtain ⟨h, h1, h2⟩ := hs.1 j hj
  refine ⟨h, h1, h2, ?_⟩
  unfold hfr
  rw [h2]
  by_cases h0 : h = 0
  · subst h0
    rw [if_neg (fun hh => hh.2 nI_0)]
  · rw [if_pos ⟨hm, nI_ne0 (by omega) (by omega)⟩, pk_sub (by omega)]
theorem swf_fad {P : PL} {σ : ST} (hs : swf P σ) : swf P (fad σ) := by
  have hn := fun j hj => hfr_n hs (m := 224) (j := j) hj hj
  obtain ⟨a1, a2, a3, a4, a5, a6, a7⟩ := hs
  refine ⟨fun j hj => ?_, fun a ha k hk => ?_, fun t n k ht hn2 hk hx => ?_, ?_, ?_, ?_, ?_⟩
  · obtain ⟨h, h1, h2, h3⟩ := hn j hj
    exact ⟨h - 1, by omega, h3⟩
  · rw [fad_6, fad_5]
    exact sfr_bt ha hk
  · obtain ⟨h, h1, h2, h3⟩ := hn (56 * t + 8 * n + k) (by omega)
    rw [a3 t n k ht hn2 hk hx] at h2
    have h0 : h = 0 := ((nI_eq (b := h) (a := 0) (by omega) (by omega)).mp h2).symm
    rw [fad_5, h3, h0]; rfl
  · rw [fad_a (by decide) (by decide)]; exact a4
  · rw [fad_a (by decide) (by decide)]; exact a5
  · rw [fad_a (by decide) (by decide)]; exact a6
  · rw [fad_a (by decide) (by decide)]; exact a7
section
variable {i : Nat → Nat → Int32} {l : Nat → Nat → Int64} {s r p : Nat}
theorem tick50_ok {P : PL} {σ : ST} {b : Nat} (hs : swf P σ) (hS : SM b σ i) (hb : b < 2) :
    Mo_tickGoes_50 (nI b) (nI (224 * b)) (i, l, Rp s r p) = (crV (Mo_joins (nI b) (oi i 111 (224 * b) 224 (hfr σ 224), l, Rp s r p)) (oi i 111 (224 * b) 224 (hfr σ 224), l, Rp s r p) (fun i_1 l_1 => Mo_tickGoes_103 (nI b) (nI 0) (i_1, l_1, Rp s r p))) := by
  have h := upto (fun m => Mo_tickGoes_50 (nI b) (nI (224 * b + m)) (oi i 111 (224 * b) 224 (hfr σ m), l, Rp s r p)) 224 (fun m hm => by
    show Mo_tickGoes_50 _ _ _ = Mo_tickGoes_50 _ _ _
    obtain ⟨h, h1, h2, h3⟩ := hfr_n hs (m := m + 1) hm (by omega)
    rw [Mo_tickGoes_50_eq]
    simp only [nI_mul, nI_add]
    rw [ifc_lt (by omega) (by omega), if_pos (by omega), nI_clamp (by omega), oi_a _ _ _ _ hm, hfr_at (Nat.le_refl _), h2, ifc_pos (by omega)]
    simp only [gd_in (show 224 * b + m < 448 by omega) (show 448 < 2 ^ 31 by omega)]
    rw [oi_u hm, oi_u hm]
    have hup : ∀ x, hfr σ (m + 1) m = x → oi i 111 (224 * b) 224 (upI (hfr σ m) m x) = oi i 111 (224 * b) 224 (hfr σ (m + 1)) := fun x hx => oi_cg (fun k hk => by
      unfold upI
      by_cases e : k = m
      · subst e; rw [if_pos rfl, hx]
      · rw [if_neg e]
        unfold hfr
        by_cases h1 : k < m ∧ σ 5 k ≠ 0
        · rw [if_pos h1, if_pos ⟨by omega, h1.2⟩]
        · rw [if_neg h1, if_neg (fun hh => h1 ⟨by omega, hh.2⟩)])
    by_cases h0 : 0 < h
    · rw [if_pos h0, pk_sub (by omega), hup _ h3]; rfl
    · rw [if_neg h0, hup _ (by rw [h3, show h - 1 = 0 by omega])]; rfl) 0 (by omega)
  have e0 : oi i 111 (224 * b) 224 (hfr σ 0) = i := oi_self (fun k hk => by rw [hfr_0]; exact hS.2.2.2.1 k hk)
  simp only [e0, Nat.add_zero] at h
  rw [h, Mo_tickGoes_50_eq]
  simp only [nI_mul, nI_add]
  rw [ifc_lt (by omega) (by omega), if_neg (by omega)]
theorem SM_fad {P : PL} {σ : ST} {b : Nat} (hs : swf P σ) (hS : SM b σ i) : SM b (fad σ) (oi i 111 (224 * b) 224 (hfr σ 224)) := by
  obtain ⟨a1, a2, a3, a4, a5, a6, a7, a8, a9⟩ := hS
  have e : ∀ a, a ≠ 111 → oi i 111 (224 * b) 224 (hfr σ 224) a = i a := fun a ha => oi_c ha
  unfold SM
  rw [e 108 (by decide), e 109 (by decide), e 110 (by decide), e 112 (by decide), e 113 (by decide), e 114 (by decide), e 115 (by decide), e 116 (by decide), e 117 (by decide), e 118 (by decide), fad_a (show 0 ≠ 5 by decide) (by decide), fad_a (show 1 ≠ 5 by decide) (by decide), fad_a (show 2 ≠ 5 by decide) (by decide), fad_a (show 3 ≠ 5 by decide) (by decide), fad_a (show 4 ≠ 5 by decide) (by decide)]
  exact ⟨a1, a2, a3, fun j hj => oi_a i 111 (224 * b) _ hj, a5, a6, a7, a8, a9⟩
end
end

section
/-! a bit put, a bit taken away; the reference's state under changes; events -/
def stb (x : Int32) (k : Nat) : Int32 := x ||| (nI 1 <<< (nI k &&& 31))
def unb (x : Int32) (k : Nat) : Int32 := x &&& ((nI 1 <<< (nI k &&& 31)) ^^^ nM 1)
theorem bt_stb (x : Int32) {k j : Nat} (hk : k < 32) (hj : j < 32) : bt (stb x k) j = (bt x j || decide (j = k)) := by
  unfold stb
  rw [b_or, bt_mask hk hj]
theorem bt_unb (x : Int32) {k j : Nat} (hk : k < 32) (hj : j < 32) : bt (unb x k) j = (bt x j && !decide (j = k)) := by
  unfold unb
  rw [b_and, b_xor, bt_mask hk hj, bt_nM1 hj]
  cases decide (j = k) <;> simp
theorem or_0 (x : Int32) : x ||| nI 0 = x := by
  apply b_ext
  intro k hk
  rw [b_or, show (nI 0 : Int32) = 0 from rfl, b_0, Bool.or_false]
/-- a node stops listening -/
def stp (σ : ST) (n : Nat) : ST := fun a k => if a = 0 then (if k = 7 then unb (σ 0 7) n else σ 0 k) else if a = 1 then (if k < 3 then unb (σ 1 k) n else σ 1 k) else σ a k
def evt (sil : Int32) (nc : Bool) (kd w : Nat) (σ : ST) : ST :=
  if kd = 4 then (if nI w = sil then σ else u2 σ 0 7 (stb (σ 0 7) w))
  else if kd = 5 then stp σ w
  else if kd = 6 then (if nc then σ else u2 σ 0 8 (stb (σ 0 8) w))
  else u2 σ 0 8 (unb (σ 0 8) w)
def evs (P : PL) (sil : Int32) (nc : Bool) (σ : ST) : Nat → ST
  | 0 => σ
  | e + 1 => if nI (P.2.1 8 e) = σ 0 6 then evt sil nc (P.2.1 6 e) (P.2.1 7 e) (evs P sil nc σ e) else evs P sil nc σ e
/-- a state is of its rows -/
def seq (σ τ : ST) : Prop := ∀ a, a < 7 → σ a = τ a
theorem u2_00 {σ : ST} {k j : Nat} {x : Int32} (h : j ≠ k) : u2 σ 0 k x 0 j = σ 0 j := u2_k h
theorem SM_7 {b : Nat} {σ : ST} {i : Nat → Nat → Int32} {x : Int32} (h : SM b σ i) : SM b (u2 σ 0 7 x) (u2 i 109 b x) := by
  obtain ⟨a1, a2, a3, a4, a5, a6, a7, a8, a9⟩ := h
  refine ⟨?_, ?_, fun s hs => ?_, fun j hj => ?_, fun n hn => ?_, ?_, ?_, ?_, ?_⟩ <;> simp [u2, *]
theorem SM_8 {b : Nat} {σ : ST} {i : Nat → Nat → Int32} {x : Int32} (h : SM b σ i) : SM b (u2 σ 0 8 x) (u2 i 108 b x) := by
  obtain ⟨a1, a2, a3, a4, a5, a6, a7, a8, a9⟩ := h
  refine ⟨?_, ?_, fun s hs => ?_, fun j hj => ?_, fun n hn => ?_, ?_, ?_, ?_, ?_⟩ <;> simp [u2, *]
theorem SM_9 {b : Nat} {σ : ST} {i : Nat → Nat → Int32} {x : Int32} (h : SM b σ i) : SM b (u2 σ 0 9 x) (u2 i 115 b x) := by
  obtain ⟨a1, a2, a3, a4, a5, a6, a7, a8, a9⟩ := h
  refine ⟨?_, ?_, fun s hs => ?_, fun j hj => ?_, fun n hn => ?_, ?_, ?_, ?_, ?_⟩ <;> simp [u2, *]
theorem SM_10 {b : Nat} {σ : ST} {i : Nat → Nat → Int32} {x : Int32} (h : SM b σ i) : SM b (u2 σ 0 10 x) (u2 i 116 b x) := by
  obtain ⟨a1, a2, a3, a4, a5, a6, a7, a8, a9⟩ := h
  refine ⟨?_, ?_, fun s hs => ?_, fun j hj => ?_, fun n hn => ?_, ?_, ?_, ?_, ?_⟩ <;> simp [u2, *]
theorem SM_11 {b : Nat} {σ : ST} {i : Nat → Nat → Int32} {x : Int32} (h : SM b σ i) : SM b (u2 σ 0 11 x) (u2 i 117 b x) := by
  obtain ⟨a1, a2, a3, a4, a5, a6, a7, a8, a9⟩ := h
  refine ⟨?_, ?_, fun s hs => ?_, fun j hj => ?_, fun n hn => ?_, ?_, ?_, ?_, ?_⟩ <;> simp [u2, *]
theorem SM_6 {b : Nat} {σ : ST} {i : Nat → Nat → Int32} {x : Int32} (h : SM b σ i) : SM b (u2 σ 0 6 x) (u2 i 118 b x) := by
  obtain ⟨a1, a2, a3, a4, a5, a6, a7, a8, a9⟩ := h
  refine ⟨?_, ?_, fun s hs => ?_, fun j hj => ?_, fun n hn => ?_, ?_, ?_, ?_, ?_⟩ <;> simp [u2, *]
theorem SM_12 {b : Nat} {σ : ST} {i : Nat → Nat → Int32} {x : Int32} (h : SM b σ i) : SM b (u2 σ 0 12 x) i := by
  obtain ⟨a1, a2, a3, a4, a5, a6, a7, a8, a9⟩ := h
  refine ⟨?_, ?_, fun s hs => ?_, fun j hj => ?_, fun n hn => ?_, ?_, ?_, ?_, ?_⟩ <;> simp [u2, *]
theorem SM_r1 {b k : Nat} {σ : ST} {i : Nat → Nat → Int32} {x : Int32} (hk : k < 3) (h : SM b σ i) : SM b (u2 σ 1 k x) (u2 i 110 (3 * b + k) x) := by
  obtain ⟨a1, a2, a3, a4, a5, a6, a7, a8, a9⟩ := h
  refine ⟨?_, ?_, fun s hs => ?_, fun j hj => ?_, fun n hn => ?_, ?_, ?_, ?_, ?_⟩ <;> simp [u2, *]
theorem SM_r2 {b k : Nat} {σ : ST} {i : Nat → Nat → Int32} {x : Int32} (hk : k < 7) (h : SM b σ i) : SM b (u2 σ 2 k x) (u2 i 112 (7 * b + k) x) := by
  obtain ⟨a1, a2, a3, a4, a5, a6, a7, a8, a9⟩ := h
  refine ⟨?_, ?_, fun s hs => ?_, fun j hj => ?_, fun n hn => ?_, ?_, ?_, ?_, ?_⟩ <;> simp [u2, *]
theorem SM_r3 {b k : Nat} {σ : ST} {i : Nat → Nat → Int32} {x : Int32} (hk : k < 7) (h : SM b σ i) : SM b (u2 σ 3 k x) (u2 i 113 (7 * b + k) x) := by
  obtain ⟨a1, a2, a3, a4, a5, a6, a7, a8, a9⟩ := h
  refine ⟨?_, ?_, fun s hs => ?_, fun j hj => ?_, fun n hn => ?_, ?_, ?_, ?_, ?_⟩ <;> simp [u2, *]
theorem SM_r4 {b k : Nat} {σ : ST} {i : Nat → Nat → Int32} {x : Int32} (hk : k < 7) (h : SM b σ i) : SM b (u2 σ 4 k x) (u2 i 114 (7 * b + k) x) := by
  obtain ⟨a1, a2, a3, a4, a5, a6, a7, a8, a9⟩ := h
  refine ⟨?_, ?_, fun s hs => ?_, fun j hj => ?_, fun n hn => ?_, ?_, ?_, ?_, ?_⟩ <;> simp [u2, *]
theorem SM_r5 {b k : Nat} {σ : ST} {i : Nat → Nat → Int32} {x : Int32} (hk : k < 224) (h : SM b σ i) : SM b (u2 σ 5 k x) (u2 i 111 (224 * b + k) x) := by
  obtain ⟨a1, a2, a3, a4, a5, a6, a7, a8, a9⟩ := h
  refine ⟨?_, ?_, fun s hs => ?_, fun j hj => ?_, fun n hn => ?_, ?_, ?_, ?_, ?_⟩ <;> simp [u2, *]
theorem SM_r6 {b k : Nat} {σ : ST} {i : Nat → Nat → Int32} {x : Int32} (h : SM b σ i) : SM b (u2 σ 6 k x) i := by
  obtain ⟨a1, a2, a3, a4, a5, a6, a7, a8, a9⟩ := h
  refine ⟨?_, ?_, fun s hs => ?_, fun j hj => ?_, fun n hn => ?_, ?_, ?_, ?_, ?_⟩ <;> simp [u2, *]
/-- the state's numbers that don't tell whether it is well made -/
theorem swf_0 {P : PL} {σ : ST} {k : Nat} {x : Int32} (h7 : k ≠ 7) (h8 : k ≠ 8) (h12 : k ≠ 12) (h : swf P σ) : swf P (u2 σ 0 k x) := by
  obtain ⟨a1, a2, a3, a4, a5, a6, a7⟩ := h
  refine ⟨?_, ?_, ?_, ?_, ?_, ?_, ?_⟩
  · simpa [u2] using a1
  · simpa [u2] using a2
  · simpa [u2] using a3
  · rw [u2_k (Ne.symm h7)]; exact a4
  · rw [u2_k (Ne.symm h8)]; exact a5
  · simpa [u2] using a6
  · rw [u2_k (Ne.symm h12)]; exact a7
theorem swf_7 {P : PL} {σ : ST} {x : Int32} (hx : ∀ k, k < 32 → bt x k = true → k < pN P) (h : swf P σ) : swf P (u2 σ 0 7 x) := by
  obtain ⟨a1, a2, a3, a4, a5, a6, a7⟩ := h
  exact ⟨by simpa [u2] using a1, by simpa [u2] using a2, by simpa [u2] using a3, by rw [u2_s]; exact hx, by rw [u2_k (by decide)]; exact a5, by simpa [u2] using a6, by rw [u2_k (by decide)]; exact a7⟩
theorem swf_8 {P : PL} {σ : ST} {x : Int32} (hx : ∀ k, k < 32 → bt x k = true → k < pL P) (h : swf P σ) : swf P (u2 σ 0 8 x) := by
  obtain ⟨a1, a2, a3, a4, a5, a6, a7⟩ := h
  exact ⟨by simpa [u2] using a1, by simpa [u2] using a2, by simpa [u2] using a3, by rw [u2_k (by decide)]; exact a4, by rw [u2_s]; exact hx, by simpa [u2] using a6, by rw [u2_k (by decide)]; exact a7⟩
theorem swf_12 {P : PL} {σ : ST} {x : Int32} (hx : ¬ x < 0) (h : swf P σ) : swf P (u2 σ 0 12 x) := by
  obtain ⟨a1, a2, a3, a4, a5, a6, a7⟩ := h
  exact ⟨by simpa [u2] using a1, by simpa [u2] using a2, by simpa [u2] using a3, by rw [u2_k (by decide)]; exact a4, by rw [u2_k (by decide)]; exact a5, by simpa [u2] using a6, by rw [u2_s]; exact hx⟩
theorem swf_1 {P : PL} {σ : ST} {s : Nat} {x : Int32} (hx : ∀ k, k < 32 → bt x k = true → s < pS P ∧ k < pN P) (h : swf P σ) : swf P (u2 σ 1 s x) := by
  obtain ⟨a1, a2, a3, a4, a5, a6, a7⟩ := h
  refine ⟨by simpa [u2] using a1, by simpa [u2] using a2, by simpa [u2] using a3, by rw [u2_i (by decide)]; exact a4, by rw [u2_i (by decide)]; exact a5, fun s' hs k hk hb => ?_, by rw [u2_i (by decide)]; exact a7⟩
  by_cases e : s' = s
  · subst e; rw [u2_s] at hb; exact hx k hk hb
  · rw [u2_k e] at hb; exact a6 s' hs k hk hb
theorem swf_r {P : PL} {σ : ST} {a k : Nat} {x : Int32} (ha : a = 2 ∨ a = 3 ∨ a = 4) (h : swf P σ) : swf P (u2 σ a k x) := by
  have e : ∀ c, c = 0 ∨ c = 1 ∨ c = 5 ∨ c = 6 → u2 σ a k x c = σ c := fun c hc => u2_r (by omega)
  unfold swf at h ⊢
  rw [e 0 (by omega), e 1 (by omega), e 5 (by omega), e 6 (by omega)]
  exact h
theorem swf_stp {P : PL} {σ : ST} {n : Nat} (hn : n < 32) (h : swf P σ) : swf P (stp σ n) := by
  obtain ⟨a1, a2, a3, a4, a5, a6, a7⟩ := h
  refine ⟨by simpa [stp] using a1, by simpa [stp] using a2, by simpa [stp] using a3, fun k hk hb => ?_, by simpa [stp] using a5, fun s hs k hk hb => ?_, by simpa [stp] using a7⟩
  · have e : stp σ n 0 7 = unb (σ 0 7) n := rfl
    rw [e, bt_unb _ hn hk] at hb
    exact a4 k hk (by simp at hb; exact hb.1)
  · have e : stp σ n 1 s = unb (σ 1 s) n := by simp [stp, hs]
    rw [e, bt_unb _ hn hk] at hb
    exact a6 s hs k hk (by simp at hb; exact hb.1)
theorem SM_stp {b n : Nat} {σ : ST} {i : Nat → Nat → Int32} (h : SM b σ i) : SM b (stp σ n) (u2 (u2 (u2 (u2 i 109 b (unb (σ 0 7) n)) 110 (3 * b + 0) (unb (σ 1 0) n)) 110 (3 * b + 1) (unb (σ 1 1) n)) 110 (3 * b + 2) (unb (σ 1 2) n)) := by
  have h2 := SM_r1 (k := 2) (x := unb (σ 1 2) n) (by omega) (SM_r1 (k := 1) (x := unb (σ 1 1) n) (by omega) (SM_r1 (k := 0) (x := unb (σ 1 0) n) (by omega) (SM_7 (x := unb (σ 0 7) n) h)))
  have e : stp σ n = u2 (u2 (u2 (u2 σ 0 7 (unb (σ 0 7) n)) 1 0 (unb (σ 1 0) n)) 1 1 (unb (σ 1 1) n)) 1 2 (unb (σ 1 2) n) := by
    funext a k
    unfold stp u2
    by_cases h0 : a = 0
    · subst h0; simp
    · by_cases h1 : a = 1
      · subst h1
        by_cases e0 : k = 0
        · subst e0; simp
        · by_cases e1 : k = 1
          · subst e1; simp
          · by_cases e2 : k = 2
            · subst e2; simp
            · simp [e0, e1, e2]
              intro h; omega
      · simp [h0, h1]
  rw [e]
  exact h2
theorem stp_u2 (σ : ST) (n : Nat) : stp σ n = u2 (u2 (u2 (u2 σ 0 7 (unb (σ 0 7) n)) 1 0 (unb (σ 1 0) n)) 1 1 (unb (σ 1 1) n)) 1 2 (unb (σ 1 2) n) := by
  funext a k
  unfold stp u2
  by_cases h0 : a = 0
  · subst h0; simp
  · by_cases h1 : a = 1
    · subst h1
      by_cases e0 : k = 0
      · subst e0; simp
      · by_cases e1 : k = 1
        · subst e1; simp
        · by_cases e2 : k = 2
          · subst e2; simp
          · simp [e0, e1, e2]
            intro h; omega
    · simp [h0, h1]
theorem evt_06 (sil : Int32) (nc : Bool) (kd w : Nat) (σ : ST) : evt sil nc kd w σ 0 6 = σ 0 6 := by
  unfold evt
  split
  · split
    · rfl
    · exact u2_k (by decide)
  · split
    · rfl
    · split
      · split
        · rfl
        · exact u2_k (by decide)
      · exact u2_k (by decide)
theorem evs_06 (P : PL) (sil : Int32) (nc : Bool) (σ : ST) : ∀ e, evs P sil nc σ e 0 6 = σ 0 6
  | 0 => rfl
  | e + 1 => by
    unfold evs
    split
    · rw [evt_06, evs_06 P sil nc σ e]
    · exact evs_06 P sil nc σ e
theorem swf_evt {P : PL} {σ : ST} {sil : Int32} {nc : Bool} {kd w : Nat} (hw : pwf P) (hk : 4 ≤ kd ∧ kd ≤ 7 ∧ (kd ≤ 5 → w < pN P) ∧ (6 ≤ kd → w < pL P)) (h : swf P σ) : swf P (evt sil nc kd w σ) := by
  have h7 := hw.1.1
  have h8 := hw.1.2.1
  obtain ⟨k1, k2, k3, k4⟩ := hk
  unfold evt
  split
  · split
    · exact h
    · refine swf_7 (fun k hk hb => ?_) h
      have hw2 := k3 (by omega)
      rw [bt_stb _ (by omega) hk] at hb
      by_cases e : k = w
      · omega
      · exact h.2.2.2.1 k hk (by simpa [e] using hb)
  · split
    · exact swf_stp (by have := k3 (by omega); omega) h
    · have hw2 := k4 (by omega)
      split
      · split
        · exact h
        · refine swf_8 (fun k hk hb => ?_) h
          rw [bt_stb _ (by omega) hk] at hb
          by_cases e : k = w
          · omega
          · exact h.2.2.2.2.1 k hk (by simpa [e] using hb)
      · refine swf_8 (fun k hk hb => ?_) h
        rw [bt_unb _ (by omega) hk] at hb
        exact h.2.2.2.2.1 k hk (by simp at hb; exact hb.1)
theorem swf_evs {P : PL} {σ : ST} {sil : Int32} {nc : Bool} (hw : pwf P) (h : swf P σ) : ∀ e, e ≤ pE P → swf P (evs P sil nc σ e)
  | 0, _ => h
  | e + 1, he => by
    have ih := swf_evs (sil := sil) (nc := nc) hw h e (by omega)
    have hk := hw.2.2.2.2.2.2.1 e (by omega)
    unfold evs
    split
    · exact swf_evt hw ⟨hk.1, hk.2.1, hk.2.2.1, hk.2.2.2.1⟩ ih
    · exact ih
end

section
/-! modes; frames; events on both sides -/
/-- drawn, still, which trial (5: none), the silenced one -/
abbrev MD : Type := Bool × Bool × Nat × Int32
def CM (m : MD) (i : Nat → Nat → Int32) : Prop := i 47 4 = nI m.1.toNat ∧ i 47 5 = nI m.2.1.toNat ∧ i 47 6 = (if m.2.2.1 = 5 then nM 1 else nI m.2.2.1) ∧ i 47 7 = m.2.2.2
def RM (m : MD) (i : Nat → Nat → Int32) : Prop := i 82 66 = nI m.1.toNat ∧ i 82 67 = nI (m.2.2.1 == 0).toNat ∧ i 82 68 = nI (m.2.2.1 == 1).toNat ∧ i 82 69 = nI (m.2.2.1 == 3).toNat ∧ i 82 70 = nI (m.2.2.1 == 4).toNat ∧ i 82 71 = nI m.2.1.toNat ∧ i 82 72 = m.2.2.2 ∧ i 82 73 = nM 1
theorem tr_eq {m : MD} (hm : m.2.2.1 ≤ 5) {i : Nat → Nat → Int32} (h : CM m i) {k : Nat} (hk : k < 5) : i 47 6 = nI k ↔ m.2.2.1 = k := by
  rw [h.2.2.1]
  by_cases e : m.2.2.1 = 5
  · rw [if_pos e]
    constructor
    · intro h2
      have h3 := nM_neg (m := 1) (by omega) (by omega)
      rw [h2] at h3
      exact absurd h3 (nI_pos (by omega))
    · intro h2; omega
  · rw [if_neg e]
    exact nI_eq (by omega) (by omega)
/-- the component's rows that ticks change -/
def qC (o a k : Nat) : Bool := (decide (o ≤ a) && decide (a ≤ o + 6)) || a == 43 || a == 44 || a == 45 || a == 48 || a == 49 || a == 50 || (a == 26 && (k == 4 || k == 5))
theorem qC_s {o a k : Nat} (h : a < 7) : qC o (o + a) k = true := by
  unfold qC
  rw [decide_eq_true (show o ≤ o + a by omega), decide_eq_true (show o + a ≤ o + 6 by omega)]; rfl
theorem qC_p {o p a k : Nat} (ho : o = 51 ∨ o = 65) (hp : p = 7 ∨ p = 27) (ha : a < 16) : qC o (p + a) k = false := by
  unfold qC
  simp
  omega
theorem qC_47 {o k : Nat} (ho : o = 51 ∨ o = 65) : qC o 47 k = false := by
  rcases ho with rfl | rfl <;> rfl
theorem PC_qC {P : PL} {o p : Nat} {i j : Nat → Nat → Int32} (ho : o = 51 ∨ o = 65) (hp : p = 7 ∨ p = 27) (h : PC P p i) (hf : fr (qC o) i j) : PC P p j := PC_fr h (fun a ha => funext fun k => hf _ _ (qC_p ho hp ha))
theorem CM_qC {m : MD} {o : Nat} {i j : Nat → Nat → Int32} (ho : o = 51 ∨ o = 65) (h : CM m i) (hf : fr (qC o) i j) : CM m j := by
  unfold CM
  rw [hf 47 4 (qC_47 ho), hf 47 5 (qC_47 ho), hf 47 6 (qC_47 ho), hf 47 7 (qC_47 ho)]
  exact h
/-- the reference's -/
def qR (b a k : Nat) : Bool := (a == 82 && (k == 53 || k == 76)) || a == 119 || a == 120 || a == 121 || a == 122 || ((a == 108 || a == 109 || a == 115 || a == 116 || a == 117 || a == 118) && k == b) || (a == 110 && (decide (3 * b ≤ k) && decide (k < 3 * b + 3))) || (a == 111 && (decide (224 * b ≤ k) && decide (k < 224 * b + 224))) || ((a == 112 || a == 113 || a == 114) && (decide (7 * b ≤ k) && decide (k < 7 * b + 7)))
theorem qR_PM {b a k : Nat} (h : qPM a k = true) : qR b a k = false := by
  unfold qPM at h
  unfold qR
  simp at h ⊢
  omega
theorem PM_qR {P : PL} {b : Nat} {i j : Nat → Nat → Int32} (hw : pwf P) (h : PM P i) (hf : fr (qR b) i j) : PM P j := PM_fr hw h (fun a k hq => hf a k (qR_PM hq))
theorem RM_qR {m : MD} {b : Nat} {i j : Nat → Nat → Int32} (h : RM m i) (hf : fr (qR b) i j) : RM m j := by
  unfold RM
  rw [hf 82 66 rfl, hf 82 67 rfl, hf 82 68 rfl, hf 82 69 rfl, hf 82 70 rfl, hf 82 71 rfl, hf 82 72 rfl, hf 82 73 rfl]
  exact h
section
variable {l : Nat → Nat → Int64} {s r p : Nat}
theorem stop_ok {i : Nat → Nat → Int32} {o n : Nat} (ho : o = 51 ∨ o = 65) (hn : n < 32) : ∃ j, State_stopListening o (nI n) (i, l, Rp s r p) = some (none, (j, l, Rp s r p)) ∧ vw o j = stp (vw o i) n ∧ ∀ a, a ≠ o → a ≠ o + 1 → j a = i a := by
  rw [State_stopListening_eq _ _ _ _ _ _ _ ho, State_stopListening_16_eq _ _ _ _ _ _ _ _ ho]
  simp (disch := omega) only [nI_mul, nI_add, nI_clamp, gd_in, gd_0, gd_1, gd_b, gd_n0, ifc_lt, ifc_eq, ifc_neg, ifc_z, ifc_pos, ifc_b, if_pos, if_neg, crV_t, crI_t, crL_t, ifc_True, ifc_False, if_true, if_false]
  rw [State_stopListening_16_eq _ _ _ _ _ _ _ _ ho]
  simp (disch := omega) only [nI_mul, nI_add, nI_clamp, gd_in, gd_0, gd_1, gd_b, gd_n0, ifc_lt, ifc_eq, ifc_neg, ifc_z, ifc_pos, ifc_b, if_pos, if_neg, crV_t, crI_t, crL_t, ifc_True, ifc_False, if_true, if_false]
  rw [State_stopListening_16_eq _ _ _ _ _ _ _ _ ho]
  simp (disch := omega) only [nI_mul, nI_add, nI_clamp, gd_in, gd_0, gd_1, gd_b, gd_n0, ifc_lt, ifc_eq, ifc_neg, ifc_z, ifc_pos, ifc_b, if_pos, if_neg, crV_t, crI_t, crL_t, ifc_True, ifc_False, if_true, if_false]
  rw [State_stopListening_16_eq _ _ _ _ _ _ _ _ ho]
  simp (disch := omega) only [nI_mul, nI_add, nI_clamp, gd_in, gd_0, gd_1, gd_b, gd_n0, ifc_lt, ifc_eq, ifc_neg, ifc_z, ifc_pos, ifc_b, if_pos, if_neg, crV_t, crI_t, crL_t, ifc_True, ifc_False, if_true, if_false]
  refine ⟨_, rfl, ?_, ?_⟩
  · rw [vw_s, vw_s, vw_s, vw_0, stp_u2]
    simp (disch := omega) only [u2_s, u2_i, u2_k]
    rfl
  · intro a h1 h2
    rw [u2_r h2, u2_r h2, u2_r h2, u2_r h1]
theorem takePlace_ok {i : Nat → Nat → Int32} {o k w : Nat} {m : MD} (ho : o = 51 ∨ o = 65) (hm : m.2.2.1 ≤ 5) (hM : CM m i) (hk : 4 ≤ k ∧ k ≤ 7) (hw : w < 32) :
    ∃ j, Course_takePlace o (nI k) (nI w) (i, l, Rp s r p) = some (none, (j, l, Rp s r p)) ∧ vw o j = evt m.2.2.2 (m.2.2.1 == 3) k w (vw o i) ∧ ∀ a, a ≠ o → a ≠ o + 1 → j a = i a := by
  rw [Course_takePlace_eq _ _ _ _ _ _ _ _ ho, hM.2.2.2, ifc_eq (by omega) (by omega), ifc_eq (by omega) (by omega), ifc_eq (by omega) (by omega)]
  unfold evt
  by_cases h4 : k = 4
  · rw [if_pos h4, if_pos h4]
    by_cases he : nI w = m.2.2.2
    · rw [ifc_t he, if_pos he, or_0, u2_self rfl]
      exact ⟨i, rfl, rfl, fun _ _ _ => rfl⟩
    · rw [ifc_f he, if_neg he]
      exact ⟨_, rfl, vw_0, fun a h1 _ => u2_r h1⟩
  · rw [if_neg h4, if_neg h4]
    by_cases h5 : k = 5
    · rw [if_pos h5, if_pos h5]
      obtain ⟨j, e1, e2, e3⟩ := stop_ok (i := i) (l := l) (s := s) (r := r) (p := p) ho hw
      rw [e1, crV_t]
      exact ⟨j, rfl, e2, e3⟩
    · rw [if_neg h5, if_neg h5]
      by_cases h6 : k = 6
      · rw [if_pos h6, if_pos h6]
        by_cases h3 : m.2.2.1 = 3
        · rw [ifc_t ((tr_eq hm hM (by omega)).mpr h3), show (m.2.2.1 == 3) = true by simpa using h3, if_pos rfl, or_0, u2_self rfl]
          exact ⟨i, rfl, rfl, fun _ _ _ => rfl⟩
        · rw [ifc_f (fun h => h3 ((tr_eq hm hM (by omega)).mp h)), show (m.2.2.1 == 3) = false by simpa using h3, if_neg (by decide)]
          exact ⟨_, rfl, vw_0, fun a h1 _ => u2_r h1⟩
      · rw [if_neg h6, if_neg h6]
        exact ⟨_, rfl, vw_0, fun a h1 _ => u2_r h1⟩
theorem fr_of {Q : Nat → Nat → Bool} {i j : Nat → Nat → Int32} (h : ∀ a k, Q a k = false → j a k = i a k) : fr Q i j := h
theorem happen_ok {i : Nat → Nat → Int32} {P : PL} {o : Nat} {m : MD} (ho : o = 51 ∨ o = 65) (hp : p = 7 ∨ p = 27) (hw : pwf P) (hP : PC P p i) (hm : m.2.2.1 ≤ 5) (hM : CM m i) :
    ∃ j, Course_happen o (i, l, Rp s r p) = some (none, (j, l, Rp s r p)) ∧ vw o j = evs P m.2.2.2 (m.2.2.1 == 3) (vw o i) (pE P) ∧ ∀ a, a ≠ o → a ≠ o + 1 → j a = i a := by
  have h7 := hw.1.1
  have h8 := hw.1.2.1
  have h16 := hw.1.2.2.2.1
  have hpo : ∀ a, a < 16 → p + a ≠ o ∧ p + a ≠ o + 1 := fun a ha => by omega
  have h := loop_ex (F := fun e (j : Nat → Nat → Int32) => Course_happen_10 o p (nI e) (j, l, Rp s r p)) (I9 := fun e j => vw o j = evs P m.2.2.2 (m.2.2.1 == 3) (vw o i) e ∧ ∀ a, a ≠ o → a ≠ o + 1 → j a = i a) (n := pE P) (fun e j he hI => by
    obtain ⟨q1, q2⟩ := hI
    have hPj : PC P p j := PC_fr hP (fun a ha => q2 _ (hpo a ha).1 (hpo a ha).2)
    have hMj : CM m j := by unfold CM; rw [q2 47 (by omega) (by omega)]; exact hM
    obtain ⟨e1, e2, e3⟩ := hPj.2.2.2.2.2.1 e he
    have hk := hw.2.2.2.2.2.2.1 e he
    have hE : j p 14 = nI (pE P) := hPj.1 14 (by omega) (by omega)
    have ht : j o 6 = (vw o i) 0 6 := by
      have : vw o j 0 6 = (vw o i) 0 6 := by rw [q1, evs_06]
      exact this
    show ∃ j', Course_happen_10 o p (nI e) (j, l, Rp s r p) = Course_happen_10 o p (nI (e + 1)) (j', l, Rp s r p) ∧ _
    rw [Course_happen_10_eq _ _ _ _ _ _ _ ho hp, hE]
    simp (disch := omega) only [nI_mul, nI_add, nI_clamp, gd_in, gd_0, gd_1, gd_b, gd_n0, ifc_lt, ifc_eq, ifc_neg, ifc_z, ifc_pos, ifc_b, if_pos, if_neg, crV_t, crI_t, crL_t, ifc_True, ifc_False, if_true, if_false]
    rw [e3, ht]
    unfold evs
    by_cases hc : nI (P.2.1 8 e) = vw o i 0 6
    · rw [ifc_t hc, if_pos hc, e1, e2]
      obtain ⟨j2, f1, f2, f3⟩ := takePlace_ok (i := j) (l := l) (s := s) (r := r) (p := p) (k := P.2.1 6 e) (w := P.2.1 7 e) ho hm hMj ⟨hk.1, hk.2.1⟩ (by omega)
      rw [f1, crV_t]
      exact ⟨j2, rfl, by rw [f2, q1], fun a h1 h2 => (f3 a h1 h2).trans (q2 a h1 h2)⟩
    · rw [ifc_f hc, if_neg hc]
      exact ⟨j, rfl, q1, q2⟩) 0 i (by omega) ⟨rfl, fun _ _ _ => rfl⟩
  obtain ⟨j, q0, q1, q2⟩ := h
  rw [Course_happen_eq _ _ _ _ _ _ ho hp]
  refine ⟨j, q0.trans ?_, q1, q2⟩
  show Course_happen_10 o p (nI (pE P)) (j, l, Rp s r p) = _
  have hE : j p 14 = nI (pE P) := by rw [q2 p (by omega) (by omega)]; exact hP.1 14 (by omega) (by omega)
  rw [Course_happen_10_eq _ _ _ _ _ _ _ ho hp, hE, ifc_f (nI_nlt (Nat.le_refl _) (by omega))]
/-! the reference's -/
theorem stops_ok {i : Nat → Nat → Int32} {σ : ST} {b n : Nat} (hb : b < 2) (hn : n < 32) (hS : SM b σ i) : ∃ j, Mo_stopsListening (nI b) (nI n) (i, l, Rp s r p) = some (none, (j, l, Rp s r p)) ∧ SM b (stp σ n) j ∧ fr (qR b) i j := by
  have hx : Mo_stopsListening (nI b) (nI n) (i, l, Rp s r p) = some (none, (u2 (u2 (u2 (u2 i 109 b (unb (σ 0 7) n)) 110 (3 * b + 0) (unb (σ 1 0) n)) 110 (3 * b + 1) (unb (σ 1 1) n)) 110 (3 * b + 2) (unb (σ 1 2) n), l, Rp s r p)) := by
    have s0 := hS.2.2.1 0 (by omega)
    have s1 := hS.2.2.1 1 (by omega)
    have s2 := hS.2.2.1 2 (by omega)
    rw [Mo_stopsListening_eq, Mo_stopsListening_16_eq]
    simp (disch := omega) only [nI_mul, nI_add, nI_clamp, gd_in, gd_0, gd_1, gd_b, gd_n0, ifc_lt, ifc_eq, ifc_neg, ifc_z, ifc_pos, ifc_b, if_pos, if_neg, crV_t, crI_t, crL_t, ifc_True, ifc_False, if_true, if_false]
    rw [Mo_stopsListening_16_eq]
    simp (disch := omega) only [nI_mul, nI_add, nI_clamp, gd_in, gd_0, gd_1, gd_b, gd_n0, ifc_lt, ifc_eq, ifc_neg, ifc_z, ifc_pos, ifc_b, if_pos, if_neg, crV_t, crI_t, crL_t, ifc_True, ifc_False, if_true, if_false]
    rw [Mo_stopsListening_16_eq]
    simp (disch := omega) only [nI_mul, nI_add, nI_clamp, gd_in, gd_0, gd_1, gd_b, gd_n0, ifc_lt, ifc_eq, ifc_neg, ifc_z, ifc_pos, ifc_b, if_pos, if_neg, crV_t, crI_t, crL_t, ifc_True, ifc_False, if_true, if_false]
    rw [Mo_stopsListening_16_eq]
    simp (disch := omega) only [nI_mul, nI_add, nI_clamp, gd_in, gd_0, gd_1, gd_b, gd_n0, ifc_lt, ifc_eq, ifc_neg, ifc_z, ifc_pos, ifc_b, if_pos, if_neg, crV_t, crI_t, crL_t, ifc_True, ifc_False, if_true, if_false, u2_s, u2_i, u2_k, hS.2.1]
    simp only [Nat.zero_add] at s0 s1 s2 ⊢
    simp only [Nat.add_zero, Nat.reduceAdd] at s0 s1 s2 ⊢
    rw [s0, s1, s2]
    rfl
  refine ⟨_, hx, SM_stp hS, ?_⟩
  refine fr_trans (fr_trans (fr_trans (fr_u2 ?_) (fr_u2 ?_)) (fr_u2 ?_)) (fr_u2 ?_) <;> simp [qR]
theorem eventGoes_ok {i : Nat → Nat → Int32} {P : PL} {σ : ST} {b e : Nat} {m : MD} (hw : pwf P) (hP : PM P i) (hM : RM m i) (hb : b < 2) (hS : SM b σ i) (he : e < pE P) :
    ∃ j, Mo_eventGoes (nI b) (nI e) (i, l, Rp s r p) = some (none, (j, l, Rp s r p)) ∧ SM b (evt m.2.2.2 (m.2.2.1 == 3) (P.2.1 6 e) (P.2.1 7 e) σ) j ∧ fr (qR b) i j := by
  have h7 := hw.1.1
  have h8 := hw.1.2.1
  have h16 := hw.1.2.2.2.1
  have hk := hw.2.2.2.2.2.2.1 e he
  obtain ⟨e1, e2, e3⟩ := hP.2.2.2.2.2.2.1 e he
  have hx : P.2.1 7 e < 32 := by omega
  rw [Mo_eventGoes_eq]
  simp (disch := omega) only [nI_mul, nI_add, nI_clamp, gd_in, gd_0, gd_1, gd_b, gd_n0, ifc_lt, ifc_eq, ifc_neg, ifc_z, ifc_pos, ifc_b, if_pos, if_neg, crV_t, crI_t, crL_t, ifc_True, ifc_False, if_true, if_false, e1, e2, hM.2.2.2.2.2.2.1, hM.2.2.2.1, hS.1, hS.2.1]
  unfold evt
  by_cases h4 : P.2.1 6 e = 4
  · rw [if_pos h4, if_pos h4]
    by_cases hc : nI (P.2.1 7 e) = m.2.2.2
    · rw [ifc_t hc, if_pos hc, or_0, u2_self hS.2.1]
      exact ⟨i, rfl, hS, fr_refl _ _⟩
    · rw [ifc_f hc, if_neg hc]
      exact ⟨_, rfl, SM_7 hS, fr_u2 (by simp [qR])⟩
  · rw [if_neg h4, if_neg h4]
    by_cases h5 : P.2.1 6 e = 5
    · rw [if_pos h5, if_pos h5]
      obtain ⟨j, f1, f2, f3⟩ := stops_ok (l := l) (s := s) (r := r) (p := p) hb hx hS
      rw [f1, crV_t]
      exact ⟨j, rfl, f2, f3⟩
    · rw [if_neg h5, if_neg h5]
      by_cases h6 : P.2.1 6 e = 6
      · rw [if_pos h6, if_pos h6]
        cases hc : (m.2.2.1 == 3)
        · simp only [Bool.false_eq_true, if_false]
          exact ⟨_, rfl, SM_8 hS, fr_u2 (by simp [qR])⟩
        · simp only [if_true]
          rw [or_0, u2_self hS.1]
          exact ⟨i, rfl, hS, fr_refl _ _⟩
      · rw [if_neg h6, if_neg h6]
        exact ⟨_, rfl, SM_8 hS, fr_u2 (by simp [qR])⟩
/-- the events of a tick; still: none -/
def evm (P : PL) (m : MD) (σ : ST) : ST := if m.2.1 then σ else evs P m.2.2.2 (m.2.2.1 == 3) σ (pE P)
theorem swf_evm {P : PL} {m : MD} {σ : ST} (hw : pwf P) (h : swf P σ) : swf P (evm P m σ) := by
  unfold evm
  split
  · exact h
  · exact swf_evs hw h _ (Nat.le_refl _)
theorem tick2_ok {i : Nat → Nat → Int32} {P : PL} {σ : ST} {b : Nat} {m : MD} (hw : pwf P) (hP : PM P i) (hM : RM m i) (hb : b < 2) (hS : SM b σ i) :
    ∃ j, Mo_tickGoes_2 (nI b) (nI 0) (i, l, Rp s r p) = Mo_tickGoes_50 (nI b) (nI (224 * b)) (j, l, Rp s r p) ∧ SM b (evm P m σ) j ∧ fr (qR b) i j := by
  have h16 := hw.1.2.2.2.1
  cases hst : m.2.1
  · have h := loop_ex (F := fun e (j : Nat → Nat → Int32) => Mo_tickGoes_2 (nI b) (nI e) (j, l, Rp s r p)) (I9 := fun e j => SM b (evs P m.2.2.2 (m.2.2.1 == 3) σ e) j ∧ fr (qR b) i j) (n := pE P) (fun e j he hI => by
      obtain ⟨q1, q2⟩ := hI
      have hPj := PM_qR hw hP q2
      have hMj := RM_qR hM q2
      obtain ⟨e1, e2, e3⟩ := hPj.2.2.2.2.2.2.1 e he
      show ∃ j', Mo_tickGoes_2 (nI b) (nI e) (j, l, Rp s r p) = Mo_tickGoes_2 (nI b) (nI (e + 1)) (j', l, Rp s r p) ∧ _
      have ht : j 118 b = σ 0 6 := q1.2.2.2.2.2.2.2.2.trans (evs_06 _ _ _ _ _)
      rw [Mo_tickGoes_2_eq, hPj.1.2.2.2.1, hMj.2.2.2.2.2.1, hst]
      simp (disch := omega) only [nI_mul, nI_add, nI_clamp, gd_in, gd_0, gd_1, gd_b, gd_n0, ifc_lt, ifc_eq, ifc_neg, ifc_z, ifc_pos, ifc_b, if_pos, if_neg, crV_t, crI_t, crL_t, ifc_True, ifc_False, if_true, if_false, ht, e3]
      simp only [Bool.false_eq_true, if_false]
      unfold evs
      by_cases hc : nI (P.2.1 8 e) = σ 0 6
      · rw [ifc_t hc, if_pos hc]
        obtain ⟨j2, f1, f2, f3⟩ := eventGoes_ok (l := l) (s := s) (r := r) (p := p) hw hPj hMj hb q1 he
        rw [f1, crV_t]
        exact ⟨j2, rfl, f2, fr_trans q2 f3⟩
      · rw [ifc_f hc, if_neg hc]
        exact ⟨j, rfl, q1, q2⟩) 0 i (by omega) ⟨hS, fr_refl _ _⟩
    obtain ⟨j, q0, q1, q2⟩ := h
    refine ⟨j, q0.trans ?_, by unfold evm; rw [hst]; exact q1, q2⟩
    show Mo_tickGoes_2 (nI b) (nI (pE P)) (j, l, Rp s r p) = _
    rw [Mo_tickGoes_2_eq, (PM_qR hw hP q2).1.2.2.2.1, ifc_f (nI_nlt (Nat.le_refl _) (by omega)), nI_mul]
  · refine ⟨i, ?_, by unfold evm; rw [hst]; exact hS, fr_refl _ _⟩
    rw [Mo_tickGoes_2_eq, hM.2.2.2.2.2.1, hst, ifc_b, if_pos rfl, nI_mul]
    by_cases h0 : nI 0 < i 82 15
    · rw [ifc_t h0]
    · rw [ifc_f h0]
end
end

section
/-! joins: the pure step, the component's joinUp, the reference's joins -/
noncomputable def upo (P : PL) (σ : ST) (t n : Nat) : Option (Nat × Nat) := upl P (fd P (σ 0 8) t) (bt (σ 0 8)) (mtv P (fd P (σ 0 8) t) σ t) n
theorem upo_some {P : PL} {σ : ST} {t n : Nat} {u : Nat × Nat} (h : upo P σ t n = some u) : u.1 < pL P ∧ u.2 < pN P ∧ bt (σ 0 8) u.1 = false ∧ bt (mem P u.1) n = true ∧ bt (mem P u.1) u.2 = true ∧ fd P (σ 0 8) t u.2 + cst P u.1 = fd P (σ 0 8) t n := by
  unfold upo upl at h
  by_cases h9 : fd P (σ 0 8) t n < 99
  · rw [if_pos h9] at h
    obtain ⟨a, q⟩ := u
    obtain ⟨h1, h2, h3⟩ := fst1_some h
    unfold upk at h3
    cases hc : bt (σ 0 8) a
    · rw [hc] at h3
      simp only [Bool.false_eq_true, if_false] at h3
      cases hm : bt (mem P a) n
      · rw [hm] at h3; simp at h3
      · rw [hm] at h3
        simp only [if_true] at h3
        obtain ⟨h4, h5⟩ := pk_some h3
        unfold nrb at h5
        simp at h5
        exact ⟨by show a < _; omega, h4, rfl, rfl, h5.1, h5.2⟩
    · rw [hc] at h3; simp at h3
  · rw [if_neg h9] at h; exact absurd h (by simp)
def hld (σ : ST) (t q k v : Nat) : ST := u2 (u2 σ 5 (56 * t + 8 * q + k) (nI v)) 6 (7 * t + q) (stb (σ 6 (7 * t + q)) k)
abbrev JnS : Type := ST × (Nat → Bool)
noncomputable def jo1 (P : PL) (br : Bool) (t n : Nat) (S : JnS) : JnS :=
  if wnt P S.1 t n then match upo P S.1 t n with
    | none => S
    | some u => if S.2 (56 * t + 8 * u.2 + u.1) then (u2 S.1 0 10 (S.1 0 10 + nI 1), S.2) else (hld S.1 t u.2 u.1 (kpt P br S.1 t u.2), fun j => S.2 j || j == 56 * t + 8 * u.2 + u.1)
  else S
noncomputable def jot (P : PL) (br : Bool) (n : Nat) (S : JnS) : Nat → JnS
  | 0 => S
  | t + 1 => jo1 P br t n (jot P br n S t)
noncomputable def jon (P : PL) (br : Bool) (S : JnS) : Nat → JnS
  | 0 => S
  | n + 1 => jot P br n (jon P br S n) (pS P + 1)
theorem swf_hld {P : PL} {σ : ST} {t q k v : Nat} (hw : pwf P) (ht : t ≤ pS P) (hq : q < pN P) (hk : k < pL P) (hv : 1 ≤ v ∧ v ≤ 99) (h : swf P σ) : swf P (hld σ t q k v) := by
  have h7 := hw.1.1
  have h8 := hw.1.2.1
  have h3 := hw.1.2.2.1
  obtain ⟨a1, a2, a3, a4, a5, a6, a7⟩ := h
  have e5 : hld σ t q k v 5 = u2 σ 5 (56 * t + 8 * q + k) (nI v) 5 := u2_r (by decide)
  have e6 : ∀ a, hld σ t q k v 6 a = if a = 7 * t + q then stb (σ 6 (7 * t + q)) k else σ 6 a := fun a => by
    unfold hld
    by_cases e : a = 7 * t + q
    · rw [e, u2_s, if_pos rfl]
    · rw [u2_k e, u2_i (by decide), if_neg e]
  have eo : ∀ a, a < 5 → hld σ t q k v a = σ a := fun a ha => (u2_r (by omega)).trans (u2_r (by omega))
  refine ⟨fun j hj => ?_, fun a ha m hm => ?_, fun t' n m ht' hn' hm hx => ?_, ?_, ?_, ?_, ?_⟩
  · rw [e5]
    by_cases e : j = 56 * t + 8 * q + k
    · rw [e, u2_s]; exact ⟨v, hv.2, rfl⟩
    · rw [u2_k e]; exact a1 j hj
  · rw [e5, e6]
    by_cases e : a = 7 * t + q
    · subst e
      rw [if_pos rfl, bt_stb _ (by omega) hm, a2 (7 * t + q) ha m hm]
      by_cases em : m = k
      · subst em
        rw [show 8 * (7 * t + q) + m = 56 * t + 8 * q + m by omega, u2_s, decide_eq_true (show m < 8 by omega), decide_eq_true (nI_ne0 (show 0 < v by omega) (by omega))]
        simp
      · rw [decide_eq_false em, Bool.or_false]
        by_cases h9 : m < 8
        · rw [u2_k (by omega)]
        · rw [decide_eq_false h9]; rfl
    · rw [if_neg e, a2 a ha m hm]
      by_cases h9 : m < 8
      · rw [u2_k (by omega)]
      · rw [decide_eq_false h9]; rfl
  · rw [e5, u2_k (by omega)]; exact a3 t' n m ht' hn' hm hx
  · rw [eo 0 (by omega)]; exact a4
  · rw [eo 0 (by omega)]; exact a5
  · rw [eo 1 (by omega)]; exact a6
  · rw [eo 0 (by omega)]; exact a7
theorem swf_jo1 {P : PL} {br : Bool} {t n : Nat} {S : JnS} (hw : pwf P) (ht : t ≤ pS P) (h : swf P S.1) : swf P (jo1 P br t n S).1 := by
  unfold jo1
  split
  · split
    · exact h
    · rename_i u hu
      obtain ⟨u1, u2', _⟩ := upo_some hu
      split
      · exact swf_0 (by decide) (by decide) (by decide) h
      · exact swf_hld hw ht u2' u1 (kpt_r hw _ _ _ _) h
  · exact h
theorem jo1_0 {P : PL} {br : Bool} {t n : Nat} {S : JnS} {k : Nat} (hk : k ≠ 10) : (jo1 P br t n S).1 0 k = S.1 0 k := by
  unfold jo1
  split
  · split
    · rfl
    · split
      · show u2 S.1 0 10 _ 0 k = _
        exact u2_k hk
      · unfold hld
        simp (disch := omega) only [u2_s, u2_i, u2_k]
  · rfl
theorem swf_jot {P : PL} {br : Bool} {n : Nat} {S : JnS} (hw : pwf P) (h : swf P S.1) : ∀ t, t ≤ pS P + 1 → swf P (jot P br n S t).1
  | 0, _ => h
  | t + 1, ht => swf_jo1 hw (by omega) (swf_jot hw h t (by omega))
theorem swf_jon {P : PL} {br : Bool} {S : JnS} (hw : pwf P) (h : swf P S.1) : ∀ n, swf P (jon P br S n).1
  | 0 => h
  | n + 1 => swf_jot hw (swf_jon hw h n) _ (Nat.le_refl _)
theorem jot_0 {P : PL} {br : Bool} {n : Nat} {S : JnS} {k : Nat} (hk : k ≠ 10) : ∀ t, (jot P br n S t).1 0 k = S.1 0 k
  | 0 => rfl
  | t + 1 => (jo1_0 hk).trans (jot_0 hk t)
theorem jon_0 {P : PL} {br : Bool} {S : JnS} {k : Nat} (hk : k ≠ 10) : ∀ n, (jon P br S n).1 0 k = S.1 0 k
  | 0 => rfl
  | n + 1 => (jot_0 hk _).trans (jon_0 hk n)
/-- the rows of a state, those of joins and ups -/
def qD (o a k : Nat) : Bool := (decide (o ≤ a) && decide (a ≤ o + 6)) || a == 48 || a == 49 || a == 50
theorem qD_C {o a k : Nat} (h : qC o a k = false) : qD o a k = false := by
  unfold qC at h
  unfold qD
  simp at h ⊢
  omega
theorem fr_DC {o : Nat} {i j : Nat → Nat → Int32} (h : fr (qD o) i j) : fr (qC o) i j := fr_mono (fun _ _ => qD_C) h
theorem qD_s {o a k : Nat} (h : a < 7) : qD o (o + a) k = true := by
  unfold qD
  rw [decide_eq_true (show o ≤ o + a by omega), decide_eq_true (show o + a ≤ o + 6 by omega)]; rfl
theorem NetOk_D {P : PL} {o : Nat} {i j : Nat → Nat → Int32} {cut : Int32} (ho : o = 51 ∨ o = 65) (h : NetOk P i cut) (hf : fr (qD o) i j) : NetOk P j cut := by
  have e : ∀ a, a = 43 ∨ a = 44 ∨ a = 45 → j a = i a := fun a ha => funext fun k => hf a k (by unfold qD; simp; omega)
  intro t n ht hn
  unfold NR
  rw [e 43 (by omega), e 44 (by omega), e 45 (by omega)]
  exact h t n ht hn
theorem nI_mod {a b : Nat} (ha : a < 2 ^ 31) (hb : b < 2 ^ 31) (h0 : 0 < b) : nI a - nI a / nI b * nI b = nI (a % b) := by
  have hle : a / b * b ≤ a := Nat.div_mul_le_self a b
  rw [nI_div ha hb h0, nI_mul, pk_sub hle, Nat.mod_eq_sub_div_mul]
/-- what is joined, on both sides -/
def JC (J : Nat → Bool) (i : Nat → Nat → Int32) : Prop := ∀ a, a < 28 → ∀ k, k < 8 → bt (i 48 a) k = J (8 * a + k)
def JR (J : Nat → Bool) (i : Nat → Nat → Int32) : Prop := ∀ j, j < 224 → i 120 j = nI (J j).toNat
section
variable {l : Nat → Nat → Int64} {s r p : Nat}
theorem hold_ok {i : Nat → Nat → Int32} {o t q k v : Nat} (ho : o = 51 ∨ o = 65) (ht : t < 4) (hq : q < 7) (hk : k < 8) :
    ∃ j, State_hold o (nI (7 * t + q)) (nI k) (nI v) (i, l, Rp s r p) = some (none, (j, l, Rp s r p)) ∧ vw o j = hld (vw o i) t q k v ∧ ∀ a, a ≠ o + 5 → a ≠ o + 6 → j a = i a := by
  rw [State_hold_eq _ _ _ _ _ _ _ _ _ ho]
  simp (disch := omega) only [nI_mul, nI_add, nI_clamp, gd_in, gd_0, gd_1, gd_b, gd_n0, ifc_lt, ifc_eq, ifc_neg, ifc_z, ifc_pos, ifc_b, if_pos, if_neg, crV_t, crI_t, crL_t, ifc_True, ifc_False, if_true, if_false]
  refine ⟨_, rfl, ?_, fun a h1 h2 => by rw [u2_r h2, u2_r h1]⟩
  rw [vw_s, vw_s, show (7 * t + q) * 8 + k = 56 * t + 8 * q + k by omega]
  rfl
theorem joinUp_ok {i : Nat → Nat → Int32} {P : PL} {o t n : Nat} {m : MD} {J : Nat → Bool} (ho : o = 51 ∨ o = 65) (hp : p = 7 ∨ p = 27) (hw : pwf P) (hP : PC P p i) (hm : m.2.2.1 ≤ 5) (hM : CM m i) (hs : swf P (vw o i)) (hN : NetOk P i (vw o i 0 8)) (hJ : JC J i) (ht : t ≤ pS P) (hn : n < pN P) :
    ∃ j l', Course_joinUp o (nI t) (nI n) (i, l, Rp s r p) = some (none, (j, l', Rp s r p)) ∧ vw o j = (jo1 P (m.2.2.1 == 4) t n (vw o i, J)).1 ∧ JC (jo1 P (m.2.2.1 == 4) t n (vw o i, J)).2 j ∧ fr (qD o) i j ∧ ∀ a, a ≠ 46 → l' a = l a := by
  have h7 := hw.1.1
  have h8 := hw.1.2.1
  have h3 := hw.1.2.2.1
  rw [Course_joinUp_eq _ _ _ _ _ _ _ _ ho, wanted_ok ho hp hw hP ht hn, crI_t, ifc_b]
  unfold jo1
  cases hwn : wnt P (vw o i) t n
  · simp only [Bool.false_eq_true, if_false]
    exact ⟨i, l, rfl, rfl, hJ, fr_refl _ _, fun _ _ => rfl⟩
  · simp only [if_true]
    obtain ⟨l2, c1, c2⟩ := climb_ok (l := l) (s := s) (r := r) ho hp hw hP hs ht hn hN
    rw [c1, crI_t]
    have eu : upl P (fd P (vw o i 0 8) t) (bt (vw o i 0 8)) (mtv P (fd P (vw o i 0 8) t) (fun a => i (o + a)) t) n = upo P (vw o i) t n := rfl
    rw [eu]
    cases hu : upo P (vw o i) t n with
    | none =>
      rw [ifc_t (show upc none < 0 from nM_neg (by omega) (by omega))]
      exact ⟨i, l2, rfl, rfl, hJ, fr_refl _ _, c2⟩
    | some u =>
      obtain ⟨u1, u2', _⟩ := upo_some hu
      have e1 : (8 * u.1 + u.2) % 8 = u.2 := by omega
      have e2 : (8 * u.1 + u.2) / 8 = u.1 := by omega
      show ∃ j l', ifc (nI (8 * u.1 + u.2) < 0) _ (gd (nI 8 ≠ 0) _) = _ ∧ _
      rw [show upc (some u) = nI (8 * u.1 + u.2) from rfl]
      simp (disch := omega) only [nI_mod, e1]
      simp (disch := omega) only [nI_div, nI_mul, nI_add, nI_clamp, gd_in, gd_0, gd_1, gd_b, gd_n0, ifc_lt, ifc_eq, ifc_neg, ifc_z, ifc_pos, ifc_b, if_pos, if_neg, crV_t, crI_t, crL_t, ifc_True, ifc_False, if_true, if_false, e2]
      rw [show t * 7 + u.2 = 7 * t + u.2 by omega, ifc_bit _ (by omega), hJ (7 * t + u.2) (by omega) u.1 (by omega), show 8 * (7 * t + u.2) + u.1 = 56 * t + 8 * u.2 + u.1 by omega]
      cases hj : J (56 * t + 8 * u.2 + u.1)
      · simp only [Bool.false_eq_true, if_false]
        have hv : vw o (u2 i 48 (7 * t + u.2) (i 48 (7 * t + u.2) ||| nI 1 <<< (nI u.1 &&& 31))) = vw o i := vw_l (by omega)
        have hD1 : fr (qD o) i (u2 i 48 (7 * t + u.2) (i 48 (7 * t + u.2) ||| nI 1 <<< (nI u.1 &&& 31))) := fr_u2 (by simp [qD])
        have hP1 := PC_qC ho hp hP (fr_DC hD1)
        have hM1 := CM_qC ho hM (fr_DC hD1)
        obtain ⟨l3, d1, d2⟩ := holding_ok (l := l2) (s := s) (r := r) (br := m.2.2.1 == 4) ho hp hw hP1 (by rw [hv]; exact hs) ht u2' (NetOk_D ho (by rw [hv]; exact hN) hD1) (by rw [tr_eq hm hM1 (by omega)]; simp)
        rw [d1, crI_t, hv]
        obtain ⟨j, f1, f2, f3⟩ := hold_ok (i := u2 i 48 (7 * t + u.2) (i 48 (7 * t + u.2) ||| nI 1 <<< (nI u.1 &&& 31))) (l := l3) (s := s) (r := r) (p := p) (v := kpt P (m.2.2.1 == 4) (vw o i) t u.2) ho (show t < 4 by omega) (show u.2 < 7 by omega) (show u.1 < 8 by omega)
        rw [f1, crV_t]
        refine ⟨j, l3, rfl, by rw [f2, hv], ?_, ?_, fun a ha => (d2 a ha).trans (c2 a ha)⟩
        · intro a ha k hk
          rw [f3 48 (by omega) (by omega)]
          by_cases e : a = 7 * t + u.2
          · subst e
            rw [u2_s, b_or, bt_mask (by omega) (by omega), hJ _ ha k hk]
            by_cases ek : k = u.1
            · subst ek
              simp
              right; omega
            · rw [decide_eq_false ek, Bool.or_false]
              have : (8 * (7 * t + u.2) + k == 56 * t + 8 * u.2 + u.1) = false := by simp; omega
              simp only [this, Bool.or_false]
          · rw [u2_k e, hJ _ ha k hk]
            have : (8 * a + k == 56 * t + 8 * u.2 + u.1) = false := by simp; omega
            simp only [this, Bool.or_false]
        · refine fr_trans hD1 (fun a k hq => ?_)
          have h5 : a ≠ o + 5 := fun e => by rw [e, qD_s (by omega)] at hq; exact absurd hq (by decide)
          have h6 : a ≠ o + 6 := fun e => by rw [e, qD_s (by omega)] at hq; exact absurd hq (by decide)
          exact congrFun (f3 a h5 h6) k
      · simp only [if_true]
        refine ⟨_, l2, rfl, vw_0, fun a ha k hk => ?_, fr_u2 (qD_s (a := 0) (by omega)), c2⟩
        rw [u2_i (by omega)]
        exact hJ a ha k hk
/-! the reference's joins -/
theorem fr_mU {b : Nat} {i : Nat → Nat → Int32} {D : Nat → Nat} {e x : Int32} : fr (qR b) i (mU i D e x) := fr_trans (fr_trans (fr_ov (fun k => by simp [qR])) (fr_u2 (by simp [qR]))) (fr_u2 (by simp [qR]))
theorem qW_qR {b a k : Nat} (h : qR b a k = false) : qW a k = false := by
  unfold qR at h
  unfold qW
  simp at h ⊢
  omega
theorem SM_W {b : Nat} {σ : ST} {i j : Nat → Nat → Int32} (h : SM b σ i) (hf : fr qW i j) : SM b σ j := SM_fr h (fun a h1 h2 => funext fun k => hf a k (by unfold qW; simp; omega))
theorem SM_hld {b t q k v : Nat} {σ : ST} {i : Nat → Nat → Int32} (h : SM b σ i) (hb : 56 * t + 8 * q + k < 224) : SM b (hld σ t q k v) (u2 i 111 (224 * b + (56 * t + 8 * q + k)) (nI v)) := SM_r6 (SM_r5 hb h)
theorem joins63_ok {i : Nat → Nat → Int32} {P : PL} {σ : ST} {b t n : Nat} {m : MD} {J : Nat → Bool} (hw : pwf P) (hP : PM P i) (hM : RM m i) (hs : swf P σ) (hb : b < 2) (hS : SM b σ i) (hJ : JR J i) (ht : t ≤ pS P) (hn : n < pN P) :
    ∃ j l', Mo_joins_34 (nI b) (nI n) (nI t) (i, l, Rp s r p) = Mo_joins_34 (nI b) (nI n) (nI (t + 1)) (j, l', Rp s r p) ∧ SM b (jo1 P (m.2.2.1 == 4) t n (σ, J)).1 j ∧ JR (jo1 P (m.2.2.1 == 4) t n (σ, J)).2 j ∧ fr (qR b) i j ∧ ∀ a, a ≠ 106 → a ≠ 107 → l' a = l a := by
  have h7 := hw.1.1
  have h8 := hw.1.2.1
  have h3 := hw.1.2.2.1
  rw [Mo_joins_34_eq, hP.1.2.2.1, ifc_f (nI_nlt (by omega) (by omega)), wantsNow_ok hw hP hs hS hb ht hn, crI_t, ifc_b]
  unfold jo1
  cases hwn : wnt P σ t n
  · simp only [Bool.false_eq_true, if_false]
    rw [Mo_joins_63_eq, ifc_t (nM_neg (by omega) (by omega)), nI_add]
    exact ⟨i, l, rfl, hS, hJ, fr_refl _ _, fun _ _ _ => rfl⟩
  · simp only [if_true]
    obtain ⟨l2, e, c1, c2⟩ := upLink_ok (l := l) (s := s) (r := r) (p := p) hw hP hs hS hM.2.2.2.2.2.2.2 hb ht hn
    rw [c1, crI_t]
    have eu : upl P (fd P (σ 0 8) t) (bt (σ 0 8)) (mtv P (fd P (σ 0 8) t) σ t) n = upo P σ t n := rfl
    rw [eu]
    generalize hD : fd P (σ 0 8) t = D
    cases hu : upo P σ t n with
    | none =>
      rw [Mo_joins_63_eq, ifc_t (show lnk none < 0 from nM_neg (by omega) (by omega)), nI_add]
      exact ⟨_, l2, rfl, mU_SM hS, fun j hj => by rw [mU_r (by decide) (by decide)]; exact hJ j hj, fr_mU, c2⟩
    | some u =>
      obtain ⟨u1, u2', _⟩ := upo_some hu
      rw [show lnk (some u) = nI u.1 from rfl, show ndo (some u) = nI u.2 from rfl, Mo_joins_63_eq, mU_76]
      simp (disch := omega) only [nI_mul, nI_add, nI_clamp, gd_in, gd_0, gd_1, gd_b, gd_n0, ifc_lt, ifc_eq, ifc_neg, ifc_z, ifc_pos, ifc_b, if_pos, if_neg, crV_t, crI_t, crL_t, ifc_True, ifc_False, if_true, if_false, mU_r]
      rw [hJ (56 * t + 8 * u.2 + u.1) (by omega), ifc_b]
      show ∃ j l', _ ∧ SM b (if J (56 * t + 8 * u.2 + u.1) = true then _ else _ : JnS).1 j ∧ _
      cases hj : J (56 * t + 8 * u.2 + u.1)
      · simp only [Bool.false_eq_true, if_false]
        generalize hi2 : u2 (mU i D e (nI u.2)) 120 (56 * t + 8 * u.2 + u.1) (nI 1 &&& 1) = i2
        have f2 : fr (qR b) i i2 := by rw [← hi2]; exact fr_trans fr_mU (fr_u2 (by simp [qR]))
        have S2 : SM b σ i2 := by
          rw [← hi2]
          exact SM_fr (mU_SM hS) (fun a h1 h2 => u2_r (by omega))
        obtain ⟨j3, l3, d1, d2, d3⟩ := keptFor_ok (l := l2) (s := s) (r := r) (p := p) (q := u.2) (br := m.2.2.1 == 4) hw (PM_qR hw hP f2) hs S2 (RM_qR hM f2).2.2.2.2.2.2.2 hb ht u2' (RM_qR hM f2).2.2.2.2.1
        rw [d1, crI_t]
        refine ⟨_, l3, rfl, SM_hld (SM_W S2 d2) (by omega), ?_, ?_, fun a h1 h2 => (d3 a h1 h2).trans (c2 a h1 h2)⟩
        · intro j hj2
          rw [u2_i (by decide), d2 120 j rfl, ← hi2]
          by_cases ej : j = 56 * t + 8 * u.2 + u.1
          · rw [ej, u2_s]; simp; rfl
          · rw [u2_k ej, mU_r (by decide) (by decide), hJ j hj2]
            have : (j == 56 * t + 8 * u.2 + u.1) = false := by simpa using ej
            simp only [this, Bool.or_false]
        · refine fr_trans (fr_trans f2 (fr_mono (fun _ _ => qW_qR) d2)) (fr_u2 ?_)
          simp [qR]; omega
      · simp only [if_true]
        refine ⟨_, l2, rfl, ?_, fun j hj2 => by rw [u2_i (by decide), mU_r (by decide) (by decide)]; exact hJ j hj2, fr_trans fr_mU (fr_u2 (by simp [qR])), c2⟩
        rw [hS.2.2.2.2.2.2.1]
        exact SM_10 (mU_SM hS)
theorem joins_ok {i : Nat → Nat → Int32} {P : PL} {σ : ST} {b : Nat} {m : MD} (hw : pwf P) (hP : PM P i) (hM : RM m i) (hs : swf P σ) (hb : b < 2) (hS : SM b σ i) :
    ∃ j l', Mo_joins (nI b) (i, l, Rp s r p) = some (none, (j, l', Rp s r p)) ∧ SM b (jon P (m.2.2.1 == 4) (σ, fun _ => false) (pN P)).1 j ∧ fr (qR b) i j ∧ ∀ a, a ≠ 106 → a ≠ 107 → l' a = l a := by
  have h7 := hw.1.1
  have h3 := hw.1.2.2.1
  have h0 := upto (fun k => Mo_joins_2 (nI b) (nI k) (ov i 120 0 k (fun _ => 0), l, Rp s r p)) 224 (fun k hk => by
    show Mo_joins_2 _ _ _ = Mo_joins_2 _ _ _
    rw [Mo_joins_2_eq]
    simp (disch := omega) only [nI_mul, nI_add, nI_clamp, gd_in, gd_0, gd_1, gd_b, gd_n0, ifc_lt, ifc_eq, ifc_neg, ifc_z, ifc_pos, ifc_b, if_pos, if_neg, crV_t, crI_t, crL_t, ifc_True, ifc_False, if_true, if_false]
    have e : u2 (ov i 120 0 k fun _ => 0) 120 k (nI 0 &&& 1) = ov i 120 0 (k + 1) (fun _ => 0) := by
      funext c j
      unfold u2 ov
      by_cases hc : c = 120
      · simp only [hc, if_true]
        by_cases hj : j = k
        · rw [if_pos hj, if_pos (by omega)]; rfl
        · rw [if_neg hj]
          by_cases hl : 0 ≤ j ∧ j < 0 + k
          · rw [if_pos hl, if_pos (by omega)]
          · rw [if_neg hl, if_neg (by omega)]
      · simp only [hc, if_false]
    rw [e]) 0 (by omega)
  have e0 : ov i 120 0 0 (fun _ => 0) = i := ov_self (fun k hk => by omega)
  simp only [e0] at h0
  rw [Mo_joins_eq, h0, Mo_joins_2_eq, ifc_f (by decide)]
  have f0 : fr (qR b) i (ov i 120 0 224 (fun _ => 0)) := fr_ov (fun k => by simp [qR])
  have S0 : SM b σ (ov i 120 0 224 (fun _ => 0)) := SM_fr hS (fun a h1 h2 => ov_c (by omega))
  have J0 : JR (fun _ => false) (ov i 120 0 224 (fun _ => 0)) := fun j hj => ov_0 i 120 (fun _ => 0) hj
  have hrow : ∀ n (M : (Nat → Nat → Int32) × (Nat → Nat → Int64)) (S : JnS), n < pN P → swf P S.1 → SM b S.1 M.1 ∧ JR S.2 M.1 ∧ fr (qR b) i M.1 ∧ (∀ a, a ≠ 106 → a ≠ 107 → M.2 a = l a) →
      ∃ M' : (Nat → Nat → Int32) × (Nat → Nat → Int64), Mo_joins_34 (nI b) (nI n) (nI 0) (M.1, M.2, Rp s r p) = Mo_joins_34 (nI b) (nI n) (nI (pS P + 1)) (M'.1, M'.2, Rp s r p) ∧ SM b (jot P (m.2.2.1 == 4) n S (pS P + 1)).1 M'.1 ∧ JR (jot P (m.2.2.1 == 4) n S (pS P + 1)).2 M'.1 ∧ fr (qR b) i M'.1 ∧ (∀ a, a ≠ 106 → a ≠ 107 → M'.2 a = l a) := by
    intro n M S hn hsw hI
    exact loop_ex (F := fun t (M : (Nat → Nat → Int32) × (Nat → Nat → Int64)) => Mo_joins_34 (nI b) (nI n) (nI t) (M.1, M.2, Rp s r p)) (I9 := fun t M => SM b (jot P (m.2.2.1 == 4) n S t).1 M.1 ∧ JR (jot P (m.2.2.1 == 4) n S t).2 M.1 ∧ fr (qR b) i M.1 ∧ (∀ a, a ≠ 106 → a ≠ 107 → M.2 a = l a)) (n := pS P + 1) (fun t M ht hI => by
      obtain ⟨q1, q2, q3, q4⟩ := hI
      obtain ⟨j, l', f1, f2, f3, f4, f5⟩ := joins63_ok (l := M.2) (s := s) (r := r) (p := p) (t := t) (n := n) hw (PM_qR hw hP q3) (RM_qR hM q3) (swf_jot hw hsw t (by omega)) hb q1 q2 (by omega) hn
      exact ⟨(j, l'), f1, f2, f3, fr_trans q3 f4, fun a h1 h2 => (f5 a h1 h2).trans (q4 a h1 h2)⟩) 0 M (by omega) hI
  have h := loop_ex (F := fun n (M : (Nat → Nat → Int32) × (Nat → Nat → Int64)) => Mo_joins_24 (nI b) (nI n) (M.1, M.2, Rp s r p)) (I9 := fun n M => SM b (jon P (m.2.2.1 == 4) (σ, fun _ => false) n).1 M.1 ∧ JR (jon P (m.2.2.1 == 4) (σ, fun _ => false) n).2 M.1 ∧ fr (qR b) i M.1 ∧ (∀ a, a ≠ 106 → a ≠ 107 → M.2 a = l a)) (n := pN P) (fun n M hn hI => by
    obtain ⟨M', f1, f2, f3, f4, f5⟩ := hrow n M _ hn (swf_jon hw hs n) hI
    have hPj := PM_qR hw hP hI.2.2.1
    have hPj' := PM_qR hw hP f4
    refine ⟨M', ?_, f2, f3, f4, f5⟩
    show Mo_joins_24 _ _ _ = Mo_joins_24 _ _ _
    rw [Mo_joins_24_eq, hPj.1.1, ifc_t (nI_lt hn (by omega)), f1, Mo_joins_34_eq, hPj'.1.2.2.1, ifc_t (nI_lt (by omega) (by omega)), nI_add]) 0 (ov i 120 0 224 (fun _ => 0), l) (by omega) ⟨S0, J0, f0, fun _ _ _ => rfl⟩
  obtain ⟨M', q0, q1, q2, q3, q4⟩ := h
  refine ⟨M'.1, M'.2, q0.trans ?_, q1, q3, q4⟩
  show Mo_joins_24 _ _ _ = _
  rw [Mo_joins_24_eq, (PM_qR hw hP q3).1.1, ifc_f (nI_nlt (Nat.le_refl _) (by omega))]
end
end
