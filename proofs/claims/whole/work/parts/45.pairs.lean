section
/-! rests, rest, holds -/
def gn (f m y : Nat) : Nat := if m = 0 then (if y = 0 then (9 - f) / 2 else 10 - f) else (if y = 0 then 3 else 0)
theorem gn_le (f m y : Nat) : gn f m y ≤ 10 := by
  unfold gn
  split
  · split <;> omega
  · split <;> omega
def rsB (f1 f2 q : Nat) : Bool := decide (gn f1 (1 - q / 2) (q % 2) ≤ gn f1 (q / 2) (q % 2)) && decide (gn f2 (1 - q % 2) (q / 2) ≤ gn f2 (q % 2) (q / 2))
/-- the w-th of them -/
def rsl (b : Nat → Bool) (w : Nat) : Nat → Nat → Int32
  | 0, _ => nM 2
  | f + 1, q => if b q && decide (cnt b q = w) then nI (10 * (q / 2) + q % 2) else rsl b w f (q + 1)
theorem sub_neg {a f : Nat} (ha : a < 2 ^ 30) (hf : f < 2 ^ 30) (h : a < f) : nI a - nI f < 0 := by
  rw [Int32.lt_iff_toInt_lt, Int32.toInt_sub, nI_toInt (by omega), nI_toInt (by omega)]
  rw [Int.bmod_eq_of_le (by omega) (by omega)]
  show (a : Int) - f < 0
  omega
theorem mx_sub {a f : Nat} (ha : a < 2 ^ 30) (hf : f < 2 ^ 30) : mxI (nI 0) (nI a - nI f) = nI (a - f) := by
  unfold mxI
  by_cases h : f ≤ a
  · rw [pk_sub h]
    by_cases h0 : 0 < a - f
    · rw [if_pos (nI_lt h0 (by omega))]
    · rw [if_neg (nI_nlt (by omega) (by omega)), show a - f = 0 by omega]
  · have := sub_neg ha hf (by omega)
    rw [if_neg (fun hh => Int32.lt_irrefl (Int32.lt_trans (by rw [nI_0] at hh; exact hh) this)), show a - f = 0 by omega]
section
variable {P : PL} {i : Nat → Nat → Int32} {l : Nat → Nat → Int64} {s r p : Nat}
theorem gain_ok {f m y : Nat} (hf : f ≤ 99) (hm : m < 2) (hy : y < 2) : GT_gain (nI f) (nI m) (nI y) (i, l, Rp s r p) = some (some (.int (nI (gn f m y))), (i, l, Rp s r p)) := by
  rw [GT_gain_eq, mx_sub (by omega) (by omega), mx_sub (by omega) (by omega), nI_div (by omega) (by omega) (by omega), gd_n0 (by omega) (by omega), ifc_z (by omega), ifc_z (by omega)]
  unfold gn
  by_cases h1 : m = 0
  · rw [if_pos h1, if_pos h1]
    by_cases h2 : y = 0
    · rw [if_pos h2, if_pos h2]
    · rw [if_neg h2, if_neg h2]
  · rw [if_neg h1, if_neg h1, ifc_z (by omega)]
    by_cases h2 : y = 0
    · rw [if_pos h2, if_pos h2]
    · rw [if_neg h2, if_neg h2]
theorem pair_ok {x1 x2 x3 : Int32} (h : INV P i l s r p) : GT_arePair x1 x2 x3 (i, l, Rp s r p) = some (some (.int (nI (isn (pS P + 1) x1 && (isn (pN P) x2 && (isn (pN P) x3 && decide (x2 ≠ x3)))).toNat)), (i, l, Rp s r p)) := by
  obtain ⟨hp0, hr, hw, hPC, hPM, hNI, hs, hS, hdr, hco, hrest⟩ := id h
  have hp : p = 7 ∨ p = 27 := by omega
  have h7 := hw.1.1
  have h8 := hw.1.2.1
  have h3 := hw.1.2.2.1
  simp only [GT_arePair_eq, cTree_ok hp hw hPC, cNode_ok hp hw hPC, gd_0, gd_1, crI_t, crV_t, crL_t, ifc_b, Bool.false_eq_true, if_false, if_true]
  cases isn (pS P + 1) x1
  · simp only [Bool.false_eq_true, if_false]; rfl
  · cases isn (pN P) x2
    · simp only [Bool.false_eq_true, if_false, if_true]; rfl
    · cases isn (pN P) x3
      · simp only [Bool.false_eq_true, if_false, if_true]; rfl
      · simp only [if_true]
        by_cases e : x2 = x3
        · rw [ifc_t e, decide_eq_false (fun hh => hh e)]; rfl
        · rw [ifc_f e, decide_eq_true e]; rfl
theorem two_ok {x1 x2 x3 : Int32} (hw : pwf P) (hP : PM P i) : Mo_areTwo x1 x2 x3 (i, l, Rp s r p) = some (some (.int (nI (isn (pS P + 1) x1 && (isn (pN P) x2 && (isn (pN P) x3 && decide (x2 ≠ x3)))).toNat)), (i, l, Rp s r p)) := by
  simp only [Mo_areTwo_eq, rTree_ok hw hP, rNode_ok hw hP, gd_0, gd_1, crI_t, crV_t, crL_t, ifc_b, Bool.false_eq_true, if_false, if_true]
  cases isn (pS P + 1) x1
  · simp only [Bool.false_eq_true, if_false]; rfl
  · cases isn (pN P) x2
    · simp only [Bool.false_eq_true, if_false, if_true]; rfl
    · cases isn (pN P) x3
      · simp only [Bool.false_eq_true, if_false, if_true]; rfl
      · simp only [if_true]
        by_cases e : x2 = x3
        · rw [ifc_t e, decide_eq_false (fun hh => hh e)]; rfl
        · rw [ifc_f e, decide_eq_true e]; rfl
theorem restBits_ok {t a b : Nat} (h : INV P i l s r p) (ht : t ≤ pS P) (ha : a < pN P) (hb : b < pN P) : ∃ j, GT_restBits (nI t) (nI a) (nI b) (i, l, Rp s r p) = some (some (.int (msk (rsB (fd P (vw 51 i 0 8) t a) (fd P (vw 51 i 0 8) t b)) 4)), (j, l, Rp s r p)) ∧ SCR P i j l l := by
  obtain ⟨hp0, hr, hw, hPC, hPM, hNI, hs, hS, hdr, hco, hrest⟩ := id h
  have hp : p = 7 ∨ p = 27 := by omega
  have h7 := hw.1.1
  have h8 := hw.1.2.1
  have h3 := hw.1.2.2.1
  obtain ⟨j, a0, a1, a2, a3⟩ := meas_ok h
  generalize hf1 : fd P (vw 51 i 0 8) t a = f1
  generalize hf2 : fd P (vw 51 i 0 8) t b = f2
  have l1 : f1 ≤ 99 := by rw [← hf1]; exact fd_99 _ _ _ _
  have l2 : f2 ≤ 99 := by rw [← hf2]; exact fd_99 _ _ _ _
  have e1 : j 43 (t * 7 + a) = nI f1 := by rw [show t * 7 + a = 7 * t + a by omega, ← hf1]; exact (a2 t a ht ha).1
  have e2 : j 43 (t * 7 + b) = nI f2 := by rw [show t * 7 + b = 7 * t + b by omega, ← hf2]; exact (a2 t b ht hb).1
  refine ⟨j, ?_, a1⟩
  rw [GT_restBits_eq, a0, crV_t]
  simp (disch := omega) only [nI_mul, nI_add, gd_in, nI_clamp, e1, e2]
  have hl := upto (fun q => GT_restBits_52 (nI f1) (nI f2) (msk (rsB f1 f2) q) (nI q) (j, l, Rp s r p)) 4 (fun q hq => by
    show GT_restBits_52 _ _ _ _ _ = GT_restBits_52 _ _ _ _ _
    have g1 := gn_le f1 (q / 2) (q % 2)
    have g2 := gn_le f1 (1 - q / 2) (q % 2)
    have g3 := gn_le f2 (q % 2) (q / 2)
    have g4 := gn_le f2 (1 - q % 2) (q / 2)
    rw [GT_restBits_52_eq, ifc_t (nI_lt hq (by omega)), nI_mod (by omega) (by omega) (by omega), nI_div (by omega) (by omega) (by omega), gd_n0 (by omega) (by omega), gd_n0 (by omega) (by omega), pk_sub (by omega), pk_sub (by omega), gain_ok l1 (by omega) (by omega), crI_t, gain_ok l1 (by omega) (by omega), crI_t, gain_ok l2 (by omega) (by omega), crI_t, gain_ok l2 (by omega) (by omega), crI_t, ifc_lt (by omega) (by omega), ifc_lt (by omega) (by omega), nI_add, msk_s]
    unfold rsB
    by_cases h1 : gn f1 (q / 2) (q % 2) < gn f1 (1 - q / 2) (q % 2)
    · rw [if_pos h1, decide_eq_false (by omega)]; rfl
    · rw [if_neg h1, decide_eq_true (show gn f1 (1 - q / 2) (q % 2) ≤ gn f1 (q / 2) (q % 2) by omega)]
      by_cases h2 : gn f2 (q % 2) (q / 2) < gn f2 (1 - q % 2) (q / 2)
      · rw [if_pos h2, decide_eq_false (by omega)]; rfl
      · rw [if_neg h2, decide_eq_true (by omega)]; rfl) 0 (by omega)
  refine (show GT_restBits_52 (nI f1) (nI f2) (nI 0) (nI 0) (j, l, Rp s r p) = _ from hl).trans ?_
  show GT_restBits_52 _ _ _ _ _ = _
  rw [GT_restBits_52_eq, ifc_f (by decide)]
theorem hasBy_ok {g : Nat → Nat → Int32} {t n m y : Nat} {cut : Int32} (hg : INV P g l s r p) (hc : g 108 0 = cut) (ht : t ≤ pS P) (hn : n < pN P) (hm : m < 2) (hy : y < 2) : ∃ g', Mo_hasBy (nI t) (nI n) (nI m) (nI y) (g, l, Rp s r p) = some (some (.int (nI (gn (fd P cut t n) m y))), (g', l, Rp s r p)) ∧ INV P g' l s r p ∧ g' 108 0 = cut := by
  have hw : pwf P := hg.2.2.1
  have h7 := hw.1.1
  have hf := fd_99 P cut t n
  rw [Mo_hasBy_eq, ifc_eq (by omega) (by omega), ifc_z (by omega), farOf_ok hw (PM_of hg) (co_of hg) (by omega) hc ht (by omega), crI_t]
  have at_ : ∀ a (g : Nat → Nat → Int32), a < 100 → Mo_atLeast (nI a - nI (fd P cut t n)) (g, l, Rp s r p) = some (some (.int (nI (a - fd P cut t n))), (g, l, Rp s r p)) := fun a g ha => by
    rw [Mo_atLeast_eq]
    by_cases h : fd P cut t n ≤ a
    · rw [pk_sub h, ifc_neg (by omega)]
    · rw [ifc_t (sub_neg (by omega) (by omega) (by omega)), show a - fd P cut t n = 0 by omega]
  unfold gn
  by_cases h1 : m = 1
  · rw [if_pos h1, if_neg (show ¬ m = 0 by omega)]
    by_cases h2 : y = 0
    · rw [if_pos h2, if_pos h2]; exact ⟨g, rfl, hg, hc⟩
    · rw [if_neg h2, if_neg h2]; exact ⟨g, rfl, hg, hc⟩
  · rw [if_neg h1, if_pos (show m = 0 by omega), ifc_z (by omega), at_ 9 _ (by omega), at_ 10 _ (by omega), crI_t, crI_t, gd_n0 (by omega) (by omega), nI_div (by omega) (by omega) (by omega)]
    have hx : ov g 119 0 7 (fd P cut t) 108 0 = cut := by rw [ov_c (by decide)]; exact hc
    by_cases h2 : y = 0
    · rw [if_pos h2, if_pos h2]; exact ⟨_, rfl, INV_ov hg, hx⟩
    · rw [if_neg h2, if_neg h2]; exact ⟨_, rfl, INV_ov hg, hx⟩
/-- the reference goes through the four -/
theorem restAt_ok {g : Nat → Nat → Int32} {t a b : Nat} {cut x4 : Int32} (hg : INV P g l s r p) (hc : g 108 0 = cut) (ht : t ≤ pS P) (ha : a < pN P) (hb : b < pN P) :
    ∃ g', Mo_restAt (nI t) (nI a) (nI b) x4 (g, l, Rp s r p) = some (some (.int (if x4 < 0 then nI (cnt (rsB (fd P cut t a) (fd P cut t b)) 4) else rsl (rsB (fd P cut t a) (fd P cut t b)) x4.toNatClampNeg 4 0)), (g', l, Rp s r p)) ∧ INV P g' l s r p := by
  generalize hf1 : fd P cut t a = f1
  generalize hf2 : fd P cut t b = f2
  have key : ∀ f q (M : Nat → Nat → Int32), f + q = 4 → INV P M l s r p → M 108 0 = cut → ∃ g', Mo_restAt_6 (nI t) (nI a) (nI b) x4 (nI (cnt (rsB f1 f2) q)) (nI q) (M, l, Rp s r p) = some (some (.int (if x4 < 0 then nI (cnt (rsB f1 f2) 4) else rsl (rsB f1 f2) x4.toNatClampNeg f q)), (g', l, Rp s r p)) ∧ INV P g' l s r p := by
    intro f
    induction f with
    | zero =>
      intro q M hq hM hcM
      have e4 : q = 4 := by omega
      subst e4
      rw [Mo_restAt_6_eq, ifc_f (by decide)]
      by_cases hx : x4 < 0
      · rw [ifc_t hx, if_pos hx]; exact ⟨M, rfl, hM⟩
      · rw [ifc_f hx, if_neg hx]; exact ⟨M, rfl, hM⟩
    | succ f ih =>
      intro q M hq hM hcM
      have g1 := gn_le f1 (q / 2) (q % 2)
      have g2 := gn_le f1 (1 - q / 2) (q % 2)
      have g3 := gn_le f2 (q % 2) (q / 2)
      have g4 := gn_le f2 (1 - q % 2) (q / 2)
      have hcl := cnt_le (rsB f1 f2) q
      obtain ⟨M1, b0, b1, b2⟩ := hasBy_ok (t := t) (n := a) (m := 1 - q / 2) (y := q % 2) hM hcM ht ha (by omega) (by omega)
      obtain ⟨M2, c0, c1, c2⟩ := hasBy_ok (t := t) (n := a) (m := q / 2) (y := q % 2) b1 b2 ht ha (by omega) (by omega)
      rw [hf1] at b0 c0
      rw [Mo_restAt_6_eq, ifc_t (nI_lt (by omega) (by omega)), nI_mod (by omega) (by omega) (by omega), nI_div (by omega) (by omega) (by omega), gd_n0 (by omega) (by omega), gd_n0 (by omega) (by omega), pk_sub (by omega), pk_sub (by omega), b0, crI_t, c0, crI_t, ifc_lt (by omega) (by omega), nI_add, nI_add]
      have hcs : cnt (rsB f1 f2) (q + 1) = cnt (rsB f1 f2) q + (if rsB f1 f2 q then 1 else 0) := rfl
      have no : ∀ (M' : Nat → Nat → Int32), rsB f1 f2 q = false → INV P M' l s r p → M' 108 0 = cut → ∃ g', Mo_restAt_6 (nI t) (nI a) (nI b) x4 (nI (cnt (rsB f1 f2) q)) (nI (q + 1)) (M', l, Rp s r p) = some (some (.int (if x4 < 0 then nI (cnt (rsB f1 f2) 4) else rsl (rsB f1 f2) x4.toNatClampNeg (f + 1) q)), (g', l, Rp s r p)) ∧ INV P g' l s r p := fun M' hr hM' hcM' => by
        obtain ⟨g', z0, z1⟩ := ih (q + 1) M' (by omega) hM' hcM'
        rw [hcs, hr] at z0
        refine ⟨g', ?_, z1⟩
        have e : rsl (rsB f1 f2) x4.toNatClampNeg (f + 1) q = rsl (rsB f1 f2) x4.toNatClampNeg f (q + 1) := by
          show (if rsB f1 f2 q && decide (cnt (rsB f1 f2) q = x4.toNatClampNeg) then _ else _) = _
          rw [hr]; rfl
        rw [e]
        exact z0
      by_cases h1 : gn f1 (q / 2) (q % 2) < gn f1 (1 - q / 2) (q % 2)
      · rw [if_pos h1]
        exact no M2 (by unfold rsB; rw [decide_eq_false (by omega)]; rfl) c1 c2
      · rw [if_neg h1]
        obtain ⟨M3, d0, d1, d2⟩ := hasBy_ok (t := t) (n := b) (m := 1 - q % 2) (y := q / 2) c1 c2 ht hb (by omega) (by omega)
        obtain ⟨M4, e0, e1, e2⟩ := hasBy_ok (t := t) (n := b) (m := q % 2) (y := q / 2) d1 d2 ht hb (by omega) (by omega)
        rw [hf2] at d0 e0
        rw [d0, crI_t, e0, crI_t, ifc_lt (by omega) (by omega)]
        by_cases h2 : gn f2 (q % 2) (q / 2) < gn f2 (1 - q % 2) (q / 2)
        · rw [if_pos h2]
          exact no M4 (by unfold rsB; rw [decide_eq_false (show ¬ gn f2 (1 - q % 2) (q / 2) ≤ gn f2 (q % 2) (q / 2) by omega), Bool.and_false]) e1 e2
        · have hr : rsB f1 f2 q = true := by unfold rsB; rw [decide_eq_true (by omega), decide_eq_true (by omega)]; rfl
          rw [if_neg h2]
          have esl : ∀ w, rsl (rsB f1 f2) w (f + 1) q = if decide (cnt (rsB f1 f2) q = w) then nI (10 * (q / 2) + q % 2) else rsl (rsB f1 f2) w f (q + 1) := fun w => by
            show (if rsB f1 f2 q && decide (cnt (rsB f1 f2) q = w) then _ else _) = _
            rw [hr]; rfl
          by_cases hx : nI (cnt (rsB f1 f2) q) = x4
          · have hnn : ¬ x4 < 0 := by rw [← hx]; exact nI_pos (by omega)
            rw [ifc_t hx, if_neg hnn, esl, nI_mul, nI_add]
            have : x4.toNatClampNeg = cnt (rsB f1 f2) q := by rw [← hx, nI_clamp (by omega)]
            rw [this, decide_eq_true rfl, if_pos rfl]
            exact ⟨M4, rfl, e1⟩
          · rw [ifc_f hx]
            obtain ⟨g', z0, z1⟩ := ih (q + 1) M4 (by omega) e1 e2
            rw [hcs, hr] at z0
            refine ⟨g', ?_, z1⟩
            by_cases hnn : x4 < 0
            · rw [if_pos hnn] at z0 ⊢; exact z0
            · rw [if_neg hnn] at z0 ⊢
              rw [esl, decide_eq_false (fun e => hx (by
                obtain ⟨w, hw, rfl⟩ := nI_of hnn
                rw [nI_clamp hw] at e
                rw [e]))]
              exact z0
  rw [Mo_restAt_eq]
  exact key 4 0 g (by omega) hg hc
theorem rests_pr (h : INV P i l s r p) (x1 x2 x3 : Int32) : PrI (GT_rests x1 x2 x3) (Mo_rests x1 x2 x3) P i l s r p := by
  obtain ⟨hp0, hr, hw, hPC, hPM, hNI, hs, hS, hdr, hco, hrest⟩ := id h
  have hp : p = 7 ∨ p = 27 := by omega
  have h7 := hw.1.1
  have h8 := hw.1.2.1
  have h3 := hw.1.2.2.1
  have hth := INV_th h
  have hpt := INV_pT hth
  cases hb : (isn (pS P + 1) x1 && (isn (pN P) x2 && (isn (pN P) x3 && decide (x2 ≠ x3))))
  · refine ⟨nM 1, i, l, _, l, ?_, ?_, hpt⟩
    · simp only [GT_rests_eq, pair_ok h, hb, crI_t, crV_t, crL_t, ifc_b, Bool.false_eq_true, if_false, if_true]
    · simp only [Mo_rests_eq, plainT_ok, two_ok hw (PM_of hpt), hb, crI_t, crV_t, crL_t, ifc_b, Bool.false_eq_true, if_false, if_true]
  · have hb' := hb
    simp only [Bool.and_eq_true] at hb'
    obtain ⟨t, ht, rfl⟩ := isn_t hb'.1
    obtain ⟨a, ha, rfl⟩ := isn_t hb'.2.1
    obtain ⟨b, hbb, rfl⟩ := isn_t hb'.2.2.1
    obtain ⟨j, b0, b1⟩ := restBits_ok (t := t) (a := a) (b := b) h (by omega) ha hbb
    have hj := INV_S h b1
    have hk := INV_pT (INV_th hj)
    have fk : fr qS i (pT (u2 j 82 2 (nI 0))) := fr_trans b1.1 (fr_trans th_fr pT_fr)
    have e8 : pT (u2 j 82 2 (nI 0)) 108 0 = vw 51 i 0 8 := (SM0_of hk).1.trans (congrFun (vw51_S fk 0 (by omega)) 8)
    obtain ⟨g', c0, c1⟩ := restAt_ok (x4 := nM 1) hk e8 (show t ≤ pS P by omega) ha hbb
    rw [if_pos (nM_neg (by omega) (by omega))] at c0
    generalize rsB (fd P (vw 51 i 0 8) t a) (fd P (vw 51 i 0 8) t b) = bs at *
    refine ⟨nI (cnt bs 4), j, l, g', l, ?_, ?_, c1⟩
    · simp only [GT_rests_eq, pair_ok h, hb, b0, crI_t, crV_t, crL_t, ifc_b, Bool.false_eq_true, if_false, if_true]
      rw [bitCount_ok (fun k hk h => by have := msk_in (f := bs) (n := 4) (by omega) k hk h; omega), crI_t]
      rw [cnt_more (f := bt (msk bs 4)) (a := 4) 8 (by omega) (fun k h1 h2 => by rw [msk_bt _ _ (by omega) k (by omega), decide_eq_false (by omega)]; rfl), cnt_cg (g := bs) 4 (fun k hk => by rw [msk_bt _ _ (by omega) k (by omega), decide_eq_true hk]; rfl)]
    · simp only [Mo_rests_eq, plainT_ok, two_ok hw (PM_of hk), hb, c0, crI_t, crV_t, crL_t, ifc_b, Bool.false_eq_true, if_false, if_true]
theorem rest_pr (h : INV P i l s r p) (x1 x2 x3 x4 : Int32) : PrI (GT_rest x1 x2 x3 x4) (Mo_rest x1 x2 x3 x4) P i l s r p := by
  obtain ⟨hp0, hr, hw, hPC, hPM, hNI, hs, hS, hdr, hco, hrest⟩ := id h
  have hp : p = 7 ∨ p = 27 := by omega
  have h7 := hw.1.1
  have h8 := hw.1.2.1
  have h3 := hw.1.2.2.1
  have hth := INV_th h
  have hpt := INV_pT hth
  cases hb : (isn (pS P + 1) x1 && (isn (pN P) x2 && (isn (pN P) x3 && decide (x2 ≠ x3))))
  · refine ⟨nM 1, i, l, _, l, ?_, ?_, hpt⟩
    · simp only [GT_rest_eq, pair_ok h, hb, crI_t, crV_t, crL_t, ifc_b, Bool.false_eq_true, if_false, if_true]
    · simp only [Mo_rest_eq, plainT_ok, two_ok hw (PM_of hpt), hb, crI_t, crV_t, crL_t, ifc_b, Bool.false_eq_true, if_false, if_true]
  · by_cases hx : x4 < 0
    · refine ⟨nM 1, i, l, _, l, ?_, ?_, hpt⟩
      · simp only [GT_rest_eq, pair_ok h, hb, ifc_t hx, crI_t, crV_t, crL_t, ifc_b, Bool.false_eq_true, if_false, if_true]
      · simp only [Mo_rest_eq, plainT_ok, two_ok hw (PM_of hpt), hb, ifc_t hx, crI_t, crV_t, crL_t, ifc_b, Bool.false_eq_true, if_false, if_true]
    · have hb' := hb
      simp only [Bool.and_eq_true] at hb'
      obtain ⟨t, ht, rfl⟩ := isn_t hb'.1
      obtain ⟨a, ha, rfl⟩ := isn_t hb'.2.1
      obtain ⟨b, hbb, rfl⟩ := isn_t hb'.2.2.1
      obtain ⟨w, hw4, rfl⟩ := nI_of hx
      obtain ⟨j, b0, b1⟩ := restBits_ok (t := t) (a := a) (b := b) h (by omega) ha hbb
      have hj := INV_S h b1
      have hk := INV_pT (INV_th hj)
      have fk : fr qS i (pT (u2 j 82 2 (nI 0))) := fr_trans b1.1 (fr_trans th_fr pT_fr)
      have e8 : pT (u2 j 82 2 (nI 0)) 108 0 = vw 51 i 0 8 := (SM0_of hk).1.trans (congrFun (vw51_S fk 0 (by omega)) 8)
      obtain ⟨g', c0, c1⟩ := restAt_ok (x4 := nI w) hk e8 (show t ≤ pS P by omega) ha hbb
      rw [if_neg hx, nI_clamp hw4] at c0
      generalize rsB (fd P (vw 51 i 0 8) t a) (fd P (vw 51 i 0 8) t b) = bs at *
      have cl : ∀ f q, f + q = 4 → cnt bs q ≤ w → GT_rest_33 (msk bs 4) (nI (w - cnt bs q)) (nI q) (j, l, Rp s r p) = some (some (.int (rsl bs w f q)), (j, l, Rp s r p)) := by
        intro f
        induction f with
        | zero =>
          intro q hq hc
          rw [GT_rest_33_eq, ifc_f (nI_nlt (by omega) (by omega))]
          rfl
        | succ f ih =>
          intro q hq hc
          have hcs : cnt bs (q + 1) = cnt bs q + (if bs q then 1 else 0) := rfl
          rw [GT_rest_33_eq, ifc_t (nI_lt (by omega) (by omega)), ifc_bit _ (by omega), msk_bt _ _ (by omega) q (by omega), decide_eq_true (show q < 4 by omega), Bool.true_and, nI_mod (by omega) (by omega) (by omega), nI_div (by omega) (by omega) (by omega), gd_n0 (by omega) (by omega), gd_n0 (by omega) (by omega), nI_mul, nI_add, nI_add, ifc_z (by omega)]
          unfold rsl
          cases hbq : bs q
          · rw [if_neg (by decide), if_neg (by simp)]
            have := ih (q + 1) (by omega) (by rw [hcs, hbq]; exact hc)
            rw [hcs, hbq] at this
            exact this
          · rw [if_pos rfl]
            by_cases e : cnt bs q = w
            · rw [if_pos (by omega), if_pos (by simp [e]), Nat.mul_comm]
            · rw [if_neg (by omega), if_neg (by simp [e]), nI_nM (by omega)]
              have := ih (q + 1) (by omega) (by rw [hcs, hbq]; simp only [if_true]; omega)
              rw [hcs, hbq] at this
              simp only [if_true] at this
              rw [show w - cnt bs q - 1 = w - (cnt bs q + 1) by omega]
              exact this
      refine ⟨rsl bs w 4 0, j, l, g', l, ?_, ?_, c1⟩
      · simp only [GT_rest_eq, pair_ok h, hb, ifc_f hx, b0, crI_t, crV_t, crL_t, ifc_b, Bool.false_eq_true, if_false, if_true]
        exact cl 4 0 (by omega) (by show 0 ≤ w; omega)
      · simp only [Mo_rest_eq, plainT_ok, two_ok hw (PM_of hk), hb, ifc_f hx, c0, crI_t, crV_t, crL_t, ifc_b, Bool.false_eq_true, if_false, if_true]
/-! holds -/
def egc : Nat → Nat → Nat → Nat
  | 0, a, _ => a
  | f + 1, a, b => if b = 0 then a else egc f b (a % b)
theorem egc_100 : ∀ a, a < 101 → egc 64 a 100 = Nat.gcd a 100 := by decide +kernel
theorem common_ok {a b : Nat} (ha : a < 2 ^ 31) (hb : b < 2 ^ 31) : ∀ f k a b, a < 2 ^ 31 → b < 2 ^ 31 → f + k = 64 → GT_common_7 (nI a) (nI b) (nI k) (i, l, Rp s r p) = some (some (.int (nI (egc f a b))), (i, l, Rp s r p)) := by
  intro f
  induction f with
  | zero =>
    intro k a b _ _ hk
    rw [GT_common_7_eq, ifc_f (nI_nlt (by omega) (by omega))]
    rfl
  | succ f ih =>
    intro k a b ha hb hk
    rw [GT_common_7_eq, ifc_t (nI_lt (by omega) (by omega)), ifc_z hb]
    unfold egc
    by_cases h0 : b = 0
    · rw [if_pos h0, if_pos h0]
    · have := Nat.mod_lt a (show 0 < b by omega)
      rw [if_neg h0, if_neg h0, gd_n0 (by omega) hb, nI_mod ha hb (by omega), nI_add]
      exact ih (k + 1) b (a % b) hb (by omega) (by omega)
theorem gcd_p : ∀ a, a < 101 → ∀ n, n < 7 → 0 < Nat.gcd (100 ^ n) (a ^ n) ∧ a ^ n / Nat.gcd (100 ^ n) (a ^ n) = (a / Nat.gcd a 100) ^ n ∧ 100 ^ n / Nat.gcd (100 ^ n) (a ^ n) = (100 / Nat.gcd a 100) ^ n ∧ a ^ n ≤ 10 ^ 12 ∧ (a / Nat.gcd a 100) ^ n ≤ 10 ^ 12 ∧ (100 / Nat.gcd a 100) ^ n ≤ 10 ^ 12 ∧ 0 < Nat.gcd a 100 ∧ Nat.gcd a 100 ≤ 100 ∧ 100 ^ n ≤ 10 ^ 12 := by decide +kernel
theorem pow_ok {n c : Nat} (hn : n < 7) : ∀ f k, f + k = n → GT_holds_76 (nI n) (lN c) (lN (c ^ k)) (nI k) (i, l, Rp s r p) = some (some (.long (lN (c ^ n))), (i, l, Rp s r p)) := by
  intro f
  induction f with
  | zero =>
    intro k hk
    rw [GT_holds_76_eq, ifc_f (nI_nlt (by omega) (by omega)), show k = n by omega]
  | succ f ih =>
    intro k hk
    rw [GT_holds_76_eq, ifc_t (nI_lt (by omega) (by omega)), lN_mul, nI_add, ← Nat.pow_succ]
    exact ih (k + 1) (by omega)
theorem gcdR_ok {w up all : Nat} (hup : up < 2 ^ 62) (hall : all < 2 ^ 62) (hw : w < 2) : ∀ b a, a < 2 ^ 62 → b < 2 ^ 62 → 0 < Nat.gcd a b → Mo_holds_76 (nI w) (lN up) (lN all) (lN a) (lN b) (i, l, Rp s r p) = some (some (.long (if w = 0 then lN (up / Nat.gcd a b) else lN (all / Nat.gcd a b))), (i, l, Rp s r p)) := by
  intro b
  induction b using Nat.strongRecOn with
  | _ b ih =>
    intro a ha hb hg
    have hz : (lN b = 0) = (b = 0) := by
      have := pk_lEQ (a := b) (b := 0) (by omega) (by omega)
      exact propext this
    rw [Mo_holds_76_eq, ifc_l0]
    by_cases h0 : b = 0
    · subst h0
      rw [Nat.gcd_zero_right] at hg ⊢
      rw [if_pos (show lN 0 = 0 from rfl), gd_t (fun e => by have := (pk_lEQ (a := a) (b := 0) (by omega) (by omega)).mp e; omega), gd_t (fun e => by have := (pk_lEQ (a := a) (b := 0) (by omega) (by omega)).mp e; omega), pk_lDiv (by omega) hg (by omega), pk_lDiv (by omega) hg (by omega), ifc_z (by omega)]
      by_cases hw0 : w = 0
      · rw [if_pos hw0, if_pos hw0]
      · rw [if_neg hw0, if_neg hw0]
    · have hne : ¬ lN b = 0 := by rw [hz]; exact h0
      have hlt := Nat.mod_lt a (show 0 < b by omega)
      have hgg : Nat.gcd b (a % b) = Nat.gcd a b := by
        rw [Nat.gcd_comm a b, Nat.gcd_rec b a, Nat.gcd_comm]
      rw [if_neg hne, gd_t hne, pk_lRem (by omega) (by omega) (by omega)]
      have := ih (a % b) hlt b hb (by omega) (by rw [hgg]; exact hg)
      rw [hgg] at this
      exact this
theorem holds_pr (h : INV P i l s r p) (x1 x2 : Int32) : PrL (GT_holds x1 x2) (Mo_holds x1 x2) P i l s r p := by
  obtain ⟨hp0, hr, hw, hPC, hPM, hNI, hs, hS, hdr, hco, hrest⟩ := id h
  have hp : p = 7 ∨ p = 27 := by omega
  have h7 := hw.1.1
  have h8 := hw.1.2.1
  have h3 := hw.1.2.2.1
  have hth := INV_th h
  have hin1 : ∀ (a b : Option (Option Value × AM)), ifc (x1 < 0) a (ifc (nI 6 < x1) a b) = if isn 7 x1 = true then b else a := fun a b => ifc_isn2 (by decide) x1 a b
  have hin2 : ∀ (a b : Option (Option Value × AM)), ifc (x2 < 0) a (ifc (nI 1 < x2) a b) = if isn 2 x2 = true then b else a := fun a b => ifc_isn2 (by decide) x2 a b
  have go_ : ∀ v, GT_holds x1 x2 (i, l, Rp s r p) = some (some (.long v), (i, l, Rp s r p)) → Mo_holds x1 x2 (i, l, Rp s r p) = some (some (.long v), (u2 i 82 2 (nI 0), l, Rp s r p)) → PrL (GT_holds x1 x2) (Mo_holds x1 x2) P i l s r p := fun v h1 h2 => ⟨_, i, l, _, l, h1, h2, hth⟩
  have hC0 := GT_holds_eq x1 x2 i l s r p hp
  cases h1 : isn 7 x1
  · refine go_ (lN 18446744073709551615) ?_ ?_
    · rw [hC0, hin1, h1, if_neg (by decide)]
    · simp only [Mo_holds_eq, rIn_ok (show 6 + 1 < 2 ^ 31 by decide), h1, crI_t, crV_t, crL_t, ifc_b, Bool.false_eq_true, if_false, if_true]
  · cases h2 : isn 2 x2
    · refine go_ (lN 18446744073709551615) ?_ ?_
      · rw [hC0, hin1, h1, if_pos rfl, hin2, h2, if_neg (by decide)]
      · simp only [Mo_holds_eq, rIn_ok (show 6 + 1 < 2 ^ 31 by decide), rIn_ok (show 1 + 1 < 2 ^ 31 by decide), h1, h2, crI_t, crV_t, crL_t, ifc_b, Bool.false_eq_true, if_false, if_true]
    · obtain ⟨n, hn, rfl⟩ := isn_t h1
      obtain ⟨w, hw2, rfl⟩ := isn_t h2
      have hloss : P.1 18 ≤ 100 := hw.2.2.1.2.2.1
      obtain ⟨q1, q2, q3, q4, q5, q6, q7, q8, q9⟩ := gcd_p (100 - P.1 18) (by omega) n hn
      have hl18 : i p 18 = nI (P.1 18) := hPC.1 18 (by omega) (by omega)
      have eg := egc_100 (100 - P.1 18) (by omega)
      refine go_ (if w = 0 then lN ((100 - P.1 18) ^ n / Nat.gcd (100 ^ n) ((100 - P.1 18) ^ n)) else lN (100 ^ n / Nat.gcd (100 ^ n) ((100 - P.1 18) ^ n))) ?_ ?_
      · rw [hC0, hin1, h1, if_pos rfl, hin2, h2, if_pos rfl, hl18, pk_sub (by omega), GT_common_eq, common_ok (a := 1) (b := 1) (by omega) (by omega) 64 0 (100 - P.1 18) 100 (by omega) (by omega) (by omega), crI_t, eg, ifc_z (by omega)]
        generalize hA : 100 - P.1 18 = A at *
        generalize hG : Nat.gcd A 100 = G at *
        have k55 : ∀ z, z ≤ 100 → GT_holds_55 (nI n) (nI G) (nI z) (i, l, Rp s r p) = some (some (.long (lN ((z / G) ^ n))), (i, l, Rp s r p)) := fun z hz => by
          have hdz : z / G ≤ z := Nat.div_le_self z G
          rw [GT_holds_55_eq, ifc_z (by omega), if_neg (by omega), gd_n0 (by omega) (by omega), nI_div (by omega) (by omega) (by omega), nI_l (by omega)]
          have := pow_ok (i := i) (l := l) (s := s) (r := r) (p := p) (c := z / G) hn n 0 (by omega)
          exact this
        by_cases hw0 : w = 0
        · rw [if_pos hw0, if_pos hw0, k55 A (by omega), q2]
        · rw [if_neg hw0, if_neg hw0, k55 100 (by omega), q3]
      · simp only [Mo_holds_eq, rIn_ok (show 6 + 1 < 2 ^ 31 by decide), rIn_ok (show 1 + 1 < 2 ^ 31 by decide), h1, h2, crI_t, crV_t, crL_t, ifc_b, Bool.false_eq_true, if_false, if_true]
        have e87 : u2 i 82 2 (nI 0) 87 1 = nI (P.1 18) := (u2_i (by decide)).trans hPM.2.2.1.2.1
        generalize hA : 100 - P.1 18 = A at *
        have k36 : ∀ f k, f + k = n → Mo_holds_36 (nI n) (nI w) (lN (A ^ k)) (lN (100 ^ k)) (nI k) (u2 i 82 2 (nI 0), l, Rp s r p) = Mo_holds_76 (nI w) (lN (A ^ n)) (lN (100 ^ n)) (lN (100 ^ n)) (lN (A ^ n)) (u2 i 82 2 (nI 0), l, Rp s r p) := by
          intro f
          induction f with
          | zero =>
            intro k hk
            rw [Mo_holds_36_eq, ifc_f (nI_nlt (by omega) (by omega)), show k = n by omega]
          | succ f ih =>
            intro k hk
            rw [Mo_holds_36_eq, ifc_t (nI_lt (by omega) (by omega)), gd_in (by omega) (by omega), nI_clamp (by omega), e87, pk_sub (by omega), hA, nI_l (by omega), lN_mul, lN_mul, nI_add, ← Nat.pow_succ, ← Nat.pow_succ]
            exact ih (k + 1) (by omega)
        refine (show Mo_holds_36 (nI n) (nI w) (lN 1) (lN 1) (nI 0) (u2 i 82 2 (nI 0), l, Rp s r p) = _ from k36 n 0 (by omega)).trans ?_
        exact gcdR_ok (by omega) (by omega) hw2 (A ^ n) (100 ^ n) (by omega) (by omega) q1
end
end

section
/-! who hangs together: least, needed -/
section
variable {N L : Nat} {mem : Nat → Int32} {cost : Nat → Nat} {out : Nat → Bool} {root : Int32}
theorem dst_spp : spp N L mem cost out root (dst N L mem cost out root) := itr_spp N L mem cost out root N
theorem dst_bnd (hc : ∀ j, j < L → 0 < cost j ∧ cost j ≤ 9) : ∀ v n, n < N → dst N L mem cost out root n = v → v < 99 → v ≤ 9 * cnt (fun u => decide (dst N L mem cost out root u < dst N L mem cost out root n)) N := by
  intro v
  induction v using Nat.strongRecOn with
  | _ v ih =>
    intro n hn hv h99
    rcases dst_spp (mem := mem) (cost := cost) (out := out) (root := root) (N := N) (L := L) n hn with h0 | ⟨j, u, hj, ho, hu, b1, b2, hle, hu9⟩
    · rw [hv] at h0
      unfold dst0 at h0
      split at h0
      · omega
      · omega
    · have hcj := hc j hj
      have hstill := dst_still (N := N) (L := L) (mem := mem) (cost := cost) (out := out) (root := root) (fun j hj => (hc j hj).1)
      have hge := rnd_via (cost := cost) (D := dst N L mem cost out root) hj ho hn hu b1 b2
      rw [hstill] at hge
      have hi := ih (dst N L mem cost out root u) (by omega) u hu rfl hu9
      have hlt : cnt (fun q => decide (dst N L mem cost out root q < dst N L mem cost out root u)) N < cnt (fun q => decide (dst N L mem cost out root q < dst N L mem cost out root n)) N := by
        refine cnt_mono_lt N u hu (fun k _ hk => ?_) ?_ ?_
        · have := of_decide_eq_true hk
          exact decide_eq_true (by omega)
        · exact decide_eq_false (by omega)
        · exact decide_eq_true (by omega)
      omega
theorem dst_cls (h7 : N ≤ 7) (hc : ∀ j, j < L → 0 < cost j ∧ cost j ≤ 9) {j u k : Nat} (hj : j < L) (ho : out j = false) (hu : u < N) (hk : k < N) (bu : bt (mem j) u = true) (bk : bt (mem j) k = true) (h : dst N L mem cost out root u < 99) : dst N L mem cost out root k < 99 := by
  have hstill := dst_still (N := N) (L := L) (mem := mem) (cost := cost) (out := out) (root := root) (fun j hj => (hc j hj).1)
  have hge := rnd_via (cost := cost) (D := dst N L mem cost out root) hj ho hk hu bk bu
  rw [hstill] at hge
  have hb := dst_bnd (mem := mem) (out := out) (root := root) hc _ u hu rfl h
  have hl := cnt_lt (fun q => decide (dst N L mem cost out root q < dst N L mem cost out root u)) N u hu (decide_eq_false (by omega))
  have := hc j hj
  omega
end
/-- one round of merging, links in order -/
def mrg (mem : Nat → Int32) (by_ : Int32) : Nat → Int32 → Int32
  | 0, x => x
  | n + 1, x => if bt by_ n && decide (mem n &&& mrg mem by_ n x ≠ 0) then mrg mem by_ n x ||| mem n else mrg mem by_ n x
def rch (mem : Nat → Int32) (by_ : Int32) (L : Nat) (x : Int32) : Nat → Int32
  | 0 => x
  | k + 1 => mrg mem by_ L (rch mem by_ L x k)
def sub (x y : Int32) : Prop := ∀ q, q < 32 → bt x q = true → bt y q = true
theorem sub_refl (x : Int32) : sub x x := fun _ _ h => h
theorem sub_trans {x y z : Int32} (h1 : sub x y) (h2 : sub y z) : sub x z := fun q hq h => h2 q hq (h1 q hq h)
theorem sub_anti {x y : Int32} (h1 : sub x y) (h2 : sub y x) : x = y := by
  apply b_ext
  intro q hq
  cases hx : bt x q
  · cases hy : bt y q
    · rfl
    · rw [h2 q hq hy] at hx; exact absurd hx (by decide)
  · exact (h1 q hq hx).symm
theorem sub_or {x y : Int32} : sub x (x ||| y) := fun q hq h => by rw [b_or, h]; rfl
theorem sub_or2 {x y : Int32} : sub y (x ||| y) := fun q hq h => by rw [b_or, h, Bool.or_true]
theorem meet_ex {x y : Int32} : x &&& y ≠ 0 ↔ ∃ q, q < 32 ∧ bt x q = true ∧ bt y q = true := by
  constructor
  · intro h
    refine Classical.byContradiction (fun hno => h ?_)
    apply b_ext
    intro q hq
    rw [b_and, b_0]
    cases hx : bt x q
    · rfl
    · cases hy : bt y q
      · rfl
      · exact absurd ⟨q, hq, hx, hy⟩ hno
  · rintro ⟨q, hq, h1, h2⟩ h0
    have := b_and x y q
    rw [h0, b_0, h1, h2] at this
    exact absurd this (by decide)
section
variable {mem : Nat → Int32} {by_ : Int32}
theorem mrg_sub (x : Int32) : ∀ n, sub x (mrg mem by_ n x)
  | 0 => sub_refl x
  | n + 1 => by
    unfold mrg
    split
    · exact sub_trans (mrg_sub x n) sub_or
    · exact mrg_sub x n
theorem mrg_step (x : Int32) : ∀ {a n : Nat}, a ≤ n → sub (mrg mem by_ a x) (mrg mem by_ n x) := by
  intro a n h
  induction n with
  | zero => rw [show a = 0 by omega]; exact sub_refl _
  | succ n ih =>
    by_cases e : a = n + 1
    · rw [e]; exact sub_refl _
    · refine sub_trans (ih (by omega)) ?_
      show sub (mrg mem by_ n x) (if _ then _ else _)
      split
      · exact sub_or
      · exact sub_refl _
/-- all of a link is there -/
noncomputable def fll (mem : Nat → Int32) (j : Nat) (x : Int32) : Bool := @decide (sub (mem j) x) (Classical.propDecidable _)
theorem fll_iff {j : Nat} {x : Int32} : fll mem j x = true ↔ sub (mem j) x := by
  unfold fll
  exact ⟨fun h => @of_decide_eq_true _ (Classical.propDecidable _) h, fun h => @decide_eq_true _ (Classical.propDecidable _) h⟩
theorem mrg_new (x : Int32) : ∀ n, mrg mem by_ n x = x ∨ ∃ j, j < n ∧ bt by_ j = true ∧ ¬ sub (mem j) x ∧ sub (mem j) (mrg mem by_ n x)
  | 0 => Or.inl rfl
  | n + 1 => by
    rcases mrg_new x n with h | ⟨j, h1, h2, h3, h4⟩
    · unfold mrg
      rw [h]
      split
      · rename_i hc
        by_cases hs : sub (mem n) x
        · left
          exact sub_anti (fun q hq hb => by
            rw [b_or] at hb
            cases hx : bt x q
            · rw [hx, Bool.false_or] at hb
              rw [hs q hq hb] at hx; exact absurd hx (by decide)
            · rfl) sub_or
        · right
          simp at hc
          exact ⟨n, by omega, hc.1, hs, sub_or2⟩
      · exact Or.inl rfl
    · exact Or.inr ⟨j, by omega, h2, h3, sub_trans h4 (mrg_step x (by omega))⟩
noncomputable def cfl (mem : Nat → Int32) (by_ : Int32) (L : Nat) (x : Int32) : Nat := cnt (fun j => bt by_ j && fll mem j x) L
theorem rch_still {L : Nat} (x : Int32) : mrg mem by_ L (rch mem by_ L x L) = rch mem by_ L x L := by
  have key : ∀ k, mrg mem by_ L (rch mem by_ L x k) = rch mem by_ L x k ∨ k ≤ cfl mem by_ L (rch mem by_ L x k) := by
    intro k
    induction k with
    | zero => right; omega
    | succ k ih =>
      rcases ih with h | h
      · left
        show mrg mem by_ L (mrg mem by_ L (rch mem by_ L x k)) = mrg mem by_ L (rch mem by_ L x k)
        rw [h, h]
      · rcases mrg_new (mem := mem) (by_ := by_) (rch mem by_ L x k) L with h2 | ⟨j, h3, h4, h5, h6⟩
        · left
          show mrg mem by_ L (mrg mem by_ L (rch mem by_ L x k)) = mrg mem by_ L (rch mem by_ L x k)
          rw [h2, h2]
        · right
          have : cfl mem by_ L (rch mem by_ L x k) < cfl mem by_ L (rch mem by_ L x (k + 1)) := by
            refine cnt_mono_lt L j h3 (fun q _ hq => ?_) ?_ ?_
            · simp only [Bool.and_eq_true] at hq ⊢
              exact ⟨hq.1, fll_iff.mpr (sub_trans (fll_iff.mp hq.2) (mrg_sub _ L))⟩
            · have : fll mem j (rch mem by_ L x k) = false := by
                cases hf : fll mem j (rch mem by_ L x k)
                · rfl
                · exact absurd (fll_iff.mp hf) h5
              rw [this, Bool.and_false]
            · rw [h4]
              exact fll_iff.mpr h6
          omega
  rcases key L with h | h
  · exact h
  · -- every link is full
    have hall : ∀ j, j < L → bt by_ j = true ∧ sub (mem j) (rch mem by_ L x L) := fun j hj => by
      refine Classical.byContradiction (fun hno => ?_)
      have : cfl mem by_ L (rch mem by_ L x L) < L := cnt_lt _ L j hj (by
        cases hb : bt by_ j
        · rfl
        · cases hf : fll mem j (rch mem by_ L x L)
          · rfl
          · exact absurd ⟨hb, fll_iff.mp hf⟩ hno)
      omega
    rcases mrg_new (mem := mem) (by_ := by_) (rch mem by_ L x L) L with h2 | ⟨j, h3, h4, h5, h6⟩
    · exact h2
    · exact absurd (hall j h3).2 h5
theorem rch_sub {L : Nat} (x : Int32) : ∀ k, sub x (rch mem by_ L x k)
  | 0 => sub_refl x
  | k + 1 => sub_trans (rch_sub x k) (mrg_sub _ L)
theorem rch_cls {L : Nat} (x : Int32) {j : Nat} (hj : j < L) (hb : bt by_ j = true) {q k : Nat} (hq : q < 32) (hk : k < 32) (b1 : bt (mem j) q = true) (b2 : bt (rch mem by_ L x L) q = true) (b3 : bt (mem j) k = true) : bt (rch mem by_ L x L) k = true := by
  have hs := rch_still (mem := mem) (by_ := by_) (L := L) x
  generalize rch mem by_ L x L = y at *
  have e1 : mrg mem by_ j y = y := sub_anti (by have := mrg_step (mem := mem) (by_ := by_) y (show j ≤ L by omega); rw [hs] at this; exact this) (mrg_sub y j)
  have h2 : sub (mrg mem by_ (j + 1) y) y := by have := mrg_step (mem := mem) (by_ := by_) y (show j + 1 ≤ L by omega); rw [hs] at this; exact this
  refine h2 k hk ?_
  show bt (if _ then _ else _) k = true
  rw [e1, if_pos (by rw [hb, decide_eq_true (meet_ex.mpr ⟨q, hq, b1, b2⟩)]; rfl), b_or, b3, Bool.or_true]
/-- reached is near -/
theorem rch_dst {N L : Nat} {cost : Nat → Nat} {out : Nat → Bool} {n0 : Nat} (h7 : N ≤ 7) (hn0 : n0 < N) (hc : ∀ j, j < L → 0 < cost j ∧ cost j ≤ 9) (hm : ∀ j, j < L → ∀ q, bt (mem j) q = true → q < N) (hob : ∀ j, j < L → out j = !bt by_ j) {q : Nat} (hq : q < N) : bt (rch mem by_ L (nI 1 <<< (nI n0 &&& 31)) L) q = decide (dst N L mem cost out (nI n0) q < 99) := by
  have hroot : dst N L mem cost out (nI n0) n0 < 99 := by
    have h1 := itr_le N L mem cost out (dst0 (nI n0)) n0 N
    have h2 : dst0 (nI n0) n0 = 0 := if_pos rfl
    unfold dst
    omega
  -- all that is reached is near
  have fw : ∀ y, (∀ q, q < 32 → bt y q = true → q < N ∧ dst N L mem cost out (nI n0) q < 99) → ∀ n, n ≤ L → ∀ q, q < 32 → bt (mrg mem by_ n y) q = true → q < N ∧ dst N L mem cost out (nI n0) q < 99 := by
    intro y hy n
    induction n with
    | zero => intro _ q hq hb; exact hy q hq hb
    | succ n ih =>
      intro hn q hq hb
      have ih' := ih (by omega)
      have e : mrg mem by_ (n + 1) y = if bt by_ n && decide (mem n &&& mrg mem by_ n y ≠ 0) then mrg mem by_ n y ||| mem n else mrg mem by_ n y := rfl
      rw [e] at hb
      split at hb
      · rename_i hcnd
        simp only [Bool.and_eq_true] at hcnd
        obtain ⟨u, hu, u1, u2⟩ := meet_ex.mp (of_decide_eq_true hcnd.2)
        rw [b_or] at hb
        cases hx : bt (mrg mem by_ n y) q
        · rw [hx, Bool.false_or] at hb
          obtain ⟨v1, v2⟩ := ih' u hu u2
          have hqN := hm n (by omega) q hb
          exact ⟨hqN, dst_cls h7 hc (show n < L by omega) (by rw [hob n (by omega), hcnd.1]; rfl) v1 hqN u1 hb v2⟩
        · exact ih' q hq hx
      · exact ih' q hq hb
  have fwk : ∀ k q, q < 32 → bt (rch mem by_ L (nI 1 <<< (nI n0 &&& 31)) k) q = true → q < N ∧ dst N L mem cost out (nI n0) q < 99 := by
    intro k
    induction k with
    | zero =>
      intro q hq hb
      have hb' : bt (nI 1 <<< (nI n0 &&& 31)) q = true := hb
      rw [bt_mask (by omega) hq] at hb'
      have := of_decide_eq_true hb'
      subst this
      exact ⟨hn0, hroot⟩
    | succ k ih => intro q hq hb; exact fw _ ih L (Nat.le_refl _) q hq hb
  -- all that is near is reached
  have bw : ∀ v q, q < N → dst N L mem cost out (nI n0) q = v → v < 99 → bt (rch mem by_ L (nI 1 <<< (nI n0 &&& 31)) L) q = true := by
    intro v
    induction v using Nat.strongRecOn with
    | _ v ih =>
      intro q hq hv h99
      rcases dst_spp (mem := mem) (cost := cost) (out := out) (root := nI n0) (N := N) (L := L) q hq with h0 | ⟨j, u, hj, ho, hu, b1, b2, hle, hu9⟩
      · rw [hv] at h0
        unfold dst0 at h0
        split at h0
        · rename_i e
          have e2 := nI_inj (by omega) (by omega) e
          subst e2
          exact rch_sub _ L q (by omega) (by rw [bt_mask (by omega) (by omega)]; exact decide_eq_true rfl)
        · omega
      · have hcj := hc j hj
        have hur := ih (dst N L mem cost out (nI n0) u) (by omega) u hu rfl hu9
        have hby : bt by_ j = true := by
          have := hob j hj
          rw [ho] at this
          cases hb : bt by_ j
          · rw [hb] at this; exact absurd this (by decide)
          · rfl
        exact rch_cls _ hj hby (by omega) (by omega) b2 hur b1
  by_cases hd : dst N L mem cost out (nI n0) q < 99
  · rw [decide_eq_true hd]; exact bw _ q hq rfl hd
  · rw [decide_eq_false hd]
    cases hb : bt (rch mem by_ L (nI 1 <<< (nI n0 &&& 31)) L) q
    · rfl
    · exact absurd (fwk L q (by omega) hb).2 hd
theorem rch_in {N L : Nat} {n0 : Nat} (h7 : N ≤ 7) (hn0 : n0 < N) (hm : ∀ j, j < L → ∀ q, bt (mem j) q = true → q < N) : ∀ k q, q < 32 → bt (rch mem by_ L (nI 1 <<< (nI n0 &&& 31)) k) q = true → q < N := by
  have one : ∀ y, (∀ q, q < 32 → bt y q = true → q < N) → ∀ n, n ≤ L → ∀ q, q < 32 → bt (mrg mem by_ n y) q = true → q < N := by
    intro y hy n
    induction n with
    | zero => intro _ q hq hb; exact hy q hq hb
    | succ n ih =>
      intro hn q hq hb
      have e : mrg mem by_ (n + 1) y = if bt by_ n && decide (mem n &&& mrg mem by_ n y ≠ 0) then mrg mem by_ n y ||| mem n else mrg mem by_ n y := rfl
      rw [e] at hb
      split at hb
      · rw [b_or] at hb
        cases hx : bt (mrg mem by_ n y) q
        · rw [hx, Bool.false_or] at hb; exact hm n (by omega) q hb
        · exact ih (by omega) q hq hx
      · exact ih (by omega) q hq hb
  intro k
  induction k with
  | zero =>
    intro q hq hb
    have hb' : bt (nI 1 <<< (nI n0 &&& 31)) q = true := hb
    rw [bt_mask (by omega) hq] at hb'
    have := of_decide_eq_true hb'
    omega
  | succ k ih => exact one _ ih L (Nat.le_refl _)
end
section
variable {P : PL} {i : Nat → Nat → Int32} {l : Nat → Nat → Int64} {s r p : Nat}
theorem reach_ok {x y : Int32} (hp : p = 7 ∨ p = 27) (hw : pwf P) (hP : PC P p i) {s r q : Nat} : Plan_reach p x y (i, l, Rp s r q) = some (some (.int (rch (mem P) y (pL P) x (pL P))), (i, l, Rp s r q)) := by
  have h8 := hw.1.2.1
  have hL : i p 12 = nI (pL P) := hP.1 12 (by omega) (by omega)
  have h := upto (fun k => Plan_reach_5 p y (rch (mem P) y (pL P) x k) (nI k) (i, l, Rp s r q)) (pL P) (fun k hk => by
    show Plan_reach_5 _ _ _ _ _ = Plan_reach_5 _ _ _ _ _
    generalize hz : rch (mem P) y (pL P) x k = z
    have hin := upto (fun n => Plan_reach_17 p y (mrg (mem P) y n z) (nI k) (nI n) (i, l, Rp s r q)) (pL P) (fun n hn => by
      show Plan_reach_17 _ _ _ _ _ _ = Plan_reach_17 _ _ _ _ _ _
      have em : i (p + 3) n = mem P n := (hP.2.2.2.1 n hn).2
      rw [Plan_reach_17_eq _ _ _ _ _ _ _ _ _ _ hp, hL]
      simp (disch := omega) only [nI_mul, nI_add, nI_clamp, gd_in, gd_0, gd_1, gd_b, gd_n0, ifc_lt, ifc_eq, ifc_neg, ifc_z, ifc_pos, ifc_b, if_pos, if_neg, crV_t, crI_t, crL_t, ifc_True, ifc_False, if_true, if_false, em]
      rw [ifc_bit _ (by omega), show mrg (mem P) y (n + 1) z = if bt y n && decide (mem P n &&& mrg (mem P) y n z ≠ 0) then mrg (mem P) y n z ||| mem P n else mrg (mem P) y n z from rfl]
      cases bt y n
      · simp only [Bool.false_eq_true, if_false, Bool.false_and]
      · simp only [if_true, Bool.true_and]
        by_cases h0 : mem P n &&& mrg (mem P) y n z = 0
        · rw [ifc_t h0, if_neg (by rw [decide_eq_false (fun hh => hh h0)]; decide)]
        · rw [ifc_f h0, if_pos (decide_eq_true h0)]) 0 (by omega)
    have hin0 : Plan_reach_17 p y z (nI k) (nI 0) (i, l, Rp s r q) = Plan_reach_17 p y (mrg (mem P) y (pL P) z) (nI k) (nI (pL P)) (i, l, Rp s r q) := hin
    rw [Plan_reach_5_eq _ _ _ _ _ _ _ _ _ hp, hL, ifc_t (nI_lt hk (by omega)), hin0, Plan_reach_17_eq _ _ _ _ _ _ _ _ _ _ hp, hL, ifc_f (nI_nlt (Nat.le_refl _) (by omega)), nI_add, ← hz]
    rfl) 0 (by omega)
  rw [Plan_reach_eq _ _ _ _ _ _ _ _ hp]
  refine (show Plan_reach_5 p y x (nI 0) (i, l, Rp s r q) = _ from h).trans ?_
  show Plan_reach_5 _ _ _ _ _ = _
  rw [Plan_reach_5_eq _ _ _ _ _ _ _ _ _ hp, hL, ifc_f (nI_nlt (Nat.le_refl _) (by omega))]
theorem price_ok {y : Int32} (hp : p = 7 ∨ p = 27) (hw : pwf P) (hP : PC P p i) {s r q : Nat} : Plan_price p y (i, l, Rp s r q) = some (some (.int (nI (smL y (cst P) (pL P)))), (i, l, Rp s r q)) := by
  have h8 := hw.1.2.1
  have hL : i p 12 = nI (pL P) := hP.1 12 (by omega) (by omega)
  have h := upto (fun k => Plan_price_4 p y (nI (smL y (cst P) k)) (nI k) (i, l, Rp s r q)) (pL P) (fun k hk => by
    show Plan_price_4 _ _ _ _ _ = Plan_price_4 _ _ _ _ _
    have ec : i (p + 2) k = nI (cst P k) := (hP.2.2.2.1 k hk).1
    rw [Plan_price_4_eq _ _ _ _ _ _ _ _ _ hp, hL, bitn y (by omega)]
    simp (disch := omega) only [nI_mul, nI_add, nI_clamp, gd_in, gd_0, gd_1, gd_b, gd_n0, ifc_lt, ifc_eq, ifc_neg, ifc_z, ifc_pos, ifc_b, if_pos, if_neg, crV_t, crI_t, crL_t, ifc_True, ifc_False, if_true, if_false, ec]
    rw [show smL y (cst P) (k + 1) = smL y (cst P) k + (if bt y k then cst P k else 0) from rfl]
    cases bt y k
    · simp only [Bool.false_eq_true, if_false, Nat.zero_mul]
    · simp only [if_true, Nat.one_mul]) 0 (by omega)
  rw [Plan_price_eq _ _ _ _ _ _ _ hp]
  refine (show Plan_price_4 p y (nI 0) (nI 0) (i, l, Rp s r q) = _ from h).trans ?_
  show Plan_price_4 _ _ _ _ _ = _
  rw [Plan_price_4_eq _ _ _ _ _ _ _ _ _ hp, hL, ifc_f (nI_nlt (Nat.le_refl _) (by omega))]
theorem costAll_ok {y : Int32} (hw : pwf P) (hP : PM P i) : Mo_costAll y (i, l, Rp s r p) = some (some (.int (nI (smL y (cst P) (pL P)))), (i, l, Rp s r p)) := by
  have h8 := hw.1.2.1
  have h := upto (fun k => Mo_costAll_4 y (nI (smL y (cst P) k)) (nI k) (i, l, Rp s r p)) (pL P) (fun k hk => by
    show Mo_costAll_4 _ _ _ _ = Mo_costAll_4 _ _ _ _
    have ec : i 89 k = nI (cst P k) := (hP.2.2.2.2.1 k hk).1
    rw [Mo_costAll_4_eq, hP.1.2.1]
    simp (disch := omega) only [nI_mul, nI_add, nI_clamp, gd_in, gd_0, gd_1, gd_b, gd_n0, ifc_lt, ifc_eq, ifc_neg, ifc_z, ifc_pos, ifc_b, if_pos, if_neg, crV_t, crI_t, crL_t, ifc_True, ifc_False, if_true, if_false, ec, isOf_ok]
    rw [show smL y (cst P) (k + 1) = smL y (cst P) k + (if bt y k then cst P k else 0) from rfl]
    cases bt y k
    · simp only [Bool.false_eq_true, if_false]
    · simp only [if_true]) 0 (by omega)
  rw [Mo_costAll_eq]
  refine (show Mo_costAll_4 y (nI 0) (nI 0) (i, l, Rp s r p) = _ from h).trans ?_
  show Mo_costAll_4 _ _ _ _ = _
  rw [Mo_costAll_4_eq, hP.1.2.1, ifc_f (nI_nlt (Nat.le_refl _) (by omega))]
theorem smL_72 {y : Int32} (hw : pwf P) : smL y (cst P) (pL P) ≤ 72 := by
  have h8 := hw.1.2.1
  have : ∀ n, n ≤ pL P → smL y (cst P) n ≤ 9 * n := by
    intro n
    induction n with
    | zero => intro _; exact Nat.zero_le _
    | succ n ih =>
      intro hn
      have h1 := ih (by omega)
      have h2 := (hw.2.2.2.1 n (by omega)).2
      show smL y (cst P) n + (if bt y n then cst P n else 0) ≤ _
      split <;> omega
  have := this (pL P) (Nat.le_refl _)
  omega
end
end

section
/-! least, needed -/
theorem shl_pow : ∀ L, L ≤ 8 → nI 1 <<< (nI L &&& 31) = nI (2 ^ L) := by decide +kernel
theorem low_bits : ∀ L, L ≤ 8 → ∀ j, j < 32 → bt (nI (2 ^ L) - nI 1) j = decide (j < L) := by decide +kernel
noncomputable def lcs (P : PL) (k : Nat) : Nat := smL (nI k) (cst P) (pL P)
noncomputable def arc (P : PL) (σ : ST) (n0 k : Nat) : Bool := decide (σ 0 7 &&& (rch (mem P) (nI k) (pL P) (nI 1 <<< (nI n0 &&& 31)) (pL P) ^^^ nM 1) = 0)
noncomputable def lsu (P : PL) (σ : ST) (n0 k : Nat) (b : Option Nat) : Option Nat :=
  if nI k &&& σ 0 8 = 0 then (match b with
    | none => if arc P σ n0 k then some k else none
    | some c => if lcs P k < lcs P c then (if arc P σ n0 k then some k else some c) else some c) else b
noncomputable def lsb (P : PL) (σ : ST) (n0 : Nat) : Nat → Option Nat
  | 0 => none
  | k + 1 => lsu P σ n0 k (lsb P σ n0 k)
def obI : Option Nat → Int32
  | none => nM 2
  | some k => nI k
noncomputable def ocI (P : PL) : Option Nat → Int32
  | none => nM 2
  | some k => nI (lcs P k)
theorem lsb_lt {P : PL} {σ : ST} {n0 : Nat} : ∀ k c, lsb P σ n0 k = some c → c < k
  | 0, c, h => absurd h (by simp [lsb])
  | k + 1, c, h => by
    have ih := lsb_lt (P := P) (σ := σ) (n0 := n0) k
    have e : lsb P σ n0 (k + 1) = lsu P σ n0 k (lsb P σ n0 k) := rfl
    rw [e] at h
    unfold lsu at h
    split at h
    · split at h
      · split at h
        · have := Option.some.inj h; omega
        · exact absurd h (by simp)
      · rename_i c' hc'
        have := ih c' hc'
        split at h
        · split at h
          · have := Option.some.inj h; omega
          · have := Option.some.inj h; omega
        · have := Option.some.inj h; omega
    · have := ih c h; omega
def allb (f : Nat → Bool) : Nat → Bool
  | 0 => true
  | n + 1 => allb f n && f n
theorem allb_iff {f : Nat → Bool} : ∀ n, allb f n = true ↔ ∀ k, k < n → f k = true
  | 0 => ⟨fun _ k hk => by omega, fun _ => rfl⟩
  | n + 1 => by
    show (allb f n && f n) = true ↔ _
    rw [Bool.and_eq_true, allb_iff n]
    constructor
    · intro h k hk
      by_cases e : k = n
      · subst e; exact h.2
      · exact h.1 k (by omega)
    · intro h; exact ⟨fun k hk => h k (by omega), h n (by omega)⟩
theorem sub_zero {x y : Int32} : x &&& (y ^^^ nM 1) = 0 ↔ sub x y := by
  constructor
  · intro h q hq hx
    have := b_and x (y ^^^ nM 1) q
    rw [h, b_0, hx, b_xor, bt_nM1 hq] at this
    cases hy : bt y q
    · rw [hy] at this; exact absurd this (by decide)
    · rfl
  · intro h
    apply b_ext
    intro q hq
    rw [b_and, b_xor, bt_nM1 hq, b_0]
    cases hx : bt x q
    · rfl
    · rw [h q hq hx]; rfl
section
variable {P : PL} {i : Nat → Nat → Int32} {l : Nat → Nat → Int64} {s r p : Nat}
theorem pwf_c9 (hw : pwf P) (j : Nat) (hj : j < pL P) : 0 < cst P j ∧ cst P j ≤ 9 := by
  have := hw.2.2.2.1 j hj
  omega
theorem least_pr (h : INV P i l s r p) (x1 x2 : Int32) : PrI (GT_least x1 x2) (Mo_least x1 x2) P i l s r p := by
  obtain ⟨hp0, hr, hw, hPC, hPM, hNI, hs, hS, hdr, hco, hrest⟩ := id h
  have hp : p = 7 ∨ p = 27 := by omega
  have h7 := hw.1.1
  have h8 := hw.1.2.1
  have h3 := hw.1.2.2.1
  have hth := INV_th h
  have hpt := INV_pT hth
  have hin2 : ∀ (a b : Option (Option Value × AM)), ifc (x2 < 0) a (ifc (nI 1 < x2) a b) = if isn 2 x2 = true then b else a := fun a b => ifc_isn2 (by decide) x2 a b
  have go_ : ∀ v, GT_least x1 x2 (i, l, Rp s r p) = some (some (.int v), (i, l, Rp s r p)) → Mo_least x1 x2 (i, l, Rp s r p) = some (some (.int v), (u2 i 82 2 (nI 0), l, Rp s r p)) → PrI (GT_least x1 x2) (Mo_least x1 x2) P i l s r p := fun v h1 h2 => ⟨_, i, l, _, l, h1, h2, hth⟩
  cases h1 : isn (pS P) x1
  · refine go_ (nM 1) ?_ ?_
    · simp only [GT_least_eq _ _ _ _ _ _ _ hp, cSource_ok hp hw hPC, h1, crI_t, crV_t, crL_t, ifc_b, Bool.false_eq_true, if_false, if_true]
    · simp only [Mo_least_eq, rSource_ok hw (PM_of hth), h1, crI_t, crV_t, crL_t, ifc_b, Bool.false_eq_true, if_false, if_true]
  · cases h2 : isn 2 x2
    · refine go_ (nM 1) ?_ ?_
      · simp only [GT_least_eq _ _ _ _ _ _ _ hp, cSource_ok hp hw hPC, h1, hin2, h2, crI_t, crV_t, crL_t, ifc_b, Bool.false_eq_true, if_false, if_true]
      · simp only [Mo_least_eq, rSource_ok hw (PM_of hth), rIn_ok (show 1 + 1 < 2 ^ 31 by decide), h1, h2, crI_t, crV_t, crL_t, ifc_b, Bool.false_eq_true, if_false, if_true]
    · obtain ⟨sr, hsr, rfl⟩ := isn_t h1
      obtain ⟨w, hw2, rfl⟩ := isn_t h2
      generalize hn0 : P.2.1 5 sr = n0
      have hn0N : n0 < pN P := by rw [← hn0]; exact hw.2.2.2.2.2.1 sr hsr
      have e5 : i (p + 5) sr = nI n0 := by rw [← hn0]; exact (hPC.2.2.2.2.1 sr hsr).2
      have hpow : 2 ^ pL P ≤ 256 := by
        have : 2 ^ pL P ≤ 2 ^ 8 := Nat.pow_le_pow_right (by decide) h8
        exact this
      have hL : i p 12 = nI (pL P) := hPC.1 12 (by omega) (by omega)
      have hc72 : ∀ k, lcs P k ≤ 72 := fun k => smL_72 hw
      have e7 : i 51 7 = vw 51 i 0 7 := rfl
      have e8 : i 51 8 = vw 51 i 0 8 := rfl
      -- the component
      have cl := upto (fun k => GT_least_48 (nI w) p (nI 1 <<< (nI n0 &&& 31)) (obI (lsb P (vw 51 i) n0 k)) (ocI P (lsb P (vw 51 i) n0 k)) (nI k) (i, l, Rp s r p)) (2 ^ pL P) (fun k hk => by
        show GT_least_48 _ _ _ _ _ _ _ = GT_least_48 _ _ _ _ _ _ _
        have hlt := lsb_lt (P := P) (σ := vw 51 i) (n0 := n0) k
        have e : lsb P (vw 51 i) n0 (k + 1) = lsu P (vw 51 i) n0 k (lsb P (vw 51 i) n0 k) := rfl
        have hck := hc72 k
        rw [GT_least_48_eq _ _ _ _ _ _ _ _ _ _ hp, hL, shl_pow _ h8, ifc_t (nI_lt hk (by omega)), price_ok hp hw hPC, crI_t, nI_add, e, e8]
        have k92 : ∀ b : Option Nat, GT_least_92 (nI w) p (nI 1 <<< (nI n0 &&& 31)) (obI b) (ocI P b) (nI k) (nI (smL (nI k) (cst P) (pL P))) (i, l, Rp s r p) = GT_least_48 (nI w) p (nI 1 <<< (nI n0 &&& 31)) (obI (if arc P (vw 51 i) n0 k then some k else b)) (ocI P (if arc P (vw 51 i) n0 k then some k else b)) (nI (k + 1)) (i, l, Rp s r p) := fun b => by
          rw [GT_least_92_eq _ _ _ _ _ _ _ _ _ _ _ hp, reach_ok hp hw hPC, crI_t, nI_add, e7]
          unfold arc
          by_cases hz : vw 51 i 0 7 &&& (rch (mem P) (nI k) (pL P) (nI 1 <<< (nI n0 &&& 31)) (pL P) ^^^ nM 1) = 0
          · rw [ifc_t hz, if_pos (decide_eq_true hz)]; rfl
          · rw [ifc_f hz, if_neg (by rw [decide_eq_false hz]; decide)]
        unfold lsu
        by_cases hcut : nI k &&& vw 51 i 0 8 = 0
        · rw [ifc_t hcut, if_pos hcut]
          cases hb : lsb P (vw 51 i) n0 k with
          | none =>
            rw [ifc_t (show obI none < 0 from nM_neg (by omega) (by omega)), k92 none]
          | some c =>
            have hck2 := hc72 c
            have hcl := hlt c hb
            rw [ifc_f (show ¬ obI (some c) < 0 from nI_pos (by omega)), k92 (some c)]
            show ifc (nI (lcs P k) < nI (lcs P c)) _ _ = _
            rw [ifc_lt (by omega) (by omega)]
            by_cases hlt2 : lcs P k < lcs P c
            · rw [if_pos hlt2]
              simp only [if_pos hlt2]
            · rw [if_neg hlt2]
              simp only [if_neg hlt2]
        · rw [ifc_f hcut, if_neg hcut]) 0 (Nat.zero_le _)
      have hC : GT_least (nI sr) (nI w) (i, l, Rp s r p) = some (some (.int (if w = 0 then obI (lsb P (vw 51 i) n0 (2 ^ pL P)) else ocI P (lsb P (vw 51 i) n0 (2 ^ pL P)))), (i, l, Rp s r p)) := by
        simp only [GT_least_eq _ _ _ _ _ _ _ hp, cSource_ok hp hw hPC, h1, hin2, h2, crI_t, crV_t, crL_t, ifc_b, Bool.false_eq_true, if_false, if_true]
        rw [gd_in (by omega) (by omega), nI_clamp (by omega), e5]
        refine (show GT_least_48 (nI w) p (nI 1 <<< (nI n0 &&& 31)) (nM 2) (nM 2) (nI 0) (i, l, Rp s r p) = _ from cl).trans ?_
        show GT_least_48 _ _ _ _ _ _ _ = _
        rw [GT_least_48_eq _ _ _ _ _ _ _ _ _ _ hp, hL, shl_pow _ h8, ifc_f (nI_nlt (Nat.le_refl _) (by omega)), ifc_z (by omega)]
        by_cases hw0 : w = 0
        · rw [if_pos hw0, if_pos hw0]
        · rw [if_neg hw0, if_neg hw0]
      -- the reference
      have rl := loop_ex (F := fun k (M : Nat → Nat → Int32) => Mo_least_34 (nI sr) (nI w) (obI (lsb P (vw 51 i) n0 k)) (nI k) (M, l, Rp s r p)) (I9 := fun _ M => INV P M l s r p ∧ fr qS i M) (n := 2 ^ pL P) (fun k M hk hI => by
        obtain ⟨hM, hf⟩ := hI
        have hlt := lsb_lt (P := P) (σ := vw 51 i) (n0 := n0) k
        have e : lsb P (vw 51 i) n0 (k + 1) = lsu P (vw 51 i) n0 k (lsb P (vw 51 i) n0 k) := rfl
        have hck := hc72 k
        have m108 : M 108 0 = vw 51 i 0 8 := (SM0_of hM).1.trans (congrFun (vw51_S hf 0 (by omega)) 8)
        have m109 : M 109 0 = vw 51 i 0 7 := (SM0_of hM).2.1.trans (congrFun (vw51_S hf 0 (by omega)) 7)
        have m92 : M 92 sr = nI n0 := by rw [← hn0]; exact ((PM_of hM).2.2.2.2.2.1 sr hsr).2
        show ∃ M', Mo_least_34 (nI sr) (nI w) (obI (lsb P (vw 51 i) n0 k)) (nI k) (M, l, Rp s r p) = Mo_least_34 (nI sr) (nI w) (obI (lsb P (vw 51 i) n0 (k + 1))) (nI (k + 1)) (M', l, Rp s r p) ∧ _
        have k78 : ∀ b : Option Nat, ∃ M', Mo_least_78 (nI sr) (nI w) (obI b) (nI k) (M, l, Rp s r p) = Mo_least_34 (nI sr) (nI w) (obI (if arc P (vw 51 i) n0 k then some k else b)) (nI (k + 1)) (M', l, Rp s r p) ∧ INV P M' l s r p ∧ fr qS i M' := fun b => by
          have hlay := lay_dst (l := l) (s := s) (r := r) (p := p) hw (PM_of hM) (co_of hM) (nI n0) (nI k ^^^ nM 1)
          generalize hD : dst (pN P) (pL P) (mem P) (cst P) (bt (nI k ^^^ nM 1)) (nI n0) = D at hlay
          have hIo : INV P (ov M 119 0 7 D) l s r p := INV_ov hM
          have hrd : ∀ q, q < pN P → bt (rch (mem P) (nI k) (pL P) (nI 1 <<< (nI n0 &&& 31)) (pL P)) q = decide (D q < 99) := fun q hq => by
            rw [← hD]
            exact rch_dst h7 hn0N (pwf_c9 hw) hw.2.2.2.2.1 (fun j hj => by
              rw [b_xor, bt_nM1 (by omega)]
              cases bt (nI k) j <;> rfl) hq
          have hD9 : ∀ q, D q ≤ 99 := fun q => by rw [← hD]; exact itr_99 _ _ _ _ _ _ _ _
          have h109' : ov M 119 0 7 D 109 0 = vw 51 i 0 7 := by rw [ov_c (by decide)]; exact m109
          have hfl := upto (fun n => Mo_least_98 (nI sr) (nI w) (obI b) (nI k) (nI (allb (fun q => !bt (vw 51 i 0 7) q || decide (D q < 99)) n).toNat) (nI n) (ov M 119 0 7 D, l, Rp s r p)) (pN P) (fun n hn => by
            show Mo_least_98 _ _ _ _ _ _ _ = Mo_least_98 _ _ _ _ _ _ _
            have hDn := hD9 n
            rw [Mo_least_98_eq, (PM_of hIo).1.1, show allb (fun q => !bt (vw 51 i 0 7) q || decide (D q < 99)) (n + 1) = (allb (fun q => !bt (vw 51 i 0 7) q || decide (D q < 99)) n && (!bt (vw 51 i 0 7) n || decide (D n < 99))) from rfl]
            generalize allb (fun q => !bt (vw 51 i 0 7) q || decide (D q < 99)) n = fl
            simp (disch := omega) only [nI_mul, nI_add, nI_clamp, gd_in, gd_0, gd_1, gd_b, gd_n0, ifc_lt, ifc_eq, ifc_neg, ifc_z, ifc_pos, ifc_b, if_pos, if_neg, crV_t, crI_t, crL_t, ifc_True, ifc_False, if_true, if_false, h109', isOf_ok, ov_0]
            cases fl
            · simp only [Bool.false_eq_true, if_false]; rfl
            · simp only [if_true, Bool.true_and]
              cases bt (vw 51 i 0 7) n
              · simp only [Bool.false_eq_true, if_false]; rfl
              · simp only [if_true]
                by_cases h99 : D n < 99
                · rw [if_pos h99, decide_eq_true h99]; rfl
                · rw [if_neg h99, decide_eq_false h99]; rfl) 0 (by omega)
          have harc : arc P (vw 51 i) n0 k = allb (fun q => !bt (vw 51 i 0 7) q || decide (D q < 99)) (pN P) := by
            unfold arc
            cases hal : allb (fun q => !bt (vw 51 i 0 7) q || decide (D q < 99)) (pN P)
            · refine decide_eq_false (fun hz => ?_)
              rw [sub_zero] at hz
              have : allb (fun q => !bt (vw 51 i 0 7) q || decide (D q < 99)) (pN P) = true := (allb_iff _).mpr (fun q hq => by
                cases hb : bt (vw 51 i 0 7) q
                · rfl
                · have := hz q (by omega) hb
                  rw [hrd q hq] at this
                  rw [this]; rfl)
              rw [hal] at this; exact absurd this (by decide)
            · refine decide_eq_true ?_
              rw [sub_zero]
              intro q hq hb
              have hqN := hs.2.2.2.1 q hq hb
              have := (allb_iff _).mp hal q hqN
              rw [hb] at this
              rw [hrd q hqN]
              simpa using this
          refine ⟨ov M 119 0 7 D, ?_, hIo, fr_trans hf (fr_ov (fun k => rfl))⟩
          rw [Mo_least_78_eq, gd_in (by omega) (by omega), nI_clamp (by omega), m92, hlay, crV_t]
          refine (show Mo_least_98 (nI sr) (nI w) (obI b) (nI k) (nI 1) (nI 0) (ov M 119 0 7 D, l, Rp s r p) = _ from hfl).trans ?_
          show Mo_least_98 _ _ _ _ _ _ _ = _
          rw [Mo_least_98_eq, (PM_of hIo).1.1, ifc_f (nI_nlt (Nat.le_refl _) (by omega)), ifc_b, nI_add, ← harc]
          cases arc P (vw 51 i) n0 k <;> rfl
        rw [Mo_least_34_eq, (PM_of hM).1.2.1, shl_pow _ h8, ifc_t (nI_lt hk (by omega)), gd_in (by omega) (by omega), nI_clamp (by omega), m108, nI_add, e, costAll_ok hw (PM_of hM), crI_t, costAll_ok hw (PM_of hM), crI_t]
        unfold lsu
        by_cases hcut : nI k &&& vw 51 i 0 8 = 0
        · rw [ifc_t hcut, if_pos hcut]
          cases hb : lsb P (vw 51 i) n0 k with
          | none =>
            rw [ifc_t (show obI none < 0 from nM_neg (by omega) (by omega))]
            exact k78 none
          | some c =>
            have hck2 := hc72 c
            have hcl := hlt c hb
            rw [ifc_f (show ¬ obI (some c) < 0 from nI_pos (by omega))]
            show ∃ M', ifc (nI (lcs P k) < nI (lcs P c)) _ _ = _ ∧ _
            rw [ifc_lt (by omega) (by omega)]
            by_cases hlt2 : lcs P k < lcs P c
            · rw [if_pos hlt2]
              simp only [if_pos hlt2]
              exact k78 (some c)
            · rw [if_neg hlt2]
              simp only [if_neg hlt2]
              exact ⟨M, rfl, hM, hf⟩
        · rw [ifc_f hcut, if_neg hcut]
          exact ⟨M, rfl, hM, hf⟩) 0 (pT (u2 i 82 2 (nI 0))) (Nat.zero_le _) ⟨hpt, fr_trans th_fr pT_fr⟩
      obtain ⟨M, q0, q1, q2⟩ := rl
      refine ⟨_, i, l, M, l, hC, ?_, q1⟩
      simp only [Mo_least_eq, rSource_ok hw (PM_of hth), rIn_ok (show 1 + 1 < 2 ^ 31 by decide), h1, h2, plainT_ok, crI_t, crV_t, crL_t, ifc_b, Bool.false_eq_true, if_false, if_true]
      refine (show Mo_least_34 (nI sr) (nI w) (nM 2) (nI 0) (pT (u2 i 82 2 (nI 0)), l, Rp s r p) = _ from q0).trans ?_
      show Mo_least_34 _ _ _ _ _ = _
      rw [Mo_least_34_eq, (PM_of q1).1.2.1, shl_pow _ h8, ifc_f (nI_nlt (Nat.le_refl _) (by omega)), costAll_ok hw (PM_of q1), crI_t, ifc_z (by omega)]
      cases hb : lsb P (vw 51 i) n0 (2 ^ pL P) with
      | none =>
        rw [ifc_t (show obI none < 0 from nM_neg (by omega) (by omega))]
        by_cases hw0 : w = 0
        · rw [if_pos hw0]
        · rw [if_neg hw0]; rfl
      | some c =>
        have hcl := lsb_lt _ _ hb
        rw [ifc_f (show ¬ obI (some c) < 0 from nI_pos (by omega))]
        by_cases hw0 : w = 0
        · rw [if_pos hw0, if_pos hw0]
        · rw [if_neg hw0, if_neg hw0]; rfl
/-- listeners that are near, over links that are not out -/
noncomputable def nrm (P : PL) (σ : ST) (t : Nat) (out : Int32) : Int32 := msk (fun q => bt (σ 0 7) q && decide (dst (pN P) (pL P) (mem P) (cst P) (bt out) (rt P t) q < 99)) (pN P)
theorem nearOnes_ok {g : Nat → Nat → Int32} {σ : ST} {t : Nat} {out : Int32} (hg : INV P g l s r p) (h109 : g 109 0 = σ 0 7) (ht : t ≤ pS P) : ∃ g', Mo_nearOnes (nI t) out (g, l, Rp s r p) = some (some (.int (nrm P σ t out)), (g', l, Rp s r p)) ∧ INV P g' l s r p ∧ fr qS g g' := by
  have hw : pwf P := hg.2.2.1
  have h7 := hw.1.1
  have hlay := lay_dst (l := l) (s := s) (r := r) (p := p) hw (PM_of hg) (co_of hg) (rt P t) out
  unfold nrm
  generalize hD : dst (pN P) (pL P) (mem P) (cst P) (bt out) (rt P t) = D at *
  have hD9 : ∀ q, D q ≤ 99 := fun q => by rw [← hD]; exact itr_99 _ _ _ _ _ _ _ _
  have hIo : INV P (ov g 119 0 7 D) l s r p := INV_ov hg
  have h109' : ov g 119 0 7 D 109 0 = σ 0 7 := by rw [ov_c (by decide)]; exact h109
  have h := upto (fun n => Mo_nearOnes_15 (msk (fun q => bt (σ 0 7) q && decide (D q < 99)) n) (nI n) (ov g 119 0 7 D, l, Rp s r p)) (pN P) (fun n hn => by
    show Mo_nearOnes_15 _ _ _ = Mo_nearOnes_15 _ _ _
    have hDn := hD9 n
    rw [Mo_nearOnes_15_eq, (PM_of hIo).1.1, msk_s]
    simp (disch := omega) only [nI_mul, nI_add, nI_clamp, gd_in, gd_0, gd_1, gd_b, gd_n0, ifc_lt, ifc_eq, ifc_neg, ifc_z, ifc_pos, ifc_b, if_pos, if_neg, crV_t, crI_t, crL_t, ifc_True, ifc_False, if_true, if_false, h109', isOf_ok, ov_0, or_0]
    cases bt (σ 0 7) n
    · simp only [Bool.false_eq_true, if_false, Bool.false_and]
    · simp only [if_true, Bool.true_and]
      by_cases h99 : D n < 99
      · rw [if_pos h99, if_pos (decide_eq_true h99)]
      · rw [if_neg h99, if_neg (by rw [decide_eq_false h99]; decide)]) 0 (by omega)
  refine ⟨ov g 119 0 7 D, ?_, hIo, fr_ov (fun k => rfl)⟩
  rw [Mo_nearOnes_eq, rootOf_ok hw (PM_of hg) ht, crI_t, hlay, crV_t]
  refine (show Mo_nearOnes_15 (nI 0) (nI 0) (ov g 119 0 7 D, l, Rp s r p) = _ from h).trans ?_
  show Mo_nearOnes_15 _ _ _ = _
  rw [Mo_nearOnes_15_eq, (PM_of hIo).1.1, ifc_f (nI_nlt (Nat.le_refl _) (by omega))]
theorem mrg_mono {mem : Nat → Int32} {b1 b2 : Int32} (hb : sub b1 b2) : ∀ n, n ≤ 32 → ∀ x y, sub x y → sub (mrg mem b1 n x) (mrg mem b2 n y)
  | 0, _, x, y, h => h
  | n + 1, hn, x, y, h => by
    have ih := mrg_mono (mem := mem) hb n (by omega) x y h
    have e1 : mrg mem b1 (n + 1) x = if bt b1 n && decide (mem n &&& mrg mem b1 n x ≠ 0) then mrg mem b1 n x ||| mem n else mrg mem b1 n x := rfl
    have e2 : mrg mem b2 (n + 1) y = if bt b2 n && decide (mem n &&& mrg mem b2 n y ≠ 0) then mrg mem b2 n y ||| mem n else mrg mem b2 n y := rfl
    rw [e1, e2]
    by_cases hc : (bt b1 n && decide (mem n &&& mrg mem b1 n x ≠ 0)) = true
    · rw [if_pos hc]
      simp only [Bool.and_eq_true] at hc
      obtain ⟨q, hq, q1, q2⟩ := meet_ex.mp (of_decide_eq_true hc.2)
      rw [if_pos (by rw [hb n (by omega) hc.1, decide_eq_true (meet_ex.mpr ⟨q, hq, q1, ih q hq q2⟩)]; rfl)]
      intro k hk hbk
      rw [b_or] at hbk ⊢
      cases hx : bt (mrg mem b1 n x) k
      · rw [hx, Bool.false_or] at hbk; rw [hbk, Bool.or_true]
      · rw [ih k hk hx]; rfl
    · rw [if_neg hc]
      split
      · exact sub_trans ih sub_or
      · exact ih
theorem rch_mono {mem : Nat → Int32} {b1 b2 x : Int32} {L : Nat} (hL : L ≤ 32) (hb : sub b1 b2) : ∀ k, sub (rch mem b1 L x k) (rch mem b2 L x k)
  | 0 => sub_refl x
  | k + 1 => mrg_mono hb L hL _ _ (rch_mono hL hb k)
theorem needed_pr (h : INV P i l s r p) (x1 : Int32) : PrI (GT_needed x1) (Mo_needed x1) P i l s r p := by
  obtain ⟨hp0, hr, hw, hPC, hPM, hNI, hs, hS, hdr, hco, hrest⟩ := id h
  have hp : p = 7 ∨ p = 27 := by omega
  have h7 := hw.1.1
  have h8 := hw.1.2.1
  have h3 := hw.1.2.2.1
  have hth := INV_th h
  have hpt := INV_pT hth
  cases h1 : isn (pS P + 1) x1
  · refine ⟨nM 1, i, l, _, l, ?_, ?_, hth⟩
    · simp only [GT_needed_eq _ _ _ _ _ _ hp, cTree_ok hp hw hPC, h1, crI_t, crV_t, crL_t, ifc_b, Bool.false_eq_true, if_false, if_true]
    · simp only [Mo_needed_eq, rTree_ok hw (PM_of hth), h1, crI_t, crV_t, crL_t, ifc_b, Bool.false_eq_true, if_false, if_true]
  · obtain ⟨t, ht, rfl⟩ := isn_t h1
    generalize hbs : (fun j => !bt (vw 51 i 0 8) j && decide (nrm P (vw 51 i) t (stb (vw 51 i 0 8) j) ≠ nrm P (vw 51 i) t (vw 51 i 0 8))) = bs
    have hbsj : ∀ j, bs j = (!bt (vw 51 i 0 8) j && decide (nrm P (vw 51 i) t (stb (vw 51 i 0 8) j) ≠ nrm P (vw 51 i) t (vw 51 i 0 8))) := fun j => by rw [← hbs]
    -- the reference
    have fpt : fr qS i (pT (u2 i 82 2 (nI 0))) := fr_trans th_fr pT_fr
    have cut_ : ∀ M, INV P M l s r p → fr qS i M → M 108 0 = vw 51 i 0 8 ∧ M 109 0 = vw 51 i 0 7 := fun M hM hf => ⟨(SM0_of hM).1.trans (congrFun (vw51_S hf 0 (by omega)) 8), (SM0_of hM).2.1.trans (congrFun (vw51_S hf 0 (by omega)) 7)⟩
    obtain ⟨M0, a0, a1, a2⟩ := nearOnes_ok (σ := vw 51 i) (t := t) (out := vw 51 i 0 8) hpt (cut_ _ hpt fpt).2 (by omega)
    have rl := loop_ex (F := fun j (M : Nat → Nat → Int32) => Mo_needed_36 (nI t) (nrm P (vw 51 i) t (vw 51 i 0 8)) (msk bs j) (nI j) (M, l, Rp s r p)) (I9 := fun _ M => INV P M l s r p ∧ fr qS i M) (n := pL P) (fun j M hj hI => by
      obtain ⟨hM, hf⟩ := hI
      obtain ⟨m108, m109⟩ := cut_ M hM hf
      show ∃ M', Mo_needed_36 (nI t) (nrm P (vw 51 i) t (vw 51 i 0 8)) (msk bs j) (nI j) (M, l, Rp s r p) = Mo_needed_36 (nI t) (nrm P (vw 51 i) t (vw 51 i 0 8)) (msk bs (j + 1)) (nI (j + 1)) (M', l, Rp s r p) ∧ _
      rw [Mo_needed_36_eq, (PM_of hM).1.2.1, msk_s, hbsj]
      simp (disch := omega) only [nI_mul, nI_add, nI_clamp, gd_in, gd_0, gd_1, gd_b, gd_n0, ifc_lt, ifc_eq, ifc_neg, ifc_z, ifc_pos, ifc_b, if_pos, if_neg, crV_t, crI_t, crL_t, ifc_True, ifc_False, if_true, if_false, m108, isOf_ok, or_0]
      cases bt (vw 51 i 0 8) j
      · simp only [Bool.false_eq_true, if_false, Bool.not_false, Bool.true_and]
        obtain ⟨M', b0, b1, b2⟩ := nearOnes_ok (σ := vw 51 i) (t := t) (out := stb (vw 51 i 0 8) j) hM m109 (by omega)
        have est : vw 51 i 0 8 ||| nI 1 <<< (nI j &&& 31) = stb (vw 51 i 0 8) j := rfl
        rw [est, b0, crI_t]
        refine ⟨M', ?_, b1, fr_trans hf b2⟩
        by_cases he : nrm P (vw 51 i) t (stb (vw 51 i 0 8) j) = nrm P (vw 51 i) t (vw 51 i 0 8)
        · rw [ifc_t he, if_neg (by rw [decide_eq_false (fun hh => hh he)]; decide)]
        · rw [ifc_f he, if_pos (decide_eq_true he)]
      · simp only [if_true, Bool.not_true, Bool.false_and, Bool.false_eq_true, if_false]
        exact ⟨M, rfl, hM, hf⟩) 0 M0 (by omega) ⟨a1, fr_trans fpt a2⟩
    obtain ⟨M, q0, q1, q2⟩ := rl
    have hR : Mo_needed (nI t) (i, l, Rp s r p) = some (some (.int (msk bs (pL P))), (M, l, Rp s r p)) := by
      simp only [Mo_needed_eq, rTree_ok hw (PM_of hth), h1, plainT_ok, crI_t, crV_t, crL_t, ifc_b, Bool.false_eq_true, if_false, if_true]
      rw [gd_in (by omega) (by omega), nI_clamp (by omega), (cut_ _ hpt fpt).1, a0, crI_t]
      refine (show Mo_needed_36 (nI t) (nrm P (vw 51 i) t (vw 51 i 0 8)) (nI 0) (nI 0) (M0, l, Rp s r p) = _ from q0).trans ?_
      show Mo_needed_36 _ _ _ _ _ = _
      rw [Mo_needed_36_eq, (PM_of q1).1.2.1, ifc_f (nI_nlt (Nat.le_refl _) (by omega))]
    refine ⟨_, i, l, M, l, ?_, hR, q1⟩
    have hL : i p 12 = nI (pL P) := hPC.1 12 (by omega) (by omega)
    simp only [GT_needed_eq _ _ _ _ _ _ hp, cTree_ok hp hw hPC, h1, root_ok hp hw hPC (show t ≤ pS P by omega), hL, shl_pow _ h8, crI_t, crV_t, crL_t, ifc_b, Bool.false_eq_true, if_false, if_true]
    by_cases hN0 : pN P = 0
    · rw [show rt P t = nM 1 by unfold rt; rw [if_pos hN0], ifc_t (nM_neg (by omega) (by omega))]
      have hz : msk bs (pL P) = nI 0 := (msk_0 (by omega)).mpr (fun k hk => by
        have hn0 : ∀ o, nrm P (vw 51 i) t o = 0 := fun o => by unfold nrm; rw [hN0]; rfl
        rw [hbsj, hn0, hn0, decide_eq_false (fun hh => hh rfl), Bool.and_false])
      rw [hz]
    · generalize hn0 : (if t = 0 then pM P else P.2.1 5 (t - 1)) = n0
      have hrt : rt P t = nI n0 := by unfold rt; rw [if_neg hN0, hn0]
      have hn0N : n0 < pN P := by
        rw [← hn0]
        split
        · have := hw.2.1; omega
        · exact hw.2.2.2.2.2.1 (t - 1) (by omega)
      rw [hrt, ifc_neg (by omega), reach_ok hp hw hPC, crI_t]
      have e7 : i 51 7 = vw 51 i 0 7 := rfl
      have e8 : i 51 8 = vw 51 i 0 8 := rfl
      rw [e7, e8]
      generalize hwh : (nI (2 ^ pL P) - nI 1) &&& (vw 51 i 0 8 ^^^ nM 1) = wh
      have hwb : ∀ j, j < 32 → bt wh j = (decide (j < pL P) && !bt (vw 51 i 0 8) j) := fun j hj => by
        rw [← hwh, b_and, low_bits _ h8 j hj, b_xor, bt_nM1 hj]
        cases bt (vw 51 i 0 8) j <;> simp
      -- near ones by what is reached
      have near : ∀ (o by_ : Int32), (∀ j, j < pL P → bt o j = !bt by_ j) → ∀ q, q < 32 → bt (nrm P (vw 51 i) t o) q = (bt (vw 51 i 0 7) q && bt (rch (mem P) by_ (pL P) (nI 1 <<< (nI n0 &&& 31)) (pL P)) q) := fun o by_ ho q hq => by
        unfold nrm
        rw [msk_bt _ _ (by omega) q hq, hrt]
        by_cases hqN : q < pN P
        · rw [decide_eq_true hqN, Bool.true_and, rch_dst h7 hn0N (pwf_c9 hw) hw.2.2.2.2.1 ho hqN]
        · rw [decide_eq_false hqN, Bool.false_and]
          cases hb : bt (vw 51 i 0 7) q
          · rfl
          · exact absurd (hs.2.2.2.1 q hq hb) hqN
      have hser : vw 51 i 0 7 &&& rch (mem P) wh (pL P) (nI 1 <<< (nI n0 &&& 31)) (pL P) = nrm P (vw 51 i) t (vw 51 i 0 8) := by
        apply b_ext
        intro q hq
        rw [near (vw 51 i 0 8) wh (fun j hj => by rw [hwb j (by omega), decide_eq_true hj]; cases bt (vw 51 i 0 8) j <;> rfl) q hq, b_and]
      rw [hser]
      have cl := upto (fun j => GT_needed_75 p (nI n0) wh (nrm P (vw 51 i) t (vw 51 i 0 8)) (msk bs j) (nI j) (i, l, Rp s r p)) (pL P) (fun j hj => by
        show GT_needed_75 _ _ _ _ _ _ _ = GT_needed_75 _ _ _ _ _ _ _
        rw [GT_needed_75_eq _ _ _ _ _ _ _ _ _ _ hp, hL, ifc_t (nI_lt hj (by omega)), reach_ok hp hw hPC, crI_t, nI_add, msk_s, hbsj]
        have hz : wh &&& nI 1 <<< (nI j &&& 31) = 0 ↔ bt (vw 51 i 0 8) j = true := by
          constructor
          · intro hh
            have := b_and wh (nI 1 <<< (nI j &&& 31)) j
            rw [hh, b_0, hwb j (by omega), bt_mask (by omega) (by omega), decide_eq_true hj, decide_eq_true rfl] at this
            cases hc : bt (vw 51 i 0 8) j
            · rw [hc] at this; exact absurd this (by decide)
            · rfl
          · intro hc
            apply b_ext
            intro q hq
            rw [b_and, b_0, bt_mask (by omega) hq]
            by_cases e : q = j
            · subst e; rw [hwb q hq, hc]; simp
            · rw [decide_eq_false e, Bool.and_false]
        cases hc : bt (vw 51 i 0 8) j
        · rw [ifc_f (fun hh => by rw [hz.mp hh] at hc; exact absurd hc (by decide))]
          simp only [Bool.not_false, Bool.true_and]
          have hby : ∀ k, k < pL P → bt (stb (vw 51 i 0 8) j) k = !bt (wh &&& (nI 1 <<< (nI j &&& 31) ^^^ nM 1)) k := fun k hk => by
            rw [bt_stb _ (by omega) (by omega), b_and, b_xor, bt_mask (by omega) (by omega), bt_nM1 (by omega), hwb k (by omega), decide_eq_true hk]
            cases bt (vw 51 i 0 8) k <;> cases decide (k = j) <;> rfl
          have hn2 := near _ _ hby
          have hn1 := near (vw 51 i 0 8) wh (fun j hj => by rw [hwb j (by omega), decide_eq_true hj]; cases bt (vw 51 i 0 8) j <;> rfl)
          have hmono := rch_mono (mem := mem P) (b1 := wh &&& (nI 1 <<< (nI j &&& 31) ^^^ nM 1)) (b2 := wh) (x := nI 1 <<< (nI n0 &&& 31)) (L := pL P) (by omega) (fun q hq hb => by rw [b_and] at hb; simp at hb; exact hb.1) (pL P)
          generalize rch (mem P) (wh &&& (nI 1 <<< (nI j &&& 31) ^^^ nM 1)) (pL P) (nI 1 <<< (nI n0 &&& 31)) (pL P) = r2 at *
          generalize rch (mem P) wh (pL P) (nI 1 <<< (nI n0 &&& 31)) (pL P) = r1 at *
          have hiff : (nrm P (vw 51 i) t (vw 51 i 0 8) &&& (r2 ^^^ nM 1) = 0) ↔ nrm P (vw 51 i) t (stb (vw 51 i 0 8) j) = nrm P (vw 51 i) t (vw 51 i 0 8) := by
            rw [sub_zero]
            constructor
            · intro hsub
              apply b_ext
              intro q hq
              rw [hn2 q hq]
              have h2 := hsub q hq
              rw [hn1 q hq] at h2 ⊢
              cases hb : bt (vw 51 i 0 7) q
              · rfl
              · cases hr1 : bt r1 q
                · cases hr2 : bt r2 q
                  · rfl
                  · rw [hmono q hq hr2] at hr1; exact absurd hr1 (by decide)
                · rw [hb, hr1] at h2
                  rw [h2 rfl]
            · intro he q hq hb
              rw [← he, hn2 q hq] at hb
              simp at hb
              exact hb.2
          by_cases he : nrm P (vw 51 i) t (stb (vw 51 i 0 8) j) = nrm P (vw 51 i) t (vw 51 i 0 8)
          · rw [ifc_t (hiff.mpr he), if_neg (by rw [decide_eq_false (fun hh => hh he)]; decide)]
          · rw [ifc_f (fun hh => he (hiff.mp hh)), if_pos (decide_eq_true he)]
        · rw [ifc_t (hz.mpr hc)]
          simp only [Bool.not_true, Bool.false_and, Bool.false_eq_true, if_false]) 0 (by omega)
      refine (show GT_needed_75 p (nI n0) wh (nrm P (vw 51 i) t (vw 51 i 0 8)) (nI 0) (nI 0) (i, l, Rp s r p) = _ from cl).trans ?_
      show GT_needed_75 _ _ _ _ _ _ _ = _
      rw [GT_needed_75_eq _ _ _ _ _ _ _ _ _ _ hp, hL, ifc_f (nI_nlt (Nat.le_refl _) (by omega))]
end
end

section
/-! notes: tables, what stands, what fits; costs -/
theorem cso_c {P : PL} (hw : pwf P) {k c : Nat} (hc : 1 ≤ c ∧ c ≤ 9) (j : Nat) (hj : j < pL P) : 0 < cso P k c j ∧ cso P k c j < 100 := by
  have := hw.2.2.2.1 j hj
  unfold cso
  split <;> omega
theorem dso_99 (P : PL) (k c a b : Nat) : dso P k c a b ≤ 99 := itr_99 _ _ _ _ _ _ _ _
/-- strikes, from the last one on -/
def skd (isS : Nat → Bool) (tg : Nat → Nat) (f : Nat) : Nat → Nat → Bool
  | 0 => fun _ => false
  | j + 1 => fun q => skd isS tg f j q || (isS (f - 1 - j) && (!skd isS tg f j (f - 1 - j) && q == tg (f - 1 - j)))
def std (isS : Nat → Bool) (tg : Nat → Nat) (f n : Nat) : Bool := decide (n < f) && (!isS n && !skd isS tg f f n)
theorem skd_fix {isS : Nat → Bool} {tg : Nat → Nat} {f : Nat} (ht : ∀ k, k < f → isS k = true → tg k < k) {n : Nat} (hn : n < f) : ∀ j, f - 1 - n ≤ j → j ≤ f → skd isS tg f j n = skd isS tg f (f - 1 - n) n := by
  intro j h1 h2
  induction j with
  | zero => rw [show f - 1 - n = 0 by omega]
  | succ j ih =>
    by_cases e : f - 1 - n = j + 1
    · rw [e]
    · rw [← ih (by omega) (by omega)]
      show (skd isS tg f j n || (isS (f - 1 - j) && (!skd isS tg f j (f - 1 - j) && n == tg (f - 1 - j)))) = _
      cases hs : isS (f - 1 - j)
      · simp
      · have := ht (f - 1 - j) (by omega) hs
        have e2 : (n == tg (f - 1 - j)) = false := by simp; omega
        rw [e2]; simp
section
variable {P : PL} {i : Nat → Nat → Int32} {l : Nat → Nat → Int64} {s r p : Nat}
theorem TB_of (h : INV P i l s r p) : TB P i := h.2.2.2.2.2.2.2.2.2.2.2.2.2.1
theorem tab_ok {lk : Nat} (h : INV P i l s r p) (hlk : lk < pL P) : ∃ j, Notes_tabulate (nI lk) (i, l, Rp s r p) = some (none, (j, l, Rp s r p)) ∧ SCR P i j l l ∧ TBx P j lk ∧ (∀ a, a ≠ 79 → a ≠ 80 → a ≠ 74 → j a = i a) ∧ ∀ k, k ≠ 7 → j 74 k = i 74 k := by
  obtain ⟨hp0, hr, hw, hPC, hPM, hNI, hs, hS, hdr, hco, hrest⟩ := id h
  have hp : p = 7 ∨ p = 27 := by omega
  have h7 := hw.1.1
  have h8 := hw.1.2.1
  have h3 := hw.1.2.2.1
  rw [Notes_tabulate_eq _ _ _ _ _ _ hp]
  by_cases he : i 74 7 = nI lk
  · rw [ifc_t he]
    refine ⟨i, rfl, SCR_refl h, ?_, fun _ _ _ _ => rfl, fun _ _ => rfl⟩
    rcases TB_of h with hm | ⟨k, hk, e1, e2⟩
    · rw [he] at hm
      have h9 := nM_neg (m := 1) (by omega) (by omega)
      rw [← hm] at h9
      exact absurd h9 (nI_pos (by omega))
    · have : k = lk := nI_inj (by omega) (by omega) (e1.symm.trans he)
      rw [← this]; exact e2
  · rw [ifc_f he]
    simp (disch := omega) only [nI_clamp, gd_cp]
    generalize hj0 : cpy2 i (p + 2) 0 79 0 8 = j0
    have r0 : ∀ a, a ≠ 79 → j0 a = i a := fun a ha => by rw [← hj0, cpy2_r ha]
    have j79 : ∀ k, k < pL P → j0 79 k = nI (cst P k) := fun k hk => by
      rw [← hj0, cpy2_in (by omega) (by omega), show 0 + (k - 0) = k by omega]
      exact (hPC.2.2.2.1 k hk).1
    -- the table as far as it is filled
    have key : ∀ f c (j : Nat → Nat → Int32), f + c = 10 → 1 ≤ c → (∀ a, a ≠ 79 → a ≠ 80 → j a = i a) → (∀ k, k < pL P → k ≠ lk → j 79 k = nI (cst P k)) → (∀ c' a b, 1 ≤ c' → c' < c → a < pN P → b < pN P → j 80 (((c' - 1) * 7 + a) * 7 + b) = nI (dso P lk c' a b)) →
        ∃ j', Notes_tabulate_34 (nI lk) p (nI c) (j, l, Rp s r p) = some (none, (u2 j' 74 7 (nI lk), l, Rp s r p)) ∧ (∀ a, a ≠ 79 → a ≠ 80 → j' a = i a) ∧ TBx P j' lk := by
      intro f
      induction f with
      | zero =>
        intro c j hc h1 hr h79 h80
        rw [Notes_tabulate_34_eq _ _ _ _ _ _ _ hp, ifc_t (nI_lt (by omega) (by omega))]
        exact ⟨j, rfl, hr, fun c' a b x1 x2 x3 x4 => h80 c' a b x1 (by omega) x3 x4⟩
      | succ f ih =>
        intro c j hc h1 hr h79 h80
        rw [Notes_tabulate_34_eq _ _ _ _ _ _ _ hp, ifc_f (nI_nlt (by omega) (by omega)), gd_in (by omega) (by omega), nI_clamp (by omega)]
        have row := loop_ex (F := fun a (m : Nat → Nat → Int32) => Notes_tabulate_50 (nI lk) p (nI c) (nI a) (m, l, Rp s r p)) (I9 := fun a m => (∀ x, x ≠ 79 → x ≠ 80 → m x = i x) ∧ m 79 = u2 j 79 lk (nI c) 79 ∧ (∀ c' a' b, 1 ≤ c' → (c' < c ∨ c' = c ∧ a' < a) → a' < pN P → b < pN P → m 80 (((c' - 1) * 7 + a') * 7 + b) = nI (dso P lk c' a' b))) (n := pN P) (fun a m ha hI => by
          obtain ⟨q1, q2, q3⟩ := hI
          have hPm : PC P p m := PC_fr hPC (fun x hx => q1 _ (by omega) (by omega))
          have hcs : ∀ k, k < pL P → m 79 k = nI (cso P lk c k) := fun k hk => by
            rw [q2]
            unfold cso
            by_cases e : k = lk
            · subst e; rw [u2_s, if_pos rfl]
            · rw [u2_k e, if_neg e]; exact h79 k hk e
          have hsp := spread_ok (i := m) (l := l) (p := p) (o1 := 79) (a := 80) (b := ((c - 1) * 7 + a) * 7) (N := pN P) (L := pL P) (x2 := nI 0) (root := nI a) (mem := mem P) (cost := cso P lk c) (s := s) (r := r) (q := p) (by omega) (hPm.1 11 (by omega) (by omega)) h7 (hPm.1 12 (by omega) (by omega)) h8 (by show ((c - 1) * 7 + a) * 7 + pN P ≤ 441; omega) (fun k hk => (hPm.2.2.2.1 k hk).2) hcs (fun k hk => (cso_c hw (by omega) k hk).1) (fun k hk => (cso_c hw (by omega) k hk).2)
          have hd0 : dst (pN P) (pL P) (mem P) (cso P lk c) (bt (nI 0)) (nI a) = dso P lk c a := by unfold dso; rw [nI_0]
          rw [hd0] at hsp
          refine ⟨ov m 80 (((c - 1) * 7 + a) * 7) (pN P) (dso P lk c a), ?_, fun x y1 y2 => (ov_c y2).trans (q1 x y1 y2), (ov_c (by decide)).trans q2, fun c' a' b y1 y2 y3 y4 => ?_⟩
          · show Notes_tabulate_50 (nI lk) p (nI c) (nI a) (m, l, Rp s r p) = _
            rw [Notes_tabulate_50_eq _ _ _ _ _ _ _ _ hp, show m p 11 = nI (pN P) from hPm.1 11 (by omega) (by omega), ifc_t (nI_lt ha (by omega)), Notes_farAt_eq, crI_t, pk_sub (by omega), nI_mul, nI_add, nI_mul, nI_add, nI_add, Nat.add_zero, hsp, crV_t]
          · by_cases e : c' = c ∧ a' = a
            · obtain ⟨rfl, rfl⟩ := e
              exact ov_a m 80 _ _ y4
            · rw [ov_k (by omega)]
              exact q3 c' a' b y1 (by omega) y3 y4) 0 (u2 j 79 lk (nI c)) (by omega) ⟨fun x y1 y2 => (u2_r y1).trans (hr x y1 y2), rfl, fun c' a' b y1 y2 y3 y4 => by
            rw [u2_i (by decide)]; exact h80 c' a' b y1 (by omega) y3 y4⟩
        obtain ⟨m, z0, z1, z2, z3⟩ := row
        have hPm : PC P p m := PC_fr hPC (fun x hx => z1 _ (by omega) (by omega))
        obtain ⟨j', w0, w1, w2⟩ := ih (c + 1) m (by omega) (by omega) z1 (fun k hk hne => by rw [z2, u2_k hne]; exact h79 k hk hne) (fun c' a b y1 y2 y3 y4 => z3 c' a b y1 (by omega) y3 y4)
        refine ⟨j', ?_, w1, w2⟩
        refine (show Notes_tabulate_50 (nI lk) p (nI c) (nI 0) (u2 j 79 lk (nI c), l, Rp s r p) = _ from z0).trans ?_
        show Notes_tabulate_50 (nI lk) p (nI c) (nI (pN P)) (m, l, Rp s r p) = _
        rw [Notes_tabulate_50_eq _ _ _ _ _ _ _ _ hp, show m p 11 = nI (pN P) from hPm.1 11 (by omega) (by omega), ifc_f (nI_nlt (Nat.le_refl _) (by omega)), nI_add]
        exact w0
    obtain ⟨j', w0, w1, w2⟩ := key 9 1 j0 (by omega) (by omega) (fun a y1 _ => r0 a y1) (fun k hk _ => j79 k hk) (fun c' a b y1 y2 _ _ => by omega)
    have hrow : ∀ a, a ≠ 79 → a ≠ 80 → a ≠ 74 → u2 j' 74 7 (nI lk) a = i a := fun a y1 y2 y3 => (u2_r y3).trans (w1 a y1 y2)
    have hT : TBx P (u2 j' 74 7 (nI lk)) lk := fun c a b y1 y2 y3 y4 => (u2_i (by decide)).trans (w2 c a b y1 y2 y3 y4)
    refine ⟨_, w0, ⟨fun a k hq => ?_, ?_, Or.inr ⟨lk, hlk, u2_s _ _ _ _, hT⟩, ?_, lS_refl _⟩, hT, hrow, fun k hk => ?_⟩
    · by_cases e74 : a = 74
      · subst e74
        have : k ≠ 7 := fun e => by subst e; simp [qS] at hq
        rw [u2_k this, w1 74 (by decide) (by decide)]
      · rw [hrow a (fun e => by subst e; simp [qS] at hq) (fun e => by subst e; simp [qS] at hq) e74]
    · unfold NetI NetOk NR
      rw [hrow 26 (by decide) (by decide) (by decide), hrow 43 (by decide) (by decide) (by decide), hrow 44 (by decide) (by decide) (by decide), hrow 45 (by decide) (by decide) (by decide)]
      exact hNI
    · rw [hrow 82 (by decide) (by decide) (by decide)]; exact hco
    · rw [u2_k hk, w1 74 (by decide) (by decide)]
/-! the notes as they are told -/
def nS (i : Nat → Nat → Int32) (k : Nat) : Bool := decide (i 75 k = nI 2)
def nA (i : Nat → Nat → Int32) (k : Nat) : Nat := (i 76 k).toNatClampNeg
def nB (i : Nat → Nat → Int32) (k : Nat) : Nat := (i 77 k).toNatClampNeg
def nL (i : Nat → Nat → Int32) (k : Nat) : Nat := (i 78 k).toNatClampNeg
def nW (i : Nat → Nat → Int32) (k : Nat) : Nat := (i 75 k).toNatClampNeg
noncomputable def cnd (P : PL) (i : Nat → Nat → Int32) (lk c k : Nat) : Bool := decide (dso P lk c (nA i k) (nB i k) ≤ nL i k) == decide (nW i k = 0)
noncomputable def fit (P : PL) (i : Nat → Nat → Int32) (lk f c : Nat) : Bool := allb (fun k => !std (nS i) (nA i) f k || cnd P i lk c k) f
theorem NT1_s {k : Nat} (hk : k < 24) (h : NT1 P i k) (hs : nS i k = true) : nA i k < k ∧ i 76 k = nI (nA i k) ∧ i 123 (4 * k) = nM 1 ∧ i 123 (4 * k + 1) = nI (nA i k) := by
  rcases h with ⟨h1, q, hq, h2, h3, h4⟩ | ⟨a, b, c, w, ha, hb, hc, hw, h1, h2⟩
  · have e : nA i k = q := by unfold nA; rw [h2, nI_clamp (by omega)]
    rw [e]; exact ⟨hq, h2, h3, h4⟩
  · unfold nS at hs
    rw [h1] at hs
    have := nI_inj (by omega) (by omega) (of_decide_eq_true hs)
    omega
theorem NT1_n {k : Nat} (h7 : pN P ≤ 7) (h : NT1 P i k) (hs : nS i k = false) : nA i k < pN P ∧ nB i k < pN P ∧ nL i k ≤ 99 ∧ nW i k < 2 ∧ i 75 k = nI (nW i k) ∧ i 76 k = nI (nA i k) ∧ i 77 k = nI (nB i k) ∧ i 78 k = nI (nL i k) ∧ i 123 (4 * k) = nI (nA i k) ∧ i 123 (4 * k + 1) = nI (nB i k) ∧ i 123 (4 * k + 2) = nI (nL i k) ∧ i 123 (4 * k + 3) = nI (1 - nW i k) := by
  rcases h with ⟨h1, _⟩ | ⟨a, b, c, w, ha, hb, hc, hw, h1, h2, h3, h4, h5, h6, h7', h8⟩
  · unfold nS at hs
    rw [h1] at hs
    exact absurd hs (by simp)
  · have ea : nA i k = a := by unfold nA; rw [h2, nI_clamp (by omega)]
    have eb : nB i k = b := by unfold nB; rw [h3, nI_clamp (by omega)]
    have ec : nL i k = c := by unfold nL; rw [h4, nI_clamp (by omega)]
    have ew : nW i k = w := by unfold nW; rw [h1, nI_clamp (by omega)]
    rw [ea, eb, ec, ew]
    exact ⟨ha, hb, hc, hw, h1, h2, h3, h4, h5, h6, h7', h8⟩
theorem stand_ok {n f : Nat} (hN : NTx P i n) (hf : f ≤ n) (h1 : Notes_inForce (i, l, Rp s r p) = some (some (.int (nI f)), (i, l, Rp s r p))) : ∃ x, Notes_standing (i, l, Rp s r p) = some (some (.int x), (i, l, Rp s r p)) ∧ ∀ k, k < 32 → bt x k = std (nS i) (nA i) f k := by
  obtain ⟨n1, n2, n3, n4, n5⟩ := hN
  have ht : ∀ k, k < f → nS i k = true → nA i k < k := fun k hk hs => (NT1_s (by omega) (n5 k (by omega)) hs).1
  have key : ∀ m j (st bs : Int32), m + j = f → (∀ k, k < 32 → bt st k = skd (nS i) (nA i) f j k) → (∀ k, k < 32 → bt bs k = (decide (f ≤ k + j ∧ k < f) && (!nS i k && !skd (nS i) (nA i) f (f - 1 - k) k))) → ∃ x, Notes_standing_11 st bs (nI f - nI 1 - nI j) (i, l, Rp s r p) = some (some (.int x), (i, l, Rp s r p)) ∧ ∀ k, k < 32 → bt x k = std (nS i) (nA i) f k := by
    intro m
    induction m with
    | zero =>
      intro j st bs hm hst hbs
      have e : nI f - nI 1 - nI j = nM 1 := by
        rw [show j = f by omega, Int32.sub_sub, Int32.add_comm, ← Int32.sub_sub, Int32.sub_self]
        rfl
      rw [e, Notes_standing_11_eq, ifc_t (nM_neg (by omega) (by omega))]
      refine ⟨bs, rfl, fun k hk => ?_⟩
      rw [hbs k hk]
      unfold std
      by_cases hkf : k < f
      · rw [decide_eq_true hkf, decide_eq_true (show f ≤ k + j ∧ k < f by omega), skd_fix ht hkf f (by omega) (Nat.le_refl _)]
      · rw [decide_eq_false hkf, decide_eq_false (by omega)]; rfl
    | succ m ih =>
      intro j st bs hm hst hbs
      have e : nI f - nI 1 - nI j = nI (f - 1 - j) := by rw [pk_sub (by omega), pk_sub (by omega)]
      have e2 : nI (f - 1 - j) + nM 1 = nI f - nI 1 - nI (j + 1) := by
        rw [← e, show nI (j + 1) = nI j + nI 1 from (nI_add j 1).symm]
        unfold nM
        rw [← Int32.sub_eq_add_neg, ← Int32.sub_sub]
      have h24 : f - 1 - j < 24 := by omega
      rw [e, Notes_standing_11_eq, ifc_neg (by omega), ifc_bit _ (by omega), hst _ (by omega), gd_in h24 (by omega), nI_clamp (by omega), e2]
      have hsj : ∀ q, skd (nS i) (nA i) f (j + 1) q = (skd (nS i) (nA i) f j q || (nS i (f - 1 - j) && (!skd (nS i) (nA i) f j (f - 1 - j) && q == nA i (f - 1 - j)))) := fun q => rfl
      have hmore : ∀ k, k < 32 → (decide (f ≤ k + (j + 1) ∧ k < f) && (!nS i k && !skd (nS i) (nA i) f (f - 1 - k) k)) = ((decide (f ≤ k + j ∧ k < f) && (!nS i k && !skd (nS i) (nA i) f (f - 1 - k) k)) || (decide (k = f - 1 - j) && (!nS i k && !skd (nS i) (nA i) f j k))) := fun k hk => by
        by_cases ek : k = f - 1 - j
        · rw [show f - 1 - k = j by omega, decide_eq_true ek, decide_eq_true (show f ≤ k + (j + 1) ∧ k < f by omega), decide_eq_false (show ¬ (f ≤ k + j ∧ k < f) by omega)]
          simp
        · rw [decide_eq_false ek]
          by_cases ek2 : f ≤ k + j ∧ k < f
          · rw [decide_eq_true ek2, decide_eq_true (show f ≤ k + (j + 1) ∧ k < f by omega)]; simp
          · rw [decide_eq_false ek2, decide_eq_false (show ¬ (f ≤ k + (j + 1) ∧ k < f) by omega)]; simp
      cases hsk : skd (nS i) (nA i) f j (f - 1 - j)
      · rw [if_neg (by decide)]
        cases hns : nS i (f - 1 - j)
        · rw [ifc_f (of_decide_eq_false hns)]
          refine ih (j + 1) st _ (by omega) (fun k hk => by rw [hst k hk, hsj, hns]; simp) (fun k hk => ?_)
          rw [b_or, bt_mask (by omega) hk, hmore k hk, hbs k hk]
          by_cases ek : k = f - 1 - j
          · subst ek; rw [hns, hsk]; simp
          · rw [decide_eq_false ek]; simp
        · obtain ⟨s1, s2, s3, s4⟩ := NT1_s (by omega) (n5 _ (by omega)) hns
          rw [ifc_t (of_decide_eq_true hns), gd_in h24 (by omega), s2]
          refine ih (j + 1) _ bs (by omega) (fun k hk => ?_) (fun k hk => ?_)
          · rw [b_or, bt_mask (by omega) hk, hst k hk, hsj, hns, hsk]
            simp
            rfl
          · rw [hmore k hk, hbs k hk]
            by_cases ek : k = f - 1 - j
            · subst ek; rw [hns]; simp
            · rw [decide_eq_false ek]; simp
      · rw [if_pos rfl]
        refine ih (j + 1) st bs (by omega) (fun k hk => by rw [hst k hk, hsj, hsk]; simp) (fun k hk => ?_)
        rw [hmore k hk, hbs k hk]
        by_cases ek : k = f - 1 - j
        · subst ek; rw [hsk]; simp
        · rw [decide_eq_false ek]; simp
  obtain ⟨x, e0, e1⟩ := key f 0 (nI 0) (nI 0) (by omega) (fun k hk => by rw [nI_0, b_0]; rfl) (fun k hk => by rw [nI_0, b_0, decide_eq_false (by omega)]; rfl)
  refine ⟨x, ?_, e1⟩
  rw [Notes_standing_eq, h1, crI_t]
  have : nI f - nI 1 - nI 0 = nI f - nI 1 := by rw [nI_0, Int32.sub_zero]
  rw [this] at e0
  exact e0
theorem cfits_ok {n f lk c : Nat} {x : Int32} (hN : NTx P i n) (hf : f ≤ n) (h7 : pN P ≤ 7) (hT : TBx P i lk) (hc : 1 ≤ c ∧ c ≤ 9) (hx : ∀ k, k < 32 → bt x k = std (nS i) (nA i) f k) : Notes_fits (nI c) x (i, l, Rp s r p) = some (some (.int (nI (fit P i lk f c).toNat)), (i, l, Rp s r p)) := by
  obtain ⟨n1, n2, n3, n4, n5⟩ := hN
  have all_ : ∀ k, allb (fun k => !std (nS i) (nA i) f k || cnd P i lk c k) (k + 1) = (allb (fun k => !std (nS i) (nA i) f k || cnd P i lk c k) k && (!std (nS i) (nA i) f k || cnd P i lk c k)) := fun _ => rfl
  have more : ∀ k, f ≤ k → allb (fun k => !std (nS i) (nA i) f k || cnd P i lk c k) k = fit P i lk f c := by
    intro k hk
    induction k with
    | zero => rw [show f = 0 by omega]; rfl
    | succ k ih =>
      by_cases e : f = k + 1
      · rw [e]; unfold fit; rfl
      · rw [all_, ih (by omega)]
        have : std (nS i) (nA i) f k = false := by unfold std; rw [decide_eq_false (by omega)]; rfl
        rw [this]; simp
  have key : ∀ m k, m + k = n → allb (fun k => !std (nS i) (nA i) f k || cnd P i lk c k) k = true → Notes_fits_2 (nI c) x (nI k) (i, l, Rp s r p) = some (some (.int (nI (fit P i lk f c).toNat)), (i, l, Rp s r p)) := by
    intro m
    induction m with
    | zero =>
      intro k hk ha
      rw [Notes_fits_2_eq, n2, ifc_f (nI_nlt (by omega) (by omega)), gd_1, ← more k (by omega), ha]; rfl
    | succ m ih =>
      intro k hk ha
      rw [Notes_fits_2_eq, n2, ifc_t (nI_lt (by omega) (by omega)), ifc_bit _ (by omega), hx k (by omega), nI_add]
      cases hst : std (nS i) (nA i) f k
      · rw [if_neg (by decide)]
        exact ih (k + 1) (by omega) (by rw [all_, ha, hst]; rfl)
      · rw [if_pos rfl]
        have hns : nS i k = false := by
          unfold std at hst
          simp at hst
          exact hst.2.1
        have hkf : k < f := by
          unfold std at hst
          simp at hst
          exact hst.1
        obtain ⟨d1, d2, d3, d4, d5, d6, d7, d8, _⟩ := NT1_n h7 (n5 k (by omega)) hns
        have hd9 := dso_99 P lk c (nA i k) (nB i k)
        rw [gd_in (by omega) (by omega), nI_clamp (by omega), Notes_farAt_eq, crI_t, d6, d7, pk_sub (by omega), nI_mul, nI_add, nI_mul, nI_add]
        simp (disch := omega) only [gd_in, nI_clamp]
        rw [hT c _ _ hc.1 hc.2 d1 d2, d8, ifc_lt (by omega) (by omega)]
        have no : cnd P i lk c k = false → fit P i lk f c = false := fun hn => by
          cases hfit : fit P i lk f c
          · rfl
          · have := (allb_iff _).mp hfit k hkf
            rw [hst, hn] at this
            exact absurd this (by decide)
        have e53 : ∀ z : Bool, (z = decide (dso P lk c (nA i k) (nB i k) ≤ nL i k)) → Notes_fits_53 (nI c) x (nI k) (nI z.toNat) (i, l, Rp s r p) = some (some (.int (nI (fit P i lk f c).toNat)), (i, l, Rp s r p)) := fun z hz => by
          rw [Notes_fits_53_eq, gd_in (by omega) (by omega), nI_clamp (by omega), d5, ifc_z (by omega), gd_0, nI_add]
          have hcnd : cnd P i lk c k = (z == decide (nW i k = 0)) := by unfold cnd; rw [hz]
          have yes : cnd P i lk c k = true → Notes_fits_2 (nI c) x (nI (k + 1)) (i, l, Rp s r p) = some (some (.int (nI (fit P i lk f c).toNat)), (i, l, Rp s r p)) := fun hy => ih (k + 1) (by omega) (by rw [all_, ha, hy]; simp)
          by_cases hw0 : nW i k = 0
          · rw [if_pos hw0]
            rw [decide_eq_true hw0] at hcnd
            cases z
            · rw [ifc_f (by decide), no (by rw [hcnd]; rfl)]; rfl
            · rw [ifc_t (show nI (true).toNat = nI 1 from rfl)]; exact yes (by rw [hcnd]; rfl)
          · rw [if_neg hw0]
            rw [decide_eq_false hw0] at hcnd
            cases z
            · rw [ifc_t (show nI (false).toNat = nI 0 from rfl)]; exact yes (by rw [hcnd]; rfl)
            · rw [ifc_f (by decide), no (by rw [hcnd]; rfl)]; rfl
        by_cases hle : dso P lk c (nA i k) (nB i k) ≤ nL i k
        · rw [if_neg (by omega)]
          exact e53 true (decide_eq_true hle).symm
        · rw [if_pos (by omega)]
          exact e53 false (decide_eq_false hle).symm
  rw [Notes_fits_eq]
  exact key n 0 (by omega) rfl
/-- the bits of costs that fit -/
noncomputable def ftb (P : PL) (i : Nat → Nat → Int32) (lk f : Nat) : Int32 := msk (fun c => fit P i lk f (c + 1)) 9
theorem fitting_ok {lk : Nat} (h : INV P i l s r p) (hlk : lk < pL P) : ∃ j n f, NTx P i n ∧ f ≤ n ∧ (∀ g : Nat → Nat → Int32, g 82 80 = i 82 80 → g 82 81 = i 82 81 → Mo_knownBy (g, l, Rp s r p) = some (some (.int (nI f)), (g, l, Rp s r p))) ∧ Notes_fitting (nI lk) (i, l, Rp s r p) = some (some (.int (ftb P i lk f)), (j, l, Rp s r p)) ∧ SCR P i j l l ∧ TBx P j lk ∧ (∀ a, a ≠ 79 → a ≠ 80 → a ≠ 74 → j a = i a) ∧ ∀ k, k ≠ 7 → j 74 k = i 74 k := by
  have h7 := h.2.2.1.1.1
  obtain ⟨n, hN⟩ := NT_of h
  obtain ⟨f, hf, f1, f2⟩ := inForce_ok (l := l) (s := s) (r := r) (p := p) hN
  obtain ⟨j, a0, a1, a2, a3, a4⟩ := tab_ok h hlk
  have hrow : ∀ a, 75 ≤ a → a ≤ 78 → j a = i a := fun a y1 y2 => a3 a (by omega) (by omega) (by omega)
  have hNj : NTx P j n := by
    obtain ⟨n1, n2, n3, n4, n5⟩ := hN
    refine ⟨n1, (a4 8 (by decide)).trans n2, by rw [a3 82 (by decide) (by decide) (by decide)]; exact n3, by rw [a4 9 (by decide), a3 82 (by decide) (by decide) (by decide)]; exact n4, fun k hk => ?_⟩
    have := n5 k hk
    unfold NT1
    rw [hrow 75 (by omega) (by omega), hrow 76 (by omega) (by omega), hrow 77 (by omega) (by omega), hrow 78 (by omega) (by omega), a3 123 (by decide) (by decide) (by decide)]
    exact this
  have f1j : Notes_inForce (j, l, Rp s r p) = some (some (.int (nI f)), (j, l, Rp s r p)) := by
    have e := f1
    rw [Notes_inForce_eq] at e ⊢
    rw [a4 9 (by decide), a4 8 (by decide)]
    by_cases hc : i 74 9 = nM 1
    · rw [ifc_t hc] at e ⊢
      have := Option.some.inj e
      simp at this
      rw [this]
    · rw [ifc_f hc] at e ⊢
      have := Option.some.inj e
      simp at this
      rw [this]
  obtain ⟨x, s0, s1⟩ := stand_ok hNj hf f1j
  have eS : nS j = nS i := by funext k; unfold nS; rw [hrow 75 (by omega) (by omega)]
  have eA : nA j = nA i := by funext k; unfold nA; rw [hrow 76 (by omega) (by omega)]
  have eB : nB j = nB i := by funext k; unfold nB; rw [hrow 77 (by omega) (by omega)]
  have eL : nL j = nL i := by funext k; unfold nL; rw [hrow 78 (by omega) (by omega)]
  have eW : nW j = nW i := by funext k; unfold nW; rw [hrow 75 (by omega) (by omega)]
  have efit : ∀ c, fit P j lk f c = fit P i lk f c := fun c => by
    unfold fit cnd
    rw [eS, eA, eB, eL, eW]
  refine ⟨j, n, f, hN, hf, f2, ?_, a1, a2, a3, a4⟩
  rw [Notes_fitting_eq, a0, crV_t, s0, crI_t]
  have hl := upto (fun c => Notes_fitting_15 x (msk (fun c => fit P i lk f (c + 1)) c) (nI (c + 1)) (j, l, Rp s r p)) 9 (fun c hc => by
    show Notes_fitting_15 _ _ _ _ = Notes_fitting_15 _ _ _ _
    rw [Notes_fitting_15_eq, ifc_f (nI_nlt (by omega) (by omega)), cfits_ok hNj hf h7 a2 (by omega) s1, crI_t, ifc_b, pk_sub (by omega), Nat.add_sub_cancel, nI_add, msk_s, efit]
    cases fit P i lk f (c + 1)
    · simp only [Bool.false_eq_true, if_false]
    · simp only [if_true]) 0 (by omega)
  refine (show Notes_fitting_15 x (nI 0) (nI 1) (j, l, Rp s r p) = _ from hl).trans ?_
  show Notes_fitting_15 _ _ _ _ = _
  rw [Notes_fitting_15_eq, ifc_t (nI_lt (by omega) (by omega))]
  rfl
end
end

section
/-! the reference's costBits; costs; ask -/
section
variable {P : PL} {i : Nat → Nat → Int32} {l : Nat → Nat → Int64} {s r p : Nat}
theorem lay_dso {m : Nat → Nat → Int32} {lk c a : Nat} (hw : pwf P) (hP : PM P m) (h73 : m 82 73 = nI lk) (h74 : m 82 74 = nI c) (hlk : lk < pL P) (hc : 1 ≤ c ∧ c ≤ 9) : Mo_layDist (nI a) (nI 0) (m, l, Rp s r p) = some (none, (ov m 119 0 7 (dso P lk c a), l, Rp s r p)) := by
  have h8 := hw.1.2.1
  have := layDist_ok (i := m) (l := l) (s := s) (r := r) (p := p) (N := pN P) (L := pL P) (root := nI a) (out := nI 0) (mem := mem P) (cost := cso P lk c) hP.1.1 hw.1.1 hP.1.2.1 h8 (fun k hk => (hP.2.2.2.2.1 k hk).2) (fun k hk => by
    rw [h73, h74]
    unfold cso
    by_cases e : k = lk
    · rw [if_pos (by rw [e]), if_pos e]
    · rw [if_neg (fun e2 => e (nI_inj (by omega) (by omega) e2)), if_neg e]
      exact (hP.2.2.2.2.1 k hk).1) (fun k hk => (cso_c hw hc k hk).1) (fun k hk => (cso_c hw hc k hk).2)
  rw [this]
  unfold dso
  rw [nI_0]
theorem rfits_ok {g m : Nat → Nat → Int32} {n f lk c : Nat} (hg : INV P g l s r p) (hN : NTx P g n) (hf : f ≤ n) (hK : ∀ q : Nat → Nat → Int32, q 82 80 = g 82 80 → q 82 81 = g 82 81 → Mo_knownBy (q, l, Rp s r p) = some (some (.int (nI f)), (q, l, Rp s r p))) (hlk : lk < pL P) (hc : 1 ≤ c ∧ c ≤ 9)
    (hm : fr qS g m) (hr : ∀ a, a < 82 → m a = g a) (h124 : ∀ k, k < f → m 124 k = nI (!skd (nS g) (nA g) f f k).toNat) : ∃ m', Mo_fits (nI lk) (nI c) (m, l, Rp s r p) = some (some (.int (nI (fit P g lk f c).toNat)), (m', l, Rp s r p)) ∧ fr qS g m' ∧ (∀ a, a < 82 → m' a = g a) ∧ m' 124 = m 124 := by
  have hw : pwf P := hg.2.2.1
  have h7 := hw.1.1
  obtain ⟨n1, n2, n3, n4, n5⟩ := hN
  have all_ : ∀ k, allb (fun k => !std (nS g) (nA g) f k || cnd P g lk c k) (k + 1) = (allb (fun k => !std (nS g) (nA g) f k || cnd P g lk c k) k && (!std (nS g) (nA g) f k || cnd P g lk c k)) := fun _ => rfl
  have key : ∀ q k (M : Nat → Nat → Int32), q + k = f → allb (fun k => !std (nS g) (nA g) f k || cnd P g lk c k) k = true → fr qS g M → (∀ a, a < 82 → M a = g a) → M 124 = m 124 → M 82 73 = nI lk → M 82 74 = nI c → ∃ m', Mo_fits_12 (nI k) (M, l, Rp s r p) = some (some (.int (nI (fit P g lk f c).toNat)), (m', l, Rp s r p)) ∧ fr qS g m' ∧ (∀ a, a < 82 → m' a = g a) ∧ m' 124 = m 124 := by
    intro q
    induction q with
    | zero =>
      intro k M hk ha hM hrM h4 h73 h74
      have e80 : M 82 80 = g 82 80 := hM 82 80 rfl
      have e81 : M 82 81 = g 82 81 := hM 82 81 rfl
      rw [Mo_fits_12_eq, hK M e80 e81, crI_t, ifc_f (nI_nlt (by omega) (by omega)), gd_1]
      refine ⟨M, ?_, hM, hrM, h4⟩
      have : fit P g lk f c = true := by unfold fit; rw [show f = k by omega]; rw [show f = k by omega] at ha; exact ha
      rw [this]; rfl
    | succ q ih =>
      intro k M hk ha hM hrM h4 h73 h74
      have hkf : k < f := by omega
      have e80 : M 82 80 = g 82 80 := hM 82 80 rfl
      have e81 : M 82 81 = g 82 81 := hM 82 81 rfl
      have e123 : ∀ x, M 123 x = g 123 x := fun x => hM 123 x (by simp [qS])
      have e124 : M 124 k = nI (!skd (nS g) (nA g) f f k).toNat := by rw [h4]; exact h124 k hkf
      have hstd : std (nS g) (nA g) f k = (!nS g k && !skd (nS g) (nA g) f f k) := by unfold std; rw [decide_eq_true hkf]; rfl
      rw [Mo_fits_12_eq, hK M e80 e81, crI_t, ifc_t (nI_lt hkf (by omega)), gd_in (by omega) (by omega), nI_clamp (by omega), e124, ifc_b, nI_add]
      cases hsk : skd (nS g) (nA g) f f k
      · rw [Bool.not_false, if_pos rfl, nI_mul, gd_in (by omega) (by omega), nI_clamp (by omega), e123]
        cases hns : nS g k
        · obtain ⟨d1, d2, d3, d4, d5, d6, d7, d8, d9, d10, d11, d12⟩ := NT1_n h7 (n5 k (by omega)) hns
          have hst : std (nS g) (nA g) f k = true := by rw [hstd, hns, hsk]; rfl
          have hd9 := dso_99 P lk c (nA g k) (nB g k)
          rw [d9, ifc_neg (by omega), gd_in (by omega) (by omega), lay_dso hw (PM_qS hw (PM_of hg) hM) h73 h74 hlk hc, crV_t]
          generalize hM2 : ov M 119 0 7 (dso P lk c (nA g k)) = M2
          have hM2f : fr qS g M2 := by rw [← hM2]; exact fr_trans hM (fr_ov (fun k => rfl))
          have hM2r : ∀ a, a ≠ 119 → M2 a = M a := fun a ha => by rw [← hM2, ov_c ha]
          have e123' : ∀ x, M2 123 x = g 123 x := fun x => by rw [hM2r 123 (by decide)]; exact e123 x
          rw [nI_add, nI_add, gd_in (by omega) (by omega), nI_clamp (by omega), e123', d10, gd_in (by omega) (by omega), gd_in (by omega) (by omega), nI_clamp (by omega), nI_clamp (by omega), e123', d11]
          have e119 : M2 119 (nB g k) = nI (dso P lk c (nA g k) (nB g k)) := by rw [← hM2]; exact ov_0 M 119 _ (by omega)
          rw [e119, ifc_lt (by omega) (by omega)]
          have no : cnd P g lk c k = false → fit P g lk f c = false := fun hn => by
            cases hfit : fit P g lk f c
            · rfl
            · have := (allb_iff _).mp hfit k hkf
              rw [hst, hn] at this
              exact absurd this (by decide)
          have e90 : ∀ z : Bool, (z = decide (dso P lk c (nA g k) (nB g k) ≤ nL g k)) → ∃ m', Mo_fits_90 (nI k) (nI (4 * k)) (nI z.toNat) (M2, l, Rp s r p) = some (some (.int (nI (fit P g lk f c).toNat)), (m', l, Rp s r p)) ∧ fr qS g m' ∧ (∀ a, a < 82 → m' a = g a) ∧ m' 124 = m 124 := fun z hz => by
            rw [Mo_fits_90_eq, nI_add, gd_in (by omega) (by omega), nI_clamp (by omega), e123', d12, ifc_eq (by omega) (by omega), gd_0, nI_add]
            have hcnd : cnd P g lk c k = (z == decide (nW g k = 0)) := by unfold cnd; rw [hz]
            have yes : cnd P g lk c k = true → ∃ m', Mo_fits_12 (nI (k + 1)) (M2, l, Rp s r p) = some (some (.int (nI (fit P g lk f c).toNat)), (m', l, Rp s r p)) ∧ fr qS g m' ∧ (∀ a, a < 82 → m' a = g a) ∧ m' 124 = m 124 := fun hy => ih (k + 1) M2 (by omega) (by rw [all_, ha, hy]; simp) hM2f (fun a ha => (hM2r a (by omega)).trans (hrM a ha)) ((hM2r 124 (by decide)).trans h4) (by rw [hM2r 82 (by decide)]; exact h73) (by rw [hM2r 82 (by decide)]; exact h74)
            have stop : cnd P g lk c k = false → ∃ m', some (some (Value.int (nI 0)), (M2, l, Rp s r p)) = some (some (Value.int (nI (fit P g lk f c).toNat)), (m', l, Rp s r p)) ∧ fr qS g m' ∧ (∀ a, a < 82 → m' a = g a) ∧ m' 124 = m 124 := fun hn => ⟨M2, by rw [no hn]; rfl, hM2f, fun a ha => (hM2r a (by omega)).trans (hrM a ha), (hM2r 124 (by decide)).trans h4⟩
            by_cases hw0 : nW g k = 0
            · rw [if_pos (by omega)]
              rw [decide_eq_true hw0] at hcnd
              cases z
              · rw [ifc_f (by decide)]; exact stop (by rw [hcnd]; rfl)
              · rw [ifc_t (show nI (true).toNat = nI 1 from rfl)]; exact yes (by rw [hcnd]; rfl)
            · rw [if_neg (by omega)]
              rw [decide_eq_false hw0] at hcnd
              cases z
              · rw [ifc_t (show nI (false).toNat = nI 0 from rfl)]; exact yes (by rw [hcnd]; rfl)
              · rw [ifc_f (by decide)]; exact stop (by rw [hcnd]; rfl)
          by_cases hle : dso P lk c (nA g k) (nB g k) ≤ nL g k
          · rw [if_neg (by omega)]
            exact e90 true (decide_eq_true hle).symm
          · rw [if_pos (by omega)]
            exact e90 false (decide_eq_false hle).symm
        · obtain ⟨s1, s2, s3, s4⟩ := NT1_s (by omega) (n5 k (by omega)) hns
          rw [s3, ifc_t (nM_neg (by omega) (by omega))]
          exact ih (k + 1) M (by omega) (by rw [all_, ha, hstd, hns]; rfl) hM hrM h4 h73 h74
      · rw [Bool.not_true, if_neg (by decide)]
        exact ih (k + 1) M (by omega) (by rw [all_, ha, hstd, hsk]; simp) hM hrM h4 h73 h74
  rw [Mo_fits_eq]
  exact key f 0 _ (by omega) rfl (fr_trans hm (fr_trans (fr_u2 rfl) (fr_u2 rfl))) (fun a ha => (u2_r (by omega)).trans ((u2_r (by omega)).trans (hr a ha))) ((u2_r (by decide)).trans (u2_r (by decide))) ((u2_k (by decide)).trans (u2_s _ _ _ _)) (u2_s _ _ _ _)
theorem costBits_ok {g : Nat → Nat → Int32} {n f lk : Nat} (hg : INV P g l s r p) (hN : NTx P g n) (hf : f ≤ n) (hK : ∀ q : Nat → Nat → Int32, q 82 80 = g 82 80 → q 82 81 = g 82 81 → Mo_knownBy (q, l, Rp s r p) = some (some (.int (nI f)), (q, l, Rp s r p))) (hlk : lk < pL P) : ∃ m, Mo_costBits (nI lk) (g, l, Rp s r p) = some (some (.int (ftb P g lk f)), (m, l, Rp s r p)) ∧ INV P m l s r p ∧ fr qS g m := by
  obtain ⟨n1, n2, n3, n4, n5⟩ := id hN
  have ht : ∀ k, k < f → nS g k = true → nA g k < k := fun k hk hs => (NT1_s (by omega) (n5 k (by omega)) hs).1
  have l1 := upto (fun k => Mo_costBits_2 (nI lk) (nI k) (oi g 124 0 k (fun _ => nI 1), l, Rp s r p)) f (fun k hk => by
    show Mo_costBits_2 _ _ _ = Mo_costBits_2 _ _ _
    rw [Mo_costBits_2_eq, hK _ (by rw [oi_c (by decide)]) (by rw [oi_c (by decide)]), crI_t]
    simp (disch := omega) only [nI_mul, nI_add, nI_clamp, gd_in, gd_0, gd_1, gd_b, gd_n0, ifc_lt, ifc_eq, ifc_neg, ifc_z, ifc_pos, ifc_b, if_pos, if_neg, crV_t, crI_t, crL_t, ifc_True, ifc_False, if_true, if_false]
    rw [show nI 1 &&& 1 = nI 1 from rfl, oi_s rfl]) 0 (by omega)
  simp only [oi_00] at l1
  rw [Mo_costBits_eq, l1, Mo_costBits_2_eq, hK _ (by rw [oi_c (by decide)]) (by rw [oi_c (by decide)]), crI_t, ifc_f (nI_nlt (Nat.le_refl _) (by omega)), hK _ (by rw [oi_c (by decide)]) (by rw [oi_c (by decide)]), crI_t]
  -- strikes
  have key : ∀ q j (M : Nat → Nat → Int32), q + j = f → (∀ a, a ≠ 124 → M a = g a) → (∀ k, k < f → M 124 k = nI (!skd (nS g) (nA g) f j k).toNat) → ∃ m, Mo_costBits_30 (nI lk) (nI f - nI 1 - nI j) (M, l, Rp s r p) = Mo_costBits_80 (nI lk) (nI 0) (nI 1) (m, l, Rp s r p) ∧ (∀ a, a ≠ 124 → m a = g a) ∧ (∀ k, k < f → m 124 k = nI (!skd (nS g) (nA g) f f k).toNat) := by
    intro q
    induction q with
    | zero =>
      intro j M hq hM h4
      have e : nI f - nI 1 - nI j = nM 1 := by
        rw [show j = f by omega, Int32.sub_sub, Int32.add_comm, ← Int32.sub_sub, Int32.sub_self]
        rfl
      rw [e, Mo_costBits_30_eq, ifc_t (nM_neg (by omega) (by omega))]
      refine ⟨M, rfl, hM, ?_⟩
      rw [show j = f by omega] at h4
      exact h4
    | succ q ih =>
      intro j M hq hM h4
      have e : nI f - nI 1 - nI j = nI (f - 1 - j) := by rw [pk_sub (by omega), pk_sub (by omega)]
      have e2 : nI (f - 1 - j) + nM 1 = nI f - nI 1 - nI (j + 1) := by
        rw [← e, show nI (j + 1) = nI j + nI 1 from (nI_add j 1).symm]
        unfold nM
        rw [← Int32.sub_eq_add_neg, ← Int32.sub_sub]
      have hsj : ∀ q, skd (nS g) (nA g) f (j + 1) q = (skd (nS g) (nA g) f j q || (nS g (f - 1 - j) && (!skd (nS g) (nA g) f j (f - 1 - j) && q == nA g (f - 1 - j)))) := fun q => rfl
      have h24 : f - 1 - j < 24 := by omega
      rw [e, Mo_costBits_30_eq, ifc_neg (by omega), gd_in h24 (by omega), nI_clamp (by omega), h4 _ (by omega), ifc_b, e2, nI_mul, gd_in (by omega) (by omega), nI_clamp (by omega), hM 123 (by decide)]
      cases hsk : skd (nS g) (nA g) f j (f - 1 - j)
      · rw [Bool.not_false, if_pos rfl]
        cases hns : nS g (f - 1 - j)
        · have h7 := hg.2.2.1.1.1
          obtain ⟨d1, d2, d3, d4, d5, d6, d7, d8, d9, _⟩ := NT1_n h7 (n5 (f - 1 - j) (by omega)) hns
          rw [d9, ifc_neg (by omega)]
          exact ih (j + 1) M (by omega) hM (fun k hk => by rw [h4 k hk, hsj, hns]; simp)
        · obtain ⟨s1, s2, s3, s4⟩ := NT1_s (by omega) (n5 (f - 1 - j) (by omega)) hns
          rw [s3, ifc_t (nM_neg (by omega) (by omega)), nI_add, gd_in (by omega) (by omega), nI_clamp (by omega), s4, gd_in (by omega) (by omega), nI_clamp (by omega)]
          refine ih (j + 1) _ (by omega) (fun a ha => (u2_r ha).trans (hM a ha)) (fun k hk => ?_)
          rw [hsj, hns, hsk]
          by_cases ek : k = nA g (f - 1 - j)
          · rw [ek, u2_s]; simp; rfl
          · rw [u2_k ek, h4 k hk]
            have : (k == nA g (f - 1 - j)) = false := by simpa using ek
            rw [this]; simp
      · rw [Bool.not_true, if_neg (by decide)]
        exact ih (j + 1) M (by omega) hM (fun k hk => by rw [h4 k hk, hsj, hsk]; simp)
  obtain ⟨m, a0, a1, a2⟩ := key f 0 (oi g 124 0 f (fun _ => nI 1)) (by omega) (fun a ha => oi_c ha) (fun k hk => oi_0 g 124 _ hk)
  have e0 : nI f - nI 1 - nI 0 = nI f - nI 1 := by rw [nI_0, Int32.sub_zero]
  rw [e0] at a0
  rw [a0]
  have fm : fr qS g m := fun a k hq => by rw [a1 a (fun e => by subst e; simp [qS] at hq)]
  have l2 := loop_ex (F := fun c (M : Nat → Nat → Int32) => Mo_costBits_80 (nI lk) (msk (fun c => fit P g lk f (c + 1)) c) (nI (c + 1)) (M, l, Rp s r p)) (I9 := fun _ M => fr qS g M ∧ (∀ a, a < 82 → M a = g a) ∧ M 124 = m 124) (n := 9) (fun c M hc hI => by
    obtain ⟨q1, q2, q3⟩ := hI
    obtain ⟨m', z0, z1, z2, z3⟩ := rfits_ok (c := c + 1) hg hN hf hK hlk (by omega) q1 q2 (fun k hk => by rw [q3]; exact a2 k hk)
    refine ⟨m', ?_, z1, z2, z3.trans q3⟩
    show Mo_costBits_80 (nI lk) (msk (fun c => fit P g lk f (c + 1)) c) (nI (c + 1)) (M, l, Rp s r p) = _
    rw [Mo_costBits_80_eq, ifc_t (nI_lt (by omega) (by omega)), z0, crI_t, ifc_b, pk_sub (by omega), Nat.add_sub_cancel, nI_add, or_0, msk_s]
    cases fit P g lk f (c + 1)
    · simp only [Bool.false_eq_true, if_false]
    · simp only [if_true]) 0 m (by omega) ⟨fm, fun a ha => a1 a (by omega), rfl⟩
  obtain ⟨M, q0, q1, q2, q3⟩ := l2
  have fM : fr qS g (pT M) := fr_trans q1 pT_fr
  refine ⟨pT M, ?_, INV_S hg (SCR_ref hg fM (fun a ha => (pT_r (by omega)).trans (q2 a ha)) pT_73 (lS_refl _)), fM⟩
  refine (show Mo_costBits_80 (nI lk) (nI 0) (nI 1) (m, l, Rp s r p) = _ from q0).trans ?_
  show Mo_costBits_80 _ _ _ _ = _
  rw [Mo_costBits_80_eq, ifc_f (by decide), plainT_ok, crV_t]
  rfl
theorem ftb_cg {g : Nat → Nat → Int32} {lk f : Nat} (h : ∀ a, 75 ≤ a → a ≤ 78 → g a = i a) : ftb P g lk f = ftb P i lk f := by
  have eS : nS g = nS i := by funext k; unfold nS; rw [h 75 (by omega) (by omega)]
  have eA : nA g = nA i := by funext k; unfold nA; rw [h 76 (by omega) (by omega)]
  have eB : nB g = nB i := by funext k; unfold nB; rw [h 77 (by omega) (by omega)]
  have eL : nL g = nL i := by funext k; unfold nL; rw [h 78 (by omega) (by omega)]
  have eW : nW g = nW i := by funext k; unfold nW; rw [h 75 (by omega) (by omega)]
  unfold ftb fit cnd
  rw [eS, eA, eB, eL, eW]
theorem NTx_row {g : Nat → Nat → Int32} {n : Nat} (h : NTx P i n) (h1 : g 74 8 = i 74 8) (h2 : g 74 9 = i 74 9) (h3 : g 82 80 = i 82 80) (h4 : g 82 81 = i 82 81) (h5 : ∀ a, 75 ≤ a → a ≤ 78 → g a = i a) (h6 : g 123 = i 123) : NTx P g n := by
  obtain ⟨a1, a2, a3, a4, a5⟩ := h
  refine ⟨a1, h1.trans a2, h3.trans a3, by rw [h2, h4]; exact a4, fun k hk => ?_⟩
  have := a5 k hk
  unfold NT1
  rw [h5 75 (by omega) (by omega), h5 76 (by omega) (by omega), h5 77 (by omega) (by omega), h5 78 (by omega) (by omega), h6]
  exact this
theorem costs_pr (h : INV P i l s r p) (x1 : Int32) : PrI (GT_costs x1) (Mo_costs x1) P i l s r p := by
  obtain ⟨hp0, hr, hw, hPC, hPM, hNI, hs, hS, hdr, hco, hrest⟩ := id h
  have hp : p = 7 ∨ p = 27 := by omega
  have h7 := hw.1.1
  have h8 := hw.1.2.1
  have h3 := hw.1.2.2.1
  have hth := INV_th h
  cases h1 : isn (pL P) x1
  · refine ⟨nM 1, i, l, _, l, ?_, ?_, hth⟩
    · simp only [GT_costs_eq, cLink_ok hp hw hPC, h1, crI_t, crV_t, crL_t, ifc_b, Bool.false_eq_true, if_false, if_true]
    · simp only [Mo_costs_eq, rLink_ok hw (PM_of hth), h1, crI_t, crV_t, crL_t, ifc_b, Bool.false_eq_true, if_false, if_true]
  · obtain ⟨lk, hlk, rfl⟩ := isn_t h1
    obtain ⟨j, n, f, hN, hf, hK, a0, a1, a2, a3, a4⟩ := fitting_ok h hlk
    have hj := INV_S h a1
    have hjt := INV_th hj
    have hNj : NTx P (u2 j 82 2 (nI 0)) n := NTx_row hN (by rw [u2_i (by decide)]; exact a4 8 (by decide)) (by rw [u2_i (by decide)]; exact a4 9 (by decide)) (by rw [u2_k (by decide), a3 82 (by decide) (by decide) (by decide)]) (by rw [u2_k (by decide), a3 82 (by decide) (by decide) (by decide)]) (fun a x y => by rw [u2_r (by omega), a3 a (by omega) (by omega) (by omega)]) (by rw [u2_r (by decide), a3 123 (by decide) (by decide) (by decide)])
    have hKj : ∀ q : Nat → Nat → Int32, q 82 80 = u2 j 82 2 (nI 0) 82 80 → q 82 81 = u2 j 82 2 (nI 0) 82 81 → Mo_knownBy (q, l, Rp s r p) = some (some (.int (nI f)), (q, l, Rp s r p)) := fun q e1 e2 => hK q (by rw [e1, u2_k (by decide), a3 82 (by decide) (by decide) (by decide)]) (by rw [e2, u2_k (by decide), a3 82 (by decide) (by decide) (by decide)])
    obtain ⟨m, b0, b1, b2⟩ := costBits_ok hjt hNj hf hKj hlk
    have eft : ftb P (u2 j 82 2 (nI 0)) lk f = ftb P i lk f := ftb_cg (fun a x y => by rw [u2_r (by omega), a3 a (by omega) (by omega) (by omega)])
    rw [eft] at b0
    refine ⟨ftb P i lk f, j, l, m, l, ?_, ?_, b1⟩
    · simp only [GT_costs_eq, cLink_ok hp hw hPC, h1, a0, crI_t, crV_t, crL_t, ifc_b, Bool.false_eq_true, if_false, if_true]
    · simp only [Mo_costs_eq, rLink_ok hw (PM_of hjt), h1, b0, crI_t, crV_t, crL_t, ifc_b, Bool.false_eq_true, if_false, if_true]
end
end

section
/-! ask -/
noncomputable def alk (P : PL) (lk : Nat) (F : Int32) (a b c : Nat) : Nat → Nat := fun n => cnt (fun c' => bt F c' && decide (dso P lk (c' + 1) a b = dso P lk (c + 1) a b)) n
noncomputable def wrm (P : PL) (lk : Nat) (F : Int32) (a b : Nat) : Nat → Nat
  | 0 => 0
  | c + 1 => if bt F c then max (wrm P lk F a b c) (alk P lk F a b c 9) else wrm P lk F a b c
theorem alk_le {P : PL} {lk : Nat} {F : Int32} {a b c n : Nat} : alk P lk F a b c n ≤ n := cnt_le _ _
theorem wrm_le {P : PL} {lk : Nat} {F : Int32} {a b : Nat} : ∀ c, wrm P lk F a b c ≤ 9
  | 0 => by unfold wrm; omega
  | c + 1 => by
    have h1 := wrm_le (P := P) (lk := lk) (F := F) (a := a) (b := b) c
    have h2 := alk_le (P := P) (lk := lk) (F := F) (a := a) (b := b) (c := c) (n := 9)
    unfold wrm
    split
    · exact Nat.max_le.mpr ⟨h1, h2⟩
    · exact h1
abbrev AK : Type := Option (Nat × Nat × Nat)
def aku (S : AK) (a b w : Nat) : AK := match S with
  | none => some (a, b, w)
  | some (x, y, z) => if w < z then some (a, b, w) else some (x, y, z)
noncomputable def akb (P : PL) (lk : Nat) (F : Int32) (S : AK) (a : Nat) : Nat → AK
  | 0 => S
  | b + 1 => if a < b then aku (akb P lk F S a b) a b (wrm P lk F a b 9) else akb P lk F S a b
noncomputable def akn (P : PL) (lk : Nat) (F : Int32) : Nat → AK
  | 0 => none
  | a + 1 => akb P lk F (akn P lk F a) a (pN P)
theorem akb_low {P : PL} {lk : Nat} {F : Int32} {S : AK} {a : Nat} : ∀ b, b ≤ a + 1 → akb P lk F S a b = S
  | 0, _ => rfl
  | b + 1, h => by
    unfold akb
    rw [if_neg (by omega)]
    exact akb_low b (by omega)
def akW (S : AK) : Prop := ∀ x, S = some x → x.1 < 7 ∧ x.2.1 < 7 ∧ x.2.2 ≤ 9
theorem akW_u {S : AK} {a b w : Nat} (h : akW S) (ha : a < 7) (hb : b < 7) (hw : w ≤ 9) : akW (aku S a b w) := fun x hx => by
  unfold aku at hx
  split at hx
  · have := Option.some.inj hx
    subst this
    exact ⟨ha, hb, hw⟩
  · split at hx
    · have := Option.some.inj hx
      subst this
      exact ⟨ha, hb, hw⟩
    · have := Option.some.inj hx
      subst this
      exact h _ rfl
theorem akW_b {P : PL} {lk : Nat} {F : Int32} {S : AK} {a : Nat} (h : akW S) (ha : a < 7) : ∀ b, b ≤ 7 → akW (akb P lk F S a b)
  | 0, _ => h
  | b + 1, hb => by
    unfold akb
    split
    · exact akW_u (akW_b h ha b (by omega)) ha (by omega) (wrm_le _)
    · exact akW_b h ha b (by omega)
theorem akW_n {P : PL} {lk : Nat} {F : Int32} (h7 : pN P ≤ 7) : ∀ a, a ≤ 7 → akW (akn P lk F a)
  | 0, _ => fun x hx => absurd hx (by simp [akn])
  | a + 1, ha => akW_b (akW_n h7 a (by omega)) (by omega) _ h7
def ak1 : AK → Int32
  | none => nM 1
  | some x => nI x.1
def ak2 : AK → Int32
  | none => nM 1
  | some x => nI x.2.1
def ak3 : AK → Int32
  | none => nI 0
  | some x => nI x.2.2
def ak4 : AK → Int32
  | none => nM 1
  | some x => nI x.2.2
section
variable {P : PL} {i : Nat → Nat → Int32} {l : Nat → Nat → Int64} {s r p : Nat}
theorem atWorst_ok {lk a b : Nat} {F : Int32} (hT : TBx P i lk) (h7 : pN P ≤ 7) (ha : a < pN P) (hb : b < pN P) : Notes_atWorst F (nI a) (nI b) (i, l, Rp s r p) = some (some (.int (nI (wrm P lk F a b 9))), (i, l, Rp s r p)) := by
  have h := upto (fun c => Notes_atWorst_6 F (nI a) (nI b) (nI (wrm P lk F a b c)) (nI (c + 1)) (i, l, Rp s r p)) 9 (fun c hc => by
    show Notes_atWorst_6 _ _ _ _ _ _ = Notes_atWorst_6 _ _ _ _ _ _
    rw [Notes_atWorst_6_eq, ifc_f (nI_nlt (by omega) (by omega)), pk_sub (by omega), Nat.add_sub_cancel, ifc_bit _ (by omega), nI_add, show wrm P lk F a b (c + 1) = if bt F c then max (wrm P lk F a b c) (alk P lk F a b c 9) else wrm P lk F a b c from rfl]
    cases hF : bt F c
    · rw [if_neg (by decide), if_neg (by decide)]
    · rw [if_pos rfl, if_pos rfl]
      have h30 := upto (fun d => Notes_atWorst_30 F (nI a) (nI b) (nI (wrm P lk F a b c)) (nI (c + 1)) (nI (alk P lk F a b c d)) (nI (d + 1)) (i, l, Rp s r p)) 9 (fun d hd => by
        show Notes_atWorst_30 _ _ _ _ _ _ _ _ = Notes_atWorst_30 _ _ _ _ _ _ _ _
        have q1 := dso_99 P lk (d + 1) a b
        have q2 := dso_99 P lk (c + 1) a b
        have hal : alk P lk F a b c (d + 1) = alk P lk F a b c d + (if bt F d && decide (dso P lk (d + 1) a b = dso P lk (c + 1) a b) then 1 else 0) := rfl
        rw [Notes_atWorst_30_eq, ifc_f (nI_nlt (by omega) (by omega)), pk_sub (by omega), Nat.add_sub_cancel, ifc_bit _ (by omega), Notes_farAt_eq, crI_t, Notes_farAt_eq, crI_t, pk_sub (by omega), pk_sub (by omega)]
        simp (disch := omega) only [nI_mul, nI_add, gd_in, nI_clamp]
        rw [hT (d + 1) a b (by omega) (by omega) ha hb, hT (c + 1) a b (by omega) (by omega) ha hb, ifc_eq (by omega) (by omega), hal]
        cases hFd : bt F d
        · rw [if_neg (by decide)]; rfl
        · rw [if_pos rfl]
          by_cases e : dso P lk (d + 1) a b = dso P lk (c + 1) a b
          · rw [if_pos e, decide_eq_true e]; rfl
          · rw [if_neg e, decide_eq_false e]; rfl) 0 (by omega)
      have hw9 := wrm_le (P := P) (lk := lk) (F := F) (a := a) (b := b) c
      have hal9 := alk_le (P := P) (lk := lk) (F := F) (a := a) (b := b) (c := c) (n := 9)
      refine (show Notes_atWorst_30 F (nI a) (nI b) (nI (wrm P lk F a b c)) (nI (c + 1)) (nI 0) (nI 1) (i, l, Rp s r p) = _ from h30).trans ?_
      show Notes_atWorst_30 _ _ _ _ _ _ _ _ = _
      rw [Notes_atWorst_30_eq, ifc_t (nI_lt (by omega) (by omega)), nI_add]
      unfold mxI
      by_cases hm : wrm P lk F a b c < alk P lk F a b c 9
      · rw [if_pos (nI_lt hm (by omega)), Nat.max_eq_right (by omega)]
      · rw [if_neg (nI_nlt (by omega) (by omega)), Nat.max_eq_left (by omega)]) 0 (by omega)
  rw [Notes_atWorst_eq]
  refine (show Notes_atWorst_6 F (nI a) (nI b) (nI 0) (nI 1) (i, l, Rp s r p) = _ from h).trans ?_
  show Notes_atWorst_6 _ _ _ _ _ _ = _
  rw [Notes_atWorst_6_eq, ifc_t (nI_lt (by omega) (by omega))]
theorem worstBy_ok {lk a b : Nat} {F : Int32} (hb : b < 7) (hT : ∀ c, c < 9 → i 125 (7 * c + b) = nI (dso P lk (c + 1) a b)) : Mo_worstBy (nI b) F (i, l, Rp s r p) = some (some (.int (nI (wrm P lk F a b 9))), (i, l, Rp s r p)) := by
  have h := upto (fun c => Mo_worstBy_5 (nI b) F (nI (wrm P lk F a b c)) (nI c) (i, l, Rp s r p)) 9 (fun c hc => by
    show Mo_worstBy_5 _ _ _ _ _ = Mo_worstBy_5 _ _ _ _ _
    have h18 := upto (fun d => Mo_worstBy_18 (nI b) F (nI (wrm P lk F a b c)) (nI c) (nI (if bt F c then alk P lk F a b c d else 0)) (nI d) (i, l, Rp s r p)) 9 (fun d hd => by
      show Mo_worstBy_18 _ _ _ _ _ _ _ = Mo_worstBy_18 _ _ _ _ _ _ _
      have q1 := dso_99 P lk (d + 1) a b
      have q2 := dso_99 P lk (c + 1) a b
      have hal : alk P lk F a b c (d + 1) = alk P lk F a b c d + (if bt F d && decide (dso P lk (d + 1) a b = dso P lk (c + 1) a b) then 1 else 0) := rfl
      rw [Mo_worstBy_18_eq, ifc_t (nI_lt hd (by omega)), isOf_ok _ (by omega), crI_t, ifc_b, isOf_ok _ (by omega), crI_t, ifc_b, hal]
      simp (disch := omega) only [nI_mul, nI_add, gd_in, nI_clamp]
      rw [hT c hc, hT d hd, ifc_eq (by omega) (by omega)]
      cases hF : bt F c
      · simp only [Bool.false_eq_true, if_false]
      · simp only [if_true]
        cases hFd : bt F d
        · simp only [Bool.false_eq_true, if_false, Bool.false_and]
        · simp only [if_true, Bool.true_and]
          by_cases e : dso P lk (d + 1) a b = dso P lk (c + 1) a b
          · rw [if_pos e.symm, if_pos (decide_eq_true e)]
          · rw [if_neg (fun h => e h.symm), if_neg (by rw [decide_eq_false e]; decide)]) 0 (by omega)
    have hw9 := wrm_le (P := P) (lk := lk) (F := F) (a := a) (b := b) c
    have hal9 := alk_le (P := P) (lk := lk) (F := F) (a := a) (b := b) (c := c) (n := 9)
    have h18' : Mo_worstBy_18 (nI b) F (nI (wrm P lk F a b c)) (nI c) (nI 0) (nI 0) (i, l, Rp s r p) = Mo_worstBy_18 (nI b) F (nI (wrm P lk F a b c)) (nI c) (nI (if bt F c then alk P lk F a b c 9 else 0)) (nI 9) (i, l, Rp s r p) := by
      refine Eq.trans ?_ h18
      show _ = Mo_worstBy_18 (nI b) F (nI (wrm P lk F a b c)) (nI c) (nI (if bt F c then 0 else 0)) (nI 0) (i, l, Rp s r p)
      rw [ite_self]
    rw [Mo_worstBy_5_eq, ifc_t (nI_lt hc (by omega)), h18', Mo_worstBy_18_eq, ifc_f (by decide), nI_add, show wrm P lk F a b (c + 1) = if bt F c then max (wrm P lk F a b c) (alk P lk F a b c 9) else wrm P lk F a b c from rfl]
    cases hF : bt F c
    · simp only [Bool.false_eq_true, if_false]
      rw [ifc_lt (by omega) (by omega), if_neg (by omega)]
    · simp only [if_true]
      rw [ifc_lt (by omega) (by omega)]
      by_cases hm : wrm P lk F a b c < alk P lk F a b c 9
      · rw [if_pos hm, Nat.max_eq_right (by omega)]
      · rw [if_neg hm, Nat.max_eq_left (by omega)]) 0 (by omega)
  rw [Mo_worstBy_eq]
  refine (show Mo_worstBy_5 (nI b) F (nI 0) (nI 0) (i, l, Rp s r p) = _ from h).trans ?_
  show Mo_worstBy_5 _ _ _ _ _ = _
  rw [Mo_worstBy_5_eq, ifc_f (by decide)]
/-- the component's three numbers -/
def akM (S : AK) (m : Nat → Nat → Int32) : Prop := m 74 12 = ak4 S ∧ ∀ x, S = some x → m 74 10 = nI x.1 ∧ m 74 11 = nI x.2.1
theorem ask_pr (h : INV P i l s r p) (x1 x2 : Int32) : PrI (GT_ask x1 x2) (Mo_ask x1 x2) P i l s r p := by
  obtain ⟨hp0, hr, hw, hPC, hPM, hNI, hs, hS, hdr, hco, hrest⟩ := id h
  have hp : p = 7 ∨ p = 27 := by omega
  have h7 := hw.1.1
  have h8 := hw.1.2.1
  have h3 := hw.1.2.2.1
  have hth := INV_th h
  have hin2 : ∀ (a b : Option (Option Value × AM)), ifc (x2 < 0) a (ifc (nI 2 < x2) a b) = if isn 3 x2 = true then b else a := fun a b => ifc_isn2 (by decide) x2 a b
  have go_ : ∀ v, GT_ask x1 x2 (i, l, Rp s r p) = some (some (.int v), (i, l, Rp s r p)) → Mo_ask x1 x2 (i, l, Rp s r p) = some (some (.int v), (u2 i 82 2 (nI 0), l, Rp s r p)) → PrI (GT_ask x1 x2) (Mo_ask x1 x2) P i l s r p := fun v h1 h2 => ⟨_, i, l, _, l, h1, h2, hth⟩
  have hN11 : i p 11 = nI (pN P) := hPC.1 11 (by omega) (by omega)
  cases h1 : isn (pL P) x1
  · refine go_ (nM 1) ?_ ?_
    · simp only [GT_ask_eq _ _ _ _ _ _ _ hp, cLink_ok hp hw hPC, h1, crI_t, crV_t, crL_t, ifc_b, Bool.false_eq_true, if_false, if_true]
    · simp only [Mo_ask_eq, rLink_ok hw (PM_of hth), h1, crI_t, crV_t, crL_t, ifc_b, Bool.false_eq_true, if_false, if_true]
  · cases h2 : isn 3 x2
    · refine go_ (nM 1) ?_ ?_
      · simp only [GT_ask_eq _ _ _ _ _ _ _ hp, cLink_ok hp hw hPC, h1, hin2, h2, crI_t, crV_t, crL_t, ifc_b, Bool.false_eq_true, if_false, if_true]
      · simp only [Mo_ask_eq, rLink_ok hw (PM_of hth), rIn_ok (show 2 + 1 < 2 ^ 31 by decide), h1, h2, crI_t, crV_t, crL_t, ifc_b, Bool.false_eq_true, if_false, if_true]
    · by_cases hN2 : pN P < 2
      · refine go_ (nM 2) ?_ ?_
        · simp only [GT_ask_eq _ _ _ _ _ _ _ hp, cLink_ok hp hw hPC, h1, hin2, h2, hN11, crI_t, crV_t, crL_t, ifc_b, Bool.false_eq_true, if_false, if_true]
          rw [ifc_t (nI_lt hN2 (by omega))]
        · simp only [Mo_ask_eq, rLink_ok hw (PM_of hth), rIn_ok (show 2 + 1 < 2 ^ 31 by decide), h1, h2, (PM_of hth).1.1, crI_t, crV_t, crL_t, ifc_b, Bool.false_eq_true, if_false, if_true]
          rw [ifc_t (nI_lt hN2 (by omega))]
      · obtain ⟨lk, hlk, rfl⟩ := isn_t h1
        obtain ⟨w, hw3, rfl⟩ := isn_t h2
        obtain ⟨j, n, f, hN, hf, hK, a0, a1, a2, a3, a4⟩ := fitting_ok h hlk
        generalize hF : ftb P i lk f = F at *
        -- the component
        have cin : ∀ a, a < pN P → ∀ q b (m : Nat → Nat → Int32), q + b = pN P → a < b → (∀ x, x ≠ 74 → m x = j x) → (∀ k, k ≠ 10 → k ≠ 11 → k ≠ 12 → m 74 k = j 74 k) → akM (akb P lk F (akn P lk F a) a b) m → ∃ m', Notes_question_32 F (nI a) (nI b) (m, l, Rp s r p) = Notes_question_13 F (nI (a + 1)) (m', l, Rp s r p) ∧ (∀ x, x ≠ 74 → m' x = j x) ∧ (∀ k, k ≠ 10 → k ≠ 11 → k ≠ 12 → m' 74 k = j 74 k) ∧ akM (akn P lk F (a + 1)) m' := by
          intro a ha q
          induction q with
          | zero =>
            intro b m hq hab hr hr74 hA
            have hPm : m p 11 = nI (pN P) := by rw [hr p (by omega), a3 p (by omega) (by omega) (by omega)]; exact hN11
            rw [Notes_question_32_eq _ _ _ _ _ _ _ _ hp, hPm, ifc_f (nI_nlt (by omega) (by omega)), nI_add]
            refine ⟨m, rfl, hr, hr74, ?_⟩
            rw [show b = pN P by omega] at hA
            exact hA
          | succ q ih =>
            intro b m hq hab hr hr74 hA
            have hPm : m p 11 = nI (pN P) := by rw [hr p (by omega), a3 p (by omega) (by omega) (by omega)]; exact hN11
            have hTm : TBx P m lk := by unfold TBx; rw [hr 80 (by decide)]; exact a2
            have hwr := wrm_le (P := P) (lk := lk) (F := F) (a := a) (b := b) 9
            have hak := akW_b (P := P) (lk := lk) (F := F) (akW_n (P := P) (lk := lk) (F := F) h7 a (by omega)) (show a < 7 by omega) b (by omega)
            rw [Notes_question_32_eq _ _ _ _ _ _ _ _ hp, hPm, ifc_t (nI_lt (by omega) (by omega)), atWorst_ok hTm h7 ha (by omega), crI_t, nI_add, hA.1]
            have estep : akb P lk F (akn P lk F a) a (b + 1) = aku (akb P lk F (akn P lk F a) a b) a b (wrm P lk F a b 9) := by
              show (if a < b then _ else _) = _
              rw [if_pos hab]
            have put_ : akb P lk F (akn P lk F a) a (b + 1) = some (a, b, wrm P lk F a b 9) → ∃ m', Notes_question_32 F (nI a) (nI (b + 1)) (u2 (u2 (u2 m 74 10 (nI a)) 74 11 (nI b)) 74 12 (nI (wrm P lk F a b 9)), l, Rp s r p) = Notes_question_13 F (nI (a + 1)) (m', l, Rp s r p) ∧ (∀ x, x ≠ 74 → m' x = j x) ∧ (∀ k, k ≠ 10 → k ≠ 11 → k ≠ 12 → m' 74 k = j 74 k) ∧ akM (akn P lk F (a + 1)) m' := fun he => ih (b + 1) _ (by omega) (by omega) (fun x hx => by rw [u2_r hx, u2_r hx, u2_r hx]; exact hr x hx) (fun k z1 z2 z3 => by rw [u2_k z3, u2_k z2, u2_k z1]; exact hr74 k z1 z2 z3) (by
              rw [he]
              refine ⟨u2_s _ _ _ _, fun x hx => ?_⟩
              have := Option.some.inj hx
              subst this
              rw [u2_k (by decide), u2_k (by decide), u2_s, u2_k (by decide), u2_s]
              exact ⟨rfl, rfl⟩)
            have keep_ : akb P lk F (akn P lk F a) a (b + 1) = akb P lk F (akn P lk F a) a b → ∃ m', Notes_question_32 F (nI a) (nI (b + 1)) (m, l, Rp s r p) = Notes_question_13 F (nI (a + 1)) (m', l, Rp s r p) ∧ (∀ x, x ≠ 74 → m' x = j x) ∧ (∀ k, k ≠ 10 → k ≠ 11 → k ≠ 12 → m' 74 k = j 74 k) ∧ akM (akn P lk F (a + 1)) m' := fun he => ih (b + 1) m (by omega) (by omega) hr hr74 (by rw [he]; exact hA)
            cases hS : akb P lk F (akn P lk F a) a b with
            | none =>
              rw [ifc_t (show ak4 none < 0 from nM_neg (by omega) (by omega))]
              exact put_ (by rw [estep, hS]; rfl)
            | some x =>
              obtain ⟨y1, y2, y3⟩ := x
              have hb3 := hak _ hS
              simp only at hb3
              rw [show ak4 (some (y1, y2, y3)) = nI y3 from rfl, ifc_neg (by omega), ifc_lt (by omega) (by omega)]
              by_cases hlt : wrm P lk F a b 9 < y3
              · rw [if_pos hlt]
                exact put_ (by rw [estep, hS]; unfold aku; simp only; rw [if_pos hlt])
              · rw [if_neg hlt]
                exact keep_ (by rw [estep, hS]; unfold aku; simp only; rw [if_neg hlt])
        have cout := loop_ex (F := fun a (m : Nat → Nat → Int32) => Notes_question_13 F (nI a) (m, l, Rp s r p)) (I9 := fun a m => (∀ x, x ≠ 74 → m x = j x) ∧ (∀ k, k ≠ 10 → k ≠ 11 → k ≠ 12 → m 74 k = j 74 k) ∧ akM (akn P lk F a) m) (n := pN P) (fun a m ha hI => by
          obtain ⟨q1, q2, q3⟩ := hI
          have hPm : m p 11 = nI (pN P) := by rw [q1 p (by omega), a3 p (by omega) (by omega) (by omega)]; exact hN11
          have : ∃ m', Notes_question_32 F (nI a) (nI (a + 1)) (m, l, Rp s r p) = Notes_question_13 F (nI (a + 1)) (m', l, Rp s r p) ∧ (∀ x, x ≠ 74 → m' x = j x) ∧ (∀ k, k ≠ 10 → k ≠ 11 → k ≠ 12 → m' 74 k = j 74 k) ∧ akM (akn P lk F (a + 1)) m' := cin a ha (pN P - (a + 1)) (a + 1) m (by omega) (by omega) q1 q2 (by rw [akb_low _ (by omega)]; exact q3)
          obtain ⟨m', z0, z1, z2, z3⟩ := this
          refine ⟨m', ?_, z1, z2, z3⟩
          show Notes_question_13 F (nI a) (m, l, Rp s r p) = _
          rw [Notes_question_13_eq _ _ _ _ _ _ _ hp, hPm, ifc_t (nI_lt ha (by omega)), nI_add, z0]) 0 (u2 j 74 12 (nM 1)) (by omega) ⟨fun x hx => u2_r hx, fun k _ _ z3 => u2_k z3, u2_s _ _ _ _, fun x hx => absurd hx (by simp [akn])⟩
        obtain ⟨m, q0, q1, q2, q3⟩ := cout
        have hPm : m p 11 = nI (pN P) := by rw [q1 p (by omega), a3 p (by omega) (by omega) (by omega)]; exact hN11
        -- there is a pair
        have hsome : ∃ x, akn P lk F (pN P) = some x := by
          have mono : ∀ a, (∃ x, akn P lk F a = some x) → ∀ b, ∃ x, akb P lk F (akn P lk F a) a b = some x := by
            intro a hx b
            induction b with
            | zero => exact hx
            | succ b ih =>
              unfold akb
              split
              · obtain ⟨x, hx⟩ := ih
                rw [hx]
                unfold aku
                simp only
                split <;> exact ⟨_, rfl⟩
              · exact ih
          have one : ∃ x, akn P lk F 1 = some x := by
            show ∃ x, akb P lk F none 0 (pN P) = some x
            have hb2 : ∀ b, 2 ≤ b → ∃ x, akb P lk F none 0 b = some x := by
              intro b
              induction b with
              | zero => intro h; omega
              | succ b ih =>
                intro hb
                unfold akb
                rw [if_pos (by omega)]
                by_cases e : b = 1
                · subst e
                  rw [akb_low 1 (by omega)]
                  exact ⟨_, rfl⟩
                · obtain ⟨x, hx⟩ := ih (by omega)
                  rw [hx]
                  unfold aku
                  simp only
                  split <;> exact ⟨_, rfl⟩
            exact hb2 _ (by omega)
          have all_ : ∀ a, 1 ≤ a → ∃ x, akn P lk F a = some x := by
            intro a
            induction a with
            | zero => intro h; omega
            | succ a ih =>
              intro _
              by_cases e : a = 0
              · subst e; exact one
              · exact mono a (ih (by omega)) (pN P)
          exact all_ _ (by omega)
        obtain ⟨x, hx⟩ := hsome
        have hxb := akW_n (P := P) (lk := lk) (F := F) h7 (pN P) h7 x hx
        rw [hx] at q3
        have hC : GT_ask (nI lk) (nI w) (i, l, Rp s r p) = some (some (.int (if w = 0 then nI x.1 else if w = 1 then nI x.2.1 else nI x.2.2)), (m, l, Rp s r p)) := by
          have hq : Notes_question (nI lk) (i, l, Rp s r p) = some (none, (m, l, Rp s r p)) := by
            rw [Notes_question_eq, a0, crI_t]
            refine (show Notes_question_13 F (nI 0) (u2 j 74 12 (nM 1), l, Rp s r p) = _ from q0).trans ?_
            show Notes_question_13 F (nI (pN P)) (m, l, Rp s r p) = _
            rw [Notes_question_13_eq _ _ _ _ _ _ _ hp, hPm, ifc_f (nI_nlt (Nat.le_refl _) (by omega))]
          simp only [GT_ask_eq _ _ _ _ _ _ _ hp, cLink_ok hp hw hPC, h1, hin2, h2, hN11, hq, crI_t, crV_t, crL_t, ifc_b, Bool.false_eq_true, if_false, if_true]
          rw [ifc_f (nI_nlt (by omega) (by omega)), ifc_eq (by omega) (by omega), ifc_eq (by omega) (by omega), (q3.2 x rfl).1, (q3.2 x rfl).2, q3.1]
          by_cases e0 : w = 0
          · rw [if_pos e0, if_pos e0]
          · rw [if_neg e0, if_neg e0]
            by_cases e1 : w = 1
            · rw [if_pos e1, if_pos e1]
            · rw [if_neg e1, if_neg e1]; rfl
        -- the invariant behind it
        have mr : ∀ y, y ≠ 79 → y ≠ 80 → y ≠ 74 → m y = i y := fun y z1 z2 z3 => (q1 y z3).trans (a3 y z1 z2 z3)
        have fm : fr qS i m := fun y k hq => by
          by_cases e74 : y = 74
          · subst e74
            have k10 : k ≠ 10 := fun e => by subst e; simp [qS] at hq
            have k11 : k ≠ 11 := fun e => by subst e; simp [qS] at hq
            have k12 : k ≠ 12 := fun e => by subst e; simp [qS] at hq
            rw [q2 k k10 k11 k12]; exact a1.1 74 k hq
          · rw [q1 y e74]; exact a1.1 y k hq
        have hIm : INV P m l s r p := INV_S h ⟨fm, by
          unfold NetI NetOk NR
          rw [mr 26 (by decide) (by decide) (by decide), mr 43 (by decide) (by decide) (by decide), mr 44 (by decide) (by decide) (by decide), mr 45 (by decide) (by decide) (by decide)]
          exact hNI, TB_row a1.2.2.1 (q2 7 (by decide) (by decide) (by decide)) (q1 80 (by decide)), by rw [mr 82 (by decide) (by decide) (by decide)]; exact hco, lS_refl _⟩
        have hmt := INV_th hIm
        have hNm : NTx P (u2 m 82 2 (nI 0)) n := NTx_row hN (by rw [u2_i (by decide), q2 8 (by decide) (by decide) (by decide)]; exact a4 8 (by decide)) (by rw [u2_i (by decide), q2 9 (by decide) (by decide) (by decide)]; exact a4 9 (by decide)) (by rw [u2_k (by decide), mr 82 (by decide) (by decide) (by decide)]) (by rw [u2_k (by decide), mr 82 (by decide) (by decide) (by decide)]) (fun a x y => by rw [u2_r (by omega), mr a (by omega) (by omega) (by omega)]) (by rw [u2_r (by decide), mr 123 (by decide) (by decide) (by decide)])
        have hKm : ∀ q : Nat → Nat → Int32, q 82 80 = u2 m 82 2 (nI 0) 82 80 → q 82 81 = u2 m 82 2 (nI 0) 82 81 → Mo_knownBy (q, l, Rp s r p) = some (some (.int (nI f)), (q, l, Rp s r p)) := fun q e1 e2 => hK q (by rw [e1, u2_k (by decide), mr 82 (by decide) (by decide) (by decide)]) (by rw [e2, u2_k (by decide), mr 82 (by decide) (by decide) (by decide)])
        obtain ⟨M0, b0, b1, b2⟩ := costBits_ok hmt hNm hf hKm hlk
        have eft : ftb P (u2 m 82 2 (nI 0)) lk f = F := by
          rw [← hF]
          exact ftb_cg (fun a x y => by rw [u2_r (by omega), mr a (by omega) (by omega) (by omega)])
        rw [eft] at b0
        -- the reference lays its table for a node
        have lay9 : ∀ a (M : Nat → Nat → Int32) (y4 y5 y6 : Int32), fr qS M0 M → (∀ x, x < 82 → M x = M0 x) → ∃ M', Mo_ask_65 (nI lk) (nI w) F y4 y5 y6 (nI a) (nI 0) (M, l, Rp s r p) = Mo_ask_140 (nI lk) (nI w) F y4 y5 y6 (nI a) (nI (a + 1)) (M', l, Rp s r p) ∧ fr qS M0 M' ∧ (∀ x, x < 82 → M' x = M0 x) ∧ ∀ c q, c < 9 → q < 7 → M' 125 (7 * c + q) = nI (dso P lk (c + 1) a q) := by
          intro a M y4 y5 y6 hM hr
          have lp := loop_ex (F := fun k (M : Nat → Nat → Int32) => Mo_ask_65 (nI lk) (nI w) F y4 y5 y6 (nI a) (nI k) (M, l, Rp s r p)) (I9 := fun k M => fr qS M0 M ∧ (∀ x, x < 82 → M x = M0 x) ∧ ∀ c q, c < k → q < 7 → M 125 (7 * c + q) = nI (dso P lk (c + 1) a q)) (n := 9) (fun k M hk hI => by
            obtain ⟨z1, z2, z3⟩ := hI
            generalize hM1 : u2 (u2 M 82 73 (nI lk)) 82 74 (nI (k + 1)) = M1
            have f1 : fr qS M0 M1 := by rw [← hM1]; exact fr_trans z1 (fr_trans (fr_u2 rfl) (fr_u2 rfl))
            have e73 : M1 82 73 = nI lk := by rw [← hM1, u2_k (by decide), u2_s]
            have e74 : M1 82 74 = nI (k + 1) := by rw [← hM1, u2_s]
            have hl := lay_dso (l := l) (s := s) (r := r) (p := p) (a := a) (c := k + 1) hw (PM_qS hw (PM_of b1) f1) e73 e74 hlk (by omega)
            generalize hD : dso P lk (k + 1) a = D at hl
            have l95 := upto (fun q => Mo_ask_95 (nI lk) (nI w) F y4 y5 y6 (nI a) (nI k) (nI q) (oi (ov M1 119 0 7 D) 125 (7 * k) q (fun q => nI (D q)), l, Rp s r p)) 7 (fun q hq => by
              show Mo_ask_95 _ _ _ _ _ _ _ _ _ _ = Mo_ask_95 _ _ _ _ _ _ _ _ _ _
              have e119 : oi (ov M1 119 0 7 D) 125 (7 * k) q (fun q => nI (D q)) 119 q = nI (D q) := by rw [oi_c (by decide), ov_0 _ _ _ hq]
              rw [Mo_ask_95_eq]
              simp (disch := omega) only [nI_mul, nI_add, nI_clamp, gd_in, gd_0, gd_1, gd_b, gd_n0, ifc_lt, ifc_eq, ifc_neg, ifc_z, ifc_pos, ifc_b, if_pos, if_neg, crV_t, crI_t, crL_t, ifc_True, ifc_False, if_true, if_false, e119]
              rw [oi_sb rfl]) 0 (by omega)
            simp only [oi_b0] at l95
            refine ⟨oi (ov M1 119 0 7 D) 125 (7 * k) 7 (fun q => nI (D q)), ?_, fr_trans f1 (fr_trans (fr_ov (fun k => rfl)) (fr_oi (fun k => rfl))), fun x hx => ?_, fun c q hc hq => ?_⟩
            · show Mo_ask_65 (nI lk) (nI w) F y4 y5 y6 (nI a) (nI k) (M, l, Rp s r p) = _
              rw [Mo_ask_65_eq, ifc_t (nI_lt hk (by omega)), nI_add, hM1, hl, crV_t, l95, Mo_ask_95_eq, ifc_f (by decide), nI_add]
            · rw [oi_c (by omega), ov_c (by omega), ← hM1, u2_r (by omega), u2_r (by omega)]; exact z2 x hx
            · by_cases e : c = k
              · subst e
                rw [oi_a _ _ _ _ hq, hD]
              · rw [oi_k (by omega), ov_c (by decide), ← hM1, u2_i (by decide), u2_i (by decide)]
                exact z3 c q (by omega) hq) 0 M (by omega) ⟨hM, hr, fun c q hc _ => by omega⟩
          obtain ⟨M', z0, z1, z2, z3⟩ := lp
          refine ⟨M', ?_, z1, z2, z3⟩
          refine (show Mo_ask_65 (nI lk) (nI w) F y4 y5 y6 (nI a) (nI 0) (M, l, Rp s r p) = _ from z0).trans ?_
          show Mo_ask_65 (nI lk) (nI w) F y4 y5 y6 (nI a) (nI 9) (M', l, Rp s r p) = _
          rw [Mo_ask_65_eq, ifc_f (by decide), nI_add]
        have rin : ∀ a, a < pN P → ∀ q b (M : Nat → Nat → Int32), q + b = pN P → a < b → fr qS M0 M → (∀ c q, c < 9 → q < 7 → M 125 (7 * c + q) = nI (dso P lk (c + 1) a q)) → Mo_ask_140 (nI lk) (nI w) F (ak1 (akb P lk F (akn P lk F a) a b)) (ak2 (akb P lk F (akn P lk F a) a b)) (ak3 (akb P lk F (akn P lk F a) a b)) (nI a) (nI b) (M, l, Rp s r p) = Mo_ask_53 (nI lk) (nI w) F (ak1 (akn P lk F (a + 1))) (ak2 (akn P lk F (a + 1))) (ak3 (akn P lk F (a + 1))) (nI (a + 1)) (M, l, Rp s r p) := by
          intro a ha q
          induction q with
          | zero =>
            intro b M hq hab hM hT
            rw [Mo_ask_140_eq, (PM_qS hw (PM_of b1) hM).1.1, ifc_f (nI_nlt (by omega) (by omega)), nI_add, show b = pN P by omega]
            rfl
          | succ q ih =>
            intro b M hq hab hM hT
            have hwr := wrm_le (P := P) (lk := lk) (F := F) (a := a) (b := b) 9
            have hak := akW_b (P := P) (lk := lk) (F := F) (akW_n (P := P) (lk := lk) (F := F) h7 a (by omega)) (show a < 7 by omega) b (by omega)
            have estep : akb P lk F (akn P lk F a) a (b + 1) = aku (akb P lk F (akn P lk F a) a b) a b (wrm P lk F a b 9) := by
              show (if a < b then _ else _) = _
              rw [if_pos hab]
            have hn := ih (b + 1) M (by omega) (by omega) hM hT
            rw [estep] at hn
            rw [Mo_ask_140_eq, (PM_qS hw (PM_of b1) hM).1.1, ifc_t (nI_lt (by omega) (by omega)), worstBy_ok (by omega) (fun c hc => hT c b hc (by omega)), crI_t, nI_add]
            cases hS : akb P lk F (akn P lk F a) a b with
            | none =>
              rw [hS] at hn
              rw [ifc_t (show ak1 none < 0 from nM_neg (by omega) (by omega))]
              exact hn
            | some x =>
              obtain ⟨y1, y2, y3⟩ := x
              have hb3 := hak _ hS
              simp only at hb3
              rw [hS] at hn
              rw [ifc_f (show ¬ ak1 (some (y1, y2, y3)) < 0 from nI_pos (by omega)), show ak3 (some (y1, y2, y3)) = nI y3 from rfl, ifc_lt (by omega) (by omega)]
              unfold aku at hn
              simp only at hn
              by_cases hlt : wrm P lk F a b 9 < y3
              · rw [if_pos hlt] at hn ⊢
                exact hn
              · rw [if_neg hlt] at hn ⊢
                exact hn
        have rout := loop_ex (F := fun a (M : Nat → Nat → Int32) => Mo_ask_53 (nI lk) (nI w) F (ak1 (akn P lk F a)) (ak2 (akn P lk F a)) (ak3 (akn P lk F a)) (nI a) (M, l, Rp s r p)) (I9 := fun a M => fr qS M0 M ∧ (∀ x, x < 82 → M x = M0 x)) (n := pN P) (fun a M ha hI => by
          obtain ⟨z1, z2⟩ := hI
          obtain ⟨M', y0, y1, y2, y3⟩ := lay9 a M (ak1 (akn P lk F a)) (ak2 (akn P lk F a)) (ak3 (akn P lk F a)) z1 z2
          refine ⟨M', ?_, y1, y2⟩
          show Mo_ask_53 (nI lk) (nI w) F (ak1 (akn P lk F a)) (ak2 (akn P lk F a)) (ak3 (akn P lk F a)) (nI a) (M, l, Rp s r p) = _
          have hr := rin a ha (pN P - (a + 1)) (a + 1) M' (by omega) (by omega) y1 y3
          rw [akb_low _ (by omega)] at hr
          rw [Mo_ask_53_eq, (PM_qS hw (PM_of b1) z1).1.1, ifc_t (nI_lt ha (by omega)), y0, hr]) 0 M0 (by omega) ⟨fr_refl _ _, fun _ _ => rfl⟩
        obtain ⟨M9, z0, z1, z2⟩ := rout
        rw [hx] at z0
        refine ⟨_, m, l, pT M9, l, hC, ?_, INV_S b1 (SCR_ref b1 (fr_trans z1 pT_fr) (fun a ha => (pT_r (by omega)).trans (z2 a ha)) pT_73 (lS_refl _))⟩
        simp only [Mo_ask_eq, rLink_ok hw (PM_of hmt), rIn_ok (show 2 + 1 < 2 ^ 31 by decide), h1, h2, (PM_of hmt).1.1, b0, crI_t, crV_t, crL_t, ifc_b, Bool.false_eq_true, if_false, if_true]
        rw [ifc_f (nI_nlt (by omega) (by omega))]
        refine (show Mo_ask_53 (nI lk) (nI w) F (nM 1) (nM 1) (nI 0) (nI 0) (M0, l, Rp s r p) = _ from z0).trans ?_
        show Mo_ask_53 _ _ _ _ _ _ _ _ = _
        rw [Mo_ask_53_eq, (PM_qS hw (PM_of b1) z1).1.1, ifc_f (nI_nlt (Nat.le_refl _) (by omega)), plainT_ok, crV_t, ifc_z (by omega), ifc_eq (by omega) (by omega)]
        by_cases e0 : w = 0
        · rw [if_pos e0, if_pos e0]; rfl
        · rw [if_neg e0, if_neg e0]
          by_cases e1 : w = 1
          · rw [if_pos e1, if_pos e1]; rfl
          · rw [if_neg e1, if_neg e1]; rfl
end
end
