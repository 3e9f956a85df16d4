section
/-! notes: note, strike, known; count -/
def qN (a k : Nat) : Bool := (a == 74 && (k == 8 || k == 9)) || (decide (75 ≤ a) && decide (a ≤ 78)) || (a == 82 && (k == 2 || k == 80 || k == 81)) || a == 123
theorem qN_row {i j : Nat → Nat → Int32} (h : fr qN i j) {a : Nat} (ha : ∀ k, qN a k = false) : j a = i a := funext fun k => h a k (ha k)
theorem INV_N {P : PL} {i j : Nat → Nat → Int32} {l : Nat → Nat → Int64} {s r p : Nat} (h : INV P i l s r p) (q1 : fr qN i j) (hN : NT P j) : INV P j l s r p := by
  obtain ⟨hp, hr, hw, h1, h2, h3, h4, h5, h6, h7, h8, h9, h10, h11, h12, h13, h14⟩ := h
  have rw0 : ∀ a, (∀ k, qN a k = false) → j a = i a := fun a ha => qN_row q1 ha
  have rwr : ∀ a, a ≠ 74 → a < 75 ∨ 78 < a → a ≠ 82 → a ≠ 123 → j a = i a := fun a x1 x2 x3 x4 => rw0 a (fun k => by unfold qN; simp; omega)
  have v51 : ∀ a, a < 7 → j (51 + a) = i (51 + a) := fun a ha => rwr _ (by omega) (by omega) (by omega) (by omega)
  have v58 : ∀ a, a < 7 → j (58 + a) = i (58 + a) := fun a ha => rwr _ (by omega) (by omega) (by omega) (by omega)
  refine ⟨hp, hr, hw, ?_, ?_, ?_, swf_rw h4 v51, SM_rw (SM_fr h5 (fun a x y => rwr a (by omega) (by omega) (by omega) (by omega))) v51, ?_, (q1 82 73 rfl).trans h7, ?_, ?_, hN, ?_, ?_, ?_, ?_⟩
  · exact PC_fr h1 (fun a ha => rwr _ (by omega) (by omega) (by omega) (by omega))
  · exact PM_fr hw h2 (fun a k hq => q1 a k (by
      cases hn : qN a k
      · rfl
      · exfalso
        unfold qN at hn
        unfold qPM at hq
        simp at hn hq
        omega))
  · unfold NetI NetOk NR
    rw [rwr 26 (by omega) (by omega) (by omega) (by omega), rwr 43 (by omega) (by omega) (by omega) (by omega), rwr 44 (by omega) (by omega) (by omega) (by omega), rwr 45 (by omega) (by omega) (by omega) (by omega)]
    exact h3
  · rw [show j 51 = i 51 from v51 0 (by omega)]; exact h6
  · exact UI_row h8 v51 (rwr 72 (by omega) (by omega) (by omega) (by omega)) (rwr 73 (by omega) (by omega) (by omega) (by omega)) (q1 82 85 rfl) (rwr 126 (by omega) (by omega) (by omega) (by omega))
  · exact II_row h9 v58 (q1 0 11 rfl) (q1 82 87 rfl) (rwr 127 (by omega) (by omega) (by omega) (by omega)) (q1 82 89 rfl) rfl
  · exact TB_row h11 (q1 74 7 rfl) (rwr 80 (by omega) (by omega) (by omega) (by omega))
  · exact TP_row h12 (q1 1 8 rfl) (q1 82 1 rfl) (rwr 83 (by omega) (by omega) (by omega) (by omega)) (rwr 2 (by omega) (by omega) (by omega) (by omega))
  · exact ⟨(q1 0 12 rfl).trans (h13.1.trans (q1 82 4 rfl).symm), (q1 0 13 rfl).trans (h13.2.trans (q1 82 5 rfl).symm)⟩
  · exact WD_row h14 (rwr 3 (by omega) (by omega) (by omega) (by omega)) (rwr 84 (by omega) (by omega) (by omega) (by omega))
theorem NT_of {P : PL} {i : Nat → Nat → Int32} {l : Nat → Nat → Int64} {s r p : Nat} (h : INV P i l s r p) : NT P i := h.2.2.2.2.2.2.2.2.2.2.2.2.1
section
variable {P : PL} {i : Nat → Nat → Int32} {l : Nat → Nat → Int64} {s r p : Nat}
/-- both put a note down -/
def nC (i : Nat → Nat → Int32) (n : Nat) (a b c d : Int32) : Nat → Nat → Int32 := u2 (u2 (u2 (u2 (u2 i 75 n a) 76 n b) 77 n c) 78 n d) 74 8 (nI (n + 1))
def nR (i : Nat → Nat → Int32) (n : Nat) (a b c d : Int32) : Nat → Nat → Int32 := u2 (u2 (u2 (u2 (u2 i 123 (4 * n) a) 123 (4 * n + 1) b) 123 (4 * n + 2) c) 123 (4 * n + 3) d) 82 80 (nI (n + 1))
theorem cadd_ok {n : Nat} (hn : n ≤ 24) (h8 : i 74 8 = nI n) (a b c d : Int32) : Notes_add a b c d (i, l, Rp s r p) = if n < 24 then some (some (.int (nI n)), (nC i n a b c d, l, Rp s r p)) else some (some (.int (nM 1)), (i, l, Rp s r p)) := by
  rw [Notes_add_eq, h8, ifc_lt (by omega) (by omega)]
  by_cases h : n < 24
  · rw [if_pos h, if_pos h]
    simp (disch := omega) only [nI_mul, nI_add, nI_clamp, gd_in, gd_0, gd_1, gd_b, gd_n0, ifc_lt, ifc_eq, ifc_neg, ifc_z, ifc_pos, ifc_b, if_pos, if_neg, crV_t, crI_t, crL_t, ifc_True, ifc_False, if_true, if_false]
    rw [pk_sub (by omega), Nat.add_sub_cancel]
    rfl
  · rw [if_neg h, if_neg h]
theorem radd_ok {n : Nat} (hn : n ≤ 24) (h8 : i 82 80 = nI n) (a b c d : Int32) : Mo_notes1 a b c d (i, l, Rp s r p) = if n < 24 then some (some (.int (nI n)), (nR i n a b c d, l, Rp s r p)) else some (some (.int (nM 1)), (i, l, Rp s r p)) := by
  rw [Mo_notes1_eq, h8, ifc_eq (by omega) (by omega)]
  by_cases h : n < 24
  · rw [if_neg (by omega), if_pos h]
    simp (disch := omega) only [nI_mul, nI_add, nI_clamp, gd_in, gd_0, gd_1, gd_b, gd_n0, ifc_lt, ifc_eq, ifc_neg, ifc_z, ifc_pos, ifc_b, if_pos, if_neg, crV_t, crI_t, crL_t, ifc_True, ifc_False, if_true, if_false]
    rw [pk_sub (by omega), Nat.add_sub_cancel]
    rfl
  · rw [if_pos (by omega), if_neg h]
theorem nCR_fr {n : Nat} {a b c d a' b' c' d' : Int32} : fr qN i (nR (u2 (nC i n a b c d) 82 2 (nI 0)) n a' b' c' d') := by
  unfold nR nC
  refine fr_trans (fr_trans (fr_trans (fr_trans (fr_trans (fr_trans (fr_trans (fr_trans (fr_trans (fr_trans (fr_u2 ?_) (fr_u2 ?_)) (fr_u2 ?_)) (fr_u2 ?_)) (fr_u2 ?_)) (fr_u2 ?_)) (fr_u2 ?_)) (fr_u2 ?_)) (fr_u2 ?_)) (fr_u2 ?_)) (fr_u2 ?_) <;> rfl
theorem nCR_c {n : Nat} {a b c d a' b' c' d' : Int32} {x k : Nat} (hx : 75 ≤ x ∧ x ≤ 78) (e : k ≠ n) : nR (u2 (nC i n a b c d) 82 2 (nI 0)) n a' b' c' d' x k = i x k := by
  unfold nR nC
  rcases (show x = 75 ∨ x = 76 ∨ x = 77 ∨ x = 78 by omega) with rfl | rfl | rfl | rfl
  all_goals simp (disch := omega) only [u2_s, u2_i, u2_k]
theorem nCR_m {n : Nat} {a b c d a' b' c' d' : Int32} : nR (u2 (nC i n a b c d) 82 2 (nI 0)) n a' b' c' d' 75 n = a ∧ nR (u2 (nC i n a b c d) 82 2 (nI 0)) n a' b' c' d' 76 n = b ∧ nR (u2 (nC i n a b c d) 82 2 (nI 0)) n a' b' c' d' 77 n = c ∧ nR (u2 (nC i n a b c d) 82 2 (nI 0)) n a' b' c' d' 78 n = d := by
  unfold nR nC
  refine ⟨?_, ?_, ?_, ?_⟩ <;> simp (disch := omega) only [u2_s, u2_i, u2_k]
theorem nCR_r {n : Nat} {a b c d a' b' c' d' : Int32} {k : Nat} (hk : k < 4 * n ∨ 4 * n + 3 < k) : nR (u2 (nC i n a b c d) 82 2 (nI 0)) n a' b' c' d' 123 k = i 123 k := by
  unfold nR nC
  simp (disch := omega) only [u2_s, u2_i, u2_k]
theorem nCR_n {n : Nat} {a b c d a' b' c' d' : Int32} : nR (u2 (nC i n a b c d) 82 2 (nI 0)) n a' b' c' d' 123 (4 * n) = a' ∧ nR (u2 (nC i n a b c d) 82 2 (nI 0)) n a' b' c' d' 123 (4 * n + 1) = b' ∧ nR (u2 (nC i n a b c d) 82 2 (nI 0)) n a' b' c' d' 123 (4 * n + 2) = c' ∧ nR (u2 (nC i n a b c d) 82 2 (nI 0)) n a' b' c' d' 123 (4 * n + 3) = d' := by
  unfold nR nC
  refine ⟨?_, ?_, ?_, ?_⟩ <;> simp (disch := omega) only [u2_s, u2_i, u2_k]
theorem NT_add {n : Nat} (hN : NTx P i n) (h24 : n < 24) {a b c d a' b' c' d' : Int32} (hnew : NT1 P (nR (u2 (nC i n a b c d) 82 2 (nI 0)) n a' b' c' d') n) : NT P (nR (u2 (nC i n a b c d) 82 2 (nI 0)) n a' b' c' d') := by
  obtain ⟨a1, a2, a3, a4, a5⟩ := hN
  refine ⟨n + 1, by omega, ?_, ?_, ?_, fun k hk => ?_⟩
  · unfold nR nC; simp (disch := omega) only [u2_s, u2_i, u2_k]
  · unfold nR nC; simp (disch := omega) only [u2_s, u2_i, u2_k]
  · have e9 : nR (u2 (nC i n a b c d) 82 2 (nI 0)) n a' b' c' d' 74 9 = i 74 9 := by unfold nR nC; simp (disch := omega) only [u2_s, u2_i, u2_k]
    have e81 : nR (u2 (nC i n a b c d) 82 2 (nI 0)) n a' b' c' d' 82 81 = i 82 81 := by unfold nR nC; simp (disch := omega) only [u2_s, u2_i, u2_k]
    rw [e9, e81]
    rcases a4 with h | ⟨f, h1, h2⟩
    · exact Or.inl h
    · exact Or.inr ⟨f, by omega, h2⟩
  · by_cases e : k = n
    · subst e; exact hnew
    · have := a5 k (by omega)
      unfold NT1 at this ⊢
      rw [nCR_c (x := 75) (by omega) e, nCR_c (x := 76) (by omega) e, nCR_c (x := 77) (by omega) e, nCR_c (x := 78) (by omega) e, nCR_r (k := 4 * k) (by omega), nCR_r (k := 4 * k + 1) (by omega), nCR_r (k := 4 * k + 2) (by omega), nCR_r (k := 4 * k + 3) (by omega)]
      exact this
theorem note_pr (h : INV P i l s r p) (x1 x2 x3 : Int32) (y : Bool) : PrI (GT_note x1 x2 x3 (nI y.toNat)) (Mo_note x1 x2 x3 (nI y.toNat)) P i l s r p := by
  obtain ⟨hp0, hr, hw, hPC, hPM, hNI, hs, hS, hdr, hco, hrest⟩ := id h
  have hp : p = 7 ∨ p = 27 := by omega
  have h7 := hw.1.1
  have h8 := hw.1.2.1
  have h3 := hw.1.2.2.1
  have hth := INV_th h
  have go_ : ∀ v, GT_note x1 x2 x3 (nI y.toNat) (i, l, Rp s r p) = some (some (.int v), (i, l, Rp s r p)) → Mo_note x1 x2 x3 (nI y.toNat) (i, l, Rp s r p) = some (some (.int v), (u2 i 82 2 (nI 0), l, Rp s r p)) → PrI (GT_note x1 x2 x3 (nI y.toNat)) (Mo_note x1 x2 x3 (nI y.toNat)) P i l s r p := fun v h1 h2 => ⟨_, i, l, _, l, h1, h2, hth⟩
  have hin : ∀ (a b : Option (Option Value × AM)), ifc (x3 < 0) a (ifc (nI 99 < x3) a b) = if isn 100 x3 = true then b else a := fun a b => ifc_isn2 (by decide) x3 a b
  cases h1 : isn (pN P) x1
  · refine go_ (nM 1) ?_ ?_
    · simp only [GT_note_eq, cNode_ok hp hw hPC, h1, crI_t, crV_t, crL_t, ifc_b, Bool.false_eq_true, if_false, if_true]
    · simp only [Mo_note_eq, rNode_ok hw (PM_of hth), h1, crI_t, crV_t, crL_t, ifc_b, Bool.false_eq_true, if_false, if_true]
  · cases h2 : isn (pN P) x2
    · refine go_ (nM 1) ?_ ?_
      · simp only [GT_note_eq, cNode_ok hp hw hPC, h1, h2, crI_t, crV_t, crL_t, ifc_b, Bool.false_eq_true, if_false, if_true]
      · simp only [Mo_note_eq, rNode_ok hw (PM_of hth), h1, h2, crI_t, crV_t, crL_t, ifc_b, Bool.false_eq_true, if_false, if_true]
    · by_cases e12 : x1 = x2
      · refine go_ (nM 1) ?_ ?_
        · simp only [GT_note_eq, cNode_ok hp hw hPC, h1, h2, ifc_t e12, crI_t, crV_t, crL_t, ifc_b, Bool.false_eq_true, if_false, if_true]
        · simp only [Mo_note_eq, rNode_ok hw (PM_of hth), h1, h2, ifc_t e12, crI_t, crV_t, crL_t, ifc_b, Bool.false_eq_true, if_false, if_true]
      · cases h4 : isn 100 x3
        · refine go_ (nM 1) ?_ ?_
          · simp only [GT_note_eq, cNode_ok hp hw hPC, h1, h2, ifc_f e12, hin, h4, crI_t, crV_t, crL_t, ifc_b, Bool.false_eq_true, if_false, if_true]
          · simp only [Mo_note_eq, rNode_ok hw (PM_of hth), h1, h2, ifc_f e12, rIn_ok (show 99 + 1 < 2 ^ 31 by decide), h4, crI_t, crV_t, crL_t, ifc_b, Bool.false_eq_true, if_false, if_true]
        · obtain ⟨a, ha, rfl⟩ := isn_t h1
          obtain ⟨b, hb, rfl⟩ := isn_t h2
          obtain ⟨c, hc, rfl⟩ := isn_t h4
          obtain ⟨n, hN⟩ := NT_of h
          obtain ⟨n1, n2, n3, n4, n5⟩ := id hN
          have hyy : ∀ (X Y : Option (Option Value × AM)), ifc (nI y.toNat = 0) X Y = if y then Y else X := fun X Y => ifc_b y X Y
          have hC : GT_note (nI a) (nI b) (nI c) (nI y.toNat) (i, l, Rp s r p) = if n < 24 then some (some (.int (nI n)), (nC i n (nI (1 - y.toNat)) (nI a) (nI b) (nI c), l, Rp s r p)) else some (some (.int (nM 1)), (i, l, Rp s r p)) := by
            simp only [GT_note_eq, cNode_ok hp hw hPC, h1, h2, ifc_f e12, hin, h4, hyy, cadd_ok n1 n2, crI_t, crV_t, crL_t, ifc_b, Bool.false_eq_true, if_false, if_true]
            by_cases h24 : n < 24
            · cases y <;> simp only [h24, if_true, if_false, Bool.false_eq_true, crI_t] <;> rfl
            · cases y <;> simp only [h24, if_true, if_false, Bool.false_eq_true, crI_t]
          by_cases h24 : n < 24
          · rw [if_pos h24] at hC
            generalize hg : nC i n (nI (1 - y.toNat)) (nI a) (nI b) (nI c) = g at hC
            have fg : ∀ x, x < 75 ∨ 78 < x → x ≠ 74 → g x = i x := fun x h1 h2 => by
              rw [← hg]
              unfold nC
              simp (disch := omega) only [u2_r]
            have hPMg : PM P (u2 g 82 2 (nI 0)) := PM_fr hw (PM_of hth) (fun x k hq => by
              by_cases e2 : x = 82
              · subst e2
                by_cases e3 : k = 2
                · subst e3; simp [qPM] at hq
                · rw [u2_k e3, u2_k e3, fg 82 (by omega) (by omega)]
              · rw [u2_i e2, u2_i e2, fg x (by unfold qPM at hq; simp at hq; omega) (by unfold qPM at hq; simp at hq; omega)])
            have e80 : u2 g 82 2 (nI 0) 82 80 = nI n := (u2_k (by decide)).trans (by rw [fg 82 (by omega) (by omega)]; exact n3)
            refine ⟨nI n, g, l, nR (u2 g 82 2 (nI 0)) n (nI a) (nI b) (nI c) (nI y.toNat), l, hC, ?_, ?_⟩
            · simp only [Mo_note_eq, rNode_ok hw hPMg, h1, h2, ifc_f e12, rIn_ok (show 99 + 1 < 2 ^ 31 by decide), h4, hyy, radd_ok n1 e80, h24, crI_t, crV_t, crL_t, ifc_b, Bool.false_eq_true, if_false, if_true]
              cases y <;> rfl
            · rw [← hg]
              refine INV_N h nCR_fr (NT_add hN h24 (Or.inr ⟨a, b, c, 1 - y.toNat, ha, hb, by omega, by omega, ?_, ?_, ?_, ?_, ?_, ?_, ?_, ?_⟩))
              · exact nCR_m.1
              · exact nCR_m.2.1
              · exact nCR_m.2.2.1
              · exact nCR_m.2.2.2
              · exact nCR_n.1
              · exact nCR_n.2.1
              · exact nCR_n.2.2.1
              · rw [nCR_n.2.2.2]
                cases y <;> rfl
          · rw [if_neg h24] at hC
            refine go_ (nM 1) hC ?_
            have e80 : u2 i 82 2 (nI 0) 82 80 = nI n := (u2_k (by decide)).trans n3
            simp only [Mo_note_eq, rNode_ok hw (PM_of hth), h1, h2, ifc_f e12, rIn_ok (show 99 + 1 < 2 ^ 31 by decide), h4, hyy, radd_ok n1 e80, h24, crI_t, crV_t, crL_t, ifc_b, Bool.false_eq_true, if_false, if_true]
            cases y <;> rfl
theorem strike_pr (h : INV P i l s r p) (x1 : Int32) : PrI (GT_strike x1) (Mo_strike x1) P i l s r p := by
  obtain ⟨hp0, hr, hw, hPC, hPM, hNI, hs, hS, hdr, hco, hrest⟩ := id h
  have hp : p = 7 ∨ p = 27 := by omega
  have h7 := hw.1.1
  have h8 := hw.1.2.1
  have h3 := hw.1.2.2.1
  have hth := INV_th h
  obtain ⟨n, hN⟩ := NT_of h
  obtain ⟨n1, n2, n3, n4, n5⟩ := id hN
  have go_ : ∀ v, GT_strike x1 (i, l, Rp s r p) = some (some (.int v), (i, l, Rp s r p)) → Mo_strike x1 (i, l, Rp s r p) = some (some (.int v), (u2 i 82 2 (nI 0), l, Rp s r p)) → PrI (GT_strike x1) (Mo_strike x1) P i l s r p := fun v h1 h2 => ⟨_, i, l, _, l, h1, h2, hth⟩
  have hin : ∀ (a b : Option (Option Value × AM)), ifc (x1 < 0) a (ifc (x1 < nI n) b a) = if isn n x1 = true then b else a := fun a b => ifc_isn (by omega) x1 a b
  have e80 : u2 i 82 2 (nI 0) 82 80 = nI n := (u2_k (by decide)).trans n3
  cases h1 : isn n x1
  · refine go_ (nM 1) ?_ ?_
    · simp only [GT_strike_eq, n2, hin, h1, crI_t, crV_t, crL_t, ifc_b, Bool.false_eq_true, if_false, if_true]
    · simp only [Mo_strike_eq, n3, hin, h1, crI_t, crV_t, crL_t, ifc_b, Bool.false_eq_true, if_false, if_true]
  · obtain ⟨q, hq, rfl⟩ := isn_t h1
    by_cases h24 : n < 24
    · generalize hg : nC i n (nI 2) (nI q) (nI 0) (nI 0) = g
      have fg : ∀ x, x < 75 ∨ 78 < x → x ≠ 74 → g x = i x := fun x h1 h2 => by
        rw [← hg]
        unfold nC
        simp (disch := omega) only [u2_r]
      have e80' : u2 g 82 2 (nI 0) 82 80 = nI n := (u2_k (by decide)).trans (by rw [fg 82 (by omega) (by omega)]; exact n3)
      refine ⟨nI n, g, l, nR (u2 g 82 2 (nI 0)) n (nM 1) (nI q) (nI 0) (nI 0), l, ?_, ?_, ?_⟩
      · simp only [GT_strike_eq, n2, hin, h1, cadd_ok n1 n2, h24, hg, crI_t, crV_t, crL_t, ifc_b, Bool.false_eq_true, if_false, if_true]
      · have e3 : g 82 80 = nI n := by rw [fg 82 (by omega) (by omega)]; exact n3
        simp only [Mo_strike_eq, e3, hin, h1, radd_ok n1 e80', h24, crI_t, crV_t, crL_t, ifc_b, Bool.false_eq_true, if_false, if_true]
      · rw [← hg]
        refine INV_N h nCR_fr (NT_add hN h24 (Or.inl ⟨nCR_m.1, q, hq, nCR_m.2.1, nCR_n.1, nCR_n.2.1⟩))
    · refine go_ (nM 1) ?_ ?_
      · simp only [GT_strike_eq, n2, hin, h1, cadd_ok n1 n2, h24, crI_t, crV_t, crL_t, ifc_b, Bool.false_eq_true, if_false, if_true]
      · simp only [Mo_strike_eq, n3, hin, h1, radd_ok n1 e80, h24, crI_t, crV_t, crL_t, ifc_b, Bool.false_eq_true, if_false, if_true]
theorem known_pr (h : INV P i l s r p) (x1 : Int32) : PrI (GT_known x1) (Mo_known x1) P i l s r p := by
  have hth := INV_th h
  obtain ⟨n, hN⟩ := NT_of h
  obtain ⟨n1, n2, n3, n4, n5⟩ := id hN
  have hC := GT_known_eq x1 i l s r p
  simp only [gd_0, gd_1, n2] at hC
  have hR : ∀ g : Nat → Nat → Int32, g 82 80 = nI n → Mo_known x1 (g, l, Rp s r p) = ifc (x1 < nM 1) (some (some (.int (nI 0)), (u2 g 82 2 (nI 0), l, Rp s r p))) (ifc (nI n < x1) (some (some (.int (nI 0)), (u2 g 82 2 (nI 0), l, Rp s r p))) (some (some (.int (nI 1)), (u2 (u2 g 82 2 (nI 0)) 82 81 x1, l, Rp s r p)))) := fun g hg => by
    rw [Mo_known_eq, hg, Mo_isIn_eq]
    simp only [gd_0, gd_1]
    by_cases q0 : x1 < nM 1
    · rw [ifc_t q0, ifc_t q0, crI_t, ifc_t nI_0]
    · rw [ifc_f q0, ifc_f q0]
      by_cases q1 : nI n < x1
      · rw [ifc_t q1, ifc_t q1, crI_t, ifc_t nI_0]
      · rw [ifc_f q1, ifc_f q1, crI_t, ifc_f (by decide)]
  by_cases q0 : x1 < nM 1
  · have hR' := hR i n3
    rw [ifc_t q0] at hC hR'
    exact ⟨_, i, l, _, l, hC, hR', hth⟩
  · by_cases q1 : nI n < x1
    · have hR' := hR i n3
      rw [ifc_f q0, ifc_t q1] at hC hR'
      exact ⟨_, i, l, _, l, hC, hR', hth⟩
    · have hR' := hR (u2 i 74 9 x1) ((u2_i (by decide)).trans n3)
      rw [ifc_f q0, ifc_f q1] at hC hR'
      refine ⟨_, _, l, _, l, hC, hR', ?_⟩
      have e74 : u2 (u2 (u2 i 74 9 x1) 82 2 (nI 0)) 82 81 x1 74 9 = x1 := by rw [u2_i (by decide), u2_i (by decide), u2_s]
      refine INV_N h (fr_trans (fr_trans (fr_u2 rfl) (fr_u2 rfl)) (fr_u2 rfl)) ⟨n, n1, ?_, ?_, ?_, ?_⟩
      · rw [u2_i (by decide), u2_i (by decide), u2_k (by decide)]; exact n2
      · rw [u2_k (by decide), u2_k (by decide), u2_i (by decide)]; exact n3
      · rw [e74, u2_s]
        rcases pk_ix x1 (show n + 1 < 2 ^ 31 by omega) with hx | hx | ⟨j, hj, rfl⟩
        · left
          have e : x1 = nM 1 := by
            apply Int32.toInt_inj.mp
            have hm : (nM 1).toInt = -1 := by decide
            rw [Int32.lt_iff_toInt_lt] at q0 hx
            rw [hm] at q0
            have h0 : (0 : Int32).toInt = 0 := rfl
            rw [h0] at hx
            rw [hm]
            omega
          exact ⟨e, e⟩
        · exfalso
          apply q1
          exact Int32.lt_of_lt_of_le (nI_lt (by omega) (by omega)) hx
        · exact Or.inr ⟨j, by omega, rfl, rfl⟩
      · intro k hk
        have := n5 k hk
        unfold NT1 at this ⊢
        have er : ∀ x, x ≠ 74 → x ≠ 82 → u2 (u2 (u2 i 74 9 x1) 82 2 (nI 0)) 82 81 x1 x = i x := fun x h1 h2 => ((u2_r h2).trans (u2_r h2)).trans (u2_r h1)
        rw [er 75 (by decide) (by decide), er 76 (by decide) (by decide), er 77 (by decide) (by decide), er 78 (by decide) (by decide), er 123 (by decide) (by decide)]
        exact this
/-- by how many it is known -/
theorem inForce_ok {n : Nat} (hN : NTx P i n) : ∃ f, f ≤ n ∧ Notes_inForce (i, l, Rp s r p) = some (some (.int (nI f)), (i, l, Rp s r p)) ∧ ∀ g : Nat → Nat → Int32, g 82 80 = i 82 80 → g 82 81 = i 82 81 → Mo_knownBy (g, l, Rp s r p) = some (some (.int (nI f)), (g, l, Rp s r p)) := by
  obtain ⟨n1, n2, n3, n4, n5⟩ := hN
  rcases n4 with ⟨h1, h2⟩ | ⟨f, hf, h1, h2⟩
  · refine ⟨n, Nat.le_refl _, ?_, fun g g0 g1 => ?_⟩
    · rw [Notes_inForce_eq, h1, ifc_t rfl, n2]
    · rw [Mo_knownBy_eq, g1, h2, ifc_t (nM_neg (by omega) (by omega)), g0, n3]
  · refine ⟨f, hf, ?_, fun g g0 g1 => ?_⟩
    · rw [Notes_inForce_eq, h1, ifc_f (fun e => by
        have h9 := nM_neg (m := 1) (by omega) (by omega)
        rw [← e] at h9
        exact absurd h9 (nI_pos (by omega)))]
    · rw [Mo_knownBy_eq, g1, h2, ifc_neg (by omega)]
theorem count_pr (h : INV P i l s r p) (x1 : Int32) : PrI (GT_count x1) (Mo_count x1) P i l s r p := by
  obtain ⟨hp0, hr, hw, hPC, hPM, hNI, hs, hS, hdr, hco, hrest⟩ := id h
  have hp : p = 7 ∨ p = 27 := by omega
  have h7 := hw.1.1
  have h8 := hw.1.2.1
  have h3 := hw.1.2.2.1
  have hth := INV_th h
  obtain ⟨n, hN⟩ := NT_of h
  obtain ⟨f, hf, f1, f2⟩ := inForce_ok (l := l) (s := s) (r := r) (p := p) hN
  obtain ⟨c, nx, E, hU⟩ : UI P i := h.2.2.2.2.2.2.2.2.2.2.1
  have go_ : ∀ v, GT_count x1 (i, l, Rp s r p) = some (some (.int v), (i, l, Rp s r p)) → Mo_count x1 (i, l, Rp s r p) = some (some (.int v), (u2 i 82 2 (nI 0), l, Rp s r p)) → PrI (GT_count x1) (Mo_count x1) P i l s r p := fun v h1 h2 => ⟨_, i, l, _, l, h1, h2, hth⟩
  obtain ⟨b1, b2, b3, b4, b5, b6⟩ := hPM.1
  have hb7 : ∀ k, k < 32 → bt (i 51 7) k = true → k < 8 := fun k hk hb => by have := hs.2.2.2.1 k hk hb; omega
  have hr0 : i 85 0 = rt P 0 := hPM.2.1
  have e112 : ∀ o k, o ≠ 82 → u2 i 82 2 (nI 0) o k = i o k := fun o k ho => u2_i ho
  have h179 : Mo_count_179 (nI 0) (nI 0) (u2 i 82 2 (nI 0), l, Rp s r p) = some (some (.int (nI (cnt (fun j => decide (vw 51 i 5 j ≠ 0)) 224))), (u2 i 82 2 (nI 0), l, Rp s r p)) := by
    have hl := upto (fun n => Mo_count_179 (nI (cnt (fun j => decide (vw 51 i 5 j ≠ 0)) n)) (nI n) (u2 i 82 2 (nI 0), l, Rp s r p)) 224 (fun n hn => by
      show Mo_count_179 _ _ _ = Mo_count_179 _ _ _
      obtain ⟨h, hh, he⟩ := hs.1 n hn
      have e : u2 i 82 2 (nI 0) 111 n = nI h := by
        rw [e112 111 n (by decide), ← he]
        have := hS.2.2.2.1 n hn
        rw [show 224 * 0 + n = n by omega] at this
        exact this
      have hc : cnt (fun j => decide (vw 51 i 5 j ≠ 0)) (n + 1) = cnt (fun j => decide (vw 51 i 5 j ≠ 0)) n + (if decide (vw 51 i 5 n ≠ 0) then 1 else 0) := rfl
      rw [Mo_count_179_eq, hc, he]
      simp (disch := omega) only [nI_mul, nI_add, nI_clamp, gd_in, gd_0, gd_1, gd_b, gd_n0, ifc_lt, ifc_eq, ifc_neg, ifc_z, ifc_pos, ifc_b, if_pos, if_neg, crV_t, crI_t, crL_t, ifc_True, ifc_False, if_true, if_false, e]
      by_cases h0 : 0 < h
      · rw [if_pos h0, decide_eq_true (nI_ne0 h0 (by omega))]; rfl
      · have : h = 0 := by omega
        subst this
        rw [if_neg h0]; rfl) 0 (by omega)
    refine (show Mo_count_179 (nI 0) (nI 0) _ = _ from hl).trans ?_
    show Mo_count_179 _ _ _ = _
    rw [Mo_count_179_eq, ifc_f (by decide)]
  have hC := GT_count_eq x1 i l s r p hp
  have hR := Mo_count_eq x1 i l s r p
  rw [bitCount_ok hb7, csum_ok (by omega), csum_ok (by omega), csum_ok (by omega), heldAll_ok hs, root_ok hp hw hPC (by omega), f1, show i p 11 = nI (pN P) from hPC.1 11 (by omega) (by omega), show i p 12 = nI (pL P) from hPC.1 12 (by omega) (by omega), show i p 13 = nI (pS P) from hPC.1 13 (by omega) (by omega), hPC.2.1, hN.2.1, hU.2.2.1] at hC
  simp only [crI_t] at hC
  rw [many_ok, rsum_ok (by omega) (show 0 < 2 by omega), rsum_ok (by omega) (show 0 < 2 by omega), rsum_ok (by omega) (show 0 < 2 by omega), h179, f2 _ (u2_k (by decide)) (u2_k (by decide)), b1, b2, b3, b6, hN.2.2.1, hU.2.2.2.1] at hR
  simp only [crI_t] at hR
  simp (disch := omega) only [gd_in, nI_clamp] at hR
  have g9 := hS.2.2.2.2.2.2.2.2
  have s2 : smI (fun k => u2 i 82 2 (nI 0) 112 (7 * 0 + k)) 7 = smI (i 53) 7 := smI_cg 7 (fun k hk => by rw [e112 _ _ (by decide)]; exact (hS.2.2.2.2.1 k hk).1)
  have s3 : smI (fun k => u2 i 82 2 (nI 0) 113 (7 * 0 + k)) 7 = smI (i 54) 7 := smI_cg 7 (fun k hk => by rw [e112 _ _ (by decide)]; exact (hS.2.2.2.2.1 k hk).2.1)
  have s4 : smI (fun k => u2 i 82 2 (nI 0) 114 (7 * 0 + k)) 7 = smI (i 55) 7 := smI_cg 7 (fun k hk => by rw [e112 _ _ (by decide)]; exact (hS.2.2.2.2.1 k hk).2.2)
  rw [s2, s3, s4, show i 118 0 = i 51 6 from g9, show i 109 0 = i 51 7 from hS.2.1, show i 115 0 = i 51 9 from hS.2.2.2.2.2.1, show i 116 0 = i 51 10 from hS.2.2.2.2.2.2.1, show i 117 0 = i 51 11 from hS.2.2.2.2.2.2.2.1, hr0] at hR
  have h13 : ∀ (X Y : Int32 → Option (Option Value × AM)), ifc (nI (pN P) = 0) (X (nM 2)) (X (rt P 0)) = ifc (rt P 0 < 0) (X (nM 2)) (X (rt P 0)) := fun X Y => by
    rw [ifc_z (by omega)]
    unfold rt
    by_cases h0 : pN P = 0
    · rw [if_pos h0, if_pos h0, ifc_t (nM_neg (by omega) (by omega))]
    · have hm := hw.2.1
      rw [if_neg h0, if_neg h0, if_pos rfl, ifc_neg (by omega)]
  rw [h13 (fun v => some (some (.int v), (i, l, Rp s r p))) (fun _ => none)] at hC
  have stp : ∀ {c : Prop} {a b a' b' : Option (Option Value × AM)} {A B : Option (Option Value × AM)}, A = ifc c a b → B = ifc c a' b' → (A = a → B = a' → PrI (GT_count x1) (Mo_count x1) P i l s r p) → (A = b → B = b' → PrI (GT_count x1) (Mo_count x1) P i l s r p) → PrI (GT_count x1) (Mo_count x1) P i l s r p := fun {c a b a' b' A B} e1 e2 k1 k2 => by
    by_cases hc : c
    · exact k1 (e1.trans (ifc_t hc)) (e2.trans (ifc_t hc))
    · exact k2 (e1.trans (ifc_f hc)) (e2.trans (ifc_f hc))
  refine stp hC hR (fun e1 e2 => go_ _ e1 e2) (fun hC hR => ?_)
  refine stp hC hR (fun e1 e2 => go_ _ e1 e2) (fun hC hR => ?_)
  refine stp hC hR (fun e1 e2 => go_ _ e1 e2) (fun hC hR => ?_)
  refine stp hC hR (fun e1 e2 => go_ _ e1 e2) (fun hC hR => ?_)
  refine stp hC hR (fun e1 e2 => go_ _ e1 e2) (fun hC hR => ?_)
  refine stp hC hR (fun e1 e2 => go_ _ e1 e2) (fun hC hR => ?_)
  refine stp hC hR (fun e1 e2 => go_ _ e1 e2) (fun hC hR => ?_)
  refine stp hC hR (fun e1 e2 => go_ _ e1 e2) (fun hC hR => ?_)
  refine stp hC hR (fun e1 e2 => go_ _ e1 e2) (fun hC hR => ?_)
  refine stp hC hR (fun e1 e2 => go_ _ e1 e2) (fun hC hR => ?_)
  refine stp hC hR (fun e1 e2 => go_ _ e1 e2) (fun hC hR => ?_)
  refine stp hC hR (fun e1 e2 => go_ _ e1 e2) (fun hC hR => ?_)
  refine stp hC hR (fun e1 e2 => go_ _ e1 e2) (fun hC hR => ?_)
  refine stp hC hR (fun e1 e2 => stp e1 e2 (fun e3 e4 => go_ _ e3 e4) (fun e3 e4 => go_ _ e3 e4)) (fun hC hR => ?_)
  refine stp hC hR (fun e1 e2 => go_ _ e1 e2) (fun hC hR => ?_)
  refine stp hC hR (fun e1 e2 => go_ _ e1 e2) (fun hC hR => ?_)
  refine stp hC hR (fun e1 e2 => go_ _ e1 e2) (fun hC hR => go_ _ hC hR)
end
end

section
/-! what is remembered, on both sides -/
theorem cpy2_in {f : Nat → Nat → Int32} {a sp b dp n j : Nat} (h1 : dp ≤ j) (h2 : j < dp + n) : cpy2 f a sp b dp n b j = f a (sp + (j - dp)) := by
  unfold cpy2
  rw [if_pos rfl, if_pos ⟨h1, h2⟩]
theorem cpy2_out {f : Nat → Nat → Int32} {a sp b dp n j : Nat} (h : j < dp ∨ dp + n ≤ j) : cpy2 f a sp b dp n b j = f b j := by
  unfold cpy2
  rw [if_pos rfl, if_neg (by omega)]
theorem cpy2_r {f : Nat → Nat → Int32} {a sp b dp n c : Nat} (h : c ≠ b) : cpy2 f a sp b dp n c = f c := by
  funext j
  unfold cpy2
  rw [if_neg h]
theorem cpy2_i {f : Nat → Nat → Int32} {a sp b dp n c j : Nat} (h : c ≠ b) : cpy2 f a sp b dp n c j = f c j := congrFun (cpy2_r h) j
theorem gd_cp {α : Type} {a b n : Nat} {A B : Nat} (ha : a < 2 ^ 31) (hb : b < 2 ^ 31) (hn : n < 2 ^ 31) (h1 : a + n ≤ A) (h2 : b + n ≤ B) (x : Option α) : gd (¬ nI a < 0 ∧ ¬ nI b < 0 ∧ ¬ nI n < 0 ∧ a + n ≤ A ∧ b + n ≤ B) x = x := gd_t ⟨nI_pos ha, nI_pos hb, nI_pos hn, h1, h2⟩
theorem hqs_refl (σ : ST) : hqs σ σ := ⟨fun _ _ => rfl, fun _ _ => rfl, rfl, rfl, rfl⟩
theorem hqs_trans {σ τ ρ : ST} (h1 : hqs σ τ) (h2 : hqs τ ρ) : hqs σ ρ := ⟨fun j hj => (h2.1 j hj).trans (h1.1 j hj), fun j hj => (h2.2.1 j hj).trans (h1.2.1 j hj), h2.2.2.1.trans h1.2.2.1, h2.2.2.2.1.trans h1.2.2.2.1, h2.2.2.2.2.trans h1.2.2.2.2⟩
section
variable {P : PL} {i : Nat → Nat → Int32} {l : Nat → Nat → Int64} {s r p : Nat}
theorem crem_ok {c nx : Nat} (hc : c ≤ 20) (hx : nx < 20) (h1 : i 72 1 = nI nx) (h2 : i 72 2 = nI c) :
    ∃ j, Past_remember (i, l, Rp s r p) = some (none, (j, l, Rp s r p)) ∧ (∀ a, a ≠ 72 → a ≠ 73 → j a = i a) ∧ j 72 1 = nI ((nx + 1) % 20) ∧ j 72 2 = nI (min (c + 1) 20) ∧ (∀ k, k < 28 * nx ∨ 28 * nx + 28 ≤ k → j 73 k = i 73 k) ∧ CPk (vw 51 i) (28 * nx) j := by
  rw [Past_remember_eq, h1, nI_mul, Nat.mul_comm nx 28, State_pack_eq]
  simp (disch := omega) only [nI_add, nI_clamp, gd_in, gd_cp, crV_t]
  simp (disch := omega) only [u2_s, u2_i, u2_k, cpy2_i, h1, h2, nI_add, gd_n0, nI_mod]
  refine ⟨_, rfl, ?_, ?_, ?_, ?_, ?_⟩
  · intro a ha hb
    simp (disch := omega) only [u2_r, cpy2_r]
  · simp (disch := omega) only [u2_s, u2_i, u2_k]
  · simp (disch := omega) only [u2_s, u2_i, u2_k]
    unfold mnI
    by_cases h : c + 1 < 20
    · rw [if_neg (nI_nlt (by omega) (by omega)), Nat.min_eq_left (by omega)]
    · by_cases h9 : c + 1 = 20
      · rw [h9, if_neg (nI_nlt (by omega) (by omega))]; rfl
      · rw [if_pos (nI_lt (by omega) (by omega)), Nat.min_eq_right (by omega)]
  · intro k hk
    simp (disch := omega) only [u2_s, u2_i, u2_k, cpy2_out]
  · refine ⟨⟨?_, ?_, ?_, ?_⟩, fun k hk => ?_, fun k hk => ⟨?_, ?_, ?_⟩⟩
    · simp (disch := omega) only [u2_s, u2_i, u2_k, cpy2_out]; rfl
    · simp (disch := omega) only [u2_s, u2_i, u2_k, cpy2_out]; rfl
    · simp (disch := omega) only [u2_s, u2_i, u2_k, cpy2_out]; rfl
    · simp (disch := omega) only [u2_s, u2_i, u2_k, cpy2_out]; rfl
    · simp (disch := omega) only [u2_s, u2_i, u2_k, cpy2_out, cpy2_in, cpy2_i]
      rw [show 0 + (28 * nx + 4 + k - (28 * nx + 4)) = k by omega]; rfl
    · simp (disch := omega) only [u2_s, u2_i, u2_k, cpy2_out, cpy2_in, cpy2_i]
      rw [show 0 + (28 * nx + 7 + k - (28 * nx + 4 + 3)) = k by omega]; rfl
    · simp (disch := omega) only [u2_s, u2_i, u2_k, cpy2_out, cpy2_in, cpy2_i]
      rw [show 0 + (28 * nx + 14 + k - (28 * nx + 4 + 3 + 7)) = k by omega]; rfl
    · simp (disch := omega) only [u2_s, u2_i, u2_k, cpy2_out, cpy2_in, cpy2_i]
      rw [show 0 + (28 * nx + 21 + k - (28 * nx + 4 + 3 + 14)) = k by omega]; rfl
theorem oi_sb {a b k : Nat} {f : Nat → Int32} {x : Int32} (h : f k = x) : u2 (oi i a b k f) a (b + k) x = oi i a b (k + 1) f := by
  funext c j
  unfold u2 oi
  by_cases hc : c = a
  · simp only [hc, if_true]
    by_cases hj : j = b + k
    · subst hj; rw [if_pos rfl, if_pos ⟨by omega, by omega⟩, ← h, Nat.add_sub_cancel_left]
    · rw [if_neg hj]
      by_cases hl : b ≤ j ∧ j < b + k
      · rw [if_pos hl, if_pos ⟨by omega, by omega⟩]
      · rw [if_neg hl, if_neg (by omega)]
  · simp only [hc, if_false]
theorem oi_b0 {a b : Nat} {f : Nat → Int32} : oi i a b 0 f = i := oi_self (fun k hk => by omega)
/-- the reference puts its state into a row -/
def rpt (i : Nat → Nat → Int32) (o b : Nat) (σ : ST) : Nat → Nat → Int32 := fun a k => if a = o then (if b ≤ k ∧ k < b + 253 then
    (if k = b then σ 0 8 else if k = b + 1 then σ 0 7 else if k = b + 2 then σ 0 9 else if k = b + 3 then σ 0 10 else if k = b + 4 then σ 0 11 else if k < b + 8 then σ 1 (k - (b + 5)) else if k < b + 15 then σ 2 (k - (b + 8)) else if k < b + 22 then σ 3 (k - (b + 15)) else if k < b + 29 then σ 4 (k - (b + 22)) else σ 5 (k - (b + 29))) else i a k) else i a k
theorem rput_ok {σ : ST} {o b : Nat} (ho : o = 126 ∨ o = 127) (hb : b + 253 ≤ gN o) (hS : SM 0 σ i) : ∃ j, Mo_put o (nI b) (i, l, Rp s r p) = some (none, (j, l, Rp s r p)) ∧ (∀ a, a ≠ o → j a = i a) ∧ (∀ k, k < b ∨ b + 253 ≤ k → j o k = i o k) ∧ RPk σ b o j := by
  have hg : gN o < 10000 := by rcases ho with h | h <;> (subst h; decide)
  obtain ⟨a1, a2, a3, a4, a5, a6, a7, a8, a9⟩ := hS
  rw [Mo_put_eq _ _ _ _ _ _ _ ho]
  simp (disch := omega) only [nI_add, nI_clamp, gd_in]
  rw [a1, a2, a6, a7, a8]
  generalize hj0 : u2 (u2 (u2 (u2 (u2 i o b (σ 0 8)) o (b + 1) (σ 0 7)) o (b + 2) (σ 0 9)) o (b + 3) (σ 0 10)) o (b + 4) (σ 0 11) = j0
  have r0 : ∀ a, a ≠ o → j0 a = i a := fun a ha => by rw [← hj0]; simp (disch := omega) only [u2_r]
  have h1 := upto (fun k => Mo_put_55 o (nI b) (nI k) (oi j0 o (b + 5) k (fun k => σ 1 k), l, Rp s r p)) 3 (fun k hk => by
    show Mo_put_55 _ _ _ _ = Mo_put_55 _ _ _ _
    have e : oi j0 o (b + 5) k (fun k => σ 1 k) 110 k = σ 1 k := by
      rw [oi_c (by omega), r0 110 (by omega)]
      have := a3 k hk
      rw [show 3 * 0 + k = k by omega] at this
      exact this
    rw [Mo_put_55_eq _ _ _ _ _ _ _ _ ho]
    simp (disch := omega) only [nI_mul, nI_add, nI_clamp, gd_in, gd_0, gd_1, gd_b, gd_n0, ifc_lt, ifc_eq, ifc_neg, ifc_z, ifc_pos, ifc_b, if_pos, if_neg, crV_t, crI_t, crL_t, ifc_True, ifc_False, if_true, if_false, e]
    rw [oi_sb rfl]) 0 (by omega)
  simp only [oi_b0] at h1
  rw [h1, Mo_put_55_eq _ _ _ _ _ _ _ _ ho, ifc_f (by decide)]
  generalize hj1 : oi j0 o (b + 5) 3 (fun k => σ 1 k) = j1
  have r1 : ∀ a, a ≠ o → j1 a = i a := fun a ha => by rw [← hj1, oi_c ha]; exact r0 a ha
  have h2 := upto (fun k => Mo_put_81 o (nI b) (nI k) (oi (oi (oi j1 o (b + 8) k (fun k => σ 2 k)) o (b + 15) k (fun k => σ 3 k)) o (b + 22) k (fun k => σ 4 k), l, Rp s r p)) 7 (fun k hk => by
    show Mo_put_81 _ _ _ _ = Mo_put_81 _ _ _ _
    generalize hm : oi (oi (oi j1 o (b + 8) k (fun k => σ 2 k)) o (b + 15) k (fun k => σ 3 k)) o (b + 22) k (fun k => σ 4 k) = m
    have rm : ∀ a, a ≠ o → m a = i a := fun a ha => by rw [← hm, oi_c ha, oi_c ha, oi_c ha]; exact r1 a ha
    obtain ⟨c2, c3, c4⟩ := a5 k hk
    rw [show 7 * 0 + k = k by omega] at c2 c3 c4
    rw [Mo_put_81_eq _ _ _ _ _ _ _ _ ho]
    simp (disch := omega) only [nI_mul, nI_add, nI_clamp, gd_in, gd_0, gd_1, gd_b, gd_n0, ifc_lt, ifc_eq, ifc_neg, ifc_z, ifc_pos, ifc_b, if_pos, if_neg, crV_t, crI_t, crL_t, ifc_True, ifc_False, if_true, if_false]
    rw [rm 112 (by omega), rm 113 (by omega), rm 114 (by omega), c2, c3, c4]
    refine congrArg (fun z => Mo_put_81 o (nI b) (nI (k + 1)) (z, l, Rp s r p)) ?_
    rw [← hm]
    funext x y
    by_cases hx : x = o
    · subst hx
      by_cases e8 : y = b + 8 + k
      · subst e8
        rw [u2_k (by omega), u2_k (by omega), u2_s, oi_k (by omega), oi_k (by omega), oi_a _ _ _ _ (by omega)]
      · by_cases e15 : y = b + 15 + k
        · subst e15
          rw [u2_k (by omega), u2_s, oi_k (by omega), oi_a _ _ _ _ (by omega)]
        · by_cases e22 : y = b + 22 + k
          · subst e22
            rw [u2_s, oi_a _ _ _ _ (by omega)]
          · rw [u2_k e22, u2_k e15, u2_k e8]
            unfold oi
            simp only [if_true]
            have k1 : (b + 22 ≤ y ∧ y < b + 22 + k) = (b + 22 ≤ y ∧ y < b + 22 + (k + 1)) := propext ⟨fun h => by omega, fun h => by omega⟩
            have k2 : (b + 15 ≤ y ∧ y < b + 15 + k) = (b + 15 ≤ y ∧ y < b + 15 + (k + 1)) := propext ⟨fun h => by omega, fun h => by omega⟩
            have k3 : (b + 8 ≤ y ∧ y < b + 8 + k) = (b + 8 ≤ y ∧ y < b + 8 + (k + 1)) := propext ⟨fun h => by omega, fun h => by omega⟩
            simp only [k1, k2, k3]
    · rw [u2_i hx, u2_i hx, u2_i hx, oi_c hx, oi_c hx, oi_c hx, oi_c hx, oi_c hx, oi_c hx]) 0 (by omega)
  simp only [oi_b0] at h2
  rw [h2, Mo_put_81_eq _ _ _ _ _ _ _ _ ho, ifc_f (by decide)]
  generalize hj2 : oi (oi (oi j1 o (b + 8) 7 (fun k => σ 2 k)) o (b + 15) 7 (fun k => σ 3 k)) o (b + 22) 7 (fun k => σ 4 k) = j2
  have r2 : ∀ a, a ≠ o → j2 a = i a := fun a ha => by rw [← hj2, oi_c ha, oi_c ha, oi_c ha]; exact r1 a ha
  have h3 := upto (fun k => Mo_put_137 o (nI b) (nI k) (oi j2 o (b + 29) k (fun k => σ 5 k), l, Rp s r p)) 224 (fun k hk => by
    show Mo_put_137 _ _ _ _ = Mo_put_137 _ _ _ _
    have e : oi j2 o (b + 29) k (fun k => σ 5 k) 111 k = σ 5 k := by
      rw [oi_c (by omega), r2 111 (by omega)]
      have := a4 k hk
      rw [show 224 * 0 + k = k by omega] at this
      exact this
    rw [Mo_put_137_eq _ _ _ _ _ _ _ _ ho]
    simp (disch := omega) only [nI_mul, nI_add, nI_clamp, gd_in, gd_0, gd_1, gd_b, gd_n0, ifc_lt, ifc_eq, ifc_neg, ifc_z, ifc_pos, ifc_b, if_pos, if_neg, crV_t, crI_t, crL_t, ifc_True, ifc_False, if_true, if_false, e]
    rw [oi_sb rfl]) 0 (by omega)
  simp only [oi_b0] at h3
  rw [h3, Mo_put_137_eq _ _ _ _ _ _ _ _ ho, ifc_f (by decide)]
  refine ⟨_, rfl, fun a ha => by rw [oi_c ha]; exact r2 a ha, fun k hk => ?_, ⟨?_, ?_, ?_, ?_, ?_⟩, fun k hk => ?_, fun k hk => ⟨?_, ?_, ?_⟩, fun k hk => ?_⟩
  all_goals try (rw [oi_k (by omega), ← hj2])
  · rw [oi_k (by omega), oi_k (by omega), oi_k (by omega), ← hj1, oi_k (by omega), ← hj0]; simp (disch := omega) only [u2_s, u2_i, u2_k]
  · rw [oi_k (by omega), oi_k (by omega), oi_k (by omega), ← hj1, oi_k (by omega), ← hj0]; simp (disch := omega) only [u2_s, u2_i, u2_k]
  · rw [oi_k (by omega), oi_k (by omega), oi_k (by omega), ← hj1, oi_k (by omega), ← hj0]; simp (disch := omega) only [u2_s, u2_i, u2_k]
  · rw [oi_k (by omega), oi_k (by omega), oi_k (by omega), ← hj1, oi_k (by omega), ← hj0]; simp (disch := omega) only [u2_s, u2_i, u2_k]
  · rw [oi_k (by omega), oi_k (by omega), oi_k (by omega), ← hj1, oi_k (by omega), ← hj0]; simp (disch := omega) only [u2_s, u2_i, u2_k]
  · rw [oi_k (by omega), oi_k (by omega), oi_k (by omega), ← hj1, oi_k (by omega), ← hj0]; simp (disch := omega) only [u2_s, u2_i, u2_k]
  · rw [oi_k (by omega), oi_k (by omega), oi_k (by omega), ← hj1, oi_a _ _ _ _ hk]
  · rw [oi_k (by omega), oi_k (by omega), oi_a _ _ _ _ hk]
  · rw [oi_k (by omega), oi_a _ _ _ _ hk]
  · rw [oi_a _ _ _ _ hk]
  · rw [oi_a _ _ _ _ hk]
theorem rrem_ok {σ : ST} {c : Nat} (hc : c ≤ 20) (h85 : i 82 85 = nI c) (hS : SM 0 σ i) :
    ∃ j, Mo_remember (i, l, Rp s r p) = some (none, (j, l, Rp s r p)) ∧ (∀ a, a ≠ 82 → a ≠ 126 → j a = i a) ∧ (∀ k, k ≠ 85 → j 82 k = i 82 k) ∧ j 82 85 = nI (min (c + 1) 20) ∧ RPk σ (253 * (min (c + 1) 20 - 1)) 126 j ∧ (c < 20 → ∀ k, k < 253 * c → j 126 k = i 126 k) ∧ (c = 20 → ∀ k, k < 4807 → j 126 k = i 126 (k + 253)) := by
  have g126 : gN 126 = 5060 := by decide
  rw [Mo_remember_eq, h85, ifc_eq (by omega) (by omega)]
  by_cases h20 : c = 20
  · rw [if_pos h20]
    have h1 := upto (fun k => Mo_remember_11 (nI k) (oi i 126 0 k (fun k => i 126 (k + 253)), l, Rp s r p)) 4807 (fun k hk => by
      show Mo_remember_11 _ _ = Mo_remember_11 _ _
      rw [Mo_remember_11_eq]
      simp (disch := omega) only [nI_mul, nI_add, nI_clamp, gd_in, gd_0, gd_1, gd_b, gd_n0, ifc_lt, ifc_eq, ifc_neg, ifc_z, ifc_pos, ifc_b, if_pos, if_neg, crV_t, crI_t, crL_t, ifc_True, ifc_False, if_true, if_false]
      rw [oi_k (show ¬ (0 ≤ k + 253 ∧ k + 253 < 0 + k) by omega), oi_s rfl]) 0 (by omega)
    simp only [oi_00] at h1
    rw [h1, Mo_remember_11_eq, ifc_f (nI_nlt (Nat.le_refl _) (by omega)), Mo_remember_50_eq, u2_s, show oi i 126 0 4807 (fun k => i 126 (k + 253)) 82 85 = nI c by rw [oi_c (by decide)]; exact h85, pk_sub (by omega), nI_mul]
    obtain ⟨j, a0, a1, a2, a3⟩ := rput_ok (l := l) (s := s) (r := r) (p := p) (i := u2 (oi i 126 0 4807 (fun k => i 126 (k + 253))) 82 85 (nI (c - 1))) (σ := σ) (o := 126) (b := 253 * (c - 1)) (Or.inl rfl) (by omega) (SM_fr hS (fun a h1 h2 => (u2_r (by omega)).trans (oi_c (by omega))))
    rw [a0, crV_t]
    have e85 : j 82 85 = nI (c - 1) := by rw [a1 82 (by decide), u2_s]
    rw [e85, nI_add]
    refine ⟨_, rfl, fun a h1 h2 => ?_, fun k hk => ?_, ?_, ?_, fun h => by omega, fun _ k hk => ?_⟩
    · rw [u2_r h1, a1 a h2, u2_r h1, oi_c h2]
    · rw [u2_k hk, a1 82 (by decide), u2_k hk, oi_c (by decide)]
    · rw [u2_s, h20]; rfl
    · rw [h20] at a3 ⊢
      exact RPk_row a3 (u2_r (by decide))
    · rw [u2_i (by decide), a2 k (by omega), u2_i (by decide), oi_0 _ _ _ hk]
  · rw [if_neg h20, Mo_remember_50_eq, h85, nI_mul]
    obtain ⟨j, a0, a1, a2, a3⟩ := rput_ok (l := l) (s := s) (r := r) (p := p) (i := i) (σ := σ) (o := 126) (b := 253 * c) (Or.inl rfl) (by omega) hS
    rw [a0, crV_t]
    have e85 : j 82 85 = nI c := by rw [a1 82 (by decide)]; exact h85
    rw [e85, nI_add]
    refine ⟨_, rfl, fun a h1 h2 => ?_, fun k hk => ?_, ?_, ?_, fun _ k hk => ?_, fun h => absurd h h20⟩
    · rw [u2_r h1, a1 a h2]
    · rw [u2_k hk, a1 82 (by decide)]
    · rw [u2_s, Nat.min_eq_left (by omega)]
    · rw [Nat.min_eq_left (show c + 1 ≤ 20 by omega), Nat.add_sub_cancel]
      exact RPk_row a3 (u2_r (by decide))
    · rw [u2_i (by decide), a2 k (by omega)]
/-- what can be undone, with one more -/
theorem UI_rem {m : Nat → Nat → Int32} {c nx : Nat} {E : Nat → ST} (hU : UIx P i c nx E) (hs : swf P (vw 51 i)) (h1 : m 72 1 = nI ((nx + 1) % 20)) (h2 : m 72 2 = nI (min (c + 1) 20)) (h3 : m 82 85 = nI (min (c + 1) 20)) (h4 : ∀ k, k < 28 * nx ∨ 28 * nx + 28 ≤ k → m 73 k = i 73 k) (h5 : CPk (vw 51 i) (28 * nx) m) (h6 : RPk (vw 51 i) (253 * (min (c + 1) 20 - 1)) 126 m) (h7 : c < 20 → ∀ k, k < 253 * c → m 126 k = i 126 k) (h8 : c = 20 → ∀ k, k < 4807 → m 126 k = i 126 (k + 253)) (hh : hqs (vw 51 m) (vw 51 i)) : UI P m := by
  obtain ⟨u1, u2', u3, u4, u5, u6⟩ := hU
  have cpk : ∀ τ ci, ci < 20 → ci ≠ nx → CPk τ (28 * ci) i → CPk τ (28 * ci) m := fun τ ci hci hne hc => by
    have e : ∀ k, k < 28 → m 73 (28 * ci + k) = i 73 (28 * ci + k) := fun k hk => h4 _ (by omega)
    obtain ⟨⟨c1, c2, c3, c4⟩, c5, c6⟩ := hc
    refine ⟨⟨(e 0 (by omega)).trans c1, (e 1 (by omega)).trans c2, (e 2 (by omega)).trans c3, (e 3 (by omega)).trans c4⟩, fun k hk => ?_, fun k hk => ⟨?_, ?_, ?_⟩⟩
    · rw [show 28 * ci + 4 + k = 28 * ci + (4 + k) by omega, e (4 + k) (by omega), show 28 * ci + (4 + k) = 28 * ci + 4 + k by omega]; exact c5 k hk
    · rw [show 28 * ci + 7 + k = 28 * ci + (7 + k) by omega, e (7 + k) (by omega), show 28 * ci + (7 + k) = 28 * ci + 7 + k by omega]; exact (c6 k hk).1
    · rw [show 28 * ci + 14 + k = 28 * ci + (14 + k) by omega, e (14 + k) (by omega), show 28 * ci + (14 + k) = 28 * ci + 14 + k by omega]; exact (c6 k hk).2.1
    · rw [show 28 * ci + 21 + k = 28 * ci + (21 + k) by omega, e (21 + k) (by omega), show 28 * ci + (21 + k) = 28 * ci + 21 + k by omega]; exact (c6 k hk).2.2
  have rpk : ∀ τ b b', (∀ k, k < 253 → m 126 (b + k) = i 126 (b' + k)) → RPk τ b' 126 i → RPk τ b 126 m := fun τ b b' e hr => by
    obtain ⟨⟨c1, c2, c3, c4, c5⟩, c6, c7, c8⟩ := hr
    refine ⟨⟨(e 0 (by omega)).trans c1, (e 1 (by omega)).trans c2, (e 2 (by omega)).trans c3, (e 3 (by omega)).trans c4, (e 4 (by omega)).trans c5⟩, fun k hk => ?_, fun k hk => ⟨?_, ?_, ?_⟩, fun k hk => ?_⟩
    · rw [Nat.add_assoc, e (5 + k) (by omega), ← Nat.add_assoc]; exact c6 k hk
    · rw [Nat.add_assoc, e (8 + k) (by omega), ← Nat.add_assoc]; exact (c7 k hk).1
    · rw [Nat.add_assoc, e (15 + k) (by omega), ← Nat.add_assoc]; exact (c7 k hk).2.1
    · rw [Nat.add_assoc, e (22 + k) (by omega), ← Nat.add_assoc]; exact (c7 k hk).2.2
    · rw [Nat.add_assoc, e (29 + k) (by omega), ← Nat.add_assoc]; exact c8 k hk
  by_cases h20 : c = 20
  · subst h20
    refine ⟨20, (nx + 1) % 20, fun e => if e = 19 then vw 51 i else E (e + 1), by omega, by omega, h2, h3, h1, fun e he => ?_⟩
    by_cases e19 : e = 19
    · subst e19
      simp only [if_true]
      refine ⟨hs, hh, ?_, h6⟩
      rw [show ((nx + 1) % 20 + 20 - 20 + 19) % 20 = nx by omega]
      exact h5
    · simp only [e19, if_false]
      obtain ⟨b1, b2, b3, b4⟩ := u6 (e + 1) (by omega)
      refine ⟨b1, hqs_trans hh b2, ?_, ?_⟩
      · have ei : ((nx + 1) % 20 + 20 - 20 + e) % 20 = (nx + 20 - 20 + (e + 1)) % 20 := by omega
        rw [ei]
        exact cpk _ _ (by omega) (by omega) b3
      · refine rpk _ _ (253 * (e + 1)) (fun k hk => ?_) b4
        rw [h8 rfl _ (by omega)]
        rw [show 253 * e + k + 253 = 253 * (e + 1) + k by omega]
  · have hm : min (c + 1) 20 = c + 1 := Nat.min_eq_left (by omega)
    rw [hm] at h2 h3 h6
    rw [Nat.add_sub_cancel] at h6
    refine ⟨c + 1, (nx + 1) % 20, fun e => if e = c then vw 51 i else E e, by omega, by omega, h2, h3, h1, fun e he => ?_⟩
    by_cases ec : e = c
    · subst ec
      simp only [if_true]
      refine ⟨hs, hh, ?_, h6⟩
      rw [show ((nx + 1) % 20 + 20 - (e + 1) + e) % 20 = nx by omega]
      exact h5
    · simp only [ec, if_false]
      obtain ⟨b1, b2, b3, b4⟩ := u6 e (by omega)
      refine ⟨b1, hqs_trans hh b2, ?_, ?_⟩
      · have ei : ((nx + 1) % 20 + 20 - (c + 1) + e) % 20 = (nx + 20 - c + e) % 20 := by omega
        rw [ei]
        exact cpk _ _ (by omega) (by omega) b3
      · exact rpk _ _ (253 * e) (fun k hk => h7 (by omega) _ (by omega)) b4
end
end

section
/-! listen, cut, send -/
def qM (a k : Nat) : Bool := qS a k || (decide (51 ≤ a) && decide (a ≤ 57)) || a == 72 || a == 73 || (a == 82 && k == 85) || (decide (108 ≤ a) && decide (a ≤ 118)) || a == 126
theorem qM_row {i j : Nat → Nat → Int32} (h : fr qM i j) {a : Nat} (ha : ∀ k, qM a k = false) : j a = i a := funext fun k => h a k (ha k)
theorem fr_SM {i j : Nat → Nat → Int32} (h : fr qS i j) : fr qM i j := fr_mono (fun a k hq => by
  unfold qM at hq
  cases hn : qS a k
  · rfl
  · rw [hn] at hq; simp at hq) h
theorem INV_M {P : PL} {i j : Nat → Nat → Int32} {l l' : Nat → Nat → Int64} {s r p : Nat} (h : INV P i l s r p) (q1 : fr qM i j) (g1 : swf P (vw 51 j)) (g2 : SM 0 (vw 51 j) j) (g3 : NetI P j) (g4 : l' 82 65 = (j 51 12).toInt64) (g5 : j 82 73 = nM 1) (g6 : UI P j) (g7 : TB P j) (g8 : l' 82 90 = l 82 90) : INV P j l' s r p := by
  obtain ⟨hp, hr, hw, h1, h2, h3, h4, h5, h6, h7, h8, h9, h10, h11, h12, h13, h14⟩ := h
  have rw0 : ∀ a, (∀ k, qM a k = false) → j a = i a := fun a ha => qM_row q1 ha
  have v58 : ∀ a, a < 7 → j (58 + a) = i (58 + a) := fun a ha => rw0 _ (fun k => by unfold qM qS; simp; omega)
  refine ⟨hp, hr, hw, ?_, ?_, g3, g1, g2, g4, g5, g6, ?_, ?_, g7, ?_, ?_, ?_⟩
  · exact PC_fr h1 (fun a ha => rw0 _ (fun k => by unfold qM qS; simp; omega))
  · exact PM_fr hw h2 (fun a k hq => q1 a k (by
      cases hn : qM a k
      · rfl
      · exfalso
        unfold qM qS at hn
        unfold qPM at hq
        simp at hn hq
        omega))
  · exact II_row h9 v58 (q1 0 11 rfl) (q1 82 87 rfl) (rw0 127 (fun k => by simp [qM, qS])) (q1 82 89 rfl) g8
  · exact NT_row h10 (q1 74 8 rfl) (q1 74 9 rfl) (q1 82 80 rfl) (q1 82 81 rfl) (fun a x y => rw0 a (fun k => by unfold qM qS; simp; omega)) (rw0 123 (fun k => by simp [qM, qS]))
  · exact TP_row h12 (q1 1 8 rfl) (q1 82 1 rfl) (rw0 83 (fun k => by simp [qM, qS])) (rw0 2 (fun k => by simp [qM, qS]))
  · exact ⟨(q1 0 12 rfl).trans (h13.1.trans (q1 82 4 rfl).symm), (q1 0 13 rfl).trans (h13.2.trans (q1 82 5 rfl).symm)⟩
  · exact WD_row h14 (rw0 3 (fun k => by simp [qM, qS])) (rw0 84 (fun k => by simp [qM, qS]))
/-- both remember; then the component changes its state, the reference its own -/
theorem INV_rem {P : PL} {i g m1 m : Nat → Nat → Int32} {l l' : Nat → Nat → Int64} {s r p c nx : Nat} {E : Nat → ST} (h : INV P i l s r p) (hU : UIx P i c nx E)
    (a1 : g 72 1 = nI ((nx + 1) % 20)) (a2 : g 72 2 = nI (min (c + 1) 20)) (a3 : ∀ k, k < 28 * nx ∨ 28 * nx + 28 ≤ k → g 73 k = i 73 k) (a4 : CPk (vw 51 i) (28 * nx) g) (a5 : ∀ a, 82 ≤ a → g a = i a) (a6 : ∀ a k, a < 72 → qM a k = false → g a k = i a k) (a6' : ∀ a, 74 ≤ a → a < 82 → g a = i a)
    (b1 : ∀ a, a ≠ 82 → a ≠ 126 → m1 a = u2 g 82 2 (nI 0) a) (b2 : ∀ k, k ≠ 85 → m1 82 k = u2 g 82 2 (nI 0) 82 k) (b3 : m1 82 85 = nI (min (c + 1) 20)) (b4 : RPk (vw 51 i) (253 * (min (c + 1) 20 - 1)) 126 m1) (b5 : c < 20 → ∀ k, k < 253 * c → m1 126 k = u2 g 82 2 (nI 0) 126 k) (b6 : c = 20 → ∀ k, k < 4807 → m1 126 k = u2 g 82 2 (nI 0) 126 (k + 253))
    (c1 : ∀ a, a < 82 → m a = m1 a) (c2 : m 126 = m1 126) (c3 : m 82 85 = m1 82 85) (c4 : ∀ a k, 82 ≤ a → qM a k = false → m a k = m1 a k)
    (d1 : hqs (vw 51 g) (vw 51 i)) (d2 : swf P (vw 51 g)) (d3 : SM 0 (vw 51 g) m) (d4 : NetI P g) (d5 : l' 82 65 = l 82 65) (d6 : m 82 73 = nM 1) (d7 : l' 82 90 = l 82 90) : INV P m l' s r p := by
  have e1 : ∀ a, a < 82 → m a = g a := fun a ha => (c1 a ha).trans ((b1 a (by omega) (by omega)).trans (u2_r (by omega)))
  have ev : ∀ a, a < 7 → m (51 + a) = g (51 + a) := fun a ha => e1 _ (by omega)
  have hf : fr qM i m := fun a k hq => by
    by_cases h82 : a < 82
    · rw [e1 a h82]
      by_cases h72 : a < 72
      · exact a6 a k h72 hq
      · have x1 : a ≠ 72 := fun e => by subst e; simp [qM] at hq
        have x2 : a ≠ 73 := fun e => by subst e; simp [qM] at hq
        rw [a6' a (by omega) h82]
    · rw [c4 a k (by omega) hq]
      have x126 : a ≠ 126 := fun e => by subst e; simp [qM] at hq
      by_cases e82 : a = 82
      · subst e82
        have x85 : k ≠ 85 := fun e => by subst e; simp [qM] at hq
        have x2 : k ≠ 2 := fun e => by subst e; simp [qM, qS] at hq
        rw [b2 k x85, u2_k x2, a5 82 (by omega)]
      · rw [b1 a e82 x126, u2_r e82, a5 a (by omega)]
  have e12 : vw 51 g 0 12 = i 51 12 := d1.2.2.2.2.symm
  refine INV_M h hf (swf_rw d2 ev) (SM_rw d3 ev) ?_ ?_ d6 ?_ ?_ d7
  · unfold NetI NetOk NR
    rw [e1 26 (by omega), e1 43 (by omega), e1 44 (by omega), e1 45 (by omega)]
    exact d4
  · rw [d5, show m 51 = g 51 from ev 0 (by omega)]
    have := h.2.2.2.2.2.2.2.2.1
    rw [this, ← e12]; rfl
  · refine UI_rem hU (swf_of h) ((congrFun (e1 72 (by omega)) 1).trans a1) ((congrFun (e1 72 (by omega)) 2).trans a2) (c3.trans b3) (fun k hk => (congrFun (e1 73 (by omega)) k).trans (a3 k hk)) (CPk_row a4 (e1 73 (by omega))) (RPk_row b4 c2) (fun hc k hk => ?_) (fun hc k hk => ?_) ?_
    · rw [c2, b5 hc k hk, u2_i (by decide), a5 126 (by omega)]
    · rw [c2, b6 hc k hk, u2_i (by decide), a5 126 (by omega)]
    · unfold hqs at d1 ⊢
      have x5 : vw 51 m 5 = vw 51 g 5 := ev 5 (by omega)
      have x6 : vw 51 m 6 = vw 51 g 6 := ev 6 (by omega)
      have x0 : vw 51 m 0 = vw 51 g 0 := ev 0 (by omega)
      rw [x5, x6, x0]
      exact d1
  · refine TB_row h.2.2.2.2.2.2.2.2.2.2.2.2.2.1 ?_ ?_
    · rw [e1 74 (by omega), a6' 74 (by omega) (by omega)]
    · rw [e1 80 (by omega), a6' 80 (by omega) (by omega)]
section
variable {P : PL} {i : Nat → Nat → Int32} {l : Nat → Nat → Int64} {s r p : Nat}
theorem rem_r {g m1 : Nat → Nat → Int32} (b1 : ∀ a, a ≠ 82 → a ≠ 126 → m1 a = u2 g 82 2 (nI 0) a) (b2 : ∀ k, k ≠ 85 → m1 82 k = u2 g 82 2 (nI 0) 82 k) (a5 : ∀ a, 82 ≤ a → g a = i a) {a k : Nat} (h82 : 82 ≤ a) (h126 : a ≠ 126) (hk : ¬ (a = 82 ∧ (k = 2 ∨ k = 85))) : m1 a k = i a k := by
  by_cases e : a = 82
  · subst e
    rw [b2 k (by omega), u2_k (by omega), a5 82 (by omega)]
  · rw [b1 a e h126, u2_r e, a5 a h82]
theorem SM_stop0 {σ : ST} {g : Nat → Nat → Int32} (h : SM 0 σ i) (a5 : ∀ a, 108 ≤ a → a ≤ 118 → g a = i a) : SM 0 σ g := SM_fr h (fun a h1 h2 => a5 a h1 h2)
theorem listen_pr (h : INV P i l s r p) (x1 : Int32) : PrI (GT_listen x1) (Mo_listen x1) P i l s r p := by
  obtain ⟨hp0, hr, hw, hPC, hPM, hNI, hs, hS, hdr, hco, hrest⟩ := id h
  have hp : p = 7 ∨ p = 27 := by omega
  have h7 := hw.1.1
  have h8 := hw.1.2.1
  have h3 := hw.1.2.2.1
  have hth := INV_th h
  cases h1 : isn (pN P) x1
  · refine ⟨nM 1, i, l, _, l, ?_, ?_, hth⟩
    · simp only [GT_listen_eq, cNode_ok hp hw hPC, h1, crI_t, crV_t, crL_t, ifc_b, Bool.false_eq_true, if_false, if_true]
    · simp only [Mo_listen_eq, rNode_ok hw (PM_of hth), h1, crI_t, crV_t, crL_t, ifc_b, Bool.false_eq_true, if_false, if_true]
  · obtain ⟨n, hn, rfl⟩ := isn_t h1
    obtain ⟨c, nx, E, hU⟩ : UI P i := h.2.2.2.2.2.2.2.2.2.2.1
    obtain ⟨j1, a0, a1, a2, a3, a4, a5⟩ := crem_ok (l := l) (s := s) (r := r) (p := p) hU.1 hU.2.1 hU.2.2.2.2.1 hU.2.2.1
    have v1 : ∀ a, a < 7 → j1 (51 + a) = i (51 + a) := fun a ha => a1 _ (by omega) (by omega)
    have e7 : j1 51 7 = vw 51 i 0 7 := congrFun (v1 0 (by omega)) 7
    -- the component's change g, the pure change τ, the reference's change
    have main : ∀ (g : Nat → Nat → Int32) (τ : ST) (v : Int32), GT_listen (nI n) (i, l, Rp s r p) = some (some (Value.int v), (g, l, Rp s r p)) → (∀ a, a ≠ 51 → a ≠ 52 → g a = j1 a) → (∀ a, a < 7 → vw 51 g a = τ a) → swf P τ → hqs τ (vw 51 i) → (∀ m1 : Nat → Nat → Int32, SM 0 (vw 51 i) m1 → ∃ m : Nat → Nat → Int32, (crI (Mo_isOf (m1 109 0) (nI n) (m1, l, Rp s r p)) (m1, l, Rp s r p) fun (x_3 : Int32) (i_3 : Nat → Nat → Int32) (l_3 : Nat → Nat → Int64) => ifc (x_3 = 0) (some (some (Value.int ((((u2 i_3 109 0 ((i_3 109 0) ||| ((nI 1) <<< (nI n &&& 31)))) 109 0) >>> (nI n &&& 31)) &&& (nI 1))), ((u2 i_3 109 0 ((i_3 109 0) ||| ((nI 1) <<< (nI n &&& 31)))), l_3, Rp s r p))) (crV (Mo_stopsListening (nI 0) (nI n) (i_3, l_3, Rp s r p)) (i_3, l_3, Rp s r p) (fun (i_4 : Nat → Nat → Int32) (l_4 : Nat → Nat → Int64) => some (some (Value.int (((i_4 109 0) >>> (nI n &&& 31)) &&& (nI 1))), (i_4, l_4, Rp s r p))))) = some (some (Value.int v), (m, l, Rp s r p)) ∧ SM 0 τ m ∧ fr (qR 0) m1 m ∧ ∀ a, a ≠ 109 → a ≠ 110 → m a = m1 a) → PrI (GT_listen (nI n)) (Mo_listen (nI n)) P i l s r p := by
      intro g τ v hC hg hτ hsτ hqτ hR
      have ga5 : ∀ a, 82 ≤ a → g a = i a := fun a ha => (hg a (by omega) (by omega)).trans (a1 a (by omega) (by omega))
      have S1 : SM 0 (vw 51 i) (u2 g 82 2 (nI 0)) := SM_fr hS (fun a h1 h2 => (u2_r (by omega)).trans (ga5 a (by omega)))
      have h85 : u2 g 82 2 (nI 0) 82 85 = nI c := (u2_k (by decide)).trans (by rw [ga5 82 (by omega)]; exact hU.2.2.2.1)
      obtain ⟨m1, b0, b1, b2, b3, b4, b5, b6⟩ := rrem_ok (l := l) (s := s) (r := r) (p := p) hU.1 h85 S1
      have S2 : SM 0 (vw 51 i) m1 := SM_fr S1 (fun a h1 h2 => b1 a (by omega) (by omega))
      obtain ⟨m, d0, d1, d2, d3⟩ := hR m1 S2
      have hPMg : PM P (u2 g 82 2 (nI 0)) := PM_fr hw (PM_of hth) (fun a k hq => by
        have h82 : 82 ≤ a := by unfold qPM at hq; simp at hq; omega
        by_cases e : a = 82
        · subst e
          by_cases e2 : k = 2
          · subst e2; simp [qPM] at hq
          · rw [u2_k e2, u2_k e2, ga5 82 (by omega)]
        · rw [u2_i e, u2_i e, ga5 a h82])
      refine ⟨v, g, l, m, l, hC, ?_, ?_⟩
      · simp only [Mo_listen_eq, rNode_ok hw hPMg, h1, b0, crI_t, crV_t, crL_t, ifc_b, Bool.false_eq_true, if_false, if_true]
        simp (disch := omega) only [gd_in, nI_clamp]
        exact d0
      · have sg : ∀ a, a < 7 → τ a = vw 51 g a := fun a ha => (hτ a ha).symm
        refine INV_rem h hU (g := g) (m1 := m1) ?_ ?_ ?_ ?_ ga5 ?_ ?_ b1 b2 b3 b4 b5 b6 (fun a ha => d3 a (by omega) (by omega)) (d3 126 (by decide) (by decide)) (by rw [d3 82 (by decide) (by decide)]) ?_ ?_ (swf_cg sg hsτ) (SM_cg sg d1) ?_ rfl ?_ rfl
        · rw [hg 72 (by decide) (by decide)]; exact a2
        · rw [hg 72 (by decide) (by decide)]; exact a3
        · rw [hg 73 (by decide) (by decide)]; exact a4
        · exact CPk_row a5 (hg 73 (by decide) (by decide))
        · intro a k ha hq
          have x1 : a ≠ 51 := fun e => by subst e; simp [qM] at hq
          have x2 : a ≠ 52 := fun e => by subst e; simp [qM] at hq
          rw [hg a x1 x2, a1 a (by omega) (by omega)]
        · intro a h1 h2
          rw [hg a (by omega) (by omega), a1 a (by omega) (by omega)]
        · intro a k h82 hq
          have x1 : a ≠ 109 := fun e => by subst e; simp [qM] at hq
          have x2 : a ≠ 110 := fun e => by subst e; simp [qM] at hq
          rw [d3 a x1 x2]
        · unfold hqs at hqτ ⊢
          rw [hτ 5 (by omega), hτ 6 (by omega), hτ 0 (by omega)]
          exact hqτ
        · unfold NetI NetOk NR
          rw [hg 26 (by decide) (by decide), hg 43 (by decide) (by decide), hg 44 (by decide) (by decide), hg 45 (by decide) (by decide), a1 26 (by decide) (by decide), a1 43 (by decide) (by decide), a1 44 (by decide) (by decide), a1 45 (by decide) (by decide)]
          exact hNI
        · rw [d3 82 (by decide) (by decide), b2 73 (by decide), u2_k (by decide), ga5 82 (by omega)]
          exact hco
    cases hb : bt (vw 51 i 0 7) n
    · -- it listens from now on
      refine main (u2 j1 51 7 (stb (vw 51 i 0 7) n)) (u2 (vw 51 i) 0 7 (stb (vw 51 i 0 7) n)) (nI 1) ?_ (fun a h1 _ => u2_r h1) ?_ ?_ ?_ ?_
      · simp only [GT_listen_eq, cNode_ok hp hw hPC, h1, a0, e7, crI_t, crV_t, crL_t, ifc_b, Bool.false_eq_true, if_false, if_true]
        rw [ifc_bit _ (by omega), hb, if_neg (by decide)]
        rfl
      · intro a ha
        have e := vw_0 (o := 51) (i := j1) (k := 7) (x := stb (vw 51 i 0 7) n)
        rw [e]
        by_cases e0 : a = 0
        · subst e0
          funext k
          by_cases e7 : k = 7
          · subst e7; rw [u2_s, u2_s]
          · rw [u2_k e7, u2_k e7]; exact congrFun (v1 0 (by omega)) k
        · rw [u2_r e0, u2_r e0]; exact v1 a ha
      · refine swf_7 (fun k hk hb2 => ?_) hs
        rw [bt_stb _ (by omega) hk] at hb2
        by_cases e : k = n
        · omega
        · exact hs.2.2.2.1 k hk (by simpa [e] using hb2)
      · exact ⟨fun j _ => (u2_i (by decide)).symm, fun a _ => (u2_i (by decide)).symm, (u2_k (by decide)).symm, (u2_k (by decide)).symm, (u2_k (by decide)).symm⟩
      · intro m1 S2
        have e109 : m1 109 0 = vw 51 i 0 7 := S2.2.1
        refine ⟨u2 m1 109 0 (stb (vw 51 i 0 7) n), ?_, SM_7 S2, fr_u2 rfl, fun a h1 _ => u2_r h1⟩
        rw [isOf_ok _ (by omega), crI_t, e109, hb, ifc_b, if_neg (by decide), u2_s]
        have : vw 51 i 0 7 ||| nI 1 <<< (nI n &&& 31) = stb (vw 51 i 0 7) n := rfl
        rw [this, bitn _ (by omega), bt_stb _ (by omega) (by omega), decide_eq_true rfl, Bool.or_true]
        rfl
    · obtain ⟨g, g0, g1, g2⟩ := stop_ok (i := j1) (l := l) (s := s) (r := r) (p := p) (o := 51) (n := n) (Or.inl rfl) (by omega)
      refine main g (stp (vw 51 i) n) (nI 0) ?_ g2 ?_ (swf_stp (by omega) hs) ?_ ?_
      · simp only [GT_listen_eq, cNode_ok hp hw hPC, h1, a0, e7, g0, crI_t, crV_t, crL_t, ifc_b, Bool.false_eq_true, if_false, if_true]
        rw [ifc_bit _ (by omega), hb, if_pos rfl]
      · intro a ha
        rw [g1]
        funext k
        have e0 : vw 51 j1 0 = vw 51 i 0 := v1 0 (by omega)
        have e1 : vw 51 j1 1 = vw 51 i 1 := v1 1 (by omega)
        have ea : vw 51 j1 a = vw 51 i a := v1 a ha
        unfold stp
        rw [e0, e1, ea]
      · exact ⟨fun j _ => rfl, fun a _ => rfl, rfl, rfl, rfl⟩
      · intro m1 S2
        have e109 : m1 109 0 = vw 51 i 0 7 := S2.2.1
        have hst : Mo_stopsListening (nI 0) (nI n) (m1, l, Rp s r p) = some (none, (u2 (u2 (u2 (u2 m1 109 0 (unb (vw 51 i 0 7) n)) 110 0 (unb (vw 51 i 1 0) n)) 110 1 (unb (vw 51 i 1 1) n)) 110 2 (unb (vw 51 i 1 2) n), l, Rp s r p)) := by
          have s0 := S2.2.2.1 0 (by omega)
          have s1 := S2.2.2.1 1 (by omega)
          have s2 := S2.2.2.1 2 (by omega)
          simp only [Nat.mul_zero, Nat.zero_add] at s0 s1 s2
          rw [Mo_stopsListening_eq, Mo_stopsListening_16_eq]
          simp (disch := omega) only [nI_mul, nI_add, nI_clamp, gd_in, gd_0, gd_1, gd_b, gd_n0, ifc_lt, ifc_eq, ifc_neg, ifc_z, ifc_pos, ifc_b, if_pos, if_neg, crV_t, crI_t, crL_t, ifc_True, ifc_False, if_true, if_false, Nat.mul_zero, Nat.zero_add]
          rw [Mo_stopsListening_16_eq]
          simp (disch := omega) only [nI_mul, nI_add, nI_clamp, gd_in, gd_0, gd_1, gd_b, gd_n0, ifc_lt, ifc_eq, ifc_neg, ifc_z, ifc_pos, ifc_b, if_pos, if_neg, crV_t, crI_t, crL_t, ifc_True, ifc_False, if_true, if_false, Nat.mul_zero, Nat.zero_add]
          rw [Mo_stopsListening_16_eq]
          simp (disch := omega) only [nI_mul, nI_add, nI_clamp, gd_in, gd_0, gd_1, gd_b, gd_n0, ifc_lt, ifc_eq, ifc_neg, ifc_z, ifc_pos, ifc_b, if_pos, if_neg, crV_t, crI_t, crL_t, ifc_True, ifc_False, if_true, if_false, Nat.mul_zero, Nat.zero_add]
          rw [Mo_stopsListening_16_eq]
          simp (disch := omega) only [nI_mul, nI_add, nI_clamp, gd_in, gd_0, gd_1, gd_b, gd_n0, ifc_lt, ifc_eq, ifc_neg, ifc_z, ifc_pos, ifc_b, if_pos, if_neg, crV_t, crI_t, crL_t, ifc_True, ifc_False, if_true, if_false, u2_s, u2_i, u2_k, e109, s0, Nat.mul_zero, Nat.zero_add]
          simp only [Nat.reduceAdd] at s1 s2 ⊢
          rw [s1, s2]
          rfl
        refine ⟨u2 (u2 (u2 (u2 m1 109 0 (unb (vw 51 i 0 7) n)) 110 0 (unb (vw 51 i 1 0) n)) 110 1 (unb (vw 51 i 1 1) n)) 110 2 (unb (vw 51 i 1 2) n), ?_, SM_stp (b := 0) S2, ?_, ?_⟩
        · rw [isOf_ok _ (by omega), crI_t, e109, hb, ifc_b, if_pos rfl, hst, crV_t, u2_i (by decide), u2_i (by decide), u2_i (by decide), u2_s, bitn _ (by omega), bt_unb _ (by omega) (by omega), decide_eq_true rfl]
          simp
        · exact fr_trans (fr_trans (fr_trans (fr_u2 rfl) (fr_u2 rfl)) (fr_u2 rfl)) (fr_u2 rfl)
        · intro a h1 h2
          rw [u2_r h2, u2_r h2, u2_r h2, u2_r h1]
end
end

section
/-! cut, send, go -/
def xrb (x : Int32) (k : Nat) : Int32 := x ^^^ (nI 1 <<< (nI k &&& 31))
theorem bt_xrb (x : Int32) {k j : Nat} (hk : k < 32) (hj : j < 32) : bt (xrb x k) j = (bt x j ^^ decide (j = k)) := by
  unfold xrb
  rw [b_xor, bt_mask hk hj]
theorem pss_1 {P : PL} {m : MD} {up : Nat → Option (Nat × Nat)} {M : Int32} {n : Nat} {z : Int32 × Int32} (h : ∀ x, (lst P m x).2 = x) : ∀ k, (pss P m up M n z k).1 = z.1
  | 0 => rfl
  | k + 1 => by
    have e : pss P m up M n z (k + 1) = ps1 P m up M n k (pss P m up M n z k) := rfl
    rw [e]
    unfold ps1
    split
    · simp only
      rw [h, pss_1 h k]
    · exact pss_1 h k
theorem dnn_1 {P : PL} {m : MD} {up : Nat → Option (Nat × Nat)} {σ : ST} {t : Nat} {bar came rd : Int32} {S : DnS} (h : ∀ x, (lst P m x).2 = x) : ∀ n, (dnn P m up σ t bar came rd S n).1 = S.1
  | 0 => rfl
  | n + 1 => by
    have e : dnn P m up σ t bar came rd S (n + 1) = dn1 P m up σ t bar came rd n (dnn P m up σ t bar came rd S n) := rfl
    have ih := dnn_1 (up := up) (σ := σ) (t := t) (bar := bar) (came := came) (rd := rd) (S := S) h n
    rw [e]
    generalize dnn P m up σ t bar came rd S n = T at ih
    unfold dn1
    split
    · simp only
      rw [pss_1 h]; exact ih
    · exact ih
theorem dwn_1 {P : PL} {m : MD} {up : Nat → Option (Nat × Nat)} {σ : ST} {t : Nat} {bar : Int32} (h : ∀ x, (lst P m x).2 = x) : ∀ f (Z : RnS), (dwn P m up σ t bar f Z).1 = Z.1
  | 0, Z => rfl
  | f + 1, Z => by
    unfold dwn
    split
    · rfl
    · rw [dwn_1 h f]
      have e : (dst1 P m up σ t bar Z).1 = (dnn P m up σ t bar Z.2.2.2.1 Z.2.2.2.2 (Z.1, Z.2.1, Z.2.2.1, nI 0) (pN P)).1 := rfl
      rw [e, dnn_1 h]
theorem pkt_12 {P : PL} {m : MD} {σ : ST} {sr : Nat} (h : ∀ x, (lst P m x).2 = x) : pkt P m σ sr 0 12 = σ 0 12 := by
  have e1 : (pd1 P m σ sr).1 = σ 0 12 := by unfold pd1; rw [dwn_1 h]
  have e2 : (pd2 P m σ sr).1 = σ 0 12 := by
    unfold pd2
    split
    · rw [dwn_1 h]; exact e1
    · exact e1
  have h12 : pS3 P m σ sr 0 12 = σ 0 12 := by
    unfold pS3
    rw [her_r (by decide) (by decide) (by decide)]
    unfold pS2
    rw [u2_s]; exact e2
  unfold pkt
  split
  · exact h12
  · rw [swo_r (by decide)]; exact h12
theorem lst_nd {P : PL} {m : MD} (h : m.1 = false) (x : Int32) : (lst P m x).2 = x := by
  unfold lst
  rw [h]
  split
  · rfl
  · split <;> rfl
theorem pkt_r {P : PL} {m : MD} {σ : ST} {sr a : Nat} (h5 : a = 5 ∨ a = 6) : pkt P m σ sr a = σ a := by
  have h3 : pS3 P m σ sr a = σ a := by
    unfold pS3
    rw [her_r (by omega) (by omega) (by omega)]
    exact pS2_r (by omega)
  unfold pkt
  split
  · exact h3
  · rw [swo_r (by omega)]; exact h3
theorem qR_M {a k : Nat} (hq : qM a k = false) : qR 0 a k = false := by
  cases hn : qR 0 a k
  · rfl
  · exfalso
    have h1 : (a = 82 ∧ (k = 53 ∨ k = 76)) ∨ (108 ≤ a ∧ a ≤ 118) ∨ a = 119 ∨ a = 120 ∨ a = 121 ∨ a = 122 := by
      unfold qR at hn
      simp at hn
      omega
    rcases h1 with ⟨rfl, rfl | rfl⟩ | h2 | rfl | rfl | rfl | rfl
    · simp [qM, qS] at hq
    · simp [qM, qS] at hq
    · unfold qM at hq
      rw [decide_eq_true h2.1, decide_eq_true h2.2] at hq
      simp at hq
    · simp [qM, qS] at hq
    · simp [qM, qS] at hq
    · simp [qM, qS] at hq
    · simp [qM, qS] at hq
section
variable {P : PL} {i : Nat → Nat → Int32} {l : Nat → Nat → Int64} {s r p : Nat}
theorem cut_pr (h : INV P i l s r p) (x1 : Int32) : PrI (GT_cut x1) (Mo_cut x1) P i l s r p := by
  obtain ⟨hp0, hr, hw, hPC, hPM, hNI, hs, hS, hdr, hco, hrest⟩ := id h
  have hp : p = 7 ∨ p = 27 := by omega
  have h7 := hw.1.1
  have h8 := hw.1.2.1
  have h3 := hw.1.2.2.1
  have hth := INV_th h
  cases h1 : isn (pL P) x1
  · refine ⟨nM 1, i, l, _, l, ?_, ?_, hth⟩
    · simp only [GT_cut_eq, cLink_ok hp hw hPC, h1, crI_t, crV_t, crL_t, ifc_b, Bool.false_eq_true, if_false, if_true]
    · simp only [Mo_cut_eq, rLink_ok hw (PM_of hth), h1, crI_t, crV_t, crL_t, ifc_b, Bool.false_eq_true, if_false, if_true]
  · obtain ⟨n, hn, rfl⟩ := isn_t h1
    obtain ⟨c, nx, E, hU⟩ : UI P i := h.2.2.2.2.2.2.2.2.2.2.1
    obtain ⟨j1, a0, a1, a2, a3, a4, a5⟩ := crem_ok (l := l) (s := s) (r := r) (p := p) hU.1 hU.2.1 hU.2.2.2.2.1 hU.2.2.1
    have v1 : ∀ a, a < 7 → j1 (51 + a) = i (51 + a) := fun a ha => a1 _ (by omega) (by omega)
    have e8 : j1 51 8 = vw 51 i 0 8 := congrFun (v1 0 (by omega)) 8
    generalize hx : xrb (vw 51 i 0 8) n = x
    have hC : GT_cut (nI n) (i, l, Rp s r p) = some (some (.int ((x >>> (nI n &&& 31)) &&& nI 1)), (u2 j1 51 8 x, l, Rp s r p)) := by
      simp only [GT_cut_eq, cLink_ok hp hw hPC, h1, a0, e8, crI_t, crV_t, crL_t, ifc_b, Bool.false_eq_true, if_false, if_true]
      rw [← hx]; rfl
    have ga5 : ∀ a, 82 ≤ a → u2 j1 51 8 x a = i a := fun a ha => (u2_r (by omega)).trans (a1 a (by omega) (by omega))
    have S1 : SM 0 (vw 51 i) (u2 (u2 j1 51 8 x) 82 2 (nI 0)) := SM_fr hS (fun a h1 h2 => (u2_r (by omega)).trans (ga5 a (by omega)))
    have h85 : u2 (u2 j1 51 8 x) 82 2 (nI 0) 82 85 = nI c := (u2_k (by decide)).trans (by rw [ga5 82 (by omega)]; exact hU.2.2.2.1)
    obtain ⟨m1, b0, b1, b2, b3, b4, b5, b6⟩ := rrem_ok (l := l) (s := s) (r := r) (p := p) hU.1 h85 S1
    have S2 : SM 0 (vw 51 i) m1 := SM_fr S1 (fun a h1 h2 => b1 a (by omega) (by omega))
    have hPMg : PM P (u2 (u2 j1 51 8 x) 82 2 (nI 0)) := PM_fr hw (PM_of hth) (fun a k hq => by
      have h82 : 82 ≤ a := by unfold qPM at hq; simp at hq; omega
      by_cases e : a = 82
      · subst e
        by_cases e2 : k = 2
        · subst e2; simp [qPM] at hq
        · rw [u2_k e2, u2_k e2, ga5 82 (by omega)]
      · rw [u2_i e, u2_i e, ga5 a h82])
    have e108 : m1 108 0 = vw 51 i 0 8 := S2.1
    have hv : ∀ a, a < 7 → u2 (vw 51 i) 0 8 x a = vw 51 (u2 j1 51 8 x) a := fun a ha => by
      rw [vw_0 (o := 51)]
      by_cases e0 : a = 0
      · subst e0
        funext k
        by_cases e7 : k = 8
        · subst e7; rw [u2_s, u2_s]
        · rw [u2_k e7, u2_k e7]; exact (congrFun (v1 0 (by omega)) k).symm
      · rw [u2_r e0, u2_r e0]; exact (v1 a ha).symm
    have hsx : swf P (u2 (vw 51 i) 0 8 x) := by
      refine swf_8 (fun k hk hb2 => ?_) hs
      rw [← hx, bt_xrb _ (by omega) hk] at hb2
      by_cases e : k = n
      · omega
      · exact hs.2.2.2.2.1 k hk (by simpa [e] using hb2)
    refine ⟨(x >>> (nI n &&& 31)) &&& nI 1, _, l, u2 m1 108 0 x, l, hC, ?_, ?_⟩
    · simp only [Mo_cut_eq, rLink_ok hw hPMg, h1, b0, crI_t, crV_t, crL_t, ifc_b, Bool.false_eq_true, if_false, if_true]
      simp (disch := omega) only [gd_in, nI_clamp, e108]
      rw [u2_s, ← hx]; rfl
    · refine INV_rem h hU (g := u2 j1 51 8 x) (m1 := m1) ?_ ?_ ?_ ?_ ga5 ?_ ?_ b1 b2 b3 b4 b5 b6 (fun a ha => u2_r (by omega)) (u2_r (by decide)) (u2_i (by decide)) ?_ ?_ (swf_cg hv hsx) (SM_cg hv (SM_8 S2)) ?_ rfl ?_ rfl
      · rw [u2_i (by decide)]; exact a2
      · rw [u2_i (by decide)]; exact a3
      · intro k hk; rw [u2_i (by decide)]; exact a4 k hk
      · exact CPk_row a5 (u2_r (by decide))
      · intro a k ha hq
        have x1 : a ≠ 51 := fun e => by subst e; simp [qM] at hq
        rw [u2_i x1, a1 a (by omega) (by omega)]
      · intro a h1 h2
        rw [u2_r (by omega), a1 a (by omega) (by omega)]
      · intro a k h82 hq
        have x1 : a ≠ 108 := fun e => by subst e; simp [qM] at hq
        rw [u2_i x1]
      · have hq0 : hqs (u2 (vw 51 i) 0 8 x) (vw 51 i) := ⟨fun j _ => (u2_i (by decide)).symm, fun a _ => (u2_i (by decide)).symm, (u2_k (by decide)).symm, (u2_k (by decide)).symm, (u2_k (by decide)).symm⟩
        unfold hqs at hq0 ⊢
        rw [← hv 5 (by omega), ← hv 6 (by omega), ← hv 0 (by omega)]
        exact hq0
      · unfold NetI NetOk NR
        rw [u2_r (show (26 : Nat) ≠ 51 by decide), u2_r (show (43 : Nat) ≠ 51 by decide), u2_r (show (44 : Nat) ≠ 51 by decide), u2_r (show (45 : Nat) ≠ 51 by decide), a1 26 (by decide) (by decide), a1 43 (by decide) (by decide), a1 44 (by decide) (by decide), a1 45 (by decide) (by decide)]
        exact hNI
      · rw [u2_i (by decide), b2 73 (by decide), u2_k (by decide), ga5 82 (by omega)]
        exact hco
/-- the component's mode -/
def cpl (i : Nat → Nat → Int32) (x : Int32) : Nat → Nat → Int32 := u2 (u2 (u2 (u2 i 47 4 (nI 0)) 47 5 x) 47 6 (nM 1)) 47 7 (nM 1)
theorem cplain_ok (b : Bool) : Course_plain (nI b.toNat) (i, l, Rp s r p) = some (none, (cpl i (nI b.toNat), l, Rp s r p)) := by
  rw [Course_plain_eq, gd_0, gd_b]
  rfl
theorem cpl_r {x : Int32} {a : Nat} (h : a ≠ 47) : cpl i x a = i a := by
  unfold cpl
  simp (disch := omega) only [u2_r]
theorem cpl_CM (b : Bool) : CM (false, b, 5, nM 1) (cpl i (nI b.toNat)) := by
  unfold CM cpl
  refine ⟨?_, ?_, ?_, ?_⟩ <;> (simp (disch := omega) only [u2_s, u2_i, u2_k]) <;> rfl
theorem send_pr (h : INV P i l s r p) (x1 : Int32) : PrI (GT_send x1) (Mo_send x1) P i l s r p := by
  obtain ⟨hp0, hr, hw, hPC, hPM, hNI, hs, hS, hdr, hco, hrest⟩ := id h
  have hp : p = 7 ∨ p = 27 := by omega
  have h7 := hw.1.1
  have h8 := hw.1.2.1
  have h3 := hw.1.2.2.1
  have hth := INV_th h
  cases h1 : isn (pS P) x1
  · refine ⟨nM 1, i, l, _, l, ?_, ?_, hth⟩
    · simp only [GT_send_eq, cSource_ok hp hw hPC, h1, crI_t, crV_t, crL_t, ifc_b, Bool.false_eq_true, if_false, if_true]
    · simp only [Mo_send_eq, rSource_ok hw (PM_of hth), h1, crI_t, crV_t, crL_t, ifc_b, Bool.false_eq_true, if_false, if_true]
  · obtain ⟨n, hn, rfl⟩ := isn_t h1
    obtain ⟨c, nx, E, hU⟩ : UI P i := h.2.2.2.2.2.2.2.2.2.2.1
    obtain ⟨j1, a0, a1, a2, a3, a4, a5⟩ := crem_ok (l := l) (s := s) (r := r) (p := p) hU.1 hU.2.1 hU.2.2.2.2.1 hU.2.2.1
    have v1 : ∀ a, a < 7 → j1 (51 + a) = i (51 + a) := fun a ha => a1 _ (by omega) (by omega)
    have hPC1 : PC P p j1 := PC_fr hPC (fun a ha => a1 _ (by omega) (by omega))
    have hNI1 : NetI P j1 := by
      unfold NetI NetOk NR
      rw [a1 26 (by decide) (by decide), a1 43 (by decide) (by decide), a1 44 (by decide) (by decide), a1 45 (by decide) (by decide)]
      exact hNI
    obtain ⟨j2, m0', m1', m2, m3, m4⟩ := measure_ok (l := l) (s := s) (r := r) (cut := j1 51 8) hp hw hPC1 hNI1
    generalize hj3 : cpl j2 (nI (false).toNat) = j3
    have r3 : ∀ a, a ≠ 47 → j3 a = j2 a := fun a ha => by rw [← hj3]; exact cpl_r ha
    have hM3 : CM m0 j3 := by rw [← hj3]; exact cpl_CM false
    have hPC3 : PC P p j3 := PC_fr (PC_fr hPC1 (fun a ha => funext fun k => m1' _ _ (by unfold qNet; simp; omega))) (fun a ha => r3 _ (by omega))
    have v3 : ∀ a, a < 7 → vw 51 i a = vw 51 j3 a := fun a ha => by
      have e2 : j2 (51 + a) = j1 (51 + a) := funext fun k => m1' _ _ (by unfold qNet; simp; omega)
      exact ((r3 (51 + a) (by omega)).trans (e2.trans (v1 a ha))).symm
    have hN3 : NetOk P j3 (vw 51 j3 0 8) := by
      have e : vw 51 j3 0 8 = j1 51 8 := by
        rw [← v3 0 (by omega)]
        exact (congrFun (v1 0 (by omega)) 8).symm
      rw [e]
      intro t n ht hn
      unfold NR
      rw [r3 43 (by decide), r3 44 (by decide), r3 45 (by decide)]
      exact m4 t n ht hn
    obtain ⟨g, l1, p0, p1, p2, p3⟩ := cpacket_ok (l := l) (s := s) (r := r) (m := m0) (sr := n) (Or.inl rfl) hp hw hPC3 (by decide) hM3 (swf_cg v3 hs) hN3 hn
    have hC : GT_send (nI n) (i, l, Rp s r p) = some (some (.int (pkb P m0 (vw 51 j3) n)), (g, l1, Rp s r p)) := by
      have := cplain_ok (i := j2) (l := l) (s := s) (r := r) (p := p) false
      rw [hj3] at this
      simp only [GT_send_eq, cSource_ok hp hw hPC, h1, a0, m0', show nI 0 = nI (false).toNat from rfl, this, p0, crI_t, crV_t, crL_t, ifc_b, Bool.false_eq_true, if_false, if_true]
    have gf : ∀ a, a < 43 ∨ 57 < a → a ≠ 26 → a ≠ 72 → a ≠ 73 → g a = i a := fun a x1 x2 x3 x4 => by
      have e1 : g a = j3 a := funext fun k => p2 a k (by unfold qD; simp; omega)
      have e2 : j2 a = j1 a := funext fun k => m1' a k (by unfold qNet; simp; omega)
      rw [e1, r3 a (by omega), e2, a1 a x3 x4]
    have g7 : ∀ a, a = 72 ∨ a = 73 → g a = j1 a := fun a ha => by
      have e1 : g a = j3 a := funext fun k => p2 a k (by unfold qD; simp; omega)
      have e2 : j2 a = j1 a := funext fun k => m1' a k (by unfold qNet; simp; omega)
      rw [e1, r3 a (by omega), e2]
    have ga5 : ∀ a, 82 ≤ a → g a = i a := fun a ha => gf a (by omega) (by omega) (by omega) (by omega)
    have S1 : SM 0 (vw 51 j3) (u2 g 82 2 (nI 0)) := SM_fr (SM_cg v3 hS) (fun a h1 h2 => (u2_r (by omega)).trans (ga5 a (by omega)))
    have h85 : u2 g 82 2 (nI 0) 82 85 = nI c := (u2_k (by decide)).trans (by rw [ga5 82 (by omega)]; exact hU.2.2.2.1)
    obtain ⟨m1, b0, b1, b2, b3, b4, b5, b6⟩ := rrem_ok (l := l1) (s := s) (r := r) (p := p) hU.1 h85 S1
    have S2 : SM 0 (vw 51 j3) m1 := SM_fr S1 (fun a h1 h2 => b1 a (by omega) (by omega))
    have hPMg : PM P (u2 g 82 2 (nI 0)) := PM_fr hw (PM_of hth) (fun a k hq => by
      have h82 : 82 ≤ a := by unfold qPM at hq; simp at hq; omega
      by_cases e : a = 82
      · subst e
        by_cases e2 : k = 2
        · subst e2; simp [qPM] at hq
        · rw [u2_k e2, u2_k e2, ga5 82 (by omega)]
      · rw [u2_i e, u2_i e, ga5 a h82])
    have hPM1 : PM P (pT m1) := PM_qS hw (PM_fr hw hPMg (fun a k hq => by
      have h126 : a ≠ 126 := by intro e; subst e; simp [qPM] at hq
      by_cases e : a = 82
      · subst e; exact b2 k (by intro e2; subst e2; simp [qPM] at hq)
      · rw [b1 a e h126])) pT_fr
    have S3 : SM 0 (vw 51 j3) (pT m1) := SM_fr S2 (fun a h1 h2 => pT_r (by omega))
    obtain ⟨m, l2, q0, q1, q2, q3, q4⟩ := rpacket_ok (l := l1) (s := s) (r := r) (p := p) (sr := n) (b := 0) hw hPM1 pT_RM (swf_cg v3 hs) (by omega) S3 hn (fun h => absurd h (by decide))
    have x1 : ∀ a k, qR 0 a k = false → m a k = pT m1 a k := q2
    refine ⟨_, g, l1, m, l2, hC, ?_, ?_⟩
    · simp only [Mo_send_eq, rSource_ok hw hPMg, h1, b0, plainT_ok, q0, crI_t, crV_t, crL_t, ifc_b, Bool.false_eq_true, if_false, if_true]
    · have hvp : ∀ k a, k = pkt P m0 (vw 51 j3) n → vw 51 g a = k a := fun k a e => by rw [e, p1]
      have b4' : RPk (vw 51 i) (253 * (min (c + 1) 20 - 1)) 126 m1 := by
        unfold RPk at b4 ⊢
        rw [v3 0 (by omega), v3 1 (by omega), v3 2 (by omega), v3 3 (by omega), v3 4 (by omega), v3 5 (by omega)]
        exact b4
      refine INV_rem h hU (g := g) (m1 := m1) ?_ ?_ ?_ ?_ ga5 ?_ ?_ b1 b2 b3 b4' b5 b6 (fun a ha => ?_) ?_ ?_ ?_ ?_ ?_ ?_ ?_ ?_ ?_ ?_
      · rw [g7 72 (by omega)]; exact a2
      · rw [g7 72 (by omega)]; exact a3
      · rw [g7 73 (by omega)]; exact a4
      · exact CPk_row a5 (g7 73 (by omega))
      · intro a k ha hq
        by_cases e26 : a = 26
        · subst e26
          have y1 : g 26 k = j3 26 k := p2 26 k (by simp [qD])
          have y2 : j2 26 k = j1 26 k := m1' 26 k (by unfold qM qS at hq; unfold qNet; simp at hq ⊢; omega)
          rw [y1, r3 26 (by decide), y2, a1 26 (by decide) (by decide)]
        · have y3 : a < 43 ∨ a = 46 ∨ 57 < a := by
            refine Classical.byContradiction (fun hno => ?_)
            have h9 : (43 ≤ a ∧ a ≤ 45) ∨ (47 ≤ a ∧ a ≤ 50) ∨ (51 ≤ a ∧ a ≤ 57) := by omega
            rcases h9 with h9 | h9 | h9 <;> (unfold qM qS at hq; simp [h9.1, h9.2] at hq)
          by_cases e46 : a = 46
          · subst e46
            have y1 : g 46 k = j3 46 k := p2 46 k (by simp [qD])
            have y2 : j2 46 k = j1 46 k := m1' 46 k (by simp [qNet])
            rw [y1, r3 46 (by decide), y2, a1 46 (by decide) (by decide)]
          · rw [gf a (by omega) e26 (by omega) (by omega)]
      · intro a h1 h2
        exact gf a (by omega) (by omega) (by omega) (by omega)
      · exact (funext fun k => x1 a k (by unfold qR; simp; omega)).trans (pT_r (by omega))
      · exact (funext fun k => x1 126 k (by simp [qR])).trans (pT_r (by decide))
      · rw [x1 82 85 rfl, pT_k (by omega)]
      · intro a k h82 hq
        have hq2 : qR 0 a k = false := qR_M hq
        rw [x1 a k hq2]
        by_cases e82 : a = 82
        · subst e82
          rw [pT_k (by unfold qM qS at hq; simp at hq; omega)]
        · rw [pT_r e82]
      · rw [p1]
        have e5 := pkt_r (P := P) (m := m0) (σ := vw 51 j3) (sr := n) (a := 5) (by omega)
        have e6 := pkt_r (P := P) (m := m0) (σ := vw 51 j3) (sr := n) (a := 6) (by omega)
        unfold hqs
        rw [e5, e6, pkt_0 (by decide) (by decide) (by decide), pkt_0 (by decide) (by decide) (by decide), pkt_12 (lst_nd rfl), ← v3 5 (by omega), ← v3 6 (by omega), ← v3 0 (by omega)]
        exact ⟨fun _ _ => rfl, fun _ _ => rfl, rfl, rfl, rfl⟩
      · rw [p1]; exact swf_pkt hw hn (swf_cg v3 hs)
      · rw [p1]; exact q1
      · have N3 : NetI P j3 := by
          unfold NetI NetOk NR
          rw [r3 26 (by decide), r3 43 (by decide), r3 44 (by decide), r3 45 (by decide)]
          exact Or.inr ⟨m2, by rw [m3]; exact m4⟩
        exact NetI_D (Or.inl rfl) N3 p2
      · rw [q4.2.2 rfl, p3 82 (by decide)]
      · rw [x1 82 73 rfl, pT_73]
      · rw [q4.2.1 90 (by decide), p3 82 (by decide)]
end
end

section
/-! states alike where they tell; copies; taking back; undo, keep, back, go -/
def srg (σ τ : ST) : Prop := (∀ k, 6 ≤ k → k ≤ 12 → σ 0 k = τ 0 k) ∧ (∀ k, k < 3 → σ 1 k = τ 1 k) ∧ (∀ k, k < 7 → σ 2 k = τ 2 k ∧ σ 3 k = τ 3 k ∧ σ 4 k = τ 4 k) ∧ (∀ k, k < 224 → σ 5 k = τ 5 k) ∧ (∀ k, k < 28 → σ 6 k = τ 6 k)
theorem srg_symm {σ τ : ST} (h : srg σ τ) : srg τ σ := ⟨fun k a b => (h.1 k a b).symm, fun k a => (h.2.1 k a).symm, fun k a => ⟨(h.2.2.1 k a).1.symm, (h.2.2.1 k a).2.1.symm, (h.2.2.1 k a).2.2.symm⟩, fun k a => (h.2.2.2.1 k a).symm, fun k a => (h.2.2.2.2 k a).symm⟩
theorem swf_srg {P : PL} {σ τ : ST} (h : srg σ τ) (hs : swf P σ) : swf P τ := by
  obtain ⟨r0, r1, _, r5, r6⟩ := h
  obtain ⟨a1, a2, a3, a4, a5, a6, a7⟩ := hs
  refine ⟨fun j hj => by rw [← r5 j hj]; exact a1 j hj, fun a ha k hk => ?_, fun t n k ht hn hk hx => by rw [← r5 _ (by omega)]; exact a3 t n k ht hn hk hx, by rw [← r0 7 (by omega) (by omega)]; exact a4, by rw [← r0 8 (by omega) (by omega)]; exact a5, fun s hs => by rw [← r1 s hs]; exact a6 s hs, by rw [← r0 12 (by omega) (by omega)]; exact a7⟩
  rw [← r6 a ha, a2 a ha k hk]
  by_cases h8 : k < 8
  · rw [r5 (8 * a + k) (by omega)]
  · rw [decide_eq_false h8]; rfl
theorem SM_srg {b : Nat} {σ τ : ST} {i : Nat → Nat → Int32} (h : srg σ τ) (hS : SM b σ i) : SM b τ i := by
  obtain ⟨r0, r1, r2, r5, r6⟩ := h
  obtain ⟨a1, a2, a3, a4, a5, a6, a7, a8, a9⟩ := hS
  exact ⟨a1.trans (r0 8 (by omega) (by omega)), a2.trans (r0 7 (by omega) (by omega)), fun s hs => (a3 s hs).trans (r1 s hs), fun j hj => (a4 j hj).trans (r5 j hj), fun n hn => ⟨(a5 n hn).1.trans (r2 n hn).1, (a5 n hn).2.1.trans (r2 n hn).2.1, (a5 n hn).2.2.trans (r2 n hn).2.2⟩, a6.trans (r0 9 (by omega) (by omega)), a7.trans (r0 10 (by omega) (by omega)), a8.trans (r0 11 (by omega) (by omega)), a9.trans (r0 6 (by omega) (by omega))⟩
theorem RPk_srg {σ τ : ST} {b o : Nat} {i : Nat → Nat → Int32} (h : srg σ τ) (hR : RPk σ b o i) : RPk τ b o i := by
  obtain ⟨r0, r1, r2, r5, r6⟩ := h
  obtain ⟨⟨c1, c2, c3, c4, c5⟩, c6, c7, c8⟩ := hR
  exact ⟨⟨c1.trans (r0 8 (by omega) (by omega)), c2.trans (r0 7 (by omega) (by omega)), c3.trans (r0 9 (by omega) (by omega)), c4.trans (r0 10 (by omega) (by omega)), c5.trans (r0 11 (by omega) (by omega))⟩, fun k hk => (c6 k hk).trans (r1 k hk), fun k hk => ⟨(c7 k hk).1.trans (r2 k hk).1, (c7 k hk).2.1.trans (r2 k hk).2.1, (c7 k hk).2.2.trans (r2 k hk).2.2⟩, fun k hk => (c8 k hk).trans (r5 k hk)⟩
section
variable {P : PL} {i : Nat → Nat → Int32} {l : Nat → Nat → Int64} {s r p : Nat}
theorem copyFrom_ok {o0 o1 : Nat} (hj : o0 = 51 ∧ o1 = 58 ∨ o0 = 58 ∧ o1 = 51 ∨ o0 = 65 ∧ o1 = 51) : ∃ j, State_copyFrom o0 o1 (i, l, Rp s r p) = some (none, (j, l, Rp s r p)) ∧ srg (vw o0 j) (vw o1 i) ∧ ∀ a, a < o0 ∨ o0 + 6 < a → j a = i a := by
  rw [State_copyFrom_eq _ _ _ _ _ _ _ hj]
  simp (disch := omega) only [nI_clamp, gd_cp]
  refine ⟨_, rfl, ⟨fun k h1 h2 => ?_, fun k hk => ?_, fun k hk => ⟨?_, ?_, ?_⟩, fun k hk => ?_, fun k hk => ?_⟩, fun a ha => ?_⟩
  · have hk : k = 6 ∨ k = 7 ∨ k = 8 ∨ k = 9 ∨ k = 10 ∨ k = 11 ∨ k = 12 := by omega
    unfold vw
    simp only [Nat.add_zero]
    rcases hk with rfl | rfl | rfl | rfl | rfl | rfl | rfl <;> simp (disch := omega) only [u2_s, u2_i, u2_k]
  · unfold vw
    simp (disch := omega) only [u2_s, u2_i, u2_k, cpy2_i, cpy2_in]
    rw [show 0 + (k - 0) = k by omega]
  · unfold vw
    simp (disch := omega) only [u2_s, u2_i, u2_k, cpy2_i, cpy2_in]
    rw [show 0 + (k - 0) = k by omega]
  · unfold vw
    simp (disch := omega) only [u2_s, u2_i, u2_k, cpy2_i, cpy2_in]
    rw [show 0 + (k - 0) = k by omega]
  · unfold vw
    simp (disch := omega) only [u2_s, u2_i, u2_k, cpy2_i, cpy2_in]
    rw [show 0 + (k - 0) = k by omega]
  · unfold vw
    simp (disch := omega) only [u2_s, u2_i, u2_k, cpy2_i, cpy2_in]
    rw [show 0 + (k - 0) = k by omega]
  · unfold vw
    simp (disch := omega) only [u2_s, u2_i, u2_k, cpy2_i, cpy2_in]
    rw [show 0 + (k - 0) = k by omega]
  · simp (disch := omega) only [u2_r, cpy2_r]
theorem oi_uc {a b c n k : Nat} {f : Nat → Int32} {x : Int32} (h : c ≠ a) : u2 (oi i c b n f) a k x = oi (u2 i a k x) c b n f := by
  funext y z
  by_cases hy : y = c
  · subst hy
    rw [u2_i h]
    unfold oi
    simp only [u2_i h]
  · rw [oi_c hy]
    unfold u2
    rw [oi_c hy]
/-- the reference takes a state back -/
theorem rtake_ok {τ : ST} {o b : Nat} (ho : o = 126 ∨ o = 127) (hb : b + 253 ≤ gN o) (hR : RPk τ b o i) : ∃ j, Mo_take o (nI b) (i, l, Rp s r p) = some (none, (j, l, Rp s r p)) ∧ SM 0 (u2 τ 0 6 (i 118 0)) j ∧ (∀ a, a < 108 ∨ 117 < a → j a = i a) ∧ ∀ a k, qR 0 a k = false → j a k = i a k := by
  have hg : gN o < 10000 := by rcases ho with h | h <;> (subst h; decide)
  obtain ⟨⟨c1, c2, c3, c4, c5⟩, c6, c7, c8⟩ := hR
  rw [Mo_take_eq _ _ _ _ _ _ _ ho]
  simp (disch := omega) only [nI_add, nI_clamp, gd_in]
  rw [c1, c2, c3, c4, c5]
  generalize hj0 : u2 (u2 (u2 (u2 (u2 i 108 0 (τ 0 8)) 109 0 (τ 0 7)) 115 0 (τ 0 9)) 116 0 (τ 0 10)) 117 0 (τ 0 11) = j0
  have r0 : ∀ a, a < 108 ∨ 117 < a → j0 a = i a := fun a ha => by rw [← hj0]; simp (disch := omega) only [u2_r]
  have h1 := upto (fun k => Mo_take_55 o (nI b) (nI k) (oi j0 110 0 k (fun k => τ 1 k), l, Rp s r p)) 3 (fun k hk => by
    show Mo_take_55 _ _ _ _ = Mo_take_55 _ _ _ _
    have e : oi j0 110 0 k (fun k => τ 1 k) o (b + 5 + k) = τ 1 k := by
      rw [oi_c (by omega), r0 o (by omega)]; exact c6 k hk
    rw [Mo_take_55_eq _ _ _ _ _ _ _ _ ho]
    simp (disch := omega) only [nI_mul, nI_add, nI_clamp, gd_in, gd_0, gd_1, gd_b, gd_n0, ifc_lt, ifc_eq, ifc_neg, ifc_z, ifc_pos, ifc_b, if_pos, if_neg, crV_t, crI_t, crL_t, ifc_True, ifc_False, if_true, if_false, e]
    rw [oi_s rfl]) 0 (by omega)
  simp only [oi_00] at h1
  rw [h1, Mo_take_55_eq _ _ _ _ _ _ _ _ ho, ifc_f (by decide)]
  generalize hj1 : oi j0 110 0 3 (fun k => τ 1 k) = j1
  have r1 : ∀ a, a < 108 ∨ 117 < a → j1 a = i a := fun a ha => by rw [← hj1, oi_c (by omega)]; exact r0 a ha
  have h2 := upto (fun k => Mo_take_81 o (nI b) (nI k) (oi (oi (oi j1 112 0 k (fun k => τ 2 k)) 113 0 k (fun k => τ 3 k)) 114 0 k (fun k => τ 4 k), l, Rp s r p)) 7 (fun k hk => by
    show Mo_take_81 _ _ _ _ = Mo_take_81 _ _ _ _
    generalize hm : oi (oi (oi j1 112 0 k (fun k => τ 2 k)) 113 0 k (fun k => τ 3 k)) 114 0 k (fun k => τ 4 k) = m
    have rm : ∀ a, a < 108 ∨ 117 < a → m a = i a := fun a ha => by rw [← hm, oi_c (by omega), oi_c (by omega), oi_c (by omega)]; exact r1 a ha
    obtain ⟨d2, d3, d4⟩ := c7 k hk
    rw [Mo_take_81_eq _ _ _ _ _ _ _ _ ho]
    simp (disch := omega) only [nI_mul, nI_add, nI_clamp, gd_in, gd_0, gd_1, gd_b, gd_n0, ifc_lt, ifc_eq, ifc_neg, ifc_z, ifc_pos, ifc_b, if_pos, if_neg, crV_t, crI_t, crL_t, ifc_True, ifc_False, if_true, if_false]
    rw [rm o (by omega), d2, d3, d4]
    refine congrArg (fun z => Mo_take_81 o (nI b) (nI (k + 1)) (z, l, Rp s r p)) ?_
    rw [← hm]
    rw [oi_uc (show (114 : Nat) ≠ 112 by decide), oi_uc (show (113 : Nat) ≠ 112 by decide), oi_s rfl, oi_uc (show (114 : Nat) ≠ 113 by decide), oi_s rfl, oi_s rfl]) 0 (by omega)
  simp only [oi_00] at h2
  rw [h2, Mo_take_81_eq _ _ _ _ _ _ _ _ ho, ifc_f (by decide)]
  generalize hj2 : oi (oi (oi j1 112 0 7 (fun k => τ 2 k)) 113 0 7 (fun k => τ 3 k)) 114 0 7 (fun k => τ 4 k) = j2
  have r2 : ∀ a, a < 108 ∨ 117 < a → j2 a = i a := fun a ha => by rw [← hj2, oi_c (by omega), oi_c (by omega), oi_c (by omega)]; exact r1 a ha
  have h3 := upto (fun k => Mo_take_137 o (nI b) (nI k) (oi j2 111 0 k (fun k => τ 5 k), l, Rp s r p)) 224 (fun k hk => by
    show Mo_take_137 _ _ _ _ = Mo_take_137 _ _ _ _
    have e : oi j2 111 0 k (fun k => τ 5 k) o (b + 29 + k) = τ 5 k := by
      rw [oi_c (by omega), r2 o (by omega)]; exact c8 k hk
    rw [Mo_take_137_eq _ _ _ _ _ _ _ _ ho]
    simp (disch := omega) only [nI_mul, nI_add, nI_clamp, gd_in, gd_0, gd_1, gd_b, gd_n0, ifc_lt, ifc_eq, ifc_neg, ifc_z, ifc_pos, ifc_b, if_pos, if_neg, crV_t, crI_t, crL_t, ifc_True, ifc_False, if_true, if_false, e]
    rw [oi_s rfl]) 0 (by omega)
  simp only [oi_00] at h3
  rw [h3, Mo_take_137_eq _ _ _ _ _ _ _ _ ho, ifc_f (by decide)]
  have low : ∀ a, a ≠ 110 → a ≠ 111 → a ≠ 112 → a ≠ 113 → a ≠ 114 → oi j2 111 0 224 (fun k => τ 5 k) a = j0 a := fun a x1 x2 x3 x4 x5 => by rw [oi_c x2, ← hj2, oi_c x5, oi_c x4, oi_c x3, ← hj1, oi_c x1]
  refine ⟨_, rfl, ⟨?_, ?_, fun k hk => ?_, fun k hk => ?_, fun k hk => ⟨?_, ?_, ?_⟩, ?_, ?_, ?_, ?_⟩, fun a ha => by rw [oi_c (by omega)]; exact r2 a ha, ?_⟩
  · rw [low 108 (by decide) (by decide) (by decide) (by decide) (by decide), ← hj0]; simp (disch := omega) only [u2_s, u2_i, u2_k]
  · rw [low 109 (by decide) (by decide) (by decide) (by decide) (by decide), ← hj0]; simp (disch := omega) only [u2_s, u2_i, u2_k]
  · rw [oi_c (by decide), ← hj2, oi_c (by decide), oi_c (by decide), oi_c (by decide), ← hj1, show 3 * 0 + k = k by omega, oi_0 _ _ _ hk, u2_i (by decide)]
  · rw [show 224 * 0 + k = k by omega, oi_0 _ _ _ hk, u2_i (by decide)]
  · rw [oi_c (by decide), ← hj2, oi_c (by decide), oi_c (by decide), show 7 * 0 + k = k by omega, oi_0 _ _ _ hk, u2_i (by decide)]
  · rw [oi_c (by decide), ← hj2, oi_c (by decide), show 7 * 0 + k = k by omega, oi_0 _ _ _ hk, u2_i (by decide)]
  · rw [oi_c (by decide), ← hj2, show 7 * 0 + k = k by omega, oi_0 _ _ _ hk, u2_i (by decide)]
  · rw [low 115 (by decide) (by decide) (by decide) (by decide) (by decide), ← hj0]; simp (disch := omega) only [u2_s, u2_i, u2_k]
  · rw [low 116 (by decide) (by decide) (by decide) (by decide) (by decide), ← hj0]; simp (disch := omega) only [u2_s, u2_i, u2_k]
  · rw [low 117 (by decide) (by decide) (by decide) (by decide) (by decide), ← hj0]; simp (disch := omega) only [u2_s, u2_i, u2_k]
  · rw [low 118 (by decide) (by decide) (by decide) (by decide) (by decide), r0 118 (by omega), u2_s]
  · intro a k hq
    by_cases x1 : a = 110
    · subst x1
      have hk : ¬ (0 ≤ k ∧ k < 0 + 3) := by unfold qR at hq; simp at hq; omega
      rw [oi_c (by decide), ← hj2, oi_c (by decide), oi_c (by decide), oi_c (by decide), ← hj1, oi_k hk, ← hj0]
      simp (disch := omega) only [u2_s, u2_i, u2_k]
    · by_cases x2 : a = 111
      · subst x2
        have hk : ¬ (0 ≤ k ∧ k < 0 + 224) := by unfold qR at hq; simp at hq; omega
        rw [oi_k hk, ← hj2, oi_c (by decide), oi_c (by decide), oi_c (by decide), ← hj1, oi_c (by decide), ← hj0]
        simp (disch := omega) only [u2_s, u2_i, u2_k]
      · by_cases x3 : a = 112 ∨ a = 113 ∨ a = 114
        · have hk : ¬ (0 ≤ k ∧ k < 0 + 7) := by
            rcases x3 with rfl | rfl | rfl <;> (unfold qR at hq; simp at hq; omega)
          rw [oi_c x2, ← hj2, oi_k hk, oi_k hk, oi_k hk, ← hj1, oi_c x1, ← hj0]
          simp (disch := omega) only [u2_s, u2_i, u2_k]
        · rw [low a x1 x2 (by omega) (by omega) (by omega), ← hj0]
          by_cases x4 : a = 108 ∨ a = 109 ∨ a = 115 ∨ a = 116 ∨ a = 117
          · have hk : k ≠ 0 := by
              intro e
              subst e
              rcases x4 with rfl | rfl | rfl | rfl | rfl <;> simp [qR] at hq
            rcases x4 with rfl | rfl | rfl | rfl | rfl <;> simp (disch := omega) only [u2_s, u2_i, u2_k]
          · simp (disch := omega) only [u2_s, u2_i, u2_k]
end
end

section
/-! undo, keep, back, go -/
section
variable {P : PL} {i : Nat → Nat → Int32} {l : Nat → Nat → Int64} {s r p : Nat}
theorem unpk_ok {τ : ST} {b : Nat} (hb : b + 28 ≤ 560) (hC : CPk τ b i) : ∃ j, State_unpack (nI b) (i, l, Rp s r p) = some (none, (j, l, Rp s r p)) ∧ (j 51 7 = τ 0 7 ∧ j 51 8 = τ 0 8 ∧ j 51 9 = τ 0 9 ∧ j 51 11 = τ 0 11) ∧ (∀ k, k ≠ 7 → k ≠ 8 → k ≠ 9 → k ≠ 11 → j 51 k = i 51 k) ∧ (∀ k, k < 3 → j 52 k = τ 1 k) ∧ (∀ k, k < 7 → j 53 k = τ 2 k ∧ j 54 k = τ 3 k ∧ j 55 k = τ 4 k) ∧ ∀ a, a < 51 ∨ 55 < a → j a = i a := by
  obtain ⟨⟨c1, c2, c3, c4⟩, c5, c6⟩ := hC
  rw [State_unpack_eq]
  simp (disch := omega) only [nI_add, nI_clamp, gd_in, gd_cp]
  rw [c1, c2, c3, c4]
  refine ⟨_, rfl, ⟨?_, ?_, ?_, ?_⟩, fun k x1 x2 x3 x4 => ?_, fun k hk => ?_, fun k hk => ⟨?_, ?_, ?_⟩, fun a ha => ?_⟩
  · simp (disch := omega) only [u2_s, u2_i, u2_k, cpy2_i]
  · simp (disch := omega) only [u2_s, u2_i, u2_k, cpy2_i]
  · simp (disch := omega) only [u2_s, u2_i, u2_k, cpy2_i]
  · simp (disch := omega) only [u2_s, u2_i, u2_k, cpy2_i]
  · simp (disch := omega) only [u2_s, u2_i, u2_k, cpy2_i]
  · simp (disch := omega) only [u2_s, u2_i, u2_k, cpy2_i, cpy2_in]
    rw [show b + 4 + (k - 0) = b + 4 + k by omega]; exact c5 k hk
  · simp (disch := omega) only [u2_s, u2_i, u2_k, cpy2_i, cpy2_in]
    rw [show b + 4 + 3 + (k - 0) = b + 7 + k by omega]; exact (c6 k hk).1
  · simp (disch := omega) only [u2_s, u2_i, u2_k, cpy2_i, cpy2_in]
    rw [show b + 4 + 3 + 7 + (k - 0) = b + 14 + k by omega]; exact (c6 k hk).2.1
  · simp (disch := omega) only [u2_s, u2_i, u2_k, cpy2_i, cpy2_in]
    rw [show b + 4 + 3 + 14 + (k - 0) = b + 21 + k by omega]; exact (c6 k hk).2.2
  · simp (disch := omega) only [u2_r, cpy2_r]
theorem undo_pr (h : INV P i l s r p) : PrI (GT_undo) (Mo_undo) P i l s r p := by
  obtain ⟨hp0, hr, hw, hPC, hPM, hNI, hs, hS, hdr, hco, hrest⟩ := id h
  have hp : p = 7 ∨ p = 27 := by omega
  have h7 := hw.1.1
  have h8 := hw.1.2.1
  have h3 := hw.1.2.2.1
  have hth := INV_th h
  obtain ⟨c, nx, E, hU⟩ : UI P i := h.2.2.2.2.2.2.2.2.2.2.1
  obtain ⟨u1, u2', u3, u4, u5, u6⟩ := id hU
  by_cases hc0 : c = 0
  · subst hc0
    refine ⟨nM 1, i, l, _, l, ?_, ?_, hth⟩
    · rw [GT_undo_eq, u3, ifc_t nI_0]
    · rw [Mo_undo_eq, u4, ifc_t nI_0]
  · obtain ⟨e1, e2, e3, e4⟩ := u6 (c - 1) (by omega)
    generalize hτ : E (c - 1) = τ at *
    have eix : (nx + 20 - c + (c - 1)) % 20 = (nx + 19) % 20 := by omega
    rw [eix] at e3
    generalize hj0 : u2 (u2 i 72 1 (nI ((nx + 19) % 20))) 72 2 (nI (c - 1)) = j0
    have r0 : ∀ a, a ≠ 72 → j0 a = i a := fun a ha => by rw [← hj0, u2_r ha, u2_r ha]
    have hrow : 28 * ((nx + 19) % 20) + 28 ≤ 560 := by omega
    obtain ⟨g, a0, ⟨a1, a2, a3, a4⟩, a5, a6, a7, a8⟩ := unpk_ok (l := l) (s := s) (r := r) (p := p) (i := j0) hrow (CPk_row e3 (r0 73 (by decide)))
    have hC : GT_undo (i, l, Rp s r p) = some (some (.int (nI (c - 1))), (g, l, Rp s r p)) := by
      rw [GT_undo_eq, u3, ifc_f (nI_ne0 (by omega) (by omega)), Past_recall_eq, u5, u3]
      simp only [nI_add]
      rw [pk_sub (by omega), show nx + 20 - 1 = nx + 19 by omega, nI_mod (by omega) (by omega) (by omega), nI_mul, pk_sub (by omega), hj0, Nat.mul_comm, gd_n0 (by omega) (by omega), a0, crV_t, crV_t, a8 72 (by omega), ← hj0, u2_s]
    have ga5 : ∀ a, 82 ≤ a → g a = i a := fun a ha => (a8 a (by omega)).trans (r0 a (by omega))
    generalize hm0 : u2 (u2 g 82 2 (nI 0)) 82 85 (nI (c - 1)) = m0'
    have rm : ∀ a, a ≠ 82 → m0' a = g a := fun a ha => by rw [← hm0, u2_r ha, u2_r ha]
    have hR' : RPk τ (253 * (c - 1)) 126 m0' := RPk_row e4 ((rm 126 (by decide)).trans (ga5 126 (by omega)))
    have g126 : gN 126 = 5060 := by decide
    obtain ⟨m, b0, b1, b2, b3⟩ := rtake_ok (l := l) (s := s) (r := r) (p := p) (i := m0') (Or.inl rfl) (by omega) hR'
    have e118 : m0' 118 0 = τ 0 6 := by
      rw [rm 118 (by decide), ga5 118 (by omega)]
      exact (hS.2.2.2.2.2.2.2.2).trans e2.2.2.1.symm
    rw [e118, u2_self rfl] at b1
    have m85 : m 82 85 = nI (c - 1) := by rw [b2 82 (by omega), ← hm0, u2_s]
    have hRR : Mo_undo (g, l, Rp s r p) = some (some (.int (nI (c - 1))), (m, l, Rp s r p)) := by
      have g85 : g 82 85 = nI c := by rw [ga5 82 (by omega)]; exact u4
      rw [Mo_undo_eq, g85, ifc_f (nI_ne0 (by omega) (by omega)), pk_sub (by omega), nI_mul, hm0, b0, crV_t, m85]
    have srgE : srg τ (vw 51 g) := by
      obtain ⟨q5, q6, q06, q10, q12⟩ := e2
      have g0 : ∀ k, k ≠ 7 → k ≠ 8 → k ≠ 9 → k ≠ 11 → vw 51 g 0 k = vw 51 i 0 k := fun k x1 x2 x3 x4 => (a5 k x1 x2 x3 x4).trans (congrFun (r0 51 (by decide)) k)
      refine ⟨fun k h1 h2 => ?_, fun k hk => (a6 k hk).symm, fun k hk => ⟨(a7 k hk).1.symm, (a7 k hk).2.1.symm, (a7 k hk).2.2.symm⟩, fun k hk => ?_, fun k hk => ?_⟩
      · have hk : k = 6 ∨ k = 7 ∨ k = 8 ∨ k = 9 ∨ k = 10 ∨ k = 11 ∨ k = 12 := by omega
        rcases hk with rfl | rfl | rfl | rfl | rfl | rfl | rfl
        · rw [g0 6 (by decide) (by decide) (by decide) (by decide)]; exact q06
        · exact a1.symm
        · exact a2.symm
        · exact a3.symm
        · rw [g0 10 (by decide) (by decide) (by decide) (by decide)]; exact q10
        · exact a4.symm
        · rw [g0 12 (by decide) (by decide) (by decide) (by decide)]; exact q12
      · have : vw 51 g 5 k = vw 51 i 5 k := congrFun ((a8 56 (by omega)).trans (r0 56 (by decide))) k
        rw [this]; exact q5 k hk
      · have : vw 51 g 6 k = vw 51 i 6 k := congrFun ((a8 57 (by omega)).trans (r0 57 (by decide))) k
        rw [this]; exact q6 k hk
    have em : ∀ a, a < 82 → m a = g a := fun a ha => (b2 a (by omega)).trans (rm a (by omega))
    have ev : ∀ a, a < 7 → m (51 + a) = g (51 + a) := fun a ha => em _ (by omega)
    have fm : fr qM i m := fun a k hq => by
      by_cases h82 : a < 82
      · rw [em a h82]
        have x72 : a ≠ 72 := fun e => by subst e; simp [qM] at hq
        have x51 : a < 51 ∨ 55 < a := by
          refine Classical.byContradiction (fun hno => ?_)
          have : 51 ≤ a ∧ a ≤ 57 := by omega
          unfold qM at hq
          rw [decide_eq_true this.1, decide_eq_true this.2] at hq
          simp at hq
        rw [a8 a x51, r0 a x72]
      · have hq2 := qR_M hq
        rw [b3 a k hq2]
        by_cases e82 : a = 82
        · subst e82
          have x85 : k ≠ 85 := fun e => by subst e; simp [qM] at hq
          have x2 : k ≠ 2 := fun e => by subst e; simp [qM, qS] at hq
          rw [← hm0, u2_k x85, u2_k x2, ga5 82 (by omega)]
        · rw [rm a e82, ga5 a (by omega)]
    refine ⟨_, g, l, m, l, hC, hRR, ?_⟩
    have e12 : m 51 12 = i 51 12 := by
      rw [show m 51 = g 51 from ev 0 (by omega), a5 12 (by decide) (by decide) (by decide) (by decide), r0 51 (by decide)]
    refine INV_M h fm (swf_rw (swf_srg srgE e1) ev) (SM_rw (SM_srg srgE b1) ev) ?_ ?_ ?_ ?_ ?_ rfl
    · unfold NetI NetOk NR
      rw [em 26 (by omega), em 43 (by omega), em 44 (by omega), em 45 (by omega), a8 26 (by omega), a8 43 (by omega), a8 44 (by omega), a8 45 (by omega), r0 26 (by decide), r0 43 (by decide), r0 44 (by decide), r0 45 (by decide)]
      exact hNI
    · rw [e12]; exact hdr
    · rw [b2 82 (by omega), ← hm0, u2_k (by decide), u2_k (by decide), ga5 82 (by omega)]; exact hco
    · refine ⟨c - 1, (nx + 19) % 20, E, by omega, by omega, ?_, m85, ?_, fun e he => ?_⟩
      · rw [em 72 (by omega), a8 72 (by omega), ← hj0, u2_s]
      · rw [em 72 (by omega), a8 72 (by omega), ← hj0, u2_k (by decide), u2_s]
      · obtain ⟨f1, f2, f3, f4⟩ := u6 e (by omega)
        refine ⟨f1, ?_, ?_, ?_⟩
        · obtain ⟨q5, q6, q06, q10, q12⟩ := f2
          have x0 : ∀ k, k ≠ 7 → k ≠ 8 → k ≠ 9 → k ≠ 11 → vw 51 m 0 k = vw 51 i 0 k := fun k y1 y2 y3 y4 => (congrFun (ev 0 (by omega)) k).trans ((a5 k y1 y2 y3 y4).trans (congrFun (r0 51 (by decide)) k))
          have x5 : vw 51 m 5 = vw 51 i 5 := (ev 5 (by omega)).trans ((a8 56 (by omega)).trans (r0 56 (by decide)))
          have x6 : vw 51 m 6 = vw 51 i 6 := (ev 6 (by omega)).trans ((a8 57 (by omega)).trans (r0 57 (by decide)))
          unfold hqs
          rw [x5, x6, x0 6 (by decide) (by decide) (by decide) (by decide), x0 10 (by decide) (by decide) (by decide) (by decide), x0 12 (by decide) (by decide) (by decide) (by decide)]
          exact ⟨q5, q6, q06, q10, q12⟩
        · have ei : ((nx + 19) % 20 + 20 - (c - 1) + e) % 20 = (nx + 20 - c + e) % 20 := by omega
          rw [ei]
          exact CPk_row f3 ((em 73 (by omega)).trans ((a8 73 (by omega)).trans (r0 73 (by decide))))
        · exact RPk_row f4 ((b2 126 (by omega)).trans ((rm 126 (by decide)).trans (ga5 126 (by omega))))
    · exact TB_row h.2.2.2.2.2.2.2.2.2.2.2.2.2.1 (by rw [em 74 (by omega), a8 74 (by omega), r0 74 (by decide)]) (by rw [em 80 (by omega), a8 80 (by omega), r0 80 (by decide)])
def qK (a k : Nat) : Bool := (a == 0 && k == 11) || (decide (58 ≤ a) && decide (a ≤ 64)) || (a == 82 && (k == 2 || k == 87 || k == 89)) || a == 127
theorem keep_pr (h : INV P i l s r p) : PrI (GT_keep) (Mo_keep) P i l s r p := by
  obtain ⟨hp0, hr, hw, hPC, hPM, hNI, hs, hS, hdr, hco, hrest⟩ := id h
  have hp : p = 7 ∨ p = 27 := by omega
  have h7 := hw.1.1
  have h8 := hw.1.2.1
  have h3 := hw.1.2.2.1
  obtain ⟨j, a0, a1, a2⟩ := copyFrom_ok (i := i) (l := l) (s := s) (r := r) (p := p) (o0 := 58) (o1 := 51) (by omega)
  have hC : GT_keep (i, l, Rp s r p) = some (some (.int (i 51 6)), (u2 j 0 11 (nI 1), l, Rp s r p)) := by
    rw [GT_keep_eq, a0, crV_t, gd_1, a2 51 (by omega)]
  generalize hg : u2 j 0 11 (nI 1) = g at hC
  have rg : ∀ a, a ≠ 0 → a < 58 ∨ 64 < a → g a = i a := fun a x1 x2 => by rw [← hg, u2_r x1, a2 a x2]
  generalize hm0 : u2 (u2 g 82 2 (nI 0)) 82 87 (nI 1) = m0'
  have rm : ∀ a, a ≠ 82 → m0' a = g a := fun a ha => by rw [← hm0, u2_r ha, u2_r ha]
  have S0 : SM 0 (vw 51 i) m0' := SM_fr hS (fun a h1 h2 => (rm a (by omega)).trans (rg a (by omega) (by omega)))
  have g127 : gN 127 = 253 := by decide
  obtain ⟨m, b0, b1, b2, b3⟩ := rput_ok (l := l) (s := s) (r := r) (p := p) (i := m0') (o := 127) (b := 0) (Or.inr rfl) (by omega) S0
  have e118 : m 118 0 = i 51 6 := by
    rw [b1 118 (by decide)]; exact S0.2.2.2.2.2.2.2.2
  have hR : Mo_keep (g, l, Rp s r p) = some (some (.int (i 51 6)), (u2 m 82 89 (i 51 6), u2 l 82 90 (l 82 65), Rp s r p)) := by
    rw [Mo_keep_eq, gd_1, hm0, b0, crV_t, gd_in (by omega) (by omega), gd_in (by omega) (by omega), nI_clamp (by omega), e118]
  refine ⟨_, g, l, _, _, hC, hR, ?_⟩
  generalize hM : u2 m 82 89 (i 51 6) = M
  have eM : ∀ a, a ≠ 82 → a ≠ 127 → M a = g a := fun a x1 x2 => by rw [← hM, u2_r x1, b1 a x2, rm a x1]
  have eM82 : ∀ k, k ≠ 2 → k ≠ 87 → k ≠ 89 → M 82 k = i 82 k := fun k x1 x2 x3 => by rw [← hM, u2_k x3, b1 82 (by decide), ← hm0, u2_k x2, u2_k x1, rg 82 (by omega) (by omega)]
  have eR : ∀ a, a ≠ 0 → a < 58 ∨ 64 < a → a ≠ 82 → a ≠ 127 → M a = i a := fun a x1 x2 x3 x4 => (eM a x3 x4).trans (rg a x1 x2)
  have e0 : ∀ k, k ≠ 11 → M 0 k = i 0 k := fun k hk => by rw [eM 0 (by decide) (by decide), ← hg, u2_k hk, a2 0 (by omega)]
  obtain ⟨hp0, hr, hw, h1, h2, h3, h4, h5, h6, h7, h8, h9, h10, h11, h12, h13, h14⟩ := h
  have v51 : ∀ a, a < 7 → M (51 + a) = i (51 + a) := fun a ha => eR _ (by omega) (by omega) (by omega) (by omega)
  refine ⟨hp0, hr, hw, PC_fr h1 (fun a ha => eR _ (by omega) (by omega) (by omega) (by omega)), ?_, ?_, swf_rw h4 v51, SM_rw (SM_fr h5 (fun a x y => eR a (by omega) (by omega) (by omega) (by omega))) v51, ?_, (eM82 73 (by decide) (by decide) (by decide)).trans h7, ?_, ?_, ?_, ?_, ?_, ?_, ?_⟩
  · exact PM_fr hw h2 (fun a k hq => by
      by_cases x82 : a = 82
      · subst x82
        exact eM82 k (fun e => by subst e; simp [qPM] at hq) (fun e => by subst e; simp [qPM] at hq) (fun e => by subst e; simp [qPM] at hq)
      · have : 82 ≤ a ∧ a ≠ 127 := by unfold qPM at hq; simp at hq; omega
        rw [eR a (by omega) (by omega) x82 this.2])
  · unfold NetI NetOk NR
    rw [eR 26 (by decide) (by omega) (by decide) (by decide), eR 43 (by decide) (by omega) (by decide) (by decide), eR 44 (by decide) (by omega) (by decide) (by decide), eR 45 (by decide) (by omega) (by decide) (by decide)]
    exact h3
  · rw [u2_k (by decide), show M 51 = i 51 from v51 0 (by omega)]; exact h6
  · exact UI_row h8 v51 (eR 72 (by decide) (by omega) (by decide) (by decide)) (eR 73 (by decide) (by omega) (by decide) (by decide)) (eM82 85 (by decide) (by decide) (by decide)) (eR 126 (by decide) (by omega) (by decide) (by decide))
  · have v58 : ∀ a, a < 7 → M (58 + a) = j (58 + a) := fun a ha => by rw [eM _ (by omega) (by omega), ← hg, u2_r (by omega)]
    refine ⟨true, ?_, ?_, fun _ => ⟨swf_rw (swf_srg (srg_symm a1) h4) v58, ?_, ?_, ?_⟩⟩
    · rw [eM 0 (by decide) (by decide), ← hg, u2_s]; rfl
    · rw [← hM, u2_k (by decide), b1 82 (by decide), ← hm0, u2_s]; rfl
    · have b3' : RPk (vw 58 j) 0 127 m := RPk_srg (srg_symm a1) b3
      have b4 : RPk (vw 58 j) 0 127 M := RPk_row b3' (by rw [← hM, u2_r (by decide)])
      unfold RPk vw at b4 ⊢
      rw [v58 0 (by omega), v58 1 (by omega), v58 2 (by omega), v58 3 (by omega), v58 4 (by omega), v58 5 (by omega)]
      exact b4
    · rw [← hM, u2_s, hM, show M 58 = j 58 from v58 0 (by omega)]
      exact (a1.1 6 (by omega) (by omega)).symm
    · rw [u2_s, show M 58 = j 58 from v58 0 (by omega), h6]
      exact congrArg Int32.toInt64 (a1.1 12 (by omega) (by omega)).symm
  · exact NT_row h10 (by rw [eR 74 (by decide) (by omega) (by decide) (by decide)]) (by rw [eR 74 (by decide) (by omega) (by decide) (by decide)]) (eM82 80 (by decide) (by decide) (by decide)) (eM82 81 (by decide) (by decide) (by decide)) (fun a x y => eR a (by omega) (by omega) (by omega) (by omega)) (eR 123 (by decide) (by omega) (by decide) (by decide))
  · exact TB_row h11 (by rw [eR 74 (by decide) (by omega) (by decide) (by decide)]) (eR 80 (by decide) (by omega) (by decide) (by decide))
  · exact TP_row h12 (by rw [eR 1 (by decide) (by omega) (by decide) (by decide)]) (eM82 1 (by decide) (by decide) (by decide)) (eR 83 (by decide) (by omega) (by decide) (by decide)) (eR 2 (by decide) (by omega) (by decide) (by decide))
  · exact ⟨(e0 12 (by decide)).trans (h13.1.trans (eM82 4 (by decide) (by decide) (by decide)).symm), (e0 13 (by decide)).trans (h13.2.trans (eM82 5 (by decide) (by decide) (by decide)).symm)⟩
  · exact WD_row h14 (eR 3 (by decide) (by omega) (by decide) (by decide)) (eR 84 (by decide) (by omega) (by decide) (by decide))
theorem back_pr (h : INV P i l s r p) : PrI (GT_back) (Mo_back) P i l s r p := by
  obtain ⟨hp0, hr, hw, hPC, hPM, hNI, hs, hS, hdr, hco, hrest⟩ := id h
  have hp : p = 7 ∨ p = 27 := by omega
  have h7 := hw.1.1
  have h8 := hw.1.2.1
  have h3 := hw.1.2.2.1
  have hth := INV_th h
  obtain ⟨kb, k1, k2, k3⟩ : II P i l := h.2.2.2.2.2.2.2.2.2.2.2.1
  cases kb
  · refine ⟨nM 1, i, l, _, l, ?_, ?_, hth⟩
    · rw [GT_back_eq, k1, ifc_b, if_neg (by decide)]
    · rw [Mo_back_eq, k2, ifc_b, if_neg (by decide)]
  · obtain ⟨e1, e2, e3, e4⟩ := k3 rfl
    obtain ⟨c, nx, E, hU⟩ : UI P i := h.2.2.2.2.2.2.2.2.2.2.1
    obtain ⟨j, a0, a1, a2⟩ := copyFrom_ok (i := i) (l := l) (s := s) (r := r) (p := p) (o0 := 51) (o1 := 58) (by omega)
    have e6 : j 51 6 = i 58 6 := a1.1 6 (by omega) (by omega)
    have hC : GT_back (i, l, Rp s r p) = some (some (.int (i 58 6)), (u2 j 72 2 (nI 0), l, Rp s r p)) := by
      rw [GT_back_eq, k1, ifc_f (by decide), a0, crV_t, Past_clear_eq, crV_t, u2_i (by decide), e6]
    generalize hg : u2 j 72 2 (nI 0) = g at hC
    have rg : ∀ a, a ≠ 72 → a < 51 ∨ 57 < a → g a = i a := fun a x1 x2 => by rw [← hg, u2_r x1, a2 a x2]
    have g127 : gN 127 = 253 := by decide
    have hR0 : RPk (vw 58 i) 0 127 (u2 g 82 2 (nI 0)) := RPk_row e2 ((u2_r (by decide)).trans (rg 127 (by decide) (by omega)))
    obtain ⟨m, b0, b1, b2, b3⟩ := rtake_ok (l := l) (s := s) (r := r) (p := p) (i := u2 g 82 2 (nI 0)) (o := 127) (b := 0) (Or.inr rfl) (by omega) hR0
    have m89 : m 82 89 = i 58 6 := by rw [b2 82 (by omega), u2_k (by decide), rg 82 (by decide) (by omega)]; exact e3
    have hR : Mo_back (g, l, Rp s r p) = some (some (.int (i 58 6)), (u2 (u2 m 118 0 (i 58 6)) 82 85 (nI 0), u2 l 82 65 (l 82 90), Rp s r p)) := by
      have g87 : g 82 87 = nI 1 := by rw [rg 82 (by decide) (by omega)]; exact k2
      rw [Mo_back_eq, g87, ifc_f (by decide), b0, crV_t, gd_in (by omega) (by omega), gd_in (by omega) (by omega), nI_clamp (by omega), m89, u2_i (by decide), u2_s]
    refine ⟨_, g, l, _, _, hC, hR, ?_⟩
    generalize hM : u2 (u2 m 118 0 (i 58 6)) 82 85 (nI 0) = M
    have eM : ∀ a, a < 82 → M a = g a := fun a ha => by rw [← hM, u2_r (by omega), u2_r (by omega), b2 a (by omega), u2_r (by omega)]
    have ev : ∀ a, a < 7 → M (51 + a) = j (51 + a) := fun a ha => (eM _ (by omega)).trans (by rw [← hg, u2_r (by omega)])
    have SM1 : SM 0 (vw 58 i) M := by
      have hx := SM_6 (x := i 58 6) b1
      rw [u2_u2, u2_self (show vw 58 i 0 6 = i 58 6 from rfl)] at hx
      exact SM_fr hx (fun a h1 h2 => by rw [← hM, u2_r (by omega)])
    have fm : fr qM i M := fun a k hq => by
      by_cases h82 : a < 82
      · rw [eM a h82]
        have x72 : a ≠ 72 := fun e => by subst e; simp [qM] at hq
        have x51 : a < 51 ∨ 57 < a := by
          refine Classical.byContradiction (fun hno => ?_)
          have : 51 ≤ a ∧ a ≤ 57 := by omega
          unfold qM at hq
          rw [decide_eq_true this.1, decide_eq_true this.2] at hq
          simp at hq
        rw [rg a x72 x51]
      · have hq2 := qR_M hq
        have x118 : a ≠ 118 := fun e => by subst e; simp [qM] at hq
        by_cases e82 : a = 82
        · subst e82
          have x85 : k ≠ 85 := fun e => by subst e; simp [qM] at hq
          have x2 : k ≠ 2 := fun e => by subst e; simp [qM, qS] at hq
          rw [← hM, u2_k x85, u2_i x118, b3 82 k hq2, u2_k x2, rg 82 (by decide) (by omega)]
        · rw [← hM, u2_i e82, u2_i x118, b3 a k hq2, u2_i e82, rg a (by omega) (by omega)]
    refine INV_M h fm (swf_rw (swf_srg (srg_symm a1) e1) ev) (SM_rw (SM_srg (srg_symm a1) SM1) ev) ?_ ?_ ?_ ?_ ?_ ?_
    · unfold NetI NetOk NR
      rw [eM 26 (by omega), eM 43 (by omega), eM 44 (by omega), eM 45 (by omega), rg 26 (by decide) (by omega), rg 43 (by decide) (by omega), rg 44 (by decide) (by omega), rg 45 (by decide) (by omega)]
      exact hNI
    · rw [u2_s, e4, show M 51 = j 51 from ev 0 (by omega)]
      exact congrArg Int32.toInt64 (a1.1 12 (by omega) (by omega)).symm
    · rw [← hM, u2_k (by decide), u2_i (by decide), b2 82 (by omega), u2_k (by decide), rg 82 (by decide) (by omega)]; exact hco
    · refine ⟨0, nx, E, by omega, hU.2.1, ?_, ?_, ?_, fun e he => by omega⟩
      · rw [eM 72 (by omega), ← hg, u2_s]
      · rw [← hM, u2_s]
      · rw [eM 72 (by omega), ← hg, u2_k (by decide), a2 72 (by omega)]; exact hU.2.2.2.2.1
    · exact TB_row h.2.2.2.2.2.2.2.2.2.2.2.2.2.1 (by rw [eM 74 (by omega), rg 74 (by decide) (by omega)]) (by rw [eM 80 (by omega), rg 80 (by decide) (by omega)])
    · rw [u2_k (by decide)]
end
end

section
/-! go; what both try -/
def mG : MD := (true, false, 5, nM 1)
theorem qC_S {a k : Nat} (h : qS a k = false) : qC 65 a k = false := by
  cases hn : qC 65 a k
  · rfl
  · exfalso
    have h1 : (65 ≤ a ∧ a ≤ 71) ∨ a = 43 ∨ a = 44 ∨ a = 45 ∨ a = 48 ∨ a = 49 ∨ a = 50 ∨ (a = 26 ∧ (k = 4 ∨ k = 5)) := by
      unfold qC at hn
      simp at hn
      omega
    rcases h1 with h2 | rfl | rfl | rfl | rfl | rfl | rfl | ⟨rfl, rfl | rfl⟩
    · unfold qS at h
      rw [decide_eq_true h2.1, decide_eq_true h2.2] at h
      simp at h
    all_goals simp [qS] at h
theorem qR1_S {a k : Nat} (h : qS a k = false) : qR 1 a k = false := by
  cases hn : qR 1 a k
  · rfl
  · exfalso
    have h1 : (a = 82 ∧ (k = 53 ∨ k = 76)) ∨ a = 119 ∨ a = 120 ∨ a = 121 ∨ a = 122 ∨ ((a = 108 ∨ a = 109 ∨ a = 115 ∨ a = 116 ∨ a = 117 ∨ a = 118) ∧ k = 1) ∨ (a = 110 ∧ 3 ≤ k) ∨ (a = 111 ∧ 224 ≤ k) ∨ ((a = 112 ∨ a = 113 ∨ a = 114) ∧ 7 ≤ k) := by
      unfold qR at hn
      simp at hn
      omega
    rcases h1 with ⟨rfl, rfl | rfl⟩ | rfl | rfl | rfl | rfl | ⟨rfl | rfl | rfl | rfl | rfl | rfl, rfl⟩ | ⟨rfl, h2⟩ | ⟨rfl, h2⟩ | ⟨rfl | rfl | rfl, h2⟩
    all_goals first | (simp [qS] at h; done) | (simp [qS] at h; omega)
theorem lS_fL {m : MD} {l l' : Nat → Nat → Int64} (hm : m.1 = false) (h : fL m l l') : lS l l' := fun a _ x y => by
  by_cases e : a = 82
  · subst e
    funext k
    by_cases ek : k = 65
    · subst ek; exact h.2.2 hm
    · exact h.2.1 k ek
  · exact h.1 a e x y
section
variable {P : PL} {i : Nat → Nat → Int32} {l : Nat → Nat → Int64} {s r p : Nat}
theorem cdraw_ok : Course_drawing (i, l, Rp s r p) = some (none, (u2 (cpl i (nI 0)) 47 4 (nI 1), l, Rp s r p)) := by
  have := cplain_ok (i := i) (l := l) (s := s) (r := r) (p := p) false
  rw [Course_drawing_eq, show nI 0 = nI (false).toNat from rfl, this, crV_t, gd_1]
theorem cdraw_CM : CM mG (u2 (cpl i (nI 0)) 47 4 (nI 1)) := by
  unfold CM cpl mG
  refine ⟨?_, ?_, ?_, ?_⟩ <;> (simp (disch := omega) only [u2_s, u2_i, u2_k]) <;> rfl
theorem go_pr (h : INV P i l s r p) (x1 : Int32) : PrI (GT_go x1) (Mo_go x1) P i l s r p := by
  obtain ⟨hp0, hr, hw, hPC, hPM, hNI, hs, hS, hdr, hco, hrest⟩ := id h
  have hp : p = 7 ∨ p = 27 := by omega
  have h7 := hw.1.1
  have h8 := hw.1.2.1
  have h3 := hw.1.2.2.1
  have hth := INV_th h
  have e118 : u2 i 82 2 (nI 0) 118 0 = i 51 6 := (u2_i (by decide)).trans hS.2.2.2.2.2.2.2.2
  have hin : ∀ (a b : Option (Option Value × AM)), ifc (x1 < 0) a (ifc (nI 200 < x1) a b) = if isn 201 x1 = true then b else a := fun a b => ifc_isn2 (by decide) x1 a b
  have go_ : ∀ v, GT_go x1 (i, l, Rp s r p) = some (some (.int v), (i, l, Rp s r p)) → Mo_go x1 (i, l, Rp s r p) = some (some (.int v), (u2 i 82 2 (nI 0), l, Rp s r p)) → PrI (GT_go x1) (Mo_go x1) P i l s r p := fun v h1 h2 => ⟨_, i, l, _, l, h1, h2, hth⟩
  cases h1 : isn 201 x1
  · refine go_ (nM 1) ?_ ?_
    · simp only [GT_go_eq, hin, h1, crI_t, crV_t, crL_t, ifc_b, Bool.false_eq_true, if_false, if_true]
    · simp only [Mo_go_eq, rIn_ok (show 200 + 1 < 2 ^ 31 by decide), h1, crI_t, crV_t, crL_t, ifc_b, Bool.false_eq_true, if_false, if_true]
  · by_cases hbig : nI 9000 < i 51 6 + x1
    · refine go_ (nM 1) ?_ ?_
      · simp only [GT_go_eq, hin, h1, ifc_t hbig, crI_t, crV_t, crL_t, ifc_b, Bool.false_eq_true, if_false, if_true]
      · simp only [Mo_go_eq, rIn_ok (show 200 + 1 < 2 ^ 31 by decide), h1, crI_t, crV_t, crL_t, ifc_b, Bool.false_eq_true, if_false, if_true]
        rw [gd_in (by omega) (by omega), nI_clamp (by omega), e118, ifc_t hbig]
    · obtain ⟨n, hn, rfl⟩ := isn_t h1
      obtain ⟨c, nx, E, hU⟩ : UI P i := h.2.2.2.2.2.2.2.2.2.2.1
      -- the component
      have hj1 : ∃ j1, GT_go (nI n) (i, l, Rp s r p) = GT_go_39 (nI n) (j1, l, Rp s r p) ∧ (∀ a, a ≠ 72 → j1 a = i a) ∧ (∀ k, k ≠ 2 → j1 72 k = i 72 k) ∧ j1 72 2 = (if 0 < n then nI 0 else i 72 2) := by
        simp only [GT_go_eq, hin, h1, ifc_f hbig, Past_clear_eq, crI_t, crV_t, crL_t, ifc_b, Bool.false_eq_true, if_false, if_true]
        rw [ifc_pos (by omega)]
        by_cases h0 : 0 < n
        · rw [if_pos h0, if_pos h0]
          exact ⟨_, rfl, fun a ha => u2_r ha, fun k hk => u2_k hk, u2_s _ _ _ _⟩
        · rw [if_neg h0, if_neg h0]
          exact ⟨i, rfl, fun _ _ => rfl, fun _ _ => rfl, rfl⟩
      obtain ⟨j1, c0, c1, c2, c3⟩ := hj1
      generalize hj2 : u2 (cpl j1 (nI 0)) 47 4 (nI 1) = j2
      have r2 : ∀ a, a ≠ 47 → j2 a = j1 a := fun a ha => by rw [← hj2, u2_r ha, cpl_r ha]
      have hM2 : CM mG j2 := by rw [← hj2]; exact cdraw_CM
      have e2 : ∀ a, a ≠ 47 → a ≠ 72 → j2 a = i a := fun a x1 x2 => (r2 a x1).trans (c1 a x2)
      have v2 : vw 51 j2 = vw 51 i ∨ True := Or.inr trivial
      have v2' : ∀ a, a < 7 → vw 51 i a = vw 51 j2 a := fun a ha => (e2 (51 + a) (by omega) (by omega)).symm
      have hN2 : NetI P j2 := by
        unfold NetI NetOk NR
        rw [e2 26 (by decide) (by decide), e2 43 (by decide) (by decide), e2 44 (by decide) (by decide), e2 45 (by decide) (by decide)]
        exact hNI
      obtain ⟨g, l1, d0, d1, d2, d3, d4⟩ := run_ok (l := l) (s := s) (r := r) (n := n) (m := mG) (Or.inl rfl) hp hw (PC_fr hPC (fun a ha => e2 _ (by omega) (by omega))) (by decide) hM2 (swf_cg v2' hs) hN2 (by omega)
      have hC : GT_go (nI n) (i, l, Rp s r p) = some (some (.int (g 51 6)), (g, l1, Rp s r p)) := by
        have hd := cdraw_ok (i := j1) (l := l) (s := s) (r := r) (p := p)
        rw [hj2] at hd
        rw [c0, GT_go_39_eq, hd, crV_t, d0, crV_t]
      have gf : ∀ a, a < 43 ∨ 57 < a → a ≠ 26 → a ≠ 72 → g a = i a := fun a x1 x2 x3 => by
        have e1 : g a = j2 a := funext fun k => d2 a k (by unfold qC; simp; omega)
        rw [e1, e2 a (by omega) x3]
      have g72 : g 72 = j1 72 := (funext fun k => d2 72 k (by simp [qC])).trans (r2 72 (by decide))
      -- the reference
      have ga5 : ∀ a, 82 ≤ a → g a = i a := fun a ha => gf a (by omega) (by omega) (by omega)
      have l82 : l1 82 = l 82 := d4 82 (by decide)
      generalize hm1 : u2 (pT (u2 g 82 2 (nI 0))) 82 66 (nI 1) = m1
      have rm1 : ∀ a, a ≠ 82 → m1 a = g a := fun a ha => by rw [← hm1, u2_r ha, pT_r ha, u2_r ha]
      have m1k : ∀ k, k ≠ 2 → k < 66 ∨ 74 < k → m1 82 k = g 82 k := fun k x1 x2 => by rw [← hm1, u2_k (by omega), pT_k x2, u2_k x1]
      have hRM1 : RM mG m1 := by
        have := pT_RM (i := u2 g 82 2 (nI 0))
        unfold RM at this ⊢
        rw [← hm1, u2_s]
        simp (disch := omega) only [u2_k]
        exact ⟨rfl, this.2.1, this.2.2.1, this.2.2.2.1, this.2.2.2.2.1, this.2.2.2.2.2.1, this.2.2.2.2.2.2.1, this.2.2.2.2.2.2.2⟩
      have hPM1 : PM P m1 := PM_fr hw hPM (fun a k hq => by
        have h82 : 82 ≤ a := by unfold qPM at hq; simp at hq; omega
        by_cases e : a = 82
        · subst e
          have hk : 12 ≤ k ∧ k ≤ 17 := by unfold qPM at hq; simp at hq; omega
          rw [m1k k (by omega) (by omega), ga5 82 (by omega)]
        · rw [rm1 a e, ga5 a h82])
      have S1 : SM 0 (vw 51 j2) m1 := SM_fr (SM_cg v2' hS) (fun a h1 h2 => (rm1 a (by omega)).trans (ga5 a (by omega)))
      have hloop := loop_ex (F := fun k (M : (Nat → Nat → Int32) × (Nat → Nat → Int64)) => Mo_go_43 (nI n) (nI k) (M.1, M.2, Rp s r p)) (I9 := fun k M => SM 0 (tcn P mG (vw 51 j2) k) M.1 ∧ fr (qR 0) m1 M.1 ∧ M.2 82 65 = (tcn P mG (vw 51 j2) k 0 12).toInt64 ∧ fL mG l1 M.2) (n := n) (fun k M hk hI => by
        obtain ⟨f, lf⟩ := M
        obtain ⟨q1, q2, q3, q4⟩ := hI
        simp only at q1 q2 q3 q4
        obtain ⟨g', lg, z0, z1, z2, z3, z4⟩ := rtick_ok (l := lf) (s := s) (r := r) (p := p) hw (PM_qR hw hPM1 q2) (RM_qR hRM1 q2) (swf_tcn hw (swf_cg v2' hs) k) (by omega) q1 (fun _ => q3)
        refine ⟨(g', lg), ?_, z1, fr_trans q2 z2, z3 rfl, fL_trans q4 z4⟩
        show Mo_go_43 (nI n) (nI k) (f, lf, Rp s r p) = _
        rw [Mo_go_43_eq, ifc_t (nI_lt hk (by omega)), z0, crV_t, nI_add]) 0 (m1, l1) (by omega) ⟨S1, fr_refl _ _, by
          show l1 82 65 = (vw 51 j2 0 12).toInt64
          rw [l82, ← v2' 0 (by omega)]; exact hdr, fL_refl _ _⟩
      obtain ⟨⟨m2, l2⟩, q0, q1, q2, q3, q4⟩ := hloop
      simp only at q1 q2 q3 q4
      rw [← d1] at q1 q3
      have m2k : ∀ k, k ≠ 53 → k ≠ 76 → m2 82 k = m1 82 k := fun k x1 x2 => q2 82 k (by simp [qR, x1, x2])
      have e118' : m2 118 0 = g 51 6 := q1.2.2.2.2.2.2.2.2
      generalize hM : u2 (u2 m2 82 66 (nI 0)) 82 85 (if 0 < n then nI 0 else m2 82 85) = M
      have hR : Mo_go (nI n) (g, l1, Rp s r p) = some (some (.int (g 51 6)), (M, l2, Rp s r p)) := by
        have hbig' : ¬ nI 9000 < u2 g 82 2 (nI 0) 118 0 + nI n := by
          rw [u2_i (by decide), ga5 118 (by omega)]
          have : i 118 0 = i 51 6 := hS.2.2.2.2.2.2.2.2
          rw [this]; exact hbig
        simp only [Mo_go_eq, rIn_ok (show 200 + 1 < 2 ^ 31 by decide), h1, plainT_ok, crI_t, crV_t, crL_t, ifc_b, Bool.false_eq_true, if_false, if_true]
        rw [gd_in (by omega) (by omega), nI_clamp (by omega), ifc_f hbig', gd_1, hm1]
        refine (show Mo_go_43 (nI n) (nI 0) (m1, l1, Rp s r p) = _ from q0).trans ?_
        show Mo_go_43 (nI n) (nI n) (m2, l2, Rp s r p) = _
        rw [Mo_go_43_eq, ifc_f (nI_nlt (Nat.le_refl _) (by omega)), gd_0, ifc_pos (by omega), gd_in (by omega) (by omega), nI_clamp (by omega), e118', ← hM]
        by_cases h0 : 0 < n
        · rw [if_pos h0, if_pos h0]
        · rw [if_neg h0, if_neg h0, gd_in (by omega) (by omega)]
      refine ⟨_, g, l1, M, l2, hC, hR, ?_⟩
      have eM : ∀ a, a ≠ 82 → M a = m2 a := fun a ha => by rw [← hM, u2_r ha, u2_r ha]
      have eMg : ∀ a, a < 82 → M a = g a := fun a ha => by
        rw [eM a (by omega)]
        exact (funext fun k => q2 a k (by unfold qR; simp; omega)).trans (rm1 a (by omega))
      have ev : ∀ a, a < 7 → M (51 + a) = g (51 + a) := fun a ha => eMg _ (by omega)
      have M85 : M 82 85 = if 0 < n then nI 0 else nI c := by
        rw [← hM, u2_s, m2k 85 (by decide) (by decide), m1k 85 (by decide) (by omega), ga5 82 (by omega), hU.2.2.2.1]
      have fm : fr qM i M := fun a k hq => by
        by_cases h82 : a < 82
        · rw [eMg a h82]
          have x72 : a ≠ 72 := fun e => by subst e; simp [qM] at hq
          by_cases e26 : a = 26
          · subst e26
            have hk : ¬ (k = 4 ∨ k = 5) := by
              intro e
              rcases e with rfl | rfl <;> simp [qM, qS] at hq
            rw [d2 26 k (by unfold qC; simp; omega), e2 26 (by decide) (by decide)]
          · by_cases h43 : a < 43 ∨ 57 < a
            · rw [gf a h43 e26 x72]
            · have h9 : (43 ≤ a ∧ a ≤ 45) ∨ a = 46 ∨ (47 ≤ a ∧ a ≤ 50) ∨ (51 ≤ a ∧ a ≤ 57) := by omega
              rcases h9 with h9 | rfl | h9 | h9
              · exfalso; unfold qM qS at hq; simp [h9.1, h9.2] at hq
              · rw [d2 46 k (by simp [qC]), e2 46 (by decide) (by decide)]
              · exfalso; unfold qM qS at hq; simp [h9.1, h9.2] at hq
              · exfalso; unfold qM qS at hq; simp [h9.1, h9.2] at hq
        · have hq2 := qR_M hq
          by_cases e82 : a = 82
          · subst e82
            have x85 : k ≠ 85 := fun e => by subst e; simp [qM] at hq
            have x2 : k ≠ 2 := fun e => by subst e; simp [qM, qS] at hq
            have x6 : k < 66 ∨ 74 < k := by
              refine Classical.byContradiction (fun hno => ?_)
              have : 66 ≤ k ∧ k ≤ 74 := by omega
              unfold qM qS at hq
              simp [this.1, this.2] at hq
            rw [← hM, u2_k x85, u2_k (by omega), q2 82 k hq2, m1k k x2 x6, ga5 82 (by omega)]
          · rw [eM a e82, q2 a k hq2, rm1 a e82, ga5 a (by omega)]
      refine INV_M h fm ?_ ?_ ?_ ?_ ?_ ?_ ?_ ?_
      · refine swf_rw ?_ ev
        rw [d1]; exact swf_tcn hw (swf_cg v2' hs) n
      · exact SM_rw (SM_fr q1 (fun a h1 h2 => eM a (by omega))) ev
      · unfold NetI NetOk NR
        rw [eMg 26 (by omega), eMg 43 (by omega), eMg 44 (by omega), eMg 45 (by omega)]
        exact d3
      · rw [show M 51 = g 51 from ev 0 (by omega)]; exact q3
      · rw [← hM, u2_k (by decide), u2_k (by decide), m2k 73 (by decide) (by decide)]
        exact hRM1.2.2.2.2.2.2.2
      · by_cases h0 : 0 < n
        · rw [if_pos h0] at c3 M85
          exact ⟨0, nx, E, by omega, hU.2.1, by rw [eMg 72 (by omega), g72]; exact c3, M85, by rw [eMg 72 (by omega), g72, c2 1 (by decide)]; exact hU.2.2.2.2.1, fun e he => by omega⟩
        · rw [if_neg h0] at c3 M85
          have n0 : n = 0 := by omega
          subst n0
          have ev2 : ∀ a, a < 7 → M (51 + a) = i (51 + a) := fun a ha => by
            rw [ev a ha]
            have : vw 51 g a = vw 51 j2 a := by rw [d1]; rfl
            exact this.trans (v2' a ha).symm
          refine UI_row ⟨c, nx, E, hU⟩ ev2 ?_ ?_ ?_ ?_
          · rw [eMg 72 (by omega), g72]
            funext k
            by_cases k2 : k = 2
            · subst k2; exact c3
            · exact c2 k k2
          · rw [eMg 73 (by omega), gf 73 (by omega) (by decide) (by decide)]
          · rw [M85, hU.2.2.2.1]
          · rw [eM 126 (by decide)]
            exact (funext fun k => q2 126 k (by simp [qR])).trans ((rm1 126 (by decide)).trans (ga5 126 (by omega)))
      · exact TB_row h.2.2.2.2.2.2.2.2.2.2.2.2.2.1 (by rw [eMg 74 (by omega), gf 74 (by omega) (by decide) (by decide)]) (by rw [eMg 80 (by omega), gf 80 (by omega) (by decide) (by decide)])
      · rw [q4.2.1 90 (by decide), l82]
end
end

section
/-! both try: ahead, quiet -/
section
variable {P : PL} {i : Nat → Nat → Int32} {l : Nat → Nat → Int64} {s r p : Nat}
theorem layT_ok {σ : ST} (hS : SM 0 σ i) : ∃ m, Mo_layTried (i, l, Rp s r p) = some (none, (m, l, Rp s r p)) ∧ SM 1 σ m ∧ RM m0 m ∧ fr qS i m ∧ (∀ a, a < 82 → m a = i a) ∧ m 82 73 = nM 1 := by
  obtain ⟨a1, a2, a3, a4, a5, a6, a7, a8, a9⟩ := hS
  rw [Mo_layTried_eq]
  simp (disch := omega) only [gd_in, nI_clamp]
  rw [a1, a2]
  generalize hj0 : u2 (u2 i 108 1 (σ 0 8)) 109 1 (σ 0 7) = j0
  have r0 : ∀ a k, a ≠ 108 ∧ a ≠ 109 ∨ k ≠ 1 → j0 a k = i a k := fun a k ha => by
    rw [← hj0]
    by_cases e1 : a = 109
    · subst e1; rw [u2_k (by omega), u2_i (by decide)]
    · rw [u2_i e1]
      by_cases e2 : a = 108
      · subst e2; rw [u2_k (by omega)]
      · rw [u2_i e2]
  have h1 := upto (fun k => Mo_layTried_26 (nI k) (oi j0 110 3 k (fun k => σ 1 k), l, Rp s r p)) 3 (fun k hk => by
    show Mo_layTried_26 _ _ = Mo_layTried_26 _ _
    have e : oi j0 110 3 k (fun k => σ 1 k) 110 k = σ 1 k := by
      rw [oi_k (by omega), r0 110 k (by omega)]
      have := a3 k hk
      rw [show 3 * 0 + k = k by omega] at this
      exact this
    rw [Mo_layTried_26_eq]
    simp (disch := omega) only [nI_mul, nI_add, nI_clamp, gd_in, gd_0, gd_1, gd_b, gd_n0, ifc_lt, ifc_eq, ifc_neg, ifc_z, ifc_pos, ifc_b, if_pos, if_neg, crV_t, crI_t, crL_t, ifc_True, ifc_False, if_true, if_false, e]
    rw [oi_sb rfl]) 0 (by omega)
  simp only [oi_b0] at h1
  rw [h1, Mo_layTried_26_eq, ifc_f (by decide)]
  generalize hj1 : oi j0 110 3 3 (fun k => σ 1 k) = j1
  have r1 : ∀ a, a ≠ 110 → j1 a = j0 a := fun a ha => by rw [← hj1, oi_c ha]
  have h2 := upto (fun k => Mo_layTried_53 (nI k) (oi j1 111 224 k (fun k => σ 5 k), l, Rp s r p)) 224 (fun k hk => by
    show Mo_layTried_53 _ _ = Mo_layTried_53 _ _
    have e : oi j1 111 224 k (fun k => σ 5 k) 111 k = σ 5 k := by
      rw [oi_k (by omega), r1 111 (by decide), r0 111 k (by omega)]
      have := a4 k hk
      rw [show 224 * 0 + k = k by omega] at this
      exact this
    rw [Mo_layTried_53_eq]
    simp (disch := omega) only [nI_mul, nI_add, nI_clamp, gd_in, gd_0, gd_1, gd_b, gd_n0, ifc_lt, ifc_eq, ifc_neg, ifc_z, ifc_pos, ifc_b, if_pos, if_neg, crV_t, crI_t, crL_t, ifc_True, ifc_False, if_true, if_false, e]
    rw [oi_sb rfl]) 0 (by omega)
  simp only [oi_b0] at h2
  rw [h2, Mo_layTried_53_eq, ifc_f (by decide)]
  generalize hj2 : oi j1 111 224 224 (fun k => σ 5 k) = j2
  have r2 : ∀ a, a ≠ 110 → a ≠ 111 → j2 a = j0 a := fun a h1 h2 => by rw [← hj2, oi_c h2]; exact r1 a h1
  have h3 := upto (fun k => Mo_layTried_84 (nI k) (oi (oi (oi j2 112 7 k (fun k => σ 2 k)) 113 7 k (fun k => σ 3 k)) 114 7 k (fun k => σ 4 k), l, Rp s r p)) 7 (fun k hk => by
    show Mo_layTried_84 _ _ = Mo_layTried_84 _ _
    generalize hm : oi (oi (oi j2 112 7 k (fun k => σ 2 k)) 113 7 k (fun k => σ 3 k)) 114 7 k (fun k => σ 4 k) = m
    obtain ⟨d2, d3, d4⟩ := a5 k hk
    rw [show 7 * 0 + k = k by omega] at d2 d3 d4
    have x2 : m 112 k = σ 2 k := by rw [← hm, oi_c (by decide), oi_c (by decide), oi_k (by omega), r2 112 (by decide) (by decide), r0 112 k (by omega)]; exact d2
    have x3 : m 113 k = σ 3 k := by rw [← hm, oi_c (by decide), oi_k (by omega), oi_c (by decide), r2 113 (by decide) (by decide), r0 113 k (by omega)]; exact d3
    have x4 : m 114 k = σ 4 k := by rw [← hm, oi_k (by omega), oi_c (by decide), oi_c (by decide), r2 114 (by decide) (by decide), r0 114 k (by omega)]; exact d4
    rw [Mo_layTried_84_eq]
    simp (disch := omega) only [nI_mul, nI_add, nI_clamp, gd_in, gd_0, gd_1, gd_b, gd_n0, ifc_lt, ifc_eq, ifc_neg, ifc_z, ifc_pos, ifc_b, if_pos, if_neg, crV_t, crI_t, crL_t, ifc_True, ifc_False, if_true, if_false, x2, x3, x4]
    refine congrArg (fun z => Mo_layTried_84 (nI (k + 1)) (z, l, Rp s r p)) ?_
    rw [← hm, oi_uc (show (114 : Nat) ≠ 112 by decide), oi_uc (show (113 : Nat) ≠ 112 by decide), oi_sb rfl, oi_uc (show (114 : Nat) ≠ 113 by decide), oi_sb rfl, oi_sb rfl]) 0 (by omega)
  simp only [oi_b0] at h3
  rw [h3, Mo_layTried_84_eq, ifc_f (by decide)]
  generalize hj3 : oi (oi (oi j2 112 7 7 (fun k => σ 2 k)) 113 7 7 (fun k => σ 3 k)) 114 7 7 (fun k => σ 4 k) = j3
  have r3 : ∀ a, a < 110 ∨ 114 < a → j3 a = j0 a := fun a ha => by rw [← hj3, oi_c (by omega), oi_c (by omega), oi_c (by omega)]; exact r2 a (by omega) (by omega)
  have q6 : j3 115 0 = σ 0 9 := by rw [r3 115 (by omega), r0 115 0 (by omega)]; exact a6
  have q7 : j3 116 0 = σ 0 10 := by rw [r3 116 (by omega), r0 116 0 (by omega)]; exact a7
  have q8 : j3 117 0 = σ 0 11 := by rw [r3 117 (by omega), r0 117 0 (by omega)]; exact a8
  have q9 : j3 118 0 = σ 0 6 := by rw [r3 118 (by omega), r0 118 0 (by omega)]; exact a9
  simp (disch := omega) only [gd_in, nI_clamp]
  rw [q6, q7, q8, q9, plainT_ok, crV_t]
  generalize hj4 : u2 (u2 (u2 (u2 j3 115 1 (σ 0 9)) 116 1 (σ 0 10)) 117 1 (σ 0 11)) 118 1 (σ 0 6) = j4
  have r4 : ∀ a, a < 115 ∨ 118 < a → j4 a = j3 a := fun a ha => by rw [← hj4]; simp (disch := omega) only [u2_r]
  have r4' : ∀ a, a < 108 ∨ 118 < a → j4 a = i a := fun a ha => by
    rw [r4 a (by omega), r3 a (by omega)]
    funext k
    exact r0 a k (by omega)
  refine ⟨_, rfl, ?_, pT_RM, ?_, fun a ha => (pT_r (by omega)).trans (r4' a (by omega)), pT_73⟩
  · refine SM_fr (i := j4) ?_ (fun a h1 h2 => pT_r (by omega))
    refine ⟨?_, ?_, fun k hk => ?_, fun k hk => ?_, fun k hk => ⟨?_, ?_, ?_⟩, ?_, ?_, ?_, ?_⟩
    · rw [r4 108 (by omega), r3 108 (by omega), ← hj0, u2_i (by decide), u2_s]
    · rw [r4 109 (by omega), r3 109 (by omega), ← hj0, u2_s]
    · rw [r4 110 (by omega), ← hj3, oi_c (by decide), oi_c (by decide), oi_c (by decide), ← hj2, oi_c (by decide), ← hj1, oi_a _ _ _ _ hk]
    · rw [r4 111 (by omega), ← hj3, oi_c (by decide), oi_c (by decide), oi_c (by decide), ← hj2, oi_a _ _ _ _ hk]
    · rw [r4 112 (by omega), ← hj3, oi_c (by decide), oi_c (by decide), oi_a _ _ _ _ hk]
    · rw [r4 113 (by omega), ← hj3, oi_c (by decide), oi_a _ _ _ _ hk]
    · rw [r4 114 (by omega), ← hj3, oi_a _ _ _ _ hk]
    · rw [← hj4]; simp (disch := omega) only [u2_s, u2_i, u2_k]
    · rw [← hj4]; simp (disch := omega) only [u2_s, u2_i, u2_k]
    · rw [← hj4]; simp (disch := omega) only [u2_s, u2_i, u2_k]
    · rw [← hj4]; simp (disch := omega) only [u2_s, u2_i, u2_k]
  · refine fr_trans (j := j4) (fun a k hq => ?_) pT_fr
    by_cases h108 : a < 108 ∨ 118 < a
    · rw [r4' a h108]
    · by_cases e1 : a = 108 ∨ a = 109
      · have hk : k ≠ 1 := by
          intro e
          subst e
          rcases e1 with rfl | rfl <;> simp [qS] at hq
        rw [r4 a (by omega), r3 a (by omega), r0 a k (Or.inr hk)]
      · by_cases e2 : 115 ≤ a
        · have hk : k ≠ 1 := by
            intro e
            subst e
            rcases (show a = 115 ∨ a = 116 ∨ a = 117 ∨ a = 118 by omega) with rfl | rfl | rfl | rfl <;> simp [qS] at hq
          have : j4 a k = j3 a k := by
            rw [← hj4]
            rcases (show a = 115 ∨ a = 116 ∨ a = 117 ∨ a = 118 by omega) with rfl | rfl | rfl | rfl <;> simp (disch := omega) only [u2_s, u2_i, u2_k]
          rw [this, r3 a (by omega), r0 a k (Or.inr hk)]
        · rw [r4 a (by omega), ← hj3]
          rcases (show a = 110 ∨ a = 111 ∨ a = 112 ∨ a = 113 ∨ a = 114 by omega) with rfl | rfl | rfl | rfl | rfl
          · have hk : k < 3 := by simp [qS] at hq; omega
            rw [oi_c (by decide), oi_c (by decide), oi_c (by decide), ← hj2, oi_c (by decide), ← hj1, oi_k (by omega), r0 110 k (by omega)]
          · have hk : k < 224 := by simp [qS] at hq; omega
            rw [oi_c (by decide), oi_c (by decide), oi_c (by decide), ← hj2, oi_k (by omega), r1 111 (by decide), r0 111 k (by omega)]
          · have hk : k < 7 := by simp [qS] at hq; omega
            rw [oi_c (by decide), oi_c (by decide), oi_k (by omega), r2 112 (by decide) (by decide), r0 112 k (by omega)]
          · have hk : k < 7 := by simp [qS] at hq; omega
            rw [oi_c (by decide), oi_k (by omega), oi_c (by decide), r2 113 (by decide) (by decide), r0 113 k (by omega)]
          · have hk : k < 7 := by simp [qS] at hq; omega
            rw [oi_k (by omega), oi_c (by decide), oi_c (by decide), r2 114 (by decide) (by decide), r0 114 k (by omega)]
/-- the component's trial is ready: what is needed to go on -/
def TRC (P : PL) (i : Nat → Nat → Int32) (md : MD) (p : Nat) (j : Nat → Nat → Int32) : Prop := fr qS i j ∧ (∀ a, 72 ≤ a → j a = i a) ∧ CM md j ∧ swf P (vw 65 j) ∧ NetI P j ∧ PC P p j
theorem TRC_C {j g : Nat → Nat → Int32} {md : MD} (hp : p = 7 ∨ p = 27) (h : TRC P i md p j) (hf : fr (qC 65) j g) (hs : swf P (vw 65 g)) (hN : NetI P g) : TRC P i md p g := by
  obtain ⟨h1, h2, h3, h4, h5, h6⟩ := h
  refine ⟨fr_trans h1 (fr_mono (fun a k hq => qC_S hq) hf), fun a ha => ?_, CM_qC (Or.inr rfl) h3 hf, hs, hN, PC_qC (Or.inr rfl) hp h6 hf⟩
  rw [← h2 a ha]
  funext k
  exact hf a k (by unfold qC; simp; omega)
theorem TRC_INV {j : Nat → Nat → Int32} {l' : Nat → Nat → Int64} {md : MD} (h : INV P i l s r p) (ht : TRC P i md p j) (hl : ∀ a, a ≠ 46 → l' a = l a) : INV P j l' s r p := INV_S h (SCR_cmp h ht.1 ht.2.2.2.2.1 (by rw [ht.2.1 74 (by omega)]) (ht.2.1 80 (by omega)) (by rw [ht.2.1 82 (by omega)]) (lS_46 hl))
theorem TRC_copy (h : INV P i l s r p) : ∃ j, State_copyFrom 65 51 (i, l, Rp s r p) = some (none, (j, l, Rp s r p)) ∧ srg (vw 65 j) (vw 51 i) ∧ (∀ a, a < 65 ∨ 71 < a → j a = i a) := by
  obtain ⟨j, a0, a1, a2⟩ := copyFrom_ok (i := i) (l := l) (s := s) (r := r) (p := p) (o0 := 65) (o1 := 51) (by omega)
  exact ⟨j, a0, a1, fun a ha => a2 a (by omega)⟩
theorem TRC_mk {j : Nat → Nat → Int32} {md : MD} (h : INV P i l s r p) (hr : ∀ a, (a < 65 ∨ 71 < a) → a ≠ 47 → j a = i a) (hM : CM md j) (hs : swf P (vw 65 j)) : TRC P i md p j := by
  obtain ⟨hp0, hr0, hw, hPC, hPM, hNI, hrest⟩ := h
  refine ⟨fun a k hq => ?_, fun a ha => hr a (by omega) (by omega), hM, hs, ?_, PC_fr hPC (fun a ha => hr _ (by omega) (by omega))⟩
  · have h1 : a < 65 ∨ 71 < a := by
      refine Classical.byContradiction (fun hno => ?_)
      have h9 : 65 ≤ a ∧ a ≤ 71 := by omega
      unfold qS at hq; simp [h9.1, h9.2] at hq
    have h2 : a ≠ 47 := fun e => by subst e; simp [qS] at hq
    rw [hr a h1 h2]
  · unfold NetI NetOk NR
    rw [hr 26 (by omega) (by decide), hr 43 (by omega) (by decide), hr 44 (by omega) (by decide), hr 45 (by omega) (by decide)]
    exact hNI
theorem trun {j : Nat → Nat → Int32} {lj : Nat → Nat → Int64} {md : MD} {n : Nat} (hp : p = 7 ∨ p = 27) (hw : pwf P) (hm : md.2.2.1 ≤ 5) (ht : TRC P i md p j) (hn : n < 2 ^ 31) : ∃ g l1, Course_run 65 (nI n) (j, lj, Rp s r p) = some (none, (g, l1, Rp s r p)) ∧ vw 65 g = tcn P md (vw 65 j) n ∧ TRC P i md p g ∧ ∀ a, a ≠ 46 → l1 a = lj a := by
  obtain ⟨h1, h2, h3, h4, h5, h6⟩ := id ht
  obtain ⟨g, l1, d0, d1, d2, d3, d4⟩ := run_ok (l := lj) (s := s) (r := r) (n := n) (m := md) (Or.inr rfl) hp hw h6 hm h3 h4 h5 hn
  exact ⟨g, l1, d0, d1, TRC_C hp ht d2 (by rw [d1]; exact swf_tcn hw h4 n) d3, d4⟩
theorem trun1 {j : Nat → Nat → Int32} {lj : Nat → Nat → Int64} {md : MD} (hp : p = 7 ∨ p = 27) (hw : pwf P) (hm : md.2.2.1 ≤ 5) (ht : TRC P i md p j) : ∃ g l1, Course_run 65 (nI 1) (j, lj, Rp s r p) = some (none, (g, l1, Rp s r p)) ∧ vw 65 g = tck P md (vw 65 j) ∧ TRC P i md p g ∧ (∀ a, a ≠ 46 → l1 a = lj a) ∧ NetOk P g (vw 65 g 0 8) := by
  obtain ⟨h1, h2, h3, h4, h5, h6⟩ := id ht
  obtain ⟨g, l1, d0, d1, d2, d3, d4, d5⟩ := run1_ok (l := lj) (s := s) (r := r) (m := md) (Or.inr rfl) hp hw h6 hm h3 h4 h5
  exact ⟨g, l1, d0, d1, TRC_C hp ht d2 (by rw [d1]; exact swf_tck hw h4) d3, d4, d5⟩
/-- the reference's trial: what holds while it goes -/
def TRR (P : PL) (g : Nat → Nat → Int32) (md : MD) (σ : ST) (m : Nat → Nat → Int32) : Prop := SM 1 σ m ∧ RM md m ∧ fr qS g m ∧ (∀ a, a < 82 → m a = g a)
theorem TRR_INV {g m : Nat → Nat → Int32} {l l' : Nat → Nat → Int64} {md : MD} {σ : ST} (h : INV P g l s r p) (ht : TRR P g md σ m) (hl : lS l l') : INV P m l' s r p := INV_S h (SCR_ref h ht.2.2.1 ht.2.2.2 ht.2.1.2.2.2.2.2.2.2 hl)
theorem TRR_R {g m m' : Nat → Nat → Int32} {md : MD} {σ τ : ST} (ht : TRR P g md σ m) (hS : SM 1 τ m') (hf : fr (qR 1) m m') : TRR P g md τ m' := by
  refine ⟨hS, RM_qR ht.2.1 hf, fr_trans ht.2.2.1 (fr_mono (fun a k hq => qR1_S hq) hf), fun a ha => ?_⟩
  rw [← ht.2.2.2 a ha]
  funext k
  exact hf a k (by unfold qR; simp; omega)
theorem ahead_pr (h : INV P i l s r p) (x1 x2 : Int32) : PrI (GT_ahead x1 x2) (Mo_ahead x1 x2) P i l s r p := by
  obtain ⟨hp0, hr, hw, hPC, hPM, hNI, hs, hS, hdr, hco, hrest⟩ := id h
  have hp : p = 7 ∨ p = 27 := by omega
  have h7 := hw.1.1
  have h8 := hw.1.2.1
  have h3 := hw.1.2.2.1
  have hth := INV_th h
  have hin1 : ∀ (a b : Option (Option Value × AM)), ifc (x1 < 0) a (ifc (nI 60 < x1) a b) = if isn 61 x1 = true then b else a := fun a b => ifc_isn2 (by decide) x1 a b
  have hin2 : ∀ (a b : Option (Option Value × AM)), ifc (x2 < 0) a (ifc (nI 4 < x2) a b) = if isn 5 x2 = true then b else a := fun a b => ifc_isn2 (by decide) x2 a b
  have go_ : ∀ v, GT_ahead x1 x2 (i, l, Rp s r p) = some (some (.int v), (i, l, Rp s r p)) → Mo_ahead x1 x2 (i, l, Rp s r p) = some (some (.int v), (u2 i 82 2 (nI 0), l, Rp s r p)) → PrI (GT_ahead x1 x2) (Mo_ahead x1 x2) P i l s r p := fun v h1 h2 => ⟨_, i, l, _, l, h1, h2, hth⟩
  cases h1 : isn 61 x1
  · refine go_ (nM 1) ?_ ?_
    · simp only [GT_ahead_eq, hin1, h1, crI_t, crV_t, crL_t, ifc_b, Bool.false_eq_true, if_false, if_true]
    · simp only [Mo_ahead_eq, rIn_ok (show 60 + 1 < 2 ^ 31 by decide), h1, crI_t, crV_t, crL_t, ifc_b, Bool.false_eq_true, if_false, if_true]
  · cases h2 : isn 5 x2
    · refine go_ (nM 1) ?_ ?_
      · simp only [GT_ahead_eq, hin1, hin2, h1, h2, crI_t, crV_t, crL_t, ifc_b, Bool.false_eq_true, if_false, if_true]
      · simp only [Mo_ahead_eq, rIn_ok (show 60 + 1 < 2 ^ 31 by decide), rIn_ok (show 4 + 1 < 2 ^ 31 by decide), h1, h2, crI_t, crV_t, crL_t, ifc_b, Bool.false_eq_true, if_false, if_true]
    · obtain ⟨n, hn, rfl⟩ := isn_t h1
      obtain ⟨w, hw5, rfl⟩ := isn_t h2
      obtain ⟨j, a0, a1, a2⟩ := TRC_copy h
      have hs65 : swf P (vw 65 j) := swf_srg (srg_symm a1) hs
      have hT0 : TRC P i m0 p (cpl j (nI (false).toNat)) := TRC_mk h (fun a x1 x2 => (cpl_r x2).trans (a2 a x1)) (cpl_CM false) (swf_cg (fun a ha => (cpl_r (i := j) (x := nI (false).toNat) (a := 65 + a) (by omega)).symm) hs65)
      obtain ⟨g, l1, d0, d1, d2, d3⟩ := trun (s := s) (r := r) (lj := l) hp hw (by decide) hT0 (show n < 2 ^ 31 by omega)
      have hg := TRC_INV h d2 d3
      have hgt := INV_th hg
      have g51 : ∀ a, a < 7 → vw 51 g a = vw 51 i a := fun a ha => vw51_S d2.1 a ha
      have hcp := cplain_ok (i := j) (l := l) (s := s) (r := r) (p := p) false
      have hv0 : ∀ a, a < 7 → vw 65 (cpl j (nI (false).toNat)) a = vw 65 j a := fun a ha => cpl_r (by omega)
      have hSg : SM 0 (vw 51 g) (u2 g 82 2 (nI 0)) := SM_fr (SM0_of hg) (fun a x y => u2_r (by omega))
      obtain ⟨m, m0', m1, m2, m3, m4, m5⟩ := layT_ok (l := l1) (s := s) (r := r) (p := p) hSg
      have srgm : srg (vw 51 g) (vw 65 (cpl j (nI (false).toNat))) := by
        obtain ⟨z0, z1, z2, z5, z6⟩ := srg_symm a1
        have e : ∀ a, a < 7 → vw 51 g a = vw 51 i a := g51
        refine ⟨fun k x y => ?_, fun k x => ?_, fun k x => ⟨?_, ?_, ?_⟩, fun k x => ?_, fun k x => ?_⟩
        · rw [e 0 (by omega), hv0 0 (by omega)]; exact z0 k x y
        · rw [e 1 (by omega), hv0 1 (by omega)]; exact z1 k x
        · rw [e 2 (by omega), hv0 2 (by omega)]; exact (z2 k x).1
        · rw [e 3 (by omega), hv0 3 (by omega)]; exact (z2 k x).2.1
        · rw [e 4 (by omega), hv0 4 (by omega)]; exact (z2 k x).2.2
        · rw [e 5 (by omega), hv0 5 (by omega)]; exact z5 k x
        · rw [e 6 (by omega), hv0 6 (by omega)]; exact z6 k x
      have hR0 : TRR P (u2 g 82 2 (nI 0)) m0 (vw 65 (cpl j (nI (false).toNat))) m := ⟨SM_srg srgm m1, m2, m3, m4⟩
      obtain ⟨m', l2, q0, q1, q2, q3, q4⟩ := goMany_ok (l := l1) (s := s) (r := r) (p := p) (n := n) (m := m0) hw (PM_qS hw (PM_of hgt) m3) m2 hT0.2.2.2.1 hR0.1 (fun h => absurd h (by decide)) (by omega)
      have hR1 := TRR_R hR0 q1 q2
      rw [← d1] at q1
      have hm' : INV P m' l2 s r p := TRR_INV hgt hR1 (lS_fL rfl q4)
      have S0' : SM 0 (vw 51 g) m' := SM0_qS hSg hR1.2.2.1
      have vC : GT_ahead (nI n) (nI w) (i, l, Rp s r p) = some (some (.int (if w = 0 then smI (g 67) 7 - smI (g 53) 7 else if w = 1 then smI (g 68) 7 - smI (g 54) 7 else if w = 2 then smI (g 69) 7 - smI (g 55) 7 else if w = 3 then g 65 9 - g 51 9 else g 65 10 - g 51 10)), (g, l1, Rp s r p)) := by
        simp only [GT_ahead_eq, hin1, hin2, h1, h2, a0, show nI 0 = nI (false).toNat from rfl, hcp, d0, csum_ok (show (67 : Nat) = 53 ∨ (67 : Nat) = 54 ∨ (67 : Nat) = 55 ∨ (67 : Nat) = 67 ∨ (67 : Nat) = 68 ∨ (67 : Nat) = 69 by decide), csum_ok (show (53 : Nat) = 53 ∨ (53 : Nat) = 54 ∨ (53 : Nat) = 55 ∨ (53 : Nat) = 67 ∨ (53 : Nat) = 68 ∨ (53 : Nat) = 69 by decide), csum_ok (show (68 : Nat) = 53 ∨ (68 : Nat) = 54 ∨ (68 : Nat) = 55 ∨ (68 : Nat) = 67 ∨ (68 : Nat) = 68 ∨ (68 : Nat) = 69 by decide), csum_ok (show (54 : Nat) = 53 ∨ (54 : Nat) = 54 ∨ (54 : Nat) = 55 ∨ (54 : Nat) = 67 ∨ (54 : Nat) = 68 ∨ (54 : Nat) = 69 by decide), csum_ok (show (69 : Nat) = 53 ∨ (69 : Nat) = 54 ∨ (69 : Nat) = 55 ∨ (69 : Nat) = 67 ∨ (69 : Nat) = 68 ∨ (69 : Nat) = 69 by decide), csum_ok (show (55 : Nat) = 53 ∨ (55 : Nat) = 54 ∨ (55 : Nat) = 55 ∨ (55 : Nat) = 67 ∨ (55 : Nat) = 68 ∨ (55 : Nat) = 69 by decide), crI_t, crV_t, crL_t, ifc_b, Bool.false_eq_true, if_false, if_true]
        rw [show nI (false).toNat = nI 0 from rfl]
        rcases (show w = 0 ∨ w = 1 ∨ w = 2 ∨ w = 3 ∨ w = 4 by omega) with rfl | rfl | rfl | rfl | rfl <;> simp (disch := decide) only [ifc_eq, reduceIte, Nat.reduceEqDiff, ifc_True]
      refine ⟨_, g, l1, m', l2, vC, ?_, hm'⟩
      have t2 : ∀ k, k < 7 → m' 112 (7 * 1 + k) = g 67 k ∧ m' 113 (7 * 1 + k) = g 68 k ∧ m' 114 (7 * 1 + k) = g 69 k := fun k hk => q1.2.2.2.2.1 k hk
      have t3 : ∀ k, k < 7 → m' 112 (7 * 0 + k) = g 53 k ∧ m' 113 (7 * 0 + k) = g 54 k ∧ m' 114 (7 * 0 + k) = g 55 k := fun k hk => S0'.2.2.2.2.1 k hk
      have s1 := fun k hk => (t2 k hk).1
      have u1 := smI_cg (f := fun k => m' 112 (7 * 1 + k)) (g := g 67) 7 (fun k hk => (t2 k hk).1)
      have u2x := smI_cg (f := fun k => m' 113 (7 * 1 + k)) (g := g 68) 7 (fun k hk => (t2 k hk).2.1)
      have u3 := smI_cg (f := fun k => m' 114 (7 * 1 + k)) (g := g 69) 7 (fun k hk => (t2 k hk).2.2)
      have w1 := smI_cg (f := fun k => m' 112 (7 * 0 + k)) (g := g 53) 7 (fun k hk => (t3 k hk).1)
      have w2 := smI_cg (f := fun k => m' 113 (7 * 0 + k)) (g := g 54) 7 (fun k hk => (t3 k hk).2.1)
      have w3 := smI_cg (f := fun k => m' 114 (7 * 0 + k)) (g := g 55) 7 (fun k hk => (t3 k hk).2.2)
      have z1 : m' 115 1 = g 65 9 := q1.2.2.2.2.2.1
      have z2 : m' 116 1 = g 65 10 := q1.2.2.2.2.2.2.1
      have z3 : m' 115 0 = g 51 9 := S0'.2.2.2.2.2.1
      have z4 : m' 116 0 = g 51 10 := S0'.2.2.2.2.2.2.1
      simp only [Mo_ahead_eq, rIn_ok (show 60 + 1 < 2 ^ 31 by decide), rIn_ok (show 4 + 1 < 2 ^ 31 by decide), h1, h2, m0', q0, rsum_ok (show (112 : Nat) = 112 ∨ (112 : Nat) = 113 ∨ (112 : Nat) = 114 by decide) (show 1 < 2 by omega), rsum_ok (show (112 : Nat) = 112 ∨ (112 : Nat) = 113 ∨ (112 : Nat) = 114 by decide) (show 0 < 2 by omega), rsum_ok (show (113 : Nat) = 112 ∨ (113 : Nat) = 113 ∨ (113 : Nat) = 114 by decide) (show 1 < 2 by omega), rsum_ok (show (113 : Nat) = 112 ∨ (113 : Nat) = 113 ∨ (113 : Nat) = 114 by decide) (show 0 < 2 by omega), rsum_ok (show (114 : Nat) = 112 ∨ (114 : Nat) = 113 ∨ (114 : Nat) = 114 by decide) (show 1 < 2 by omega), rsum_ok (show (114 : Nat) = 112 ∨ (114 : Nat) = 113 ∨ (114 : Nat) = 114 by decide) (show 0 < 2 by omega), u1, u2x, u3, w1, w2, w3, crI_t, crV_t, crL_t, ifc_b, Bool.false_eq_true, if_false, if_true]
      simp (disch := omega) only [gd_in, nI_clamp, z1, z2, z3, z4]
      rcases (show w = 0 ∨ w = 1 ∨ w = 2 ∨ w = 3 ∨ w = 4 by omega) with rfl | rfl | rfl | rfl | rfl <;> simp (disch := decide) only [ifc_eq, reduceIte, Nat.reduceEqDiff, ifc_True]
end
end

section
/-! quiet, settled -/
def mQ : MD := (false, true, 5, nM 1)
/-- the first tick, of so many, at which something holds -/
noncomputable def fts1 (b : Nat → Bool) : Nat → Nat → Int32
  | 0, _ => nM 2
  | f + 1, k => if b k then nI k else fts1 b f (k + 1)
def stN (σ : ST) : Nat → ST
  | 0 => σ
  | n + 1 => stp (stN σ n) n
theorem stN_0 (σ : ST) : ∀ n a k, a ≠ 1 → (a ≠ 0 ∨ k ≠ 7) → stN σ n a k = σ a k
  | 0, _, _, _, _ => rfl
  | n + 1, a, k, h1, h2 => by
    have ih := stN_0 σ n
    show stp (stN σ n) n a k = _
    unfold stp
    by_cases e0 : a = 0
    · subst e0
      rw [if_pos rfl, if_neg (by omega)]
      exact ih 0 k (by decide) (by omega)
    · rw [if_neg e0, if_neg h1]
      exact ih a k h1 (Or.inl e0)
theorem stN_7 (σ : ST) {q : Nat} (hq : q < 32) : ∀ n, n ≤ 32 → bt (stN σ n 0 7) q = (bt (σ 0 7) q && decide (n ≤ q))
  | 0, _ => by simp [stN]
  | n + 1, hn => by
    have e : stN σ (n + 1) 0 7 = unb (stN σ n 0 7) n := rfl
    rw [e, bt_unb _ (by omega) hq, stN_7 σ hq n (by omega)]
    cases bt (σ 0 7) q
    · rfl
    · by_cases h : n ≤ q
      · by_cases e : q = n
        · subst e; simp
        · rw [decide_eq_true h, decide_eq_false e, decide_eq_true (show n + 1 ≤ q by omega)]; rfl
      · rw [decide_eq_false h, decide_eq_false (show ¬ n + 1 ≤ q by omega)]; rfl
theorem stN_1 (σ : ST) {q s : Nat} (hq : q < 32) (hs : s < 3) : ∀ n, n ≤ 32 → bt (stN σ n 1 s) q = (bt (σ 1 s) q && decide (n ≤ q))
  | 0, _ => by simp [stN]
  | n + 1, hn => by
    have e : stN σ (n + 1) 1 s = unb (stN σ n 1 s) n := by
      show stp (stN σ n) n 1 s = _
      simp [stp, hs]
    rw [e, bt_unb _ (by omega) hq, stN_1 σ hq hs n (by omega)]
    cases bt (σ 1 s) q
    · rfl
    · by_cases h : n ≤ q
      · by_cases e : q = n
        · subst e; simp
        · rw [decide_eq_true h, decide_eq_false e, decide_eq_true (show n + 1 ≤ q by omega)]; rfl
      · rw [decide_eq_false h, decide_eq_false (show ¬ n + 1 ≤ q by omega)]; rfl
section
variable {P : PL} {i : Nat → Nat → Int32} {l : Nat → Nat → Int64} {s r p : Nat}
theorem srg_trans {σ τ ρ : ST} (h1 : srg σ τ) (h2 : srg τ ρ) : srg σ ρ := ⟨fun k a b => (h1.1 k a b).trans (h2.1 k a b), fun k a => (h1.2.1 k a).trans (h2.2.1 k a), fun k a => ⟨(h1.2.2.1 k a).1.trans (h2.2.2.1 k a).1, (h1.2.2.1 k a).2.1.trans (h2.2.2.1 k a).2.1, (h1.2.2.1 k a).2.2.trans (h2.2.2.1 k a).2.2⟩, fun k a => (h1.2.2.2.1 k a).trans (h2.2.2.2.1 k a), fun k a => (h1.2.2.2.2 k a).trans (h2.2.2.2.2 k a)⟩
theorem srg_of {σ τ : ST} (h : ∀ a, a < 7 → σ a = τ a) : srg σ τ := ⟨fun k _ _ => by rw [h 0 (by omega)], fun k _ => by rw [h 1 (by omega)], fun k _ => by rw [h 2 (by omega), h 3 (by omega), h 4 (by omega)]; exact ⟨rfl, rfl, rfl⟩, fun k _ => by rw [h 5 (by omega)], fun k _ => by rw [h 6 (by omega)]⟩
theorem RM_71 {m : Nat → Nat → Int32} (h : RM m0 m) : RM mQ (u2 m 82 71 (nI 1)) := by
  obtain ⟨h1, h2, h3, h4, h5, h6, h7, h8⟩ := h
  unfold RM
  simp (disch := omega) only [u2_s, u2_i, u2_k]
  exact ⟨h1, h2, h3, h4, h5, rfl, h7, h8⟩
theorem TRR_71 {g m : Nat → Nat → Int32} {σ : ST} (h : TRR P g m0 σ m) : TRR P g mQ σ (u2 m 82 71 (nI 1)) := ⟨SM_fr h.1 (fun a x y => u2_r (by omega)), RM_71 h.2.1, fr_trans h.2.2.1 (fr_u2 rfl), fun a ha => (u2_r (by omega)).trans (h.2.2.2 a ha)⟩
theorem quiet_pr (h : INV P i l s r p) (x1 : Int32) : PrI (GT_quiet x1) (Mo_quiet x1) P i l s r p := by
  obtain ⟨hp0, hr, hw, hPC, hPM, hNI, hs, hS, hdr, hco, hrest⟩ := id h
  have hp : p = 7 ∨ p = 27 := by omega
  have h7 := hw.1.1
  have h8 := hw.1.2.1
  have h3 := hw.1.2.2.1
  have hth := INV_th h
  cases h1 : isn (pS P + 1) x1
  · refine ⟨nM 1, i, l, _, l, ?_, ?_, hth⟩
    · simp only [GT_quiet_eq, cTree_ok hp hw hPC, h1, crI_t, crV_t, crL_t, ifc_b, Bool.false_eq_true, if_false, if_true]
    · simp only [Mo_quiet_eq, rTree_ok hw (PM_of hth), h1, crI_t, crV_t, crL_t, ifc_b, Bool.false_eq_true, if_false, if_true]
  · obtain ⟨t, ht, rfl⟩ := isn_t h1
    obtain ⟨j, a0, a1, a2⟩ := TRC_copy h
    have g66 : gN 66 = 3 := by decide
    have hfill := jfill_ok (i := u2 j 65 7 (nI 0)) (l := l) (s := s) (r := r) (p := p) (o0 := 66) (x := nI 0) (by omega)
    rw [g66] at hfill
    generalize hj2 : oi (u2 j 65 7 (nI 0)) 66 0 3 (fun _ => nI 0) = j2 at hfill
    have hcp := cplain_ok (i := j2) (l := l) (s := s) (r := r) (p := p) true
    generalize hj3 : cpl j2 (nI (true).toNat) = j3 at hcp
    have e3 : ∀ a, a ≠ 47 → j3 a = j2 a := fun a ha => by rw [← hj3]; exact cpl_r ha
    have e2 : ∀ a, a ≠ 65 → a ≠ 66 → j2 a = j a := fun a x y => by rw [← hj2, oi_c y, u2_r x]
    -- the state of the trial
    have sq : srg (stN (vw 51 i) (pN P)) (vw 65 j3) := by
      obtain ⟨z0, z1, z2, z5, z6⟩ := srg_symm a1
      refine ⟨fun k x y => ?_, fun k x => ?_, fun k x => ⟨?_, ?_, ?_⟩, fun k x => ?_, fun k x => ?_⟩
      · have e0 : vw 65 j3 0 k = u2 j 65 7 (nI 0) 65 k := by
          show j3 65 k = _
          rw [e3 65 (by decide), ← hj2, oi_c (by decide)]
        rw [e0]
        by_cases e7 : k = 7
        · subst e7
          rw [u2_s]
          apply b_ext
          intro q hq
          rw [stN_7 _ hq _ (by omega), nI_0, b_0]
          cases hb : bt (vw 51 i 0 7) q
          · rfl
          · have := hs.2.2.2.1 q hq hb
            rw [decide_eq_false (by omega)]; rfl
        · rw [u2_k e7, stN_0 _ _ _ _ (by decide) (Or.inr e7)]
          exact z0 k x y
      · have e0 : vw 65 j3 1 k = nI 0 := by
          show j3 66 k = _
          rw [e3 66 (by decide), ← hj2, oi_0 _ _ _ x]
        rw [e0]
        apply b_ext
        intro q hq
        rw [stN_1 _ hq x _ (by omega), nI_0, b_0]
        cases hb : bt (vw 51 i 1 k) q
        · rfl
        · have := hs.2.2.2.2.2.1 k x q hq hb
          rw [decide_eq_false (by omega)]; rfl
      · rw [stN_0 _ _ _ _ (by decide) (Or.inl (by decide))]
        exact (z2 k x).1.trans (congrFun ((e3 67 (by decide)).trans (e2 67 (by decide) (by decide))) k).symm
      · rw [stN_0 _ _ _ _ (by decide) (Or.inl (by decide))]
        exact (z2 k x).2.1.trans (congrFun ((e3 68 (by decide)).trans (e2 68 (by decide) (by decide))) k).symm
      · rw [stN_0 _ _ _ _ (by decide) (Or.inl (by decide))]
        exact (z2 k x).2.2.trans (congrFun ((e3 69 (by decide)).trans (e2 69 (by decide) (by decide))) k).symm
      · rw [stN_0 _ _ _ _ (by decide) (Or.inl (by decide))]
        exact (z5 k x).trans (congrFun ((e3 70 (by decide)).trans (e2 70 (by decide) (by decide))) k).symm
      · rw [stN_0 _ _ _ _ (by decide) (Or.inl (by decide))]
        exact (z6 k x).trans (congrFun ((e3 71 (by decide)).trans (e2 71 (by decide) (by decide))) k).symm
    have swN : ∀ n, n ≤ 32 → swf P (stN (vw 51 i) n) := by
      intro n
      induction n with
      | zero => intro _; exact hs
      | succ n ih => intro hn; exact swf_stp (by omega) (ih (by omega))
    have hT : TRC P i mQ p j3 := TRC_mk h (fun a x1 x2 => by rw [e3 a x2, e2 a (by omega) (by omega), a2 a x1]) (by rw [← hj3]; exact cpl_CM true) (swf_srg sq (swN _ (by omega)))
    generalize hσ : vw 65 j3 = σ at *
    have cq : ∀ f k (g : Nat → Nat → Int32) (lg : Nat → Nat → Int64), f + k = 100 → TRC P i mQ p g → vw 65 g = tcn P mQ σ k → (∀ a, a ≠ 46 → lg a = l a) → ∃ g' l', GT_quiet_50 (nI t) (nI k) (g, lg, Rp s r p) = some (some (.int (fts1 (fun k => decide (hbs (tcn P mQ σ k) t = 0)) f k)), (g', l', Rp s r p)) ∧ TRC P i mQ p g' ∧ ∀ a, a ≠ 46 → l' a = l a := by
      intro f
      induction f with
      | zero =>
        intro k g lg hk hg hv hl
        rw [GT_quiet_50_eq, ifc_t (nI_lt (by omega) (by omega))]
        exact ⟨g, lg, rfl, hg, hl⟩
      | succ f ih =>
        intro k g lg hk hg hv hl
        rw [GT_quiet_50_eq, ifc_f (nI_nlt (by omega) (by omega)), linksHeld_ok (Or.inr rfl) (by omega), crI_t, hv]
        unfold fts1
        by_cases hz : hbs (tcn P mQ σ k) t = 0
        · rw [ifc_t hz, if_pos (decide_eq_true hz)]
          exact ⟨g, lg, rfl, hg, hl⟩
        · rw [ifc_f hz, if_neg (by rw [decide_eq_false hz]; decide)]
          obtain ⟨g2, l2, d0, d1, d2, d3, _⟩ := trun1 (s := s) (r := r) (lj := lg) hp hw (by decide) hg
          rw [d0, crV_t, nI_add]
          exact ih (k + 1) g2 l2 (by omega) d2 (by rw [d1, hv]; rfl) (fun a ha => (d3 a ha).trans (hl a ha))
    obtain ⟨g, l1, c0, c1, c2⟩ := cq 100 0 j3 l (by omega) hT hσ (fun _ _ => rfl)
    have hC : GT_quiet (nI t) (i, l, Rp s r p) = some (some (.int (fts1 (fun k => decide (hbs (tcn P mQ σ k) t = 0)) 100 0)), (g, l1, Rp s r p)) := by
      simp only [GT_quiet_eq, cTree_ok hp hw hPC, h1, a0, hfill, show nI 1 = nI (true).toNat from rfl, hcp, crI_t, crV_t, crL_t, ifc_b, Bool.false_eq_true, if_false, if_true]
      exact c0
    have hg := TRC_INV h c1 c2
    have hgt := INV_th hg
    have g51 : ∀ a, a < 7 → vw 51 g a = vw 51 i a := fun a ha => vw51_S c1.1 a ha
    have hSg : SM 0 (vw 51 i) (u2 g 82 2 (nI 0)) := SM_cg g51 (SM_fr (SM0_of hg) (fun a x y => u2_r (by omega)))
    obtain ⟨m, m0', m1, m2, m3, m4, m5⟩ := layT_ok (l := l1) (s := s) (r := r) (p := p) hSg
    have hR0 : TRR P (u2 g 82 2 (nI 0)) mQ (vw 51 i) (u2 m 82 71 (nI 1)) := TRR_71 ⟨m1, m2, m3, m4⟩
    have hPMr : ∀ (σ : ST) (m' : Nat → Nat → Int32), TRR P (u2 g 82 2 (nI 0)) mQ σ m' → PM P m' := fun σ m' hm => PM_qS hw (PM_of hgt) hm.2.2.1
    have hst := loop_ex (F := fun n (M : Nat → Nat → Int32) => Mo_quiet_26 (nI t) (nI n) (M, l1, Rp s r p)) (I9 := fun n M => TRR P (u2 g 82 2 (nI 0)) mQ (stN (vw 51 i) n) M) (n := pN P) (fun n M hn hI => by
      obtain ⟨M', z0, z1, z2⟩ := stops_ok (l := l1) (s := s) (r := r) (p := p) (b := 1) (n := n) (by omega) (by omega) hI.1
      refine ⟨M', ?_, TRR_R hI z1 z2⟩
      show Mo_quiet_26 (nI t) (nI n) (M, l1, Rp s r p) = _
      rw [Mo_quiet_26_eq, (hPMr _ _ hI).1.1, ifc_t (nI_lt hn (by omega)), z0, crV_t, nI_add]) 0 (u2 m 82 71 (nI 1)) (by omega) hR0
    obtain ⟨m6, y0, y1⟩ := hst
    have hR6 : TRR P (u2 g 82 2 (nI 0)) mQ σ m6 := ⟨SM_srg sq y1.1, y1.2.1, y1.2.2.1, y1.2.2.2⟩
    have rq : ∀ f k (M : Nat → Nat → Int32) (lm : Nat → Nat → Int64), f + k = 100 → TRR P (u2 g 82 2 (nI 0)) mQ (tcn P mQ σ k) M → lS l1 lm → ∃ M' l', Mo_quiet_48 (nI t) (nI k) (M, lm, Rp s r p) = some (some (.int (fts1 (fun k => decide (hbs (tcn P mQ σ k) t = 0)) f k)), (M', l', Rp s r p)) ∧ (∃ τ, TRR P (u2 g 82 2 (nI 0)) mQ τ M') ∧ lS l1 l' := by
      intro f
      induction f with
      | zero =>
        intro k M lm hk hM hl
        rw [Mo_quiet_48_eq, ifc_f (nI_nlt (by omega) (by omega))]
        exact ⟨M, lm, rfl, ⟨_, hM⟩, hl⟩
      | succ f ih =>
        intro k M lm hk hM hl
        have hsk : swf P (tcn P mQ σ k) := swf_tcn hw (by have := hT.2.2.2.1; rw [hσ] at this; exact this) k
        rw [Mo_quiet_48_eq, ifc_t (nI_lt (by omega) (by omega)), heldBits_ok hw (hPMr _ _ hM) hsk hM.1 (by omega) (by omega), crI_t]
        unfold fts1
        by_cases hz : hbs (tcn P mQ σ k) t = 0
        · rw [ifc_t hz, if_pos (decide_eq_true hz)]
          exact ⟨M, lm, rfl, ⟨_, hM⟩, hl⟩
        · rw [ifc_f hz, if_neg (by rw [decide_eq_false hz]; decide)]
          obtain ⟨M2, l2, d0, d1, d2, d3, d4⟩ := rtick_ok (l := lm) (s := s) (r := r) (p := p) (b := 1) hw (hPMr _ _ hM) hM.2.1 hsk (by omega) hM.1 (fun h => absurd h (by decide))
          rw [d0, crV_t, nI_add]
          exact ih (k + 1) M2 l2 (by omega) (TRR_R hM d1 d2) (lS_trans hl (lS_fL rfl d4))
    obtain ⟨M', l2, w0, ⟨τ, w1⟩, w2⟩ := rq 100 0 m6 l1 (by omega) hR6 (lS_refl _)
    refine ⟨_, g, l1, M', l2, hC, ?_, TRR_INV hgt w1 w2⟩
    have hgtr : PM P (u2 g 82 2 (nI 0)) := PM_of hgt
    simp only [Mo_quiet_eq, rTree_ok hw hgtr, h1, m0', gd_1, crI_t, crV_t, crL_t, ifc_b, Bool.false_eq_true, if_false, if_true]
    refine (show Mo_quiet_26 (nI t) (nI 0) (u2 m 82 71 (nI 1), l1, Rp s r p) = _ from y0).trans ?_
    show Mo_quiet_26 (nI t) (nI (pN P)) (m6, l1, Rp s r p) = _
    rw [Mo_quiet_26_eq, (hPMr _ _ y1).1.1, ifc_f (nI_nlt (Nat.le_refl _) (by omega))]
    exact w0
/-- somebody who wants a tree finds nothing held -/
noncomputable def vio (P : PL) (σ : ST) (t n : Nat) : Bool := wnt P σ t n && (match upo P σ t n with
  | none => false
  | some u => !bt (σ 6 (7 * t + u.2)) u.1)
noncomputable def stl (P : PL) (σ : ST) : Bool := @decide (∀ t n, t ≤ pS P → n < pN P → vio P σ t n = false) (Classical.propDecidable _)
theorem stl_t {σ : ST} (h : ∀ t n, t ≤ pS P → n < pN P → vio P σ t n = false) : stl P σ = true := by
  unfold stl
  exact @decide_eq_true _ (Classical.propDecidable _) h
theorem stl_f {σ : ST} {t n : Nat} (ht : t ≤ pS P) (hn : n < pN P) (h : vio P σ t n = true) : stl P σ = false := by
  unfold stl
  exact @decide_eq_false _ (Classical.propDecidable _) (fun hh => by rw [hh t n ht hn] at h; exact absurd h (by decide))
theorem allJoined_ok (hp : p = 7 ∨ p = 27) (hw : pwf P) (hP : PC P p i) (hs : swf P (vw 65 i)) (hN : NetOk P i (vw 65 i 0 8)) : ∃ l', Net_allJoined (i, l, Rp s r p) = some (some (.int (nI (stl P (vw 65 i)).toNat)), (i, l', Rp s r p)) ∧ ∀ a, a ≠ 46 → l' a = l a := by
  have h7 := hw.1.1
  have h8 := hw.1.2.1
  have h3 := hw.1.2.2.1
  have hNN : i p 11 = nI (pN P) := hP.1 11 (by omega) (by omega)
  have hSS : i p 13 = nI (pS P) := hP.1 13 (by omega) (by omega)
  have inner : ∀ f n t (lf : Nat → Nat → Int64), n < pN P → f + t = pS P + 1 → (∀ a, a ≠ 46 → lf a = l a) → (∀ n' t', t' ≤ pS P → (n' < n ∨ n' = n ∧ t' < t) → vio P (vw 65 i) t' n' = false) →
      (∃ l', Net_allJoined_15 (nI n) (nI t) (i, lf, Rp s r p) = some (some (.int (nI (stl P (vw 65 i)).toNat)), (i, l', Rp s r p)) ∧ ∀ a, a ≠ 46 → l' a = l a) ∨ (∃ l', Net_allJoined_15 (nI n) (nI t) (i, lf, Rp s r p) = Net_allJoined_2 (nI (n + 1)) (i, l', Rp s r p) ∧ (∀ a, a ≠ 46 → l' a = l a) ∧ ∀ n' t', t' ≤ pS P → n' < n + 1 → vio P (vw 65 i) t' n' = false) := by
    intro f
    induction f with
    | zero =>
      intro n t lf hn hf hl hv
      right
      refine ⟨lf, ?_, hl, fun n' t' h1 h2 => hv n' t' h1 (by omega)⟩
      rw [Net_allJoined_15_eq _ _ _ _ _ _ _ hp, hSS, ifc_t (nI_lt (by omega) (by omega)), nI_add]
    | succ f ih =>
      intro n t lf hn hf hl hv
      have ht : t ≤ pS P := by omega
      rw [Net_allJoined_15_eq _ _ _ _ _ _ _ hp, hSS, ifc_f (nI_nlt (by omega) (by omega)), wanted_ok (Or.inr rfl) hp hw hP ht hn, crI_t, ifc_b, nI_add]
      have next : ∀ (l2 : Nat → Nat → Int64), (∀ a, a ≠ 46 → l2 a = l a) → vio P (vw 65 i) t n = false → (∃ l', Net_allJoined_15 (nI n) (nI (t + 1)) (i, l2, Rp s r p) = some (some (.int (nI (stl P (vw 65 i)).toNat)), (i, l', Rp s r p)) ∧ ∀ a, a ≠ 46 → l' a = l a) ∨ (∃ l', Net_allJoined_15 (nI n) (nI (t + 1)) (i, l2, Rp s r p) = Net_allJoined_2 (nI (n + 1)) (i, l', Rp s r p) ∧ (∀ a, a ≠ 46 → l' a = l a) ∧ ∀ n' t', t' ≤ pS P → n' < n + 1 → vio P (vw 65 i) t' n' = false) := fun l2 hl2 hv2 => ih n (t + 1) l2 hn (by omega) hl2 (fun n' t' h1 h2 => by
        by_cases e : n' = n ∧ t' = t
        · obtain ⟨rfl, rfl⟩ := e; exact hv2
        · exact hv n' t' h1 (by omega))
      cases hwn : wnt P (vw 65 i) t n
      · simp only [Bool.false_eq_true, if_false]
        exact next lf hl (by unfold vio; rw [hwn]; rfl)
      · simp only [if_true]
        obtain ⟨l2, c1, c2⟩ := climb_ok (l := lf) (s := s) (r := r) (t := t) (n := n) (Or.inr rfl) hp hw hP hs ht hn hN
        have eu : upl P (fd P (vw 65 i 0 8) t) (bt (vw 65 i 0 8)) (mtv P (fd P (vw 65 i 0 8) t) (fun a => i (65 + a)) t) n = upo P (vw 65 i) t n := rfl
        rw [eu] at c1
        rw [c1, crI_t]
        have hl2 : ∀ a, a ≠ 46 → l2 a = l a := fun a ha => (c2 a ha).trans (hl a ha)
        cases hu : upo P (vw 65 i) t n with
        | none =>
          rw [ifc_t (show upc none < 0 from nM_neg (by omega) (by omega)), Net_allJoined_69_eq, ifc_t (show upc none < 0 from nM_neg (by omega) (by omega)), nI_add]
          exact next l2 hl2 (by unfold vio; rw [hwn, hu]; rfl)
        | some u =>
          obtain ⟨u1, u2', _⟩ := upo_some hu
          have e1 : (8 * u.1 + u.2) % 8 = u.2 := by omega
          have e2 : (8 * u.1 + u.2) / 8 = u.1 := by omega
          rw [show upc (some u) = nI (8 * u.1 + u.2) from rfl, ifc_neg (by omega), nI_mod (by omega) (by omega) (by omega), e1, gd_n0 (by omega) (by omega), nI_mul, nI_add, gd_in (by omega) (by omega), nI_clamp (by omega), Net_allJoined_69_eq, ifc_neg (by omega), gd_n0 (by omega) (by omega), nI_div (by omega) (by omega) (by omega), e2, ifc_bit _ (by omega), gd_0, nI_add]
          have e71 : i 71 (t * 7 + u.2) = vw 65 i 6 (7 * t + u.2) := by rw [Nat.mul_comm]; rfl
          rw [e71]
          cases hb : bt (vw 65 i 6 (7 * t + u.2)) u.1
          · simp only [Bool.false_eq_true, if_false]
            left
            refine ⟨l2, ?_, hl2⟩
            have : vio P (vw 65 i) t n = true := by unfold vio; rw [hwn, hu]; simp [hb]
            rw [stl_f ht hn this]; rfl
          · simp only [if_true]
            exact next l2 hl2 (by unfold vio; rw [hwn, hu]; simp [hb])
  have outer : ∀ f n (lf : Nat → Nat → Int64), f + n = pN P → (∀ a, a ≠ 46 → lf a = l a) → (∀ n' t', t' ≤ pS P → n' < n → vio P (vw 65 i) t' n' = false) → ∃ l', Net_allJoined_2 (nI n) (i, lf, Rp s r p) = some (some (.int (nI (stl P (vw 65 i)).toNat)), (i, l', Rp s r p)) ∧ ∀ a, a ≠ 46 → l' a = l a := by
    intro f
    induction f with
    | zero =>
      intro n lf hf hl hv
      rw [Net_allJoined_2_eq _ _ _ _ _ _ hp, hNN, ifc_f (nI_nlt (by omega) (by omega)), gd_1, stl_t (fun t n h1 h2 => hv n t h1 (by omega))]
      exact ⟨lf, rfl, hl⟩
    | succ f ih =>
      intro n lf hf hl hv
      rw [Net_allJoined_2_eq _ _ _ _ _ _ hp, hNN, ifc_t (nI_lt (by omega) (by omega))]
      rcases inner (pS P + 1) n 0 lf (by omega) (by omega) hl (fun n' t' h1 h2 => hv n' t' h1 (by omega)) with hh | ⟨l2, e0, e1, e2⟩
      · exact hh
      · rw [e0]
        exact ih (n + 1) l2 (by omega) e1 (fun n' t' h1 h2 => e2 n' t' h1 h2)
  rw [Net_allJoined_eq]
  exact outer (pN P) 0 l (by omega) (fun _ _ => rfl) (fun n' t' _ h => by omega)
theorem isSettled_ok {g : Nat → Nat → Int32} {md : MD} {σ : ST} (hw : pwf P) (hPg : PM P g) (hs : swf P σ) (hT : TRR P g md σ i) : ∃ m l', Mo_isSettled (i, l, Rp s r p) = some (some (.int (nI (stl P σ).toNat)), (m, l', Rp s r p)) ∧ TRR P g md σ m ∧ lS l l' := by
  have h7 := hw.1.1
  have h8 := hw.1.2.1
  have h3 := hw.1.2.2.1
  have hPMr : ∀ (m' : Nat → Nat → Int32), TRR P g md σ m' → PM P m' := fun m' hm => PM_qS hw hPg hm.2.2.1
  have inner : ∀ f t n (M : Nat → Nat → Int32) (lf : Nat → Nat → Int64), t ≤ pS P → f + n = pN P → TRR P g md σ M → lS l lf → (∀ t' n', n' < pN P → (t' < t ∨ t' = t ∧ n' < n) → vio P σ t' n' = false) →
      (∃ M' l', Mo_isSettled_12 (nI t) (nI n) (M, lf, Rp s r p) = some (some (.int (nI (stl P σ).toNat)), (M', l', Rp s r p)) ∧ TRR P g md σ M' ∧ lS l l') ∨ (∃ M' l', Mo_isSettled_12 (nI t) (nI n) (M, lf, Rp s r p) = Mo_isSettled_2 (nI (t + 1)) (M', l', Rp s r p) ∧ TRR P g md σ M' ∧ lS l l' ∧ ∀ t' n', n' < pN P → t' < t + 1 → vio P σ t' n' = false) := by
    intro f
    induction f with
    | zero =>
      intro t n M lf ht hf hM hl hv
      right
      refine ⟨M, lf, ?_, hM, hl, fun t' n' h1 h2 => hv t' n' h1 (by omega)⟩
      rw [Mo_isSettled_12_eq, (hPMr M hM).1.1, ifc_f (nI_nlt (by omega) (by omega)), nI_add]
    | succ f ih =>
      intro t n M lf ht hf hM hl hv
      have hn : n < pN P := by omega
      have hPM := hPMr M hM
      rw [Mo_isSettled_12_eq, hPM.1.1, ifc_t (nI_lt hn (by omega)), wantsNow_ok hw hPM hs hM.1 (by omega) ht hn, crI_t, ifc_b]
      have next : ∀ (M2 : Nat → Nat → Int32) (l2 : Nat → Nat → Int64), TRR P g md σ M2 → lS l l2 → vio P σ t n = false → (∃ M' l', Mo_isSettled_12 (nI t) (nI (n + 1)) (M2, l2, Rp s r p) = some (some (.int (nI (stl P σ).toNat)), (M', l', Rp s r p)) ∧ TRR P g md σ M' ∧ lS l l') ∨ (∃ M' l', Mo_isSettled_12 (nI t) (nI (n + 1)) (M2, l2, Rp s r p) = Mo_isSettled_2 (nI (t + 1)) (M', l', Rp s r p) ∧ TRR P g md σ M' ∧ lS l l' ∧ ∀ t' n', n' < pN P → t' < t + 1 → vio P σ t' n' = false) := fun M2 l2 hM2 hl2 hv2 => ih t (n + 1) M2 l2 ht (by omega) hM2 hl2 (fun t' n' h1 h2 => by
        by_cases e : t' = t ∧ n' = n
        · obtain ⟨rfl, rfl⟩ := e; exact hv2
        · exact hv t' n' h1 (by omega))
      cases hwn : wnt P σ t n
      · simp only [Bool.false_eq_true, if_false]
        rw [Mo_isSettled_41_eq, ifc_t (nM_neg (by omega) (by omega)), nI_add]
        exact next M lf hM hl (by unfold vio; rw [hwn]; rfl)
      · simp only [if_true]
        obtain ⟨l2, e, c1, c2⟩ := upLink_ok (l := lf) (s := s) (r := r) (p := p) (b := 1) hw hPM hs hM.1 hM.2.1.2.2.2.2.2.2.2 (by omega) ht hn
        have eu : upl P (fd P (σ 0 8) t) (bt (σ 0 8)) (mtv P (fd P (σ 0 8) t) σ t) n = upo P σ t n := rfl
        rw [eu] at c1
        rw [c1, crI_t]
        have hM2 : ∀ x, TRR P g md σ (mU M (fd P (σ 0 8) t) e x) := fun x => TRR_R hM (mU_SM hM.1) fr_mU
        have hl2 : lS l l2 := lS_trans hl (lS_67 c2)
        cases hu : upo P σ t n with
        | none =>
          rw [Mo_isSettled_41_eq, ifc_t (show lnk none < 0 from nM_neg (by omega) (by omega)), nI_add]
          exact next _ l2 (hM2 _) hl2 (by unfold vio; rw [hwn, hu]; rfl)
        | some u =>
          obtain ⟨u1, u2', _⟩ := upo_some hu
          rw [show lnk (some u) = nI u.1 from rfl, show ndo (some u) = nI u.2 from rfl, Mo_isSettled_41_eq, ifc_neg (by omega), mU_76, heldAt_ok (by omega) (by omega) (by omega) (by omega), crI_t, gd_0, nI_add, (mU_SM hM.1).2.2.2.1 _ (by omega)]
          have hbit := swf_bit hs (show t < 4 by omega) (show u.2 < 7 by omega) (show u.1 < 8 by omega)
          by_cases hz : σ 5 (56 * t + 8 * u.2 + u.1) = 0
          · rw [ifc_t hz]
            left
            refine ⟨mU M (fd P (σ 0 8) t) e (nI u.2), l2, ?_, hM2 _, hl2⟩
            have : vio P σ t n = true := by
              unfold vio
              rw [hwn, hu]
              simp only
              rw [hbit, decide_eq_false (fun h => h hz)]; rfl
            rw [stl_f ht hn this]; rfl
          · rw [ifc_f hz]
            exact next _ l2 (hM2 _) hl2 (by
              unfold vio
              rw [hwn, hu]
              simp only
              rw [hbit, decide_eq_true hz]; rfl)
  have outer : ∀ f t (M : Nat → Nat → Int32) (lf : Nat → Nat → Int64), f + t = pS P + 1 → TRR P g md σ M → lS l lf → (∀ t' n', n' < pN P → t' < t → vio P σ t' n' = false) → ∃ M' l', Mo_isSettled_2 (nI t) (M, lf, Rp s r p) = some (some (.int (nI (stl P σ).toNat)), (M', l', Rp s r p)) ∧ TRR P g md σ M' ∧ lS l l' := by
    intro f
    induction f with
    | zero =>
      intro t M lf hf hM hl hv
      rw [Mo_isSettled_2_eq, (hPMr M hM).1.2.2.1, ifc_t (nI_lt (by omega) (by omega)), gd_1, stl_t (fun t n h1 h2 => hv t n h2 (by omega))]
      exact ⟨M, lf, rfl, hM, hl⟩
    | succ f ih =>
      intro t M lf hf hM hl hv
      rw [Mo_isSettled_2_eq, (hPMr M hM).1.2.2.1, ifc_f (nI_nlt (by omega) (by omega))]
      rcases inner (pN P) t 0 M lf (by omega) (by omega) hM hl (fun t' n' h1 h2 => hv t' n' h1 (by omega)) with hh | ⟨M2, l2, e0, e1, e2, e3⟩
      · exact hh
      · rw [e0]
        exact ih (t + 1) M2 l2 (by omega) e1 e2 e3
  rw [Mo_isSettled_eq]
  exact outer (pS P + 1) 0 i l (by omega) hT (lS_refl _) (fun t' n' _ h => by omega)
theorem settled_pr (h : INV P i l s r p) : PrI (GT_settled) (Mo_settled) P i l s r p := by
  obtain ⟨hp0, hr, hw, hPC, hPM, hNI, hs, hS, hdr, hco, hrest⟩ := id h
  have hp : p = 7 ∨ p = 27 := by omega
  have h7 := hw.1.1
  have h8 := hw.1.2.1
  have h3 := hw.1.2.2.1
  obtain ⟨j, a0, a1, a2⟩ := TRC_copy h
  have hcp := cplain_ok (i := j) (l := l) (s := s) (r := r) (p := p) true
  generalize hj3 : cpl j (nI (true).toNat) = j3 at hcp
  have e3 : ∀ a, a ≠ 47 → j3 a = j a := fun a ha => by rw [← hj3]; exact cpl_r ha
  have v3 : ∀ a, a < 7 → vw 65 j3 a = vw 65 j a := fun a ha => e3 _ (by omega)
  have sq : srg (vw 51 i) (vw 65 j3) := srg_trans (srg_symm a1) (srg_symm (srg_of v3))
  have hT : TRC P i mQ p j3 := TRC_mk h (fun a x1 x2 => by rw [e3 a x2, a2 a x1]) (by rw [← hj3]; exact cpl_CM true) (swf_srg sq hs)
  obtain ⟨j4, b0, b1, b2, b3, b4⟩ := measure_ok (l := l) (s := s) (r := r) (cut := j3 65 8) hp hw hT.2.2.2.2.2 hT.2.2.2.2.1
  have v4 : vw 65 j4 = vw 65 j3 := vw_net (Or.inr rfl) b1
  have hT4 : TRC P i mQ p j4 := TRC_C hp hT (fr_netC b1) (by rw [v4]; exact hT.2.2.2.1) (Or.inr ⟨b2, by rw [b3]; exact b4⟩)
  generalize hσ : vw 65 j3 = σ at *
  have hN4 : NetOk P j4 (vw 65 j4 0 8) := by
    have : vw 65 j4 0 8 = j3 65 8 := by rw [v4, ← hσ]; rfl
    rw [this]; exact b4
  have hsσ : swf P σ := by have := hT4.2.2.2.1; rw [v4] at this; exact this
  have cq : ∀ f k (g : Nat → Nat → Int32) (lg : Nat → Nat → Int64), f + k = 100 → TRC P i mQ p g → vw 65 g = tcn P mQ σ k → NetOk P g (vw 65 g 0 8) → (∀ a, a ≠ 46 → lg a = l a) → ∃ g' l', GT_settled_35 (nI k) (g, lg, Rp s r p) = some (some (.int (fts1 (fun k => stl P (tcn P mQ σ k)) f k)), (g', l', Rp s r p)) ∧ TRC P i mQ p g' ∧ ∀ a, a ≠ 46 → l' a = l a := by
    intro f
    induction f with
    | zero =>
      intro k g lg hk hg hv hN hl
      rw [GT_settled_35_eq, ifc_t (nI_lt (by omega) (by omega))]
      exact ⟨g, lg, rfl, hg, hl⟩
    | succ f ih =>
      intro k g lg hk hg hv hN hl
      obtain ⟨l2, c1, c2⟩ := allJoined_ok (l := lg) (s := s) (r := r) hp hw hg.2.2.2.2.2 hg.2.2.2.1 hN
      rw [hv] at c1
      rw [GT_settled_35_eq, ifc_f (nI_nlt (by omega) (by omega)), c1, crI_t, ifc_b]
      unfold fts1
      have hl2 : ∀ a, a ≠ 46 → l2 a = l a := fun a ha => (c2 a ha).trans (hl a ha)
      cases hz : stl P (tcn P mQ σ k)
      · simp only [Bool.false_eq_true, if_false]
        obtain ⟨g2, l3, d0, d1, d2, d3, d4⟩ := trun1 (s := s) (r := r) (lj := l2) hp hw (by decide) hg
        rw [d0, crV_t, nI_add]
        exact ih (k + 1) g2 l3 (by omega) d2 (by rw [d1, hv]; rfl) d4 (fun a ha => (d3 a ha).trans (hl2 a ha))
      · simp only [if_true]
        exact ⟨g, l2, rfl, hg, hl2⟩
  obtain ⟨g, l1, c0, c1, c2⟩ := cq 100 0 j4 l (by omega) hT4 v4 hN4 (fun _ _ => rfl)
  have hC : GT_settled (i, l, Rp s r p) = some (some (.int (fts1 (fun k => stl P (tcn P mQ σ k)) 100 0)), (g, l1, Rp s r p)) := by
    simp only [GT_settled_eq, a0, show nI 1 = nI (true).toNat from rfl, hcp, b0, crI_t, crV_t, crL_t, ifc_b, Bool.false_eq_true, if_false, if_true]
    exact c0
  have hg := TRC_INV h c1 c2
  have hgt := INV_th hg
  have g51 : ∀ a, a < 7 → vw 51 g a = vw 51 i a := fun a ha => vw51_S c1.1 a ha
  have hSg : SM 0 (vw 51 i) (u2 g 82 2 (nI 0)) := SM_cg g51 (SM_fr (SM0_of hg) (fun a x y => u2_r (by omega)))
  obtain ⟨m, m0', m1, m2, m3, m4, m5⟩ := layT_ok (l := l1) (s := s) (r := r) (p := p) hSg
  have hR0 : TRR P (u2 g 82 2 (nI 0)) mQ σ (u2 m 82 71 (nI 1)) := TRR_71 ⟨SM_srg sq m1, m2, m3, m4⟩
  have hPMr : ∀ (σ : ST) (m' : Nat → Nat → Int32), TRR P (u2 g 82 2 (nI 0)) mQ σ m' → PM P m' := fun σ m' hm => PM_qS hw (PM_of hgt) hm.2.2.1
  have rq : ∀ f k (M : Nat → Nat → Int32) (lm : Nat → Nat → Int64), f + k = 100 → TRR P (u2 g 82 2 (nI 0)) mQ (tcn P mQ σ k) M → lS l1 lm → ∃ M' l', Mo_settled_16 (nI k) (M, lm, Rp s r p) = some (some (.int (fts1 (fun k => stl P (tcn P mQ σ k)) f k)), (M', l', Rp s r p)) ∧ (∃ τ, TRR P (u2 g 82 2 (nI 0)) mQ τ M') ∧ lS l1 l' := by
    intro f
    induction f with
    | zero =>
      intro k M lm hk hM hl
      rw [Mo_settled_16_eq, ifc_f (nI_nlt (by omega) (by omega))]
      exact ⟨M, lm, rfl, ⟨_, hM⟩, hl⟩
    | succ f ih =>
      intro k M lm hk hM hl
      have hsk : swf P (tcn P mQ σ k) := swf_tcn hw hsσ k
      obtain ⟨M1, l3, z0, z1, z2⟩ := isSettled_ok (l := lm) (s := s) (r := r) (p := p) hw (PM_of hgt) hsk hM
      rw [Mo_settled_16_eq, ifc_t (nI_lt (by omega) (by omega)), z0, crI_t, ifc_b]
      unfold fts1
      cases hz : stl P (tcn P mQ σ k)
      · simp only [Bool.false_eq_true, if_false]
        obtain ⟨M2, l2, d0, d1, d2, d3, d4⟩ := rtick_ok (l := l3) (s := s) (r := r) (p := p) (b := 1) hw (hPMr _ _ z1) z1.2.1 hsk (by omega) z1.1 (fun h => absurd h (by decide))
        rw [d0, crV_t, nI_add]
        exact ih (k + 1) M2 l2 (by omega) (TRR_R z1 d1 d2) (lS_trans hl (lS_trans z2 (lS_fL rfl d4)))
      · simp only [if_true]
        exact ⟨M1, l3, rfl, ⟨_, z1⟩, lS_trans hl z2⟩
  obtain ⟨M', l2, w0, ⟨τ, w1⟩, w2⟩ := rq 100 0 _ l1 (by omega) hR0 (lS_refl _)
  refine ⟨_, g, l1, M', l2, hC, ?_, TRR_INV hgt w1 w2⟩
  simp only [Mo_settled_eq, m0', gd_1, crI_t, crV_t, crL_t, ifc_b, Bool.false_eq_true, if_false, if_true]
  exact w0
end
end

section
/-! tried, chance -/
def mT (w : Nat) (x : Int32) : MD := (false, false, w, if w = 2 then x else nM 1)
section
variable {P : PL} {i : Nat → Nat → Int32} {l : Nat → Nat → Int64} {s r p : Nat}
theorem cother_ok {w : Nat} {x : Int32} (hw : w < 5) : ∃ j, Course_otherwise (nI w) x (i, l, Rp s r p) = some (none, (j, l, Rp s r p)) ∧ (∀ a, a ≠ 47 → j a = i a) ∧ CM (mT w x) j := by
  have hcp := cplain_ok (i := i) (l := l) (s := s) (r := r) (p := p) false
  rw [Course_otherwise_eq, show nI 0 = nI (false).toNat from rfl, hcp, crV_t, ifc_eq (by omega) (by omega)]
  by_cases h2 : w = 2
  · rw [if_pos h2]
    refine ⟨_, rfl, fun a ha => by rw [u2_r ha, u2_r ha, cpl_r ha], ?_⟩
    unfold CM mT cpl
    refine ⟨?_, ?_, ?_, ?_⟩
    · simp (disch := omega) only [u2_s, u2_i, u2_k]; rfl
    · rw [u2_k (by decide), u2_k (by decide), u2_k (by decide), u2_k (by decide), u2_s]
    · rw [u2_k (by decide), u2_s]
      show _ = if w = 5 then nM 1 else nI w
      rw [if_neg (by omega)]
    · rw [u2_s, if_pos h2]
  · rw [if_neg h2]
    refine ⟨_, rfl, fun a ha => by rw [u2_r ha, u2_r ha, cpl_r ha], ?_⟩
    unfold CM mT cpl
    refine ⟨?_, ?_, ?_, ?_⟩
    · simp (disch := omega) only [u2_s, u2_i, u2_k]; rfl
    · rw [u2_k (by decide), u2_k (by decide), u2_k (by decide), u2_k (by decide), u2_s]
    · rw [u2_k (by decide), u2_s]
      show _ = if w = 5 then nM 1 else nI w
      rw [if_neg (by omega)]
    · rw [u2_s, if_neg h2]
theorem tried_pr (h : INV P i l s r p) (x1 x2 x3 : Int32) : PrI (GT_tried x1 x2 x3) (Mo_tried x1 x2 x3) P i l s r p := by
  obtain ⟨hp0, hr, hw, hPC, hPM, hNI, hs, hS, hdr, hco, hrest⟩ := id h
  have hp : p = 7 ∨ p = 27 := by omega
  have h7 := hw.1.1
  have h8 := hw.1.2.1
  have h3 := hw.1.2.2.1
  have hth := INV_th h
  have hin1 : ∀ (a b : Option (Option Value × AM)), ifc (x1 < 0) a (ifc (nI 4 < x1) a b) = if isn 5 x1 = true then b else a := fun a b => ifc_isn2 (by decide) x1 a b
  have hin3 : ∀ (a b : Option (Option Value × AM)), ifc (x3 < 0) a (ifc (nI 60 < x3) a b) = if isn 61 x3 = true then b else a := fun a b => ifc_isn2 (by decide) x3 a b
  have go_ : ∀ v, GT_tried x1 x2 x3 (i, l, Rp s r p) = some (some (.int v), (i, l, Rp s r p)) → Mo_tried x1 x2 x3 (i, l, Rp s r p) = some (some (.int v), (u2 i 82 2 (nI 0), l, Rp s r p)) → PrI (GT_tried x1 x2 x3) (Mo_tried x1 x2 x3) P i l s r p := fun v h1 h2 => ⟨_, i, l, _, l, h1, h2, hth⟩
  cases h1 : isn 5 x1
  · refine go_ (nM 1) ?_ ?_
    · simp only [GT_tried_eq, hin1, h1, crI_t, crV_t, crL_t, ifc_b, Bool.false_eq_true, if_false, if_true]
    · simp only [Mo_tried_eq, rIn_ok (show 4 + 1 < 2 ^ 31 by decide), h1, crI_t, crV_t, crL_t, ifc_b, Bool.false_eq_true, if_false, if_true]
  · cases h4 : isn 61 x3
    · refine go_ (nM 1) ?_ ?_
      · simp only [GT_tried_eq, hin1, hin3, h1, h4, crI_t, crV_t, crL_t, ifc_b, Bool.false_eq_true, if_false, if_true]
      · simp only [Mo_tried_eq, rIn_ok (show 4 + 1 < 2 ^ 31 by decide), rIn_ok (show 60 + 1 < 2 ^ 31 by decide), h1, h4, crI_t, crV_t, crL_t, ifc_b, Bool.false_eq_true, if_false, if_true]
    · obtain ⟨w, hw5, rfl⟩ := isn_t h1
      obtain ⟨n, hn, rfl⟩ := isn_t h4
      -- the guard on the node
      have guard : (w = 2 ∧ isn (pN P) x2 = false ∨ ¬ w = 2 ∧ ¬ x2 = 0) ∨ (w = 2 ∧ isn (pN P) x2 = true ∨ ¬ w = 2 ∧ x2 = 0) := by
        by_cases e : w = 2
        · cases hx : isn (pN P) x2
          · exact Or.inl (Or.inl ⟨e, rfl⟩)
          · exact Or.inr (Or.inl ⟨e, rfl⟩)
        · by_cases e2 : x2 = 0
          · exact Or.inr (Or.inr ⟨e, e2⟩)
          · exact Or.inl (Or.inr ⟨e, e2⟩)
      rcases guard with hbad | hgood
      · refine go_ (nM 1) ?_ ?_
        · simp only [GT_tried_eq, hin1, hin3, h1, h4, cNode_ok hp hw hPC, crI_t, crV_t, crL_t, ifc_b, Bool.false_eq_true, if_false, if_true]
          rw [ifc_eq (by omega) (by omega)]
          rcases hbad with ⟨e, hx⟩ | ⟨e, hx⟩
          · rw [if_pos e, hx, if_neg (by decide)]
          · rw [if_neg e, ifc_f hx]
        · simp only [Mo_tried_eq, rIn_ok (show 4 + 1 < 2 ^ 31 by decide), rIn_ok (show 60 + 1 < 2 ^ 31 by decide), h1, h4, rNode_ok hw (PM_of hth), crI_t, crV_t, crL_t, ifc_b, Bool.false_eq_true, if_false, if_true]
          rw [ifc_eq (by omega) (by omega)]
          rcases hbad with ⟨e, hx⟩ | ⟨e, hx⟩
          · rw [if_pos e, hx, if_neg (by decide)]
          · rw [if_neg e, ifc_f hx]
      · have hC1 : GT_tried (nI w) x2 (nI n) (i, l, Rp s r p) = GT_tried_43 (nI w) x2 (nI n) (i, l, Rp s r p) := by
          simp only [GT_tried_eq, hin1, hin3, h1, h4, cNode_ok hp hw hPC, crI_t, crV_t, crL_t, ifc_b, Bool.false_eq_true, if_false, if_true]
          rw [ifc_eq (by omega) (by omega)]
          rcases hgood with ⟨e, hx⟩ | ⟨e, hx⟩
          · rw [if_pos e, hx, if_pos rfl]
          · rw [if_neg e, ifc_t hx]
        have hR1 : ∀ (g : Nat → Nat → Int32) (lg : Nat → Nat → Int64), PM P (u2 g 82 2 (nI 0)) → Mo_tried (nI w) x2 (nI n) (g, lg, Rp s r p) = Mo_tried_46 (nI w) x2 (nI n) (u2 g 82 2 (nI 0), lg, Rp s r p) := fun g lg hPg => by
          simp only [Mo_tried_eq, rIn_ok (show 4 + 1 < 2 ^ 31 by decide), rIn_ok (show 60 + 1 < 2 ^ 31 by decide), h1, h4, rNode_ok hw hPg, crI_t, crV_t, crL_t, ifc_b, Bool.false_eq_true, if_false, if_true]
          rw [ifc_eq (by omega) (by omega)]
          rcases hgood with ⟨e, hx⟩ | ⟨e, hx⟩
          · rw [if_pos e, hx, if_pos rfl]
          · rw [if_neg e, ifc_t hx]
        obtain ⟨j, a0, a1, a2⟩ := TRC_copy h
        -- the trial's start
        have hst : ∃ j2, GT_tried_43 (nI w) x2 (nI n) (i, l, Rp s r p) = GT_tried_67 (nI w) x2 (nI n) (j2, l, Rp s r p) ∧ (∀ a, a < 65 ∨ 71 < a → j2 a = i a) ∧ swf P (vw 65 j2) ∧ ((w = 2 ∧ ∃ q, q < pN P ∧ x2 = nI q ∧ vw 65 j2 = stp (vw 65 j) q) ∨ (¬ w = 2 ∧ j2 = j)) := by
          rw [GT_tried_43_eq, a0, crV_t, ifc_eq (by omega) (by omega)]
          have hs65 : swf P (vw 65 j) := swf_srg (srg_symm a1) hs
          rcases hgood with ⟨e, hx⟩ | ⟨e, hx⟩
          · obtain ⟨q, hq, rfl⟩ := isn_t hx
            obtain ⟨j2, b0, b1, b2⟩ := stop_ok (i := j) (l := l) (s := s) (r := r) (p := p) (o := 65) (n := q) (Or.inr rfl) (by omega)
            rw [if_pos e, b0, crV_t]
            exact ⟨j2, rfl, fun a ha => (b2 a (by omega) (by omega)).trans (a2 a ha), by rw [b1]; exact swf_stp (by omega) hs65, Or.inl ⟨e, q, hq, rfl, b1⟩⟩
          · rw [if_neg e]
            exact ⟨j, rfl, a2, hs65, Or.inr ⟨e, rfl⟩⟩
        obtain ⟨j2, c0, c1, c2, c3⟩ := hst
        obtain ⟨j3, d0, d1, d2⟩ := cother_ok (i := j2) (l := l) (s := s) (r := r) (p := p) (x := x2) hw5
        have v3 : ∀ a, a < 7 → vw 65 j2 a = vw 65 j3 a := fun a ha => (d1 _ (by omega)).symm
        have hT : TRC P i (mT w x2) p j3 := TRC_mk h (fun a y1 y2 => (d1 a y2).trans (c1 a y1)) d2 (swf_cg v3 c2)
        obtain ⟨g, l1, e0, e1, e2, e3⟩ := trun (s := s) (r := r) (lj := l) hp hw (show (mT w x2).2.2.1 ≤ 5 by unfold mT; simp only; omega) hT (show n < 2 ^ 31 by omega)
        have hC : GT_tried (nI w) x2 (nI n) (i, l, Rp s r p) = some (some (.int (smI (g 67) 7 - smI (g 53) 7)), (g, l1, Rp s r p)) := by
          rw [hC1, c0, GT_tried_67_eq, d0, crV_t, e0, crV_t, csum_ok (by decide), crI_t, csum_ok (by decide), crI_t]
        have hg := TRC_INV h e2 e3
        have hgt := INV_th hg
        have g51 : ∀ a, a < 7 → vw 51 g a = vw 51 i a := fun a ha => vw51_S e2.1 a ha
        have hSg : SM 0 (vw 51 i) (u2 g 82 2 (nI 0)) := SM_cg g51 (SM_fr (SM0_of hg) (fun a x y => u2_r (by omega)))
        obtain ⟨m, m0', m1, m2, m3, m4, m5⟩ := layT_ok (l := l1) (s := s) (r := r) (p := p) hSg
        -- the reference's start
        have hm9 : ∃ M9, Mo_tried_46 (nI w) x2 (nI n) (u2 g 82 2 (nI 0), l1, Rp s r p) = Mo_tried_127 (nI n) (nI (w == 4).toNat) (M9, l1, Rp s r p) ∧ TRR P (u2 g 82 2 (nI 0)) (mT w x2) (vw 65 j3) (u2 M9 82 70 (nI (w == 4).toNat)) := by
          have hJ : vw 65 j3 = vw 65 j3 := rfl
          have h46 : Mo_tried_46 (nI w) x2 (nI n) (u2 g 82 2 (nI 0), l1, Rp s r p) = Mo_tried_74 (nI w) x2 (nI n) (nI (w == 1).toNat) (u2 m 82 67 (nI (w == 0).toNat), l1, Rp s r p) := by
            rw [Mo_tried_46_eq, m0', crV_t]
            simp only [gd_0, gd_1]
            rcases (show w = 0 ∨ w = 1 ∨ w = 2 ∨ w = 3 ∨ w = 4 by omega) with rfl | rfl | rfl | rfl | rfl <;> simp (disch := decide) only [ifc_z, ifc_eq, reduceIte, Nat.reduceEqDiff, ifc_True, ifc_False] <;> rfl
          rw [h46]
          generalize hA : u2 m 82 67 (nI (w == 0).toNat) = A
          have h102 : ∀ B : Nat → Nat → Int32, Mo_tried_102 (nI w) (nI n) (B, l1, Rp s r p) = Mo_tried_127 (nI n) (nI (w == 4).toNat) (u2 B 82 69 (nI (w == 3).toNat), l1, Rp s r p) := fun B => by
            rw [Mo_tried_102_eq]
            simp only [gd_0, gd_1]
            rcases (show w = 0 ∨ w = 1 ∨ w = 2 ∨ w = 3 ∨ w = 4 by omega) with rfl | rfl | rfl | rfl | rfl <;> simp (disch := decide) only [ifc_z, ifc_eq, reduceIte, Nat.reduceEqDiff, ifc_True, ifc_False] <;> rfl
          have mk : ∀ (dx : Int32) (C : Nat → Nat → Int32) (τ : ST), dx = (mT w x2).2.2.2 → SM 1 τ C → (∀ k, k ≠ 53 → k ≠ 76 → C 82 k = u2 (u2 A 82 68 (nI (w == 1).toNat)) 82 72 dx 82 k) → fr qS (u2 g 82 2 (nI 0)) C → (∀ a, a < 82 → C a = u2 g 82 2 (nI 0) a) → TRR P (u2 g 82 2 (nI 0)) (mT w x2) τ (u2 (u2 C 82 69 (nI (w == 3).toNat)) 82 70 (nI (w == 4).toNat)) := by
            intro dx C τ hdx hSC hCk hCf hCr
            obtain ⟨k1, k2, k3, k4, k5, k6, k7, k8⟩ := m2
            refine ⟨SM_fr hSC (fun a x y => (u2_r (by omega)).trans (u2_r (by omega))), ?_, fr_trans hCf (fr_trans (fr_u2 rfl) (fr_u2 rfl)), fun a ha => (u2_r (by omega)).trans ((u2_r (by omega)).trans (hCr a ha))⟩
            unfold RM
            simp (disch := omega) only [u2_s, u2_i, u2_k]
            rw [hCk 66 (by decide) (by decide), hCk 67 (by decide) (by decide), hCk 68 (by decide) (by decide), hCk 71 (by decide) (by decide), hCk 72 (by decide) (by decide), hCk 73 (by decide) (by decide), ← hA]
            simp (disch := omega) only [u2_s, u2_i, u2_k]
            exact ⟨k1, rfl, rfl, rfl, rfl, k6, hdx, k8⟩
          have fA : ∀ dx, fr qS (u2 g 82 2 (nI 0)) (u2 (u2 A 82 68 (nI (w == 1).toNat)) 82 72 dx) := fun dx => by
            rw [← hA]
            exact fr_trans m3 (fr_trans (fr_trans (fr_u2 rfl) (fr_u2 rfl)) (fr_u2 rfl))
          have rA : ∀ dx a, a ≠ 82 → u2 (u2 A 82 68 (nI (w == 1).toNat)) 82 72 dx a = m a := fun dx a ha => by
            rw [u2_r ha, u2_r ha, ← hA, u2_r ha]
          rw [Mo_tried_74_eq, gd_b, ifc_eq (by omega) (by omega), ifc_eq (by omega) (by omega), ifc_eq (by omega) (by omega)]
          rcases c3 with ⟨e, q, hq, hxq, hvq⟩ | ⟨e, hje⟩
          · subst hxq
            rw [if_pos e, if_pos e]
            have S1 : SM 1 (vw 65 j) (u2 (u2 A 82 68 (nI (w == 1).toNat)) 82 72 (nI q)) := SM_srg (srg_symm a1) (SM_fr m1 (fun a x y => rA _ a (by omega)))
            have hxx := stops_ok (l := l1) (s := s) (r := r) (p := p) (b := 1) (n := q) (by omega) (by omega) S1
            obtain ⟨C, z0, z1, z2⟩ := hxx
            rw [z0, crV_t, h102]
            refine ⟨_, rfl, mk (nI q) C _ ?_ ?_ (fun k y1 y2 => z2 82 k (by unfold qR; simp [y1, y2])) (fr_trans (fA _) (fr_mono (fun a k hq => qR1_S hq) z2)) (fun a ha => ?_)⟩
            · unfold mT; simp only; rw [if_pos e]
            · rw [← hvq] at z1
              exact SM_cg v3 z1
            · have : C a = u2 (u2 A 82 68 (nI (w == 1).toNat)) 82 72 (nI q) a := funext fun k => z2 a k (by unfold qR; simp; omega)
              rw [this, rA _ a (by omega)]; exact m4 a ha
          · rw [if_neg e, if_neg e, h102]
            refine ⟨_, rfl, mk (nM 1) _ _ ?_ ?_ (fun k _ _ => rfl) (fA _) (fun a ha => (rA _ a (by omega)).trans (m4 a ha))⟩
            · unfold mT; simp only; rw [if_neg e]
            · rw [hje] at v3
              exact SM_cg v3 (SM_srg (srg_symm a1) (SM_fr m1 (fun a x y => rA _ a (by omega))))
        obtain ⟨M9, f0, f1⟩ := hm9
        obtain ⟨m', l2, q0, q1, q2, q3, q4⟩ := goMany_ok (l := l1) (s := s) (r := r) (p := p) (n := n) (m := mT w x2) hw (PM_qS hw (PM_of hgt) f1.2.2.1) f1.2.1 hT.2.2.2.1 f1.1 (fun h => absurd h (by unfold mT; simp)) (by omega)
        have hR9 := TRR_R f1 q1 q2
        rw [← e1] at q1
        have hm' : INV P m' l2 s r p := TRR_INV hgt hR9 (lS_fL rfl q4)
        refine ⟨_, g, l1, pT m', l2, hC, ?_, INV_pT hm'⟩
        have S0' : SM 0 (vw 51 g) (pT m') := SM_fr (SM0_qS (SM_fr (SM0_of hg) (fun a x y => u2_r (by omega))) hR9.2.2.1) (fun a x y => pT_r (by omega))
        have S1' : SM 1 (vw 65 g) (pT m') := SM_fr q1 (fun a x y => pT_r (by omega))
        have u1 := smI_cg (f := fun k => pT m' 112 (7 * 1 + k)) (g := g 67) 7 (fun k hk => (S1'.2.2.2.2.1 k hk).1)
        have w1 := smI_cg (f := fun k => pT m' 112 (7 * 0 + k)) (g := g 53) 7 (fun k hk => (S0'.2.2.2.2.1 k hk).1)
        rw [hR1 g l1 (PM_of hgt), f0, Mo_tried_127_eq, gd_b, q0, crV_t, plainT_ok, crV_t, rsum_ok (by decide) (show 1 < 2 by omega), crI_t, rsum_ok (by decide) (show 0 < 2 by omega), crI_t, u1, w1]
end
end

section
/-! chance -/
theorem tk3_12 {P : PL} {m : MD} {σ : ST} : tk3 P m σ 0 12 = σ 0 12 := by
  have e : tk3 P m σ 0 12 = fad (evm P m σ) 0 12 := jon_0 (by decide) _
  rw [e, fad_a (by decide) (by decide)]
  unfold evm
  split
  · rfl
  · have : ∀ e, evs P m.2.2.2 (m.2.2.1 == 3) σ e 0 12 = σ 0 12 := by
      intro e
      induction e with
      | zero => rfl
      | succ e ih =>
        unfold evs
        split
        · unfold evt
          split
          · split
            · exact ih
            · rw [u2_k (by decide)]; exact ih
          · split
            · exact ih
            · split
              · split
                · exact ih
                · rw [u2_k (by decide)]; exact ih
              · rw [u2_k (by decide)]; exact ih
        · exact ih
    exact this _
theorem sds_12 {P : PL} {m : MD} {σ : ST} (h : ∀ x, (lst P m x).2 = x) : ∀ k, sds P m σ k 0 12 = σ 0 12
  | 0 => rfl
  | k + 1 => by
    unfold sds
    split
    · rw [pkt_12 h]; exact sds_12 h k
    · exact sds_12 h k
theorem tcn_12 {P : PL} {m : MD} {σ : ST} (h : ∀ x, (lst P m x).2 = x) : ∀ n, tcn P m σ n 0 12 = σ 0 12
  | 0 => rfl
  | n + 1 => by
    have ih := tcn_12 (σ := σ) h n
    show tck P m (tcn P m σ n) 0 12 = _
    unfold tck
    rw [u2_k (by decide)]
    unfold tk4
    split
    · rw [tk3_12]; exact ih
    · rw [sds_12 h, tk3_12]; exact ih
/-- the number with which each time begins -/
noncomputable def xsq (P : PL) (n : Nat) (σs : Nat → ST) (x : Int32) : Nat → Int32
  | 0 => x
  | q + 1 => tcn P mG (σs q) n 0 12
noncomputable def hts (P : PL) (n node : Nat) (y : Int32) (σs : Nat → ST) : Nat → Bool := fun q => decide (¬ tcn P mG (σs q) n 2 node < y)
section
variable {P : PL} {i : Nat → Nat → Int32} {l : Nat → Nat → Int64} {s r p : Nat}
theorem citer {n : Nat} {x : Int32} (h : INV P i l s r p) (hM : CM mG i) (hx : ¬ x < 0) (hn : n < 2 ^ 31) : ∃ j g l' σ, State_copyFrom 65 51 (i, l, Rp s r p) = some (none, (j, l, Rp s r p)) ∧ Course_run 65 (nI n) (u2 j 65 12 x, l, Rp s r p) = some (none, (g, l', Rp s r p)) ∧ swf P σ ∧ srg σ (u2 (vw 51 i) 0 12 x) ∧ vw 65 g = tcn P mG σ n ∧ INV P g l' s r p ∧ CM mG g ∧ fr qS i g ∧ (∀ a, 72 ≤ a → g a = i a) ∧ ∀ a, a ≠ 46 → l' a = l a := by
  obtain ⟨hp0, hr, hw, hPC, hPM, hNI, hs, hS, hdr, hco, hrest⟩ := id h
  have hp : p = 7 ∨ p = 27 := by omega
  have h7 := hw.1.1
  have h8 := hw.1.2.1
  have h3 := hw.1.2.2.1
  obtain ⟨j, a0, a1, a2⟩ := TRC_copy h
  have e65 : vw 65 (u2 j 65 12 x) = u2 (vw 65 j) 0 12 x := vw_0
  have hs1 : srg (u2 (vw 65 j) 0 12 x) (u2 (vw 51 i) 0 12 x) := by
    obtain ⟨z0, z1, z2, z5, z6⟩ := a1
    refine ⟨fun k y1 y2 => ?_, fun k y => ?_, fun k y => ?_, fun k y => ?_, fun k y => ?_⟩
    · by_cases e : k = 12
      · subst e; rw [u2_s, u2_s]
      · rw [u2_k e, u2_k e]; exact z0 k y1 y2
    · rw [u2_i (by decide), u2_i (by decide)]; exact z1 k y
    · rw [u2_i (by decide), u2_i (by decide), u2_i (by decide), u2_i (by decide), u2_i (by decide), u2_i (by decide)]; exact z2 k y
    · rw [u2_i (by decide), u2_i (by decide)]; exact z5 k y
    · rw [u2_i (by decide), u2_i (by decide)]; exact z6 k y
  have hsw : swf P (u2 (vw 65 j) 0 12 x) := swf_srg (srg_symm hs1) (swf_12 hx hs)
  have hT : TRC P i mG p (u2 j 65 12 x) := TRC_mk h (fun a y1 y2 => by rw [u2_r (by omega)]; exact a2 a y1) (by unfold CM; rw [u2_r (by decide), a2 47 (by omega)]; exact hM) (by rw [e65]; exact hsw)
  obtain ⟨g, l1, d0, d1, d2, d3⟩ := trun (s := s) (r := r) (lj := l) hp hw (by decide) hT hn
  rw [e65] at d1
  exact ⟨j, g, l1, _, a0, d0, hsw, hs1, d1, TRC_INV h d2 d3, d2.2.2.1, d2.1, d2.2.1, d3⟩
theorem riter {n : Nat} {x : Int32} {σ τ : ST} (hw : pwf P) (hP : PM P i) (hS : SM 0 τ i) (hs : swf P σ) (hσ : srg σ (u2 τ 0 12 x)) (hl : l 82 65 = x.toInt64) (hn : n < 2 ^ 31) : ∃ m m' l', Mo_layTried (i, l, Rp s r p) = some (none, (m, l, Rp s r p)) ∧ Mo_goMany (nI n) (u2 m 82 66 (nI 1), l, Rp s r p) = some (none, (m', l', Rp s r p)) ∧ SM 1 (tcn P mG σ n) m' ∧ l' 82 65 = (tcn P mG σ n 0 12).toInt64 ∧ fr qS i m' ∧ (∀ a, a < 82 → m' a = i a) ∧ m' 82 73 = nM 1 ∧ fL mG l l' := by
  obtain ⟨m, m0', m1, m2, m3, m4, m5⟩ := layT_ok (l := l) (s := s) (r := r) (p := p) hS
  have hx12 : σ 0 12 = x := (hσ.1 12 (by omega) (by omega)).trans (u2_s _ _ _ _)
  have hSM : SM 1 σ (u2 m 82 66 (nI 1)) := SM_fr (SM_srg (srg_symm hσ) (SM_12 m1)) (fun a y1 y2 => u2_r (by omega))
  have hRM : RM mG (u2 m 82 66 (nI 1)) := by
    obtain ⟨k1, k2, k3, k4, k5, k6, k7, k8⟩ := m2
    unfold RM
    refine ⟨u2_s _ _ _ _, ?_, ?_, ?_, ?_, ?_, ?_, ?_⟩ <;> rw [u2_k (by decide)] <;> assumption
  have f0 : fr qS i (u2 m 82 66 (nI 1)) := fr_trans m3 (fr_u2 rfl)
  obtain ⟨m', l2, q0, q1, q2, q3, q4⟩ := goMany_ok (l := l) (s := s) (r := r) (p := p) (n := n) (m := mG) hw (PM_qS hw hP f0) hRM hs hSM (fun _ => by rw [hx12]; exact hl) hn
  refine ⟨m, m', l2, m0', q0, q1, q3 rfl, fr_trans f0 (fr_mono (fun a k hq => qR1_S hq) q2), fun a ha => ?_, (RM_qR hRM q2).2.2.2.2.2.2.2, q4⟩
  have : m' a = u2 m 82 66 (nI 1) a := funext fun k => q2 a k (by unfold qR; simp; omega)
  rw [this, u2_r (by omega)]; exact m4 a ha
theorem xsq_pos {n : Nat} {σs : Nat → ST} {x : Int32} (hw : pwf P) (hx : ¬ x < 0) : ∀ q, (∀ k, k < q → swf P (σs k)) → ¬ xsq P n σs x q < 0
  | 0, _ => hx
  | q + 1, h => (swf_tcn hw (h q (by omega)) n).2.2.2.2.2.2
theorem xsq_cg {n : Nat} {σs τs : Nat → ST} {x : Int32} : ∀ q, (∀ k, k < q → σs k = τs k) → xsq P n σs x q = xsq P n τs x q
  | 0, _ => rfl
  | q + 1, h => by
    show tcn P mG (σs q) n 0 12 = tcn P mG (τs q) n 0 12
    rw [h q (by omega)]
theorem cloop {n node T : Nat} {x y : Int32} (h : INV P i l s r p) (hM : CM mG i) (hx : ¬ x < 0) (hn : n < 2 ^ 31) (hnode : node < 7) (hT : T < 2 ^ 31) : ∀ k, k ≤ T → ∃ (σs : Nat → ST) (f : Nat → Nat → Int32) (lf : Nat → Nat → Int64), GT_chance_85 (nI n) (nI node) y (nI T) x (nI 0) (nI 0) (i, l, Rp s r p) = GT_chance_85 (nI n) (nI node) y (nI T) (xsq P n σs x k) (nI (cnt (hts P n node y σs) k)) (nI k) (f, lf, Rp s r p) ∧ (∀ q, q < k → swf P (σs q) ∧ srg (σs q) (u2 (vw 51 i) 0 12 (xsq P n σs x q))) ∧ INV P f lf s r p ∧ CM mG f ∧ fr qS i f ∧ (∀ a, 72 ≤ a → f a = i a) ∧ ∀ a, a ≠ 46 → lf a = l a := by
  intro k
  induction k with
  | zero => intro _; exact ⟨fun _ => vw 51 i, i, l, rfl, fun q hq => by omega, h, hM, fr_refl _ _, fun _ _ => rfl, fun _ _ => rfl⟩
  | succ k ih =>
    intro hk
    obtain ⟨σs, f, lf, a0, a1, a2, a3, a4, a5, a6⟩ := ih (by omega)
    have hxp := xsq_pos (P := P) (n := n) (x := x) a2.2.2.1 hx k (fun q hq => (a1 q hq).1)
    obtain ⟨j, g, l', σ, b0, b1, b2, b3, b4, b5, b6, b7, b8, b9⟩ := citer (n := n) (x := xsq P n σs x k) a2 a3 hxp hn
    have e51 : ∀ a, a < 7 → vw 51 f a = vw 51 i a := fun a ha => vw51_S a4 a ha
    have b3' : srg σ (u2 (vw 51 i) 0 12 (xsq P n σs x k)) := by
      refine srg_trans b3 (srg_of (fun a ha => ?_))
      by_cases e0 : a = 0
      · subst e0
        funext q
        by_cases e12 : q = 12
        · subst e12; rw [u2_s, u2_s]
        · rw [u2_k e12, u2_k e12, e51 0 (by omega)]
      · rw [u2_r e0, u2_r e0, e51 a ha]
    generalize hτ : (fun q => if q = k then σ else σs q) = τs
    have hτk : τs k = σ := by rw [← hτ]; simp
    have hτq : ∀ q, q < k → τs q = σs q := fun q hq => by rw [← hτ]; simp only; rw [if_neg (by omega)]
    have hxs : ∀ q, q ≤ k → xsq P n τs x q = xsq P n σs x q := fun q hq => xsq_cg q (fun k' hk' => hτq k' (by omega))
    have hx1 : xsq P n τs x (k + 1) = g 65 12 := by
      show tcn P mG (τs k) n 0 12 = _
      rw [hτk, ← b4]; rfl
    have hcn : cnt (hts P n node y τs) k = cnt (hts P n node y σs) k := cnt_cg k (fun q hq => by unfold hts; rw [hτq q hq])
    have hc1 : cnt (hts P n node y τs) (k + 1) = cnt (hts P n node y σs) k + (if decide (¬ g 67 node < y) then 1 else 0) := by
      show cnt (hts P n node y τs) k + (if hts P n node y τs k then 1 else 0) = _
      rw [hcn]
      unfold hts
      rw [hτk, ← b4]
      rfl
    refine ⟨τs, g, l', ?_, fun q hq => ?_, b5, b6, fr_trans a4 b7, fun a ha => (b8 a ha).trans (a5 a ha), fun a ha => (b9 a ha).trans (a6 a ha)⟩
    · rw [a0, GT_chance_85_eq, ifc_t (nI_lt (by omega) hT), b0, crV_t, b1, crV_t, gd_in hnode (by omega), nI_clamp (by omega), nI_add, nI_add, hx1, hc1]
      by_cases hlt : g 67 node < y
      · rw [ifc_t hlt, decide_eq_false (fun hh => hh hlt)]; rfl
      · rw [ifc_f hlt, decide_eq_true hlt]; rfl
    · by_cases e : q = k
      · subst e
        rw [hτk, hxs q (Nat.le_refl _)]
        exact ⟨b2, b3'⟩
      · rw [hτq q (by omega), hxs q (by omega)]
        exact a1 q (by omega)
theorem rloop {n node : Nat} {x y : Int32} {y5 : Int64} {τ : ST} {σs : Nat → ST} (hw : pwf P) (hP : PM P i) (hS : SM 0 τ i) (hσ : ∀ q, q < 10 → swf P (σs q) ∧ srg (σs q) (u2 τ 0 12 (xsq P n σs x q))) (hl : l 82 65 = x.toInt64) (hn : n < 2 ^ 31) (hnode : node < 7) (h73 : i 82 73 = nM 1) : ∀ k, k ≤ 10 → ∃ (f : Nat → Nat → Int32) (lf : Nat → Nat → Int64), Mo_chance_58 (nI n) (nI node) y y5 (nI 0) (nI 0) (i, l, Rp s r p) = Mo_chance_58 (nI n) (nI node) y y5 (nI (cnt (hts P n node y σs) k)) (nI k) (f, lf, Rp s r p) ∧ lf 82 65 = (xsq P n σs x k).toInt64 ∧ fr qS i f ∧ (∀ a, a < 82 → f a = i a) ∧ f 82 73 = nM 1 ∧ fL mG l lf := by
  intro k
  induction k with
  | zero => intro _; exact ⟨i, l, rfl, hl, fr_refl _ _, fun _ _ => rfl, h73, fL_refl _ _⟩
  | succ k ih =>
    intro hk
    obtain ⟨f, lf, a0, a1, a2, a3, a4, a5⟩ := ih (by omega)
    obtain ⟨b1, b2⟩ := hσ k (by omega)
    obtain ⟨m, m', l', c0, c1, c2, c3, c4, c5, c6, c7⟩ := riter (i := f) (l := lf) (s := s) (r := r) (p := p) (n := n) hw (PM_qS hw hP a2) (SM0_qS hS a2) b1 b2 a1 hn
    have e112 : m' 112 (7 + node) = tcn P mG (σs k) n 2 node := (c2.2.2.2.2.1 node hnode).1
    have hc1 : cnt (hts P n node y σs) (k + 1) = cnt (hts P n node y σs) k + (if decide (¬ tcn P mG (σs k) n 2 node < y) then 1 else 0) := rfl
    refine ⟨m', l', ?_, c3, fr_trans a2 c4, fun a ha => (c5 a ha).trans (a3 a ha), c6, fL_trans a5 c7⟩
    rw [a0, Mo_chance_58_eq, ifc_t (nI_lt (by omega) (by omega)), c0, crV_t, gd_1, c1, crV_t, nI_add, gd_in (by omega) (by omega), nI_clamp (by omega), nI_add, nI_add, nI_add, e112, hc1]
    by_cases hlt : tcn P mG (σs k) n 2 node < y
    · rw [ifc_t hlt, decide_eq_false (fun hh => hh hlt)]; rfl
    · rw [ifc_f hlt, decide_eq_true hlt]; rfl
theorem cnt_all (b : Bool) : ∀ n, cnt (fun _ => b) n = if b then n else 0
  | 0 => by cases b <;> rfl
  | n + 1 => by
    show cnt (fun _ => b) n + (if b then 1 else 0) = _
    rw [cnt_all b n]
    cases b <;> rfl
theorem chance_pr (h : INV P i l s r p) (x1 x2 x3 x4 : Int32) : PrI (GT_chance x1 x2 x3 x4) (Mo_chance x1 x2 x3 x4) P i l s r p := by
  obtain ⟨hp0, hr, hw, hPC, hPM, hNI, hs, hS, hdr, hco, hrest⟩ := id h
  have hp : p = 7 ∨ p = 27 := by omega
  have h7 := hw.1.1
  have h8 := hw.1.2.1
  have h3 := hw.1.2.2.1
  have hth := INV_th h
  have hin4 : ∀ (a b : Option (Option Value × AM)), ifc (x4 < 0) a (ifc (nI 99 < x4) a b) = if isn 100 x4 = true then b else a := fun a b => ifc_isn2 (by decide) x4 a b
  have go_ : ∀ v, GT_chance x1 x2 x3 x4 (i, l, Rp s r p) = some (some (.int v), (i, l, Rp s r p)) → Mo_chance x1 x2 x3 x4 (i, l, Rp s r p) = some (some (.int v), (u2 i 82 2 (nI 0), l, Rp s r p)) → PrI (GT_chance x1 x2 x3 x4) (Mo_chance x1 x2 x3 x4) P i l s r p := fun v h1 h2 => ⟨_, i, l, _, l, h1, h2, hth⟩
  have hC0 := GT_chance_eq x1 x2 x3 x4 i l s r p hp
  have isb : ∀ b : Prop, ∀ (g : Nat → Nat → Int32) (lg : Nat → Nat → Int64), Mo_isIn x2 (nI 1) (nI 40) (g, lg, Rp s r p) = ifc (x2 < nI 1) (some (some (.int (nI 0)), (g, lg, Rp s r p))) (ifc (nI 40 < x2) (some (some (.int (nI 0)), (g, lg, Rp s r p))) (some (some (.int (nI 1)), (g, lg, Rp s r p)))) := fun b g lg => by
    rw [Mo_isIn_eq]; simp only [gd_0, gd_1]
  by_cases q1 : x1 < 0
  · refine go_ (nM 1) ?_ ?_
    · rw [hC0, ifc_t q1]
    · rw [Mo_chance_eq, ifc_t q1]
  · by_cases q2 : x2 < nI 1
    · refine go_ (nM 1) ?_ ?_
      · rw [hC0, ifc_f q1, ifc_t q2]
      · rw [Mo_chance_eq, ifc_f q1, isb True, ifc_t q2, crI_t, ifc_t nI_0]
    · by_cases q3 : nI 40 < x2
      · refine go_ (nM 1) ?_ ?_
        · rw [hC0, ifc_f q1, ifc_f q2, ifc_t q3]
        · rw [Mo_chance_eq, ifc_f q1, isb True, ifc_f q2, ifc_t q3, crI_t, ifc_t nI_0]
      · cases h3' : isn (pN P) x3
        · refine go_ (nM 1) ?_ ?_
          · rw [hC0, ifc_f q1, ifc_f q2, ifc_f q3]
            simp only [cNode_ok hp hw hPC, h3', crI_t, crV_t, crL_t, ifc_b, Bool.false_eq_true, if_false, if_true]
          · rw [Mo_chance_eq, ifc_f q1, isb True, ifc_f q2, ifc_f q3, crI_t, ifc_f (by decide)]
            simp only [rNode_ok hw (PM_of hth), h3', crI_t, crV_t, crL_t, ifc_b, Bool.false_eq_true, if_false, if_true]
        · cases h4' : isn 100 x4
          · refine go_ (nM 1) ?_ ?_
            · rw [hC0, ifc_f q1, ifc_f q2, ifc_f q3]
              simp only [cNode_ok hp hw hPC, h3', hin4, h4', crI_t, crV_t, crL_t, ifc_b, Bool.false_eq_true, if_false, if_true]
            · rw [Mo_chance_eq, ifc_f q1, isb True, ifc_f q2, ifc_f q3, crI_t, ifc_f (by decide)]
              simp only [rNode_ok hw (PM_of hth), h3', rIn_ok (show 99 + 1 < 2 ^ 31 by decide), h4', crI_t, crV_t, crL_t, ifc_b, Bool.false_eq_true, if_false, if_true]
          · obtain ⟨node, hnode, rfl⟩ := isn_t h3'
            have hx2 : ∃ n, n ≤ 40 ∧ x2 = nI n := by
              rcases pk_ix x2 (show 41 < 2 ^ 31 by decide) with hx | hx | ⟨j, hj, e⟩
              · exact absurd (Int32.lt_trans hx (by decide : (0 : Int32) < nI 1)) q2
              · exact absurd (Int32.lt_of_lt_of_le (by decide : nI 40 < nI 41) hx) q3
              · exact ⟨j, by omega, e⟩
            obtain ⟨n, hn, rfl⟩ := hx2
            have hloss : P.1 18 ≤ 100 := hw.2.2.1.2.2.1
            -- the component
            generalize hj1 : u2 (cpl i (nI 0)) 47 4 (nI 1) = j1
            have e1 : ∀ a, a ≠ 47 → j1 a = i a := fun a ha => by rw [← hj1, u2_r ha, cpl_r ha]
            have hM1 : CM mG j1 := by rw [← hj1]; exact cdraw_CM
            have f1 : fr qS i j1 := fun a k hq => by rw [e1 a (fun e => by subst e; simp [qS] at hq)]
            have hI1 : INV P j1 l s r p := INV_S h (SCR_cmp h f1 (by
              unfold NetI NetOk NR
              rw [e1 26 (by decide), e1 43 (by decide), e1 44 (by decide), e1 45 (by decide)]
              exact hNI) (by rw [e1 74 (by decide)]) (e1 80 (by decide)) (by rw [e1 82 (by decide)]) (lS_refl _))
            have hl18 : j1 p 18 = nI (P.1 18) := (PC_of hI1).1 18 (by omega) (by omega)
            have hC1 : GT_chance x1 (nI n) (nI node) x4 (i, l, Rp s r p) = GT_chance_85 (nI n) (nI node) x4 (nI (if P.1 18 = 0 ∨ P.1 18 = 100 then 1 else 10)) x1 (nI 0) (nI 0) (j1, l, Rp s r p) := by
              have hd := cdraw_ok (i := i) (l := l) (s := s) (r := r) (p := p)
              rw [hj1] at hd
              rw [hC0, ifc_f q1, ifc_f q2, ifc_f q3]
              simp only [cNode_ok hp hw hPC, h3', hin4, h4', hd, crI_t, crV_t, crL_t, ifc_b, Bool.false_eq_true, if_false, if_true]
              rw [hl18, ifc_z (by omega), ifc_eq (by omega) (by omega)]
              by_cases z0 : P.1 18 = 0
              · rw [if_pos z0, if_pos (Or.inl z0)]
              · by_cases z1 : P.1 18 = 100
                · rw [if_neg z0, if_pos z1, if_pos (Or.inr z1)]
                · rw [if_neg z0, if_neg z1, if_neg (by omega)]
            -- the reference, for given states
            have fin : ∀ (g : Nat → Nat → Int32) (lg : Nat → Nat → Int64) (σs : Nat → ST), INV P g lg s r p → (∀ q, q < 10 → swf P (σs q) ∧ srg (σs q) (u2 (vw 51 g) 0 12 (xsq P n σs x1 q))) → ∃ m lm, Mo_chance x1 (nI n) (nI node) x4 (g, lg, Rp s r p) = some (some (.int (nI (cnt (hts P n node x4 σs) 10))), (m, lm, Rp s r p)) ∧ INV P m lm s r p := by
              intro g lg σs hg hσ
              have hgt := INV_th hg
              obtain ⟨f, lf, r0, r1, r2, r3, r4, r5⟩ := rloop (i := u2 g 82 2 (nI 0)) (l := u2 lg 82 65 x1.toInt64) (s := s) (r := r) (p := p) (n := n) (node := node) (x := x1) (y := x4) (y5 := lg 82 65) (τ := vw 51 g) (σs := σs) hw (PM_of hgt) (SM_fr (SM0_of hg) (fun a y1 y2 => u2_r (by omega))) hσ (u2_s _ _ _ _) (by omega) (by omega) (co_of hgt) 10 (by omega)
              refine ⟨u2 f 82 66 (nI 0), u2 lf 82 65 (lg 82 65), ?_, ?_⟩
              · rw [Mo_chance_eq, ifc_f q1, isb True, ifc_f q2, ifc_f q3, crI_t, ifc_f (by decide)]
                simp only [rNode_ok hw (PM_of hgt), h3', rIn_ok (show 99 + 1 < 2 ^ 31 by decide), h4', crI_t, crV_t, crL_t, ifc_b, Bool.false_eq_true, if_false, if_true]
                rw [r0, Mo_chance_58_eq, ifc_f (by decide), gd_0]
              · refine INV_S hgt (SCR_ref hgt (fr_trans r2 (fr_u2 rfl)) (fun a ha => (u2_r (by omega)).trans (r3 a ha)) ((u2_k (by decide)).trans r4) ?_)
                intro a y1 y2 y3
                by_cases e82 : a = 82
                · subst e82
                  funext k
                  by_cases e65 : k = 65
                  · subst e65; rw [u2_s]
                  · rw [u2_k e65, r5.2.1 k e65, u2_k e65]
                · rw [u2_r e82, r5.1 a e82 y2 y3, u2_r e82]
            have e51 : ∀ (g : Nat → Nat → Int32), fr qS j1 g → ∀ x, srg (u2 (vw 51 j1) 0 12 x) (u2 (vw 51 g) 0 12 x) := fun g hg x => srg_of (fun a ha => by
              have e := vw51_S hg a ha
              by_cases e0 : a = 0
              · subst e0
                funext q
                by_cases e12 : q = 12
                · subst e12; rw [u2_s, u2_s]
                · rw [u2_k e12, u2_k e12, e]
              · rw [u2_r e0, u2_r e0, e])
            by_cases hT : P.1 18 = 0 ∨ P.1 18 = 100
            · rw [if_pos hT] at hC1
              obtain ⟨σs, g, lg, a0, a1, a2, a3, a4, a5, a6⟩ := cloop (T := 1) (n := n) (node := node) (y := x4) hI1 hM1 q1 (by omega) (by omega) (by omega) 1 (by omega)
              obtain ⟨w1, w2⟩ := a1 0 (by omega)
              have hlst : ∀ x, (lst P mG x).2 = x := fun x => by
                unfold lst
                have hod : od P mG = P.1 18 := by unfold od mG; simp
                rw [hod]
                rcases hT with e | e
                · rw [if_pos e]
                · rw [if_neg (by omega), if_pos e]
              have hx0 : σs 0 0 12 = x1 := (w2.1 12 (by omega) (by omega)).trans (u2_s _ _ _ _)
              have hxc : ∀ q, xsq P n (fun _ => σs 0) x1 q = x1 := fun q => by
                cases q with
                | zero => rfl
                | succ q =>
                  show tcn P mG (σs 0) n 0 12 = x1
                  rw [tcn_12 hlst, hx0]
              obtain ⟨m, lm, b0, b1⟩ := fin g lg (fun _ => σs 0) a2 (fun q hq => ⟨w1, by rw [hxc q]; exact srg_trans w2 (e51 g a4 x1)⟩)
              have hcnt : cnt (hts P n node x4 (fun _ => σs 0)) 10 = cnt (hts P n node x4 σs) 1 * 10 := by
                have e2 : hts P n node x4 (fun _ => σs 0) = fun _ => hts P n node x4 σs 0 := rfl
                rw [e2, cnt_all]
                show _ = (0 + (if hts P n node x4 σs 0 then 1 else 0)) * 10
                cases hts P n node x4 σs 0 <;> rfl
              refine ⟨_, g, lg, m, lm, ?_, b0, b1⟩
              rw [hC1, a0, GT_chance_85_eq, ifc_f (nI_nlt (Nat.le_refl _) (by omega)), ifc_t rfl, nI_mul, hcnt]
            · rw [if_neg hT] at hC1
              obtain ⟨σs, g, lg, a0, a1, a2, a3, a4, a5, a6⟩ := cloop (T := 10) (n := n) (node := node) (y := x4) hI1 hM1 q1 (by omega) (by omega) (by omega) 10 (by omega)
              obtain ⟨m, lm, b0, b1⟩ := fin g lg σs a2 (fun q hq => ⟨(a1 q hq).1, srg_trans (a1 q hq).2 (e51 g a4 _)⟩)
              refine ⟨_, g, lg, m, lm, ?_, b0, b1⟩
              rw [hC1, a0, GT_chance_85_eq, ifc_f (nI_nlt (Nat.le_refl _) (by omega)), ifc_f (by decide)]
end
end
