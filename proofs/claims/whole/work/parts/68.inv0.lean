/-! the invariant at the start: all of it -/
def jB : Nat → Nat → Int32 := apI IM iA
theorem MB1 : M1_Mo (F_GT_0 Mz) = (jB, fun _ _ => 0, apR RM0 (apR RA2 (apR RA1 (fun _ _ => none)))) := by
  rw [MB_eq, MA_eq]
  rfl
def RAll : List (Nat × Nat × Nat) := RA1 ++ (RA2 ++ RM0)
set_option maxRecDepth 20000 in
theorem RAll_b : RAll.all (fun q => Nat.blt q.1 83 && Nat.blt q.2.1 91) = true := by decide +kernel
theorem apF_fl {a k : Nat} : ∀ {L : List (Nat × Nat × Nat)} {v : Option Nat}, apF a k L v = apF a k (L.filter (fun q => Nat.beq q.1 a)) v
  | [], _ => rfl
  | q :: L, v => by
    show apF a k L _ = _
    cases hb : Nat.beq q.1 a
    · rw [List.filter_cons_of_neg (by rw [hb]; decide), apF_fl]
      rw [Bool.false_and]
      rfl
    · have hf : (q :: L).filter (fun q => Nat.beq q.1 a) = q :: L.filter (fun q => Nat.beq q.1 a) := List.filter_cons_of_pos (p := fun q : Nat × Nat × Nat => Nat.beq q.1 a) hb
      rw [hf, apF_fl]
      show _ = apF a k _ (if (Nat.beq q.1 a && Nat.beq q.2.1 k) = true then some q.2.2 else v)
      rw [hb]
def rowsL : List Nat := [0, 1, 7, 18, 23, 26, 27, 38, 47, 51, 58, 65, 72, 74, 82]
def chkRow (a : Nat) : Bool := (List.range 91).all (fun k => decide (apF a k (RAll.filter (fun q => Nat.beq q.1 a)) none = Rp 7 7 27 a k))
set_option maxRecDepth 20000 in
theorem rows_ok : rowsL.all chkRow = true := by decide +kernel
set_option maxRecDepth 20000 in
theorem rows_no : (List.range 83).all (fun a => rowsL.contains a || (Nat.beq (rfB a) 0 && (RAll.filter (fun q => Nat.beq q.1 a)).isEmpty)) = true := by decide +kernel
theorem RAll_v {a k : Nat} (ha : a < 83) (hk : k < 91) : apF a k RAll none = Rp 7 7 27 a k := by
  rw [apF_fl]
  have h := List.all_eq_true.mp rows_no a (List.mem_range.mpr ha)
  rw [Bool.or_eq_true, Bool.and_eq_true] at h
  rcases h with h | ⟨h1, h2⟩
  · have h3 := List.all_eq_true.mp rows_ok a (List.contains_iff_mem.mp h)
    exact of_decide_eq_true (List.all_eq_true.mp h3 k (List.mem_range.mpr hk))
  · rw [List.isEmpty_iff.mp h2]
    show none = rfV 7 7 27 (rfC a k)
    have : rfC a k = 0 := by
      unfold rfC
      rw [Nat.eq_of_beq_eq_true h1]
      show (0 >>> (10 * k)) &&& 1023 = 0
      rw [Nat.zero_shiftRight]
      exact Nat.zero_and _
    rw [this]
    rfl
theorem RAll_eq : apR RM0 (apR RA2 (apR RA1 (fun _ _ => none))) = Rp 7 7 27 := by
  rw [← apR_app, ← apR_app]
  show apR RAll _ = _
  funext a k
  rw [apR_F]
  by_cases h : 83 ≤ a ∨ 91 ≤ k
  · rw [apF_o RAll_b h]
    show none = rfV 7 7 27 (rfC a k)
    rw [rfC_0 (by omega)]
    rfl
  · exact RAll_v (by omega) (by omega)
set_option maxRecDepth 20000 in
theorem IM_row : IM.all (fun q => Nat.beq q.1 82 || Nat.beq q.1 84) = true := by decide +kernel
theorem jB_o {a k : Nat} (h : a ≠ 82 ∧ a ≠ 84) : jB a k = iA a k := by
  unfold jB
  refine apI_o (List.all_eq_true.mpr (fun q hq => ?_))
  have := List.all_eq_true.mp IM_row q hq
  rw [Bool.or_eq_true] at this
  cases hb : Nat.beq q.1 a
  · rfl
  · have h1 := Nat.eq_of_beq_eq_true hb
    rcases this with x | x
    · exact absurd (h1.symm.trans (Nat.eq_of_beq_eq_true x)) h.1
    · exact absurd (h1.symm.trans (Nat.eq_of_beq_eq_true x)) h.2
/-- what stands in the component's cells at the start -/
def chk0 : List (Nat × Nat × Nat × Bool) := [(0, 11, 0, false), (0, 12, 0, false), (0, 13, 1, true), (1, 8, 0, false), (23, 5, 0, false), (26, 4, 0, false), (27, 11, 0, false), (27, 12, 0, false), (27, 13, 0, false), (27, 14, 0, false), (27, 15, 0, false), (27, 16, 0, false), (27, 17, 4, false), (27, 18, 0, false), (27, 19, 0, false), (38, 4, 0, false), (38, 5, 0, false), (41, 0, 0, false), (41, 1, 0, false), (41, 2, 0, false), (42, 0, 0, false), (42, 1, 0, false), (42, 2, 0, false),
  (51, 6, 0, false), (51, 7, 0, false), (51, 8, 0, false), (51, 9, 0, false), (51, 10, 0, false), (51, 11, 0, false), (51, 12, 0, false), (72, 1, 0, false), (72, 2, 0, false), (74, 7, 1, true), (74, 8, 0, false), (74, 9, 1, true)]
set_option maxRecDepth 20000 in
theorem chk0_ok : chk0.all (fun q => decide (iA q.1 q.2.1 = vI q.2.2)) = true := by decide +kernel
theorem iA_v {a k : Nat} {v : Nat × Bool} (h : (a, k, v) ∈ chk0) : iA a k = vI v := of_decide_eq_true (List.all_eq_true.mp chk0_ok _ h)
set_option maxRecDepth 20000 in
theorem IA_row : (IA1 ++ IA2).all (fun q => !(Nat.blt 51 q.1 && Nat.blt q.1 58)) = true := by decide +kernel
theorem iA_s {a k : Nat} (h : 51 < a ∧ a < 58) : iA a k = 0 := by
  have hb : ∀ (L : List (Nat × Nat × Nat × Bool)), L.all (fun q => !(Nat.blt 51 q.1 && Nat.blt q.1 58)) = true → L.all (fun q => !(Nat.beq q.1 a)) = true := fun L hL => List.all_eq_true.mpr (fun q hq => by
    have := List.all_eq_true.mp hL q hq
    cases hx : Nat.beq q.1 a
    · rfl
    · have h1 := Nat.eq_of_beq_eq_true hx
      rw [h1] at this
      have h2 : Nat.blt 51 a = true := by simp [Nat.blt]; omega
      have h3 : Nat.blt a 58 = true := by simp [Nat.blt]; omega
      rw [h2, h3] at this
      cases this)
  have hr := IA_row
  rw [List.all_append, Bool.and_eq_true] at hr
  unfold iA
  rw [apI_o (hb _ hr.2), congrFun (oi_c (by omega)) k, apI_o (hb _ hr.1)]
set_option maxRecDepth 20000 in
theorem wd3 : (List.range 26).all (fun k => decide (iA 3 k = nI (wdC.getD k 0))) = true := by decide +kernel
set_option maxRecDepth 20000 in
theorem wd84 : (List.range 133).all (fun k => decide (jB 84 k = nI (wdR.getD k 0))) = true := by decide +kernel
set_option maxRecDepth 20000 in
theorem jB_82 : jB 82 1 = nI 0 ∧ jB 82 4 = nI 0 ∧ jB 82 5 = nM 1 := by decide +kernel
theorem start_INV : ∃ P i' l' M2, Mo_plain (M1_Mo (F_GT_0 Mz)) = some (none, M2) ∧ Mo_keepText M2 = some (none, (i', l', Rp 7 7 27)) ∧ INV P i' l' 7 7 27 := by
  rw [MB1, RAll_eq]
  obtain ⟨j', p1, pf, p3, p4, p5, p6, p7, p8, p9, p10⟩ := plain_ok (j := jB) (l := fun _ _ => 0) (s := 7) (r := 7) (p := 27)
  have hA : ∀ a k, a < 82 → j' a k = iA a k := fun a k ha => (pf a k (qB_o (by omega))).trans (jB_o (by omega))
  have hv : ∀ a k v, a < 82 → (a, k, v) ∈ chk0 → j' a k = vI v := fun a k v ha h => (hA a k ha).trans (iA_v h)
  have hR : RD 27 0 0 0 0 0 j' j' := by
    refine RD_0 (Or.inr rfl) ⟨hv 27 11 (0, false) (by omega) (by decide), hv 27 12 (0, false) (by omega) (by decide), hv 27 13 (0, false) (by omega) (by decide), hv 27 14 (0, false) (by omega) (by decide), hv 27 15 (0, false) (by omega) (by decide), hv 27 16 (0, false) (by omega) (by decide), hv 27 17 (4, false) (by omega) (by decide), hv 27 18 (0, false) (by omega) (by decide), hv 27 19 (0, false) (by omega) (by decide)⟩ ⟨hv 38 4 (0, false) (by omega) (by decide), hv 38 5 (0, false) (by omega) (by decide), fun w hw => ?_⟩ (hv 23 5 (0, false) (by omega) (by decide)) p3 p4 p5 p6 ⟨p7, p8, p9⟩
    have : w = 0 ∨ w = 1 ∨ w = 2 := by omega
    rcases this with x | x | x <;> subst x
    · exact ⟨hv 41 0 (0, false) (by omega) (by decide), hv 42 0 (0, false) (by omega) (by decide)⟩
    · exact ⟨hv 41 1 (0, false) (by omega) (by decide), hv 42 1 (0, false) (by omega) (by decide)⟩
    · exact ⟨hv 41 2 (0, false) (by omega) (by decide), hv 42 2 (0, false) (by omega) (by decide)⟩
  obtain ⟨P, w1, w2, w3, w4, w5, w6⟩ := RD_P (l := fun _ _ => 0) (s2 := 7) (r2 := 7) (p2 := 27) (Or.inr rfl) hR
  have hJ : ∀ a k, a < 82 → kt j' (rt P 0) a k = iA a k := fun a k ha => by
    rw [congrFun (kt_r (by omega)) k]
    exact hA a k ha
  have hJv : ∀ a k v, a < 82 → (a, k, v) ∈ chk0 → kt j' (rt P 0) a k = vI v := fun a k v ha h => (hJ a k ha).trans (iA_v h)
  have hJs : ∀ a k, 51 < a → a < 58 → kt j' (rt P 0) a k = 0 := fun a k x y => (hJ a k (by omega)).trans (iA_s ⟨x, y⟩)
  obtain ⟨o1, o2, o3, o4, o5, o6, o7, o8, o9⟩ := kt_s (j := j') (z := rt P 0)
  obtain ⟨u1, u2', u3, u4, u5⟩ := kt_t (j := j') (z := rt P 0)
  have r2 := hJv 51 7 (0, false) (by omega) (by decide)
  have r3 := hJv 51 8 (0, false) (by omega) (by decide)
  have r7 := hJv 51 12 (0, false) (by omega) (by decide)
  have h19 : P.1 19 = 0 := by
    have e1 : nI (P.1 19) = nI 0 := w4.symm.trans (hv 27 19 (0, false) (by omega) (by decide))
    have := w1.2.2.1
    exact (nI_eq (by omega) (by decide)).mp e1
  refine ⟨P, kt j' (rt P 0), u2 (fun _ _ => 0) 82 65 ((j' 87 5).toInt64), _, p1, w6, by omega, by omega, w1, ?_, w5, Or.inl (hJv 26 4 (0, false) (by omega) (by decide)), ?_, ?_, ?_, u1, ?_, ?_, ?_, ?_, ?_, ?_, ?_⟩
  · exact PC_fr w2 (fun a ha => funext fun k => (hJ _ k (by omega)).trans (hA _ k (by omega)).symm)
  · refine ⟨fun q hq => ⟨0, by omega, hJs 56 q (by omega) (by omega)⟩, fun a ha k hk => ?_, fun t n k x1 x2 x3 _ => hJs 56 _ (by omega) (by omega), fun k hk hb => ?_, fun k hk hb => ?_, fun q hq k hk hb => ?_, ?_⟩
    · show bt (kt j' (rt P 0) 57 a) k = (decide (k < 8) && decide (kt j' (rt P 0) 56 (8 * a + k) ≠ 0))
      rw [hJs 57 a (by omega) (by omega), b_0, hJs 56 _ (by omega) (by omega)]
      simp
    · have hb' : bt (kt j' (rt P 0) 51 7) k = true := hb
      rw [r2, show bt (vI (0, false)) k = false from b_0 k] at hb'
      cases hb'
    · have hb' : bt (kt j' (rt P 0) 51 8) k = true := hb
      rw [r3, show bt (vI (0, false)) k = false from b_0 k] at hb'
      cases hb'
    · have hb' : bt (kt j' (rt P 0) 52 q) k = true := hb
      rw [hJs 52 q (by omega) (by omega), b_0] at hb'
      cases hb'
    · show ¬ kt j' (rt P 0) 51 12 < 0
      rw [r7]
      decide
  · show SM 0 (vw 51 (kt j' (rt P 0))) (kt j' (rt P 0))
    unfold SM vw
    refine ⟨o1.trans r3.symm, o2.trans r2.symm, fun q hq => ?_, fun q hq => ?_, fun q hq => ⟨?_, ?_, ?_⟩, o6.trans (hJv 51 9 (0, false) (by omega) (by decide)).symm, o7.trans (hJv 51 10 (0, false) (by omega) (by decide)).symm, o8.trans (hJv 51 11 (0, false) (by omega) (by decide)).symm, o9.trans (hJv 51 6 (0, false) (by omega) (by decide)).symm⟩
    · rw [show 3 * 0 + q = q by omega, o3 q hq]; exact (hJs (51 + 1) q (by omega) (by omega)).symm
    · rw [show 224 * 0 + q = q by omega, o4 q hq]; exact (hJs (51 + 5) q (by omega) (by omega)).symm
    · rw [show 7 * 0 + q = q by omega, (o5 q hq).1]; exact (hJs (51 + 2) q (by omega) (by omega)).symm
    · rw [show 7 * 0 + q = q by omega, (o5 q hq).2.1]; exact (hJs (51 + 3) q (by omega) (by omega)).symm
    · rw [show 7 * 0 + q = q by omega, (o5 q hq).2.2]; exact (hJs (51 + 4) q (by omega) (by omega)).symm
  · rw [u2_s, r7, w3, h19]
    rfl
  · exact ⟨0, 0, fun _ => vw 51 (kt j' (rt P 0)), by omega, by omega, hJv 72 2 (0, false) (by omega) (by decide), u4, hJv 72 1 (0, false) (by omega) (by decide), fun e he => by omega⟩
  · exact ⟨false, hJv 0 11 (0, false) (by omega) (by decide), u5, fun x => absurd x (by decide)⟩
  · exact ⟨0, by omega, hJv 74 8 (0, false) (by omega) (by decide), u2', Or.inl ⟨hJv 74 9 (1, true) (by omega) (by decide), u3⟩, fun k hk => by omega⟩
  · exact Or.inl (hJv 74 7 (1, true) (by omega) (by decide))
  · exact ⟨0, by omega, hJv 1 8 (0, false) (by omega) (by decide), (kt_82 (by omega)).trans ((p10 1 (by omega)).trans jB_82.1), fun k hk => by omega⟩
  · refine ⟨?_, ?_⟩
    · rw [hJv 0 12 (0, false) (by omega) (by decide), kt_82 (by omega), p10 4 (by omega), jB_82.2.1]
      rfl
    · rw [hJv 0 13 (1, true) (by omega) (by decide), kt_82 (by omega), p10 5 (by omega), jB_82.2.2]
      rfl
  · refine ⟨fun k hk => ?_, fun k hk => ?_⟩
    · rw [hJ 3 k (by omega)]
      exact of_decide_eq_true (List.all_eq_true.mp wd3 k (List.mem_range.mpr hk))
    · rw [congrFun (kt_r (by omega)) k, pf 84 k (qB_o (by omega))]
      exact of_decide_eq_true (List.all_eq_true.mp wd84 k (List.mem_range.mpr hk))
