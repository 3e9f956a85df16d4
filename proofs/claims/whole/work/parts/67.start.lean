/-! the invariant at the start -/
theorem apI_o {f : Nat → Nat → Int32} {a k : Nat} : ∀ {L : List (Nat × Nat × Nat × Bool)}, L.all (fun q => !(Nat.beq q.1 a)) = true → apI L f a k = f a k
  | [], _ => rfl
  | q :: L, h => by
    rw [List.all_cons, Bool.and_eq_true] at h
    show apI L (u2 f q.1 q.2.1 (vI q.2.2)) a k = _
    rw [apI_o h.2]
    have hne : a ≠ q.1 := fun x => by
      have := h.1
      rw [x, Nat.beq_refl] at this
      cases this
    unfold u2
    rw [if_neg hne]
theorem apI_app {f : Nat → Nat → Int32} : ∀ (L L' : List (Nat × Nat × Nat × Bool)), apI (L ++ L') f = apI L' (apI L f)
  | [], _ => rfl
  | q :: L, L' => apI_app (f := u2 f q.1 q.2.1 (vI q.2.2)) L L'
theorem apR_app {f : Nat → Nat → Option Nat} : ∀ (L L' : List (Nat × Nat × Nat)), apR (L ++ L') f = apR L' (apR L f)
  | [], _ => rfl
  | q :: L, L' => apR_app (f := u2 f q.1 q.2.1 (some q.2.2)) L L'
theorem PT0_app {I I' : List (Nat × Nat × Nat × Bool)} {R R' : List (Nat × Nat × Nat)} {M : AM} : PT0 I' R' (PT0 I R M) = PT0 (I ++ I') (R ++ R') M := by
  show (apI I' (apI I M.1), M.2.1, apR R' (apR R M.2.2)) = (apI (I ++ I') M.1, M.2.1, apR (R ++ R') M.2.2)
  rw [apI_app, apR_app]
def apF (a k : Nat) : List (Nat × Nat × Nat) → Option Nat → Option Nat
  | [], v => v
  | q :: L, v => apF a k L (if Nat.beq q.1 a && Nat.beq q.2.1 k then some q.2.2 else v)
theorem apR_F {a k : Nat} : ∀ {L : List (Nat × Nat × Nat)} {f : Nat → Nat → Option Nat}, apR L f a k = apF a k L (f a k)
  | [], _ => rfl
  | q :: L, f => by
    show apR L (u2 f q.1 q.2.1 (some q.2.2)) a k = apF a k L _
    rw [apR_F]
    congr 1
    unfold u2
    by_cases h1 : a = q.1
    · by_cases h2 : k = q.2.1
      · rw [if_pos h1, if_pos h2, h1, h2, Nat.beq_refl, Nat.beq_refl]
        rfl
      · rw [if_pos h1, if_neg h2]
        have : Nat.beq q.2.1 k = false := by
          cases hb : Nat.beq q.2.1 k
          · rfl
          · exact absurd (Nat.eq_of_beq_eq_true hb).symm h2
        rw [this, Bool.and_false]
        rfl
    · rw [if_neg h1]
      have : Nat.beq q.1 a = false := by
        cases hb : Nat.beq q.1 a
        · rfl
        · exact absurd (Nat.eq_of_beq_eq_true hb).symm h1
      rw [this, Bool.false_and]
      rfl
theorem apF_o {a k : Nat} {v : Option Nat} : ∀ {L : List (Nat × Nat × Nat)}, L.all (fun q => Nat.blt q.1 83 && Nat.blt q.2.1 91) = true → 83 ≤ a ∨ 91 ≤ k → apF a k L v = v
  | [], _, _ => rfl
  | q :: L, h, ha => by
    rw [List.all_cons, Bool.and_eq_true, Bool.and_eq_true] at h
    have h1 := blt_sp h.1.1
    have h2 := blt_sp h.1.2
    show apF a k L _ = v
    have : (Nat.beq q.1 a && Nat.beq q.2.1 k) = false := by
      cases hb : (Nat.beq q.1 a && Nat.beq q.2.1 k)
      · rfl
      · rw [Bool.and_eq_true] at hb
        have := Nat.eq_of_beq_eq_true hb.1
        have := Nat.eq_of_beq_eq_true hb.2
        omega
    rw [this]
    exact apF_o h.2 ha
def Mz : AM := (fun _ _ => 0, fun _ _ => 0, fun _ _ => none)
def IA1 : List (Nat × Nat × Nat × Bool) := [(1, 5, (0, false)), (1, 6, (0, false)), (1, 7, (0, false)), (1, 8, (0, false)), (1, 9, (41, false)), (1, 10, (0, false)), (1, 11, (0, false))]
def RA1 : List (Nat × Nat × Nat) := [(1, 0, 2), (1, 1, 3), (1, 2, 4), (1, 3, 5), (1, 4, 6)]
def IA2 : List (Nat × Nat × Nat × Bool) := [(18, 4, (0, false)), (18, 5, (0, false)), (7, 11, (0, false)), (7, 12, (0, false)), (7, 13, (0, false)), (7, 14, (0, false)), (7, 15, (0, false)), (7, 16, (0, false)), (7, 17, (4, false)), (7, 18, (0, false)), (7, 19, (0, false)), (23, 4, (0, false)), (23, 5, (0, false)), (23, 6, (0, false)), (23, 7, (0, false)), (23, 8, (0, false)), (23, 9, (1, true)), (38, 4, (0, false)), (38, 5, (0, false)), (27, 11, (0, false)), (27, 12, (0, false)), (27, 13, (0, false)), (27, 14, (0, false)), (27, 15, (0, false)), (27, 16, (0, false)), (27, 17, (4, false)), (27, 18, (0, false)), (27, 19, (0, false)), (26, 4, (0, false)), (26, 5, (0, false)), (47, 4, (0, false)), (47, 5, (0, false)), (47, 6, (1, true)), (47, 7, (1, true)), (51, 6, (0, false)), (51, 7, (0, false)), (51, 8, (0, false)), (51, 9, (0, false)), (51, 10, (0, false)), (51, 11, (0, false)), (51, 12, (0, false)), (58, 6, (0, false)), (58, 7, (0, false)), (58, 8, (0, false)), (58, 9, (0, false)), (58, 10, (0, false)), (58, 11, (0, false)), (58, 12, (0, false)), (65, 6, (0, false)), (65, 7, (0, false)), (65, 8, (0, false)), (65, 9, (0, false)), (65, 10, (0, false)), (65, 11, (0, false)), (65, 12, (0, false)), (72, 1, (0, false)), (72, 2, (0, false)), (74, 7, (1, true)), (74, 8, (0, false)), (74, 9, (1, true)), (74, 10, (0, false)), (74, 11, (0, false)), (74, 12, (0, false)), (0, 11, (0, false)), (0, 12, (0, false)), (0, 13, (1, true))]
def RA2 : List (Nat × Nat × Nat) := [(0, 0, 1), (7, 0, 8), (7, 1, 9), (7, 2, 10), (7, 3, 11), (7, 4, 12), (7, 5, 13), (7, 6, 14), (7, 7, 15), (7, 8, 16), (7, 9, 17), (18, 0, 19), (18, 1, 20), (18, 2, 21), (18, 3, 22), (7, 10, 18), (0, 1, 7), (23, 1, 24), (23, 2, 25), (23, 0, 1), (23, 3, 7), (0, 2, 23), (27, 0, 28), (27, 1, 29), (27, 2, 30), (27, 3, 31), (27, 4, 32), (27, 5, 33), (27, 6, 34), (27, 7, 35), (27, 8, 36), (27, 9, 37), (38, 0, 39), (38, 1, 40), (38, 2, 41), (38, 3, 42), (27, 10, 38), (26, 0, 43), (26, 1, 44), (26, 2, 45), (26, 3, 46), (26, 6, 27), (0, 3, 26), (47, 1, 48), (47, 2, 49), (47, 3, 50), (47, 0, 26), (0, 4, 47), (51, 0, 52), (51, 1, 53), (51, 2, 54), (51, 3, 55), (51, 4, 56), (51, 5, 57), (0, 5, 51), (58, 0, 59), (58, 1, 60), (58, 2, 61), (58, 3, 62), (58, 4, 63), (58, 5, 64), (0, 6, 58), (65, 0, 66), (65, 1, 67), (65, 2, 68), (65, 3, 69), (65, 4, 70), (65, 5, 71), (0, 7, 65), (72, 0, 73), (0, 8, 72), (74, 1, 75), (74, 2, 76), (74, 3, 77), (74, 4, 78), (74, 5, 79), (74, 6, 80), (74, 0, 26), (0, 9, 74), (0, 10, 81)]
def IM : List (Nat × Nat × Nat × Bool) := LIm_0 ++ LIm_1 ++ LIm_2 ++ LIm_3 ++ LIm_4 ++ LIm_5 ++ LIm_6 ++ LIm_7 ++ LIm_8 ++ LIm_9 ++ LIm_10 ++ LIm_11 ++ LIm_12 ++ LIm_13 ++ LIm_14 ++ LIm_15 ++ LIm_16 ++ LIm_17
def RM0 : List (Nat × Nat × Nat) := LRm_0 ++ LRm_1 ++ LRm_2 ++ LRm_3 ++ LRm_4 ++ LRm_5 ++ LRm_6 ++ LRm_7 ++ LRm_8 ++ LRm_9 ++ LRm_10 ++ LRm_11 ++ LRm_12 ++ LRm_13 ++ LRm_14 ++ LRm_15 ++ LRm_16 ++ LRm_17
def iA : Nat → Nat → Int32 := apI IA2 (oi (apI IA1 (fun _ _ => 0)) 3 0 26 (fun k => nI (wdC.getD k 0)))
set_option maxRecDepth 20000 in
theorem MA_eq : F_GT_0 Mz = (iA, fun _ _ => 0, apR RA2 (apR RA1 (fun _ _ => none))) := by
  rw [F_GT_eq]
  simp only [F_Laws_18_eq, F_Plan_7_eq, F_Reader_23_eq, F_Laws_38_eq, F_Plan_27_eq, F_Net_26_eq, F_Course_47_eq, F_State_51_eq, F_State_58_eq, F_State_65_eq, F_Past_72_eq, F_Notes_74_eq, PT0_app, F_Tokens_1, M1_Tokens_eq]
  rfl
theorem MB_eq (M : AM) : M1_Mo M = PT0 IM RM0 M := by
  rw [M1_Mo_eq]
  simp only [PT0_app]
  rfl
