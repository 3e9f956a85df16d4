section
/-! the start of a text: references that move, plans made plain -/
theorem rfB_0 {a : Nat} (h : 83 ≤ a) : rfB a = 0 := by
  unfold rfB
  split
  all_goals first | rfl | omega
theorem rfB_lt (a : Nat) : rfB a < 2 ^ 900 := by
  rcases Nat.lt_or_ge a 83 with h | h
  · have : ∀ a, a < 83 → rfB a < 2 ^ 900 := by decide +kernel
    exact this a h
  · rw [rfB_0 h]; exact Nat.two_pow_pos _
theorem rfC_0 {a k : Nat} (h : 90 ≤ k ∨ 83 ≤ a) : rfC a k = 0 := by
  unfold rfC
  have : Nat.shiftRight (rfB a) (10 * k) = 0 := by
    show rfB a >>> (10 * k) = 0
    rw [Nat.shiftRight_eq_div_pow]
    rcases h with h | h
    · exact Nat.div_eq_of_lt (Nat.lt_of_lt_of_le (rfB_lt a) (Nat.pow_le_pow_right (by omega) (by omega)))
    · rw [rfB_0 h]; exact Nat.zero_div _
  rw [this]
  exact Nat.zero_and _
theorem rfC_b : (List.range 83).all (fun a => (List.range 90).all (fun k => (rfC a k != 1021 || (a == 0 && k == 1)) && ((rfC a k != 1022 || (a == 23 && k == 3)) && (rfC a k != 1023 || (a == 26 && k == 6))))) = true := by decide +kernel
theorem rfC_1 (a : Nat) (ha : a < 83) (k : Nat) (hk : k < 90) : (rfC a k = 1021 → a = 0 ∧ k = 1) ∧ (rfC a k = 1022 → a = 23 ∧ k = 3) ∧ (rfC a k = 1023 → a = 26 ∧ k = 6) := by
  have h := List.all_eq_true.mp (List.all_eq_true.mp rfC_b a (List.mem_range.mpr ha)) k (List.mem_range.mpr hk)
  rw [Bool.and_eq_true, Bool.and_eq_true, Bool.or_eq_true, Bool.or_eq_true, Bool.or_eq_true, Bool.and_eq_true, Bool.and_eq_true, Bool.and_eq_true, bne_iff_ne, bne_iff_ne, bne_iff_ne, beq_iff_eq, beq_iff_eq, beq_iff_eq, beq_iff_eq, beq_iff_eq, beq_iff_eq] at h
  exact ⟨fun x => h.1.resolve_left (fun y => y x), fun x => h.2.1.resolve_left (fun y => y x), fun x => h.2.2.resolve_left (fun y => y x)⟩
theorem rfC_2 (a k : Nat) : (rfC a k = 1021 → a = 0 ∧ k = 1) ∧ (rfC a k = 1022 → a = 23 ∧ k = 3) ∧ (rfC a k = 1023 → a = 26 ∧ k = 6) := by
  by_cases h : 90 ≤ k ∨ 83 ≤ a
  · rw [rfC_0 h]
    refine ⟨fun x => absurd x (by decide), fun x => absurd x (by decide), fun x => absurd x (by decide)⟩
  · exact rfC_1 a (by omega) k (by omega)
theorem rfV_c {s r p s' r' p' c : Nat} (h1 : c = 1021 → s = s') (h2 : c = 1022 → r = r') (h3 : c = 1023 → p = p') : rfV s r p c = rfV s' r' p' c := by
  by_cases c1 : c = 1021
  · rw [c1, h1 c1]; rfl
  by_cases c2 : c = 1022
  · rw [c2, h2 c2]; rfl
  by_cases c3 : c = 1023
  · rw [c3, h3 c3]; rfl
  cases c with
  | zero => rfl
  | succ n =>
    unfold rfV
    repeat' split
    all_goals first | rfl | omega | simp_all
theorem Rp_r (s r p x : Nat) : u2 (Rp s r p) 23 3 (some x) = Rp s x p := by
  funext a k
  by_cases h : a = 23 ∧ k = 3
  · rw [h.1, h.2, u2_s]; rfl
  · have e1 : u2 (Rp s r p) 23 3 (some x) a k = Rp s r p a k := by
      unfold u2
      repeat' split
      all_goals first | rfl | omega
    rw [e1]
    exact rfV_c (fun _ => rfl) (fun y => absurd ((rfC_2 a k).2.1 y) h) (fun _ => rfl)
theorem Rp_p (s r p x : Nat) : u2 (Rp s r p) 26 6 (some x) = Rp s r x := by
  funext a k
  by_cases h : a = 26 ∧ k = 6
  · rw [h.1, h.2, u2_s]; rfl
  · have e1 : u2 (Rp s r p) 26 6 (some x) a k = Rp s r p a k := by
      unfold u2
      repeat' split
      all_goals first | rfl | omega
    rw [e1]
    exact rfV_c (fun _ => rfl) (fun _ => rfl) (fun y => absurd ((rfC_2 a k).2.2 y) h)
theorem Rp_s (s r p x : Nat) : u2 (Rp s r p) 0 1 (some x) = Rp x r p := by
  funext a k
  by_cases h : a = 0 ∧ k = 1
  · rw [h.1, h.2, u2_s]; rfl
  · have e1 : u2 (Rp s r p) 0 1 (some x) a k = Rp s r p a k := by
      unfold u2
      repeat' split
      all_goals first | rfl | omega
    rw [e1]
    exact rfV_c (fun y => absurd ((rfC_2 a k).1 y) h) (fun _ => rfl) (fun _ => rfl)
end

section
section
variable {i j : Nat → Nat → Int32} {l l2 : Nat → Nat → Int64} {s r p s2 r2 p2 : Nat}
def clr0 (s : Nat) (i : Nat → Nat → Int32) : Nat → Nat → Int32 := u2 (u2 (oi (oi i (s + 14) 0 3 (fun _ => nI 0)) (s + 15) 0 3 (fun _ => nI 0)) (s + 11) 4 (nI 0)) (s + 11) 5 (nI 0)
def clr (s : Nat) (i : Nat → Nat → Int32) : Nat → Nat → Int32 := u2 (u2 (u2 (u2 (u2 (u2 (u2 (u2 (u2 (clr0 s i) s 11 (nI 0)) s 12 (nI 0)) s 13 (nI 0)) s 14 (nI 0)) s 15 (nI 0)) s 16 (nI 0)) s 17 (nI 4)) s 18 (nI 0)) s 19 (nI 0)
theorem clear_ok {o : Nat} (ho : o = 7 ∨ o = 27) : Plan_clear o (i, l, Rp s r p) = some (none, (clr o i, l, Rp s r p)) := by
  have hj : (o + 14 = 21 ∨ o + 14 = 22 ∨ o + 14 = 41 ∨ o + 14 = 42 ∨ o + 14 = 48 ∨ o + 14 = 52 ∨ o + 14 = 53 ∨ o + 14 = 54 ∨ o + 14 = 55 ∨ o + 14 = 56 ∨ o + 14 = 57 ∨ o + 14 = 66) ∧ (o + 15 = 21 ∨ o + 15 = 22 ∨ o + 15 = 41 ∨ o + 15 = 42 ∨ o + 15 = 48 ∨ o + 15 = 52 ∨ o + 15 = 53 ∨ o + 15 = 54 ∨ o + 15 = 55 ∨ o + 15 = 56 ∨ o + 15 = 57 ∨ o + 15 = 66) := by rcases ho with h | h <;> subst h <;> decide
  have g1 : gN (o + 14) = 3 ∧ gN (o + 15) = 3 := by rcases ho with h | h <;> subst h <;> decide
  rw [Plan_clear_eq _ _ _ _ _ _ ho, Laws_forget_eq _ _ _ _ _ _ (by omega), show o + 11 + 3 = o + 14 by omega, show o + 11 + 4 = o + 15 by omega, jfill_ok hj.1, crV_t, jfill_ok hj.2, crV_t, crV_t, g1.1, g1.2]
  unfold clr clr0
  rfl
/-- the component's part of what a text may change, and the reference's -/
def qA (s a k : Nat) : Bool := qLd s a k || qBg a k
def qB (a k : Nat) : Bool := qLr a k || (a == 82 && (k == 1 || k == 2 || k == 6))
theorem qA_s {a k : Nat} (hs : s = 7 ∨ s = 27) (h1 : s ≤ a) (h2 : a < s + 16) : qA s a k = true := by
  have h3 : decide (s ≤ a) = true := decide_eq_true h1
  have h4 : decide (a ≤ s + 15) = true := decide_eq_true (by omega)
  unfold qA qLd qLc
  rw [h3, h4]
  simp only [Bool.and_true, Bool.or_true, Bool.true_or, Bool.not_false]
theorem qA_o {a k : Nat} (hs : s = 7 ∨ s = 27) (h1 : ¬ (s ≤ a ∧ a < s + 16)) (h2 : ¬ (a = 1 ∧ k ≠ 8)) (h3 : ¬ (4 ≤ a ∧ a ≤ 6)) (h4 : ¬ (23 ≤ a ∧ a ≤ 25)) : qA s a k = false := by
  unfold qA qLd qLc qP qBg
  simp
  omega
theorem qB_o {a k : Nat} (h1 : a < 82 ∨ a = 83 ∨ a = 84 ∨ 105 < a) : qB a k = false := by
  unfold qB qLr qQ
  simp
  omega
theorem clr_fr (hs : s = 7 ∨ s = 27) : fr (qA s) i (clr s i) := by
  have h : ∀ a k x (f : Nat → Nat → Int32), s ≤ a → a < s + 16 → fr (qA s) f (u2 f a k x) := fun a k x f h1 h2 => fr_u2 (qA_s hs h1 h2)
  have g : ∀ a b n (f : Nat → Nat → Int32) F, s ≤ a → a < s + 16 → fr (qA s) f (oi f a b n F) := fun a b n f F h1 h2 => fr_oi (fun k => qA_s hs h1 h2)
  unfold clr clr0
  iterate 11 refine fr_trans ?_ (h _ _ _ _ (by omega) (by omega))
  refine fr_trans ?_ (g _ _ _ _ _ (by omega) (by omega))
  exact g _ _ _ _ _ (by omega) (by omega)
end
end

section
section
variable {i j : Nat → Nat → Int32} {l l2 : Nat → Nat → Int64} {s r p s2 r2 p2 : Nat}
theorem clr_v : (clr s i s 11 = nI 0 ∧ clr s i s 12 = nI 0 ∧ clr s i s 13 = nI 0 ∧ clr s i s 14 = nI 0 ∧ clr s i s 15 = nI 0 ∧ clr s i s 16 = nI 0 ∧ clr s i s 17 = nI 4 ∧ clr s i s 18 = nI 0 ∧ clr s i s 19 = nI 0) ∧ clr s i (s + 11) 4 = nI 0 ∧ clr s i (s + 11) 5 = nI 0 ∧ ∀ w, w < 3 → clr s i (s + 14) w = nI 0 ∧ clr s i (s + 15) w = nI 0 := by
  unfold clr
  refine ⟨?_, ?_, ?_, fun w hw => ⟨?_, ?_⟩⟩
  · simp (disch := decide) only [u2_s, u2_k, and_self]
  · simp (disch := omega) only [u2_i]
    unfold clr0
    simp (disch := omega) only [u2_s, u2_k]
  · simp (disch := omega) only [u2_i]
    unfold clr0
    simp (disch := omega) only [u2_s, u2_k]
  · simp (disch := omega) only [u2_i]
    unfold clr0
    simp (disch := omega) only [u2_i]
    rw [congrFun (oi_c (by omega)) w, oi_0 _ _ _ hw]
  · simp (disch := omega) only [u2_i]
    unfold clr0
    simp (disch := omega) only [u2_i]
    rw [oi_0 _ _ _ hw]
end
end

section
section
variable {i j : Nat → Nat → Int32} {l l2 : Nat → Nat → Int64} {s r p s2 r2 p2 : Nat}
theorem plain_ok : ∃ j', Mo_plain (j, l, Rp s r p) = some (none, (j', l, Rp s r p)) ∧ fr qB j j' ∧ (∀ k, 18 ≤ k → k ≤ 23 → j' 82 k = nI 0) ∧ j' 82 48 = nI 0 ∧ j' 85 1 = nM 1 ∧ (∀ k, k < 3 → j' 86 k = nI 0 ∧ j' 98 (3 + k) = nI 0) ∧ j' 87 3 = nI 4 ∧ j' 87 4 = nI 0 ∧ j' 87 5 = nI 0 ∧ ∀ k, k < 18 → j' 82 k = j 82 k := by
  rw [Mo_plain_eq, gd_in (by omega) (by omega), nI_clamp (by omega)]
  rw [Mo_plain_44_eq, ifc_lt (by omega) (by omega), if_pos (by omega), gd_in (by omega) (by omega), ifc_t (c := nI 0 = 0) rfl, nI_add, nI_add, gd_in (by omega) (by omega), nI_clamp (by omega), nI_clamp (by omega)]
  rw [Mo_plain_44_eq, ifc_lt (by omega) (by omega), if_pos (by omega), gd_in (by omega) (by omega), ifc_f (c := nI (0 + 1) = 0) (by decide), nI_add, nI_add, gd_in (by omega) (by omega), nI_clamp (by omega), nI_clamp (by omega)]
  rw [Mo_plain_44_eq, ifc_lt (by omega) (by omega), if_pos (by omega), gd_in (by omega) (by omega), ifc_f (c := nI (0 + 1 + 1) = 0) (by decide), nI_add, nI_add, gd_in (by omega) (by omega), nI_clamp (by omega), nI_clamp (by omega)]
  rw [Mo_plain_44_eq, ifc_lt (by omega) (by omega), if_neg (by omega)]
  rw [Mo_plain_81_eq, ifc_lt (by omega) (by omega), if_pos (by omega), gd_in (by omega) (by omega), nI_add, nI_clamp (by omega)]
  rw [Mo_plain_81_eq, ifc_lt (by omega) (by omega), if_pos (by omega), gd_in (by omega) (by omega), nI_add, nI_clamp (by omega)]
  rw [Mo_plain_81_eq, ifc_lt (by omega) (by omega), if_pos (by omega), gd_in (by omega) (by omega), nI_add, nI_clamp (by omega)]
  rw [Mo_plain_81_eq, ifc_lt (by omega) (by omega), if_neg (by omega), show nI 0 &&& 1 = nI 0 from rfl]
  refine ⟨_, rfl, ?_, fun k h1 h2 => ?_, ?_, ?_, fun k hk => ⟨?_, ?_⟩, ?_, ?_, ?_, fun k hk => ?_⟩
  · iterate 17 refine fr_trans ?_ (fr_u2 (by decide))
    exact fr_refl _ _
  · simp (disch := decide) only [u2_i]
    have : k = 18 ∨ k = 19 ∨ k = 20 ∨ k = 21 ∨ k = 22 ∨ k = 23 := by omega
    rcases this with x | x | x | x | x | x <;> subst x <;> simp (disch := decide) only [u2_k, u2_s]
  · simp (disch := decide) only [u2_i, u2_s, u2_k]
  · simp (disch := decide) only [u2_i, u2_s, u2_k]
  · have : k = 0 ∨ k = 1 ∨ k = 2 := by omega
    rcases this with x | x | x <;> subst x <;> simp (disch := decide) only [u2_i, u2_k, u2_s] <;> rfl
  · have : k = 0 ∨ k = 1 ∨ k = 2 := by omega
    rcases this with x | x | x <;> subst x <;> simp (disch := decide) only [u2_i, u2_k, u2_s] <;> rfl
  · simp (disch := decide) only [u2_i, u2_s, u2_k]
  · simp (disch := decide) only [u2_i, u2_s, u2_k]
  · simp (disch := decide) only [u2_i, u2_s, u2_k]
  · simp (disch := omega) only [u2_i, u2_s, u2_k]
end
end

section
section
variable {i j : Nat → Nat → Int32} {l l2 : Nat → Nat → Int64} {s r p s2 r2 p2 : Nat}
theorem RD_0 (hs : s = 7 ∨ s = 27) (h1 : i s 11 = nI 0 ∧ i s 12 = nI 0 ∧ i s 13 = nI 0 ∧ i s 14 = nI 0 ∧ i s 15 = nI 0 ∧ i s 16 = nI 0 ∧ i s 17 = nI 4 ∧ i s 18 = nI 0 ∧ i s 19 = nI 0) (h2 : i (s + 11) 4 = nI 0 ∧ i (s + 11) 5 = nI 0 ∧ ∀ w, w < 3 → i (s + 14) w = nI 0 ∧ i (s + 15) w = nI 0) (h3 : i 23 5 = nI 0)
    (g1 : ∀ k, 18 ≤ k → k ≤ 23 → j 82 k = nI 0) (g2 : j 82 48 = nI 0) (g3 : j 85 1 = nM 1) (g4 : ∀ k, k < 3 → j 86 k = nI 0 ∧ j 98 (3 + k) = nI 0) (g5 : j 87 3 = nI 4 ∧ j 87 4 = nI 0 ∧ j 87 5 = nI 0) : RD s 0 0 0 0 0 i j := by
  obtain ⟨a1, a2, a3, a4, a5, a6, a7, a8, a9⟩ := h1
  have hb : ∀ k, bt (i 23 5) k = false := fun k => by rw [h3]; exact b_0 k
  refine ⟨⟨by omega, a1, g1 18 (by omega) (by omega), fun k hk => by omega⟩, ⟨by omega, a2, g1 19 (by omega) (by omega), fun k hk => by omega, fun k hk => by omega⟩, ⟨by omega, a3, g1 20 (by omega) (by omega), fun k hk => by omega, fun k hk => by omega⟩, ⟨by omega, a4, g1 21 (by omega) (by omega), fun k hk => by omega⟩, ⟨by omega, a5, g1 22 (by omega) (by omega), fun k hk => by omega, fun k hk => by omega⟩, ⟨⟨4, by omega, by omega, a7, g5.1⟩, ⟨0, by omega, a8, g5.2.1⟩, ⟨0, by omega, a9, g5.2.2⟩, fun k hk => ?_⟩, Or.inl ⟨hb 2, a6, g3⟩, ⟨0, fun _ => 0, fun _ => 0, by omega, h2.1, h2.2.1, g1 23 (by omega) (by omega), g2, fun k hk => by omega, fun w hw => ⟨?_, Or.inl ⟨hb _, h2.2.2 w hw⟩⟩⟩⟩
  · rw [hb]; exact (g4 k hk).1
  · rw [hb]; exact (g4 w hw).2
end
end

section
/-! a text is read, by both -/
section
variable {i j : Nat → Nat → Int32} {l l2 : Nat → Nat → Int64} {s r p s2 r2 p2 : Nat} {c : Nat → Nat}
theorem qA_Bg {f g : Nat → Nat → Int32} (h : fr qBg f g) : fr (qA s) f g := fr_mono (fun a k hq => by
  unfold qA at hq
  exact (Bool.or_eq_false_iff.mp hq).2) h
theorem qA_Ld {f g : Nat → Nat → Int32} (h : fr (qLd s) f g) : fr (qA s) f g := fr_mono (fun a k hq => by
  unfold qA at hq
  exact (Bool.or_eq_false_iff.mp hq).1) h
theorem qB_Lr {f g : Nat → Nat → Int32} (h : fr qLr f g) : fr qB f g := fr_mono (fun a k hq => by
  unfold qB at hq
  exact (Bool.or_eq_false_iff.mp hq).1) h
theorem text_0 {n n' : Nat} (hn7 : n' ≤ 700) (hn : n ≤ n') (hc : ∀ k, k < n' → c k < 256) (hj1 : j 82 1 = nI n') (hj : ∀ k, k < n' → j 83 k = nI (c k)) (hj84 : ∀ k, k < 133 → j 84 k = nI (wdR.getD k 0)) :
    ∃ j', Mo_text (nI n) (j, l2, Rp s2 r2 p2) = Mo_text_55 (nI 0) (j', l2, Rp s2 r2 p2) ∧ fr qB j j' ∧ RT j' c n 0 ∧ j' 82 1 = nI 0 ∧ (∀ k, 18 ≤ k → k ≤ 23 → j' 82 k = nI 0) ∧ j' 82 48 = nI 0 ∧ j' 85 1 = nM 1 ∧ (∀ k, k < 3 → j' 86 k = nI 0 ∧ j' 98 (3 + k) = nI 0) ∧ j' 87 3 = nI 4 ∧ j' 87 4 = nI 0 ∧ j' 87 5 = nI 0 := by
  rw [Mo_text_eq, ifc_neg (by omega), hj1, ifc_lt (by omega) (by omega), if_neg (by omega)]
  obtain ⟨j1, p1, pf, p3, p4, p5, p6, p7, p8, p9, p10⟩ := plain_ok (j := u2 (u2 (u2 (u2 (u2 (u2 j 82 2 (nI 0)) 82 6 (nI n)) 82 1 (nI 0)) 82 4 (nI 0)) 82 5 (nM 1)) 82 7 (nI 0)) (l := l2) (s := s2) (r := r2) (p := p2)
  have f0 : fr qB j (u2 (u2 (u2 (u2 (u2 (u2 j 82 2 (nI 0)) 82 6 (nI n)) 82 1 (nI 0)) 82 4 (nI 0)) 82 5 (nM 1)) 82 7 (nI 0)) := fr_trans (fr_trans (fr_trans (fr_trans (fr_trans (fr_u2 (by decide)) (fr_u2 (by decide))) (fr_u2 (by decide))) (fr_u2 (by decide))) (fr_u2 (by decide))) (fr_u2 (by decide))
  have f1 := fr_trans f0 pf
  have hT : TR j1 c n := ⟨(p10 6 (by omega)).trans (by simp (disch := decide) only [u2_k, u2_s]), by omega, fun k hk => ⟨hc k (by omega), (f1 83 k (qB_o (by omega))).trans (hj k (by omega))⟩, fun k hk => (f1 84 k (qB_o (by omega))).trans (hj84 k hk)⟩
  obtain ⟨j2, t1, t2, t3, t4, t5, t6⟩ := token_ok (l := l2) (s := s2) (r := r2) (p := p2) hT (Nat.zero_le n) ((p10 7 (by omega)).trans (u2_s _ _ _ _))
  rw [p1, crV_t, t1, crV_t]
  have g : ∀ a k, qRt a k = false → j2 a k = j1 a k := t2
  refine ⟨j2, rfl, fr_trans f1 (qB_Lr (qLr_Q (qQ_R t2))), ⟨⟨TR_fr hT t2, ?_, ?_⟩, t3, t4, t5, t6⟩, ?_, fun k h1 h2 => ?_, ?_, ?_, fun k hk => ⟨?_, ?_⟩, ?_, ?_, ?_⟩
  · rw [g 82 4 rfl, p10 4 (by omega)]; simp (disch := decide) only [u2_k, u2_s]
  · rw [g 82 5 rfl, p10 5 (by omega)]; simp (disch := decide) only [u2_k, u2_s]
  · rw [g 82 1 rfl, p10 1 (by omega)]; simp (disch := decide) only [u2_k, u2_s]
  · rw [g 82 k (by unfold qRt; simp; omega)]; exact p3 k h1 h2
  · rw [g 82 48 rfl]; exact p4
  · rw [g 85 1 rfl]; exact p5
  · rw [g 86 k rfl]; exact (p6 k hk).1
  · rw [g 98 _ rfl]; exact (p6 k hk).2
  · rw [g 87 3 rfl]; exact p7
  · rw [g 87 4 rfl]; exact p8
  · rw [g 87 5 rfl]; exact p9
theorem text_j {n n' : Nat} (hs : s = 7 ∨ s = 27) (hY : TY i c n') (hW : WD i) (hn : n ≤ n') (hj1 : j 82 1 = nI n') (hj : ∀ k, k < n' → j 83 k = nI (c k)) (hj84 : ∀ k, k < 133 → j 84 k = nI (wdR.getD k 0)) :
    ∃ (b : Bool) (i' j' : Nat → Nat → Int32), Reader_read s (nI n) (i, l, Rp s r p) = some (some (.int (nI b.toNat)), (i', l, Rp s s p)) ∧ fr (qA s) i i' ∧ fr qB j j' ∧ j' 82 1 = nI 0 ∧ (b = false → Mo_text (nI n) (j, l2, Rp s2 r2 p2) = some (some (.int (nM 1)), (j', l2, Rp s2 r2 p2)) ∧ NO i' j') ∧ (b = true → ∃ n2 N L S E D, i' 23 7 = nI n2 ∧ i' 23 8 = nI 0 ∧ i' 23 9 = nM 1 ∧ j' 82 4 = nI 0 ∧ j' 82 5 = nM 1 ∧ RD s N L S E D i' j' ∧ Mo_text (nI n) (j, l2, Rp s2 r2 p2) = crV (Mo_keepText (j', l2, Rp s2 r2 p2)) (j', l2, Rp s2 r2 p2) (fun i_1 l_1 => some (some (.int (nI n2)), (i_1, l_1, Rp s2 r2 p2)))) := by
  obtain ⟨j1, e1, f1, t1, q0, q1, q2, q3, q4, q5, q6, q7⟩ := text_0 (l2 := l2) (s2 := s2) (r2 := r2) (p2 := p2) hY.1 hn (fun k hk => (hY.2.2.2 k hk).1) hj1 hj hj84
  have c1 := clr_fr (i := i) hs
  have c2 : fr (qA s) i (u2 (u2 (u2 (clr s i) 23 5 (nI 0)) 23 8 (nI 0)) 23 9 (nM 1)) := fr_trans (fr_trans (fr_trans c1 (fr_u2 (by unfold qA qLd qLc qP; simp))) (fr_u2 (by unfold qA qLd qLc qP; simp))) (fr_u2 (by unfold qA qLd qLc qP; simp))
  have hA : ∀ a k, qA s a k = false → u2 (u2 (u2 (clr s i) 23 5 (nI 0)) 23 8 (nI 0)) 23 9 (nM 1) a k = i a k := c2
  have c8 : u2 (u2 (u2 (clr s i) 23 5 (nI 0)) 23 8 (nI 0)) 23 9 (nM 1) 1 8 = i 1 8 := by
    rw [u2_i (by decide), u2_i (by decide), u2_i (by decide)]
    unfold clr clr0
    simp (disch := omega) only [u2_i]
    rw [congrFun (oi_c (by omega)) 8, congrFun (oi_c (by omega)) 8]
  have hY' : TY (u2 (u2 (u2 (clr s i) 23 5 (nI 0)) 23 8 (nI 0)) 23 9 (nM 1)) c n' := ⟨hY.1, c8.trans hY.2.1, (hA 82 1 (qA_o hs (by omega) (by omega) (by omega) (by omega))).trans hY.2.2.1, fun k hk => ⟨(hY.2.2.2 k hk).1, (hA 83 k (qA_o hs (by omega) (by omega) (by omega) (by omega))).trans (hY.2.2.2 k hk).2.1, (hA 2 k (qA_o hs (by omega) (by omega) (by omega) (by omega))).trans (hY.2.2.2 k hk).2.2⟩⟩
  have hW' : WD (u2 (u2 (u2 (clr s i) 23 5 (nI 0)) 23 8 (nI 0)) 23 9 (nM 1)) := WD_row hW (funext fun k => hA 3 k (qA_o hs (by omega) (by omega) (by omega) (by omega))) (funext fun k => hA 84 k (qA_o hs (by omega) (by omega) (by omega) (by omega)))
  obtain ⟨i2, m, b1, b2, b3, b4⟩ := begin_ok (l := l) (s := s) (r := s) (p := p) hY' hW' hn ⟨by simp (disch := decide) only [u2_k, u2_s], u2_s _ _ _ _⟩
  have hB : ∀ a k, qBg a k = false → u2 i2 23 7 (nI 0) a k = u2 (u2 (u2 (u2 (clr s i) 23 5 (nI 0)) 23 8 (nI 0)) 23 9 (nM 1)) 23 7 (nI 0) a k := fun a k hq => by
    by_cases h1 : a = 23 ∧ k = 7
    · rw [h1.1, h1.2, u2_s, u2_s]
    · rw [u2_o h1, u2_o h1]
      exact b4 a k hq
  have hP : ∀ a k, s ≤ a → a ≤ s + 15 → u2 i2 23 7 (nI 0) a k = clr s i a k := fun a k h1 h2 => by
    rw [hB a k (by unfold qBg; simp; omega)]
    simp (disch := omega) only [u2_i]
  obtain ⟨v1, v2, v3, v4⟩ := clr_v (s := s) (i := i)
  have hR : RD s 0 0 0 0 0 (u2 i2 23 7 (nI 0)) j1 := by
    refine RD_0 hs ?_ ⟨?_, ?_, fun w hw => ?_⟩ ?_ q1 q2 q3 q4 ⟨q5, q6, q7⟩
    · simp only [hP s _ (Nat.le_refl _) (by omega)]; exact v1
    · rw [hP _ _ (by omega) (by omega)]; exact v2
    · rw [hP _ _ (by omega) (by omega)]; exact v3
    · rw [hP _ _ (by omega) (by omega), hP _ _ (by omega) (by omega)]; exact v4 w hw
    · rw [hB 23 5 rfl]; simp (disch := decide) only [u2_k, u2_s]
  rw [Reader_read_eq _ _ _ _ _ _ _ hs, Rp_r, clear_ok hs, crV_t, b1, crV_t, e1]
  obtain ⟨b, i3, j3, x1, x2, x3, x4, x5⟩ := loop_r (l := l) (l2 := l2) (s := s) (p := p) (s2 := s2) (r2 := r2) (p2 := p2) hs m 0 0 0 0 0 0 0 (u2 i2 23 7 (nI 0)) j1 (by omega) (Nat.le_refl _) (u2_s _ _ _ _) ⟨CT_u b2 (by omega), t1⟩ hR
  refine ⟨b, i3, j3, x1, fr_trans (fr_trans (fr_trans c2 (qA_Bg b4)) (fr_u2 (by unfold qA qLd qLc qP; simp))) (qA_Ld x2), fr_trans f1 (qB_Lr x3), (x3 82 1 rfl).trans q0, x4, x5⟩
end
end

section
/-! the text as it was read becomes the plan: the reference -/
def cpy0 (o h : Nat) (j : Nat → Nat → Int32) : Nat → Nat → Int32 := oi j o 0 h (fun k => j o (h + k))
theorem cp_c {o h a k : Nat} {j : Nat → Nat → Int32} (ha : a ≠ o) : cpy0 o h j a k = j a k := congrFun (oi_c ha) k
theorem cp_h {o h a k : Nat} {j : Nat → Nat → Int32} (ha : h ≤ k) : cpy0 o h j a k = j a k := oi_k (by omega)
theorem cp_v {o h k : Nat} {j : Nat → Nat → Int32} (hk : k < h) : cpy0 o h j o k = j o (h + k) := oi_0 _ _ _ hk
def kt0 (j : Nat → Nat → Int32) (z : Int32) : Nat → Nat → Int32 := u2 (u2 (u2 (u2 (u2 (u2 (u2 j 82 12 (j 82 18)) 82 13 (j 82 19)) 82 14 (j 82 20)) 82 15 (j 82 21)) 82 16 (j 82 22)) 82 17 (j 82 23)) 85 0 z
def kt1 (j : Nat → Nat → Int32) : Nat → Nat → Int32 := cpy0 97 14 (cpy0 96 14 (cpy0 95 16 (cpy0 94 16 (cpy0 93 16 (cpy0 92 3 (cpy0 91 3 (cpy0 90 8 (cpy0 89 8 (cpy0 88 7 (cpy0 87 3 j))))))))))
def kt2 (j : Nat → Nat → Int32) : Nat → Nat → Int32 := oi j 98 0 3 (fun k => j 98 (3 + k) &&& 1)
def kt3 (j : Nat → Nat → Int32) : Nat → Nat → Int32 := cpy0 103 64 (cpy0 102 64 (cpy0 101 64 (cpy0 100 3 (cpy0 99 3 j))))
def bg0 (j : Nat → Nat → Int32) : Nat → Nat → Int32 := oi (oi (u2 (u2 j 108 0 (nI 0)) 109 0 (nI 0)) 110 0 3 (fun _ => nI 0)) 111 0 224 (fun _ => nI 0)
def bg1 (j : Nat → Nat → Int32) (n : Nat) : Nat → Nat → Int32 := oi (oi (oi j 112 0 n (fun _ => nI 0)) 113 0 n (fun _ => nI 0)) 114 0 n (fun _ => nI 0)
def bg2 (j : Nat → Nat → Int32) : Nat → Nat → Int32 := pT (u2 (u2 (u2 (u2 j 115 0 (nI 0)) 116 0 (nI 0)) 117 0 (nI 0)) 118 0 (nI 0))
def bg3 (j : Nat → Nat → Int32) : Nat → Nat → Int32 := u2 (u2 (u2 (u2 j 82 80 (nI 0)) 82 81 (nM 1)) 82 85 (nI 0)) 82 87 (nI 0)
def bgn (j : Nat → Nat → Int32) : Nat → Nat → Int32 := bg3 (bg2 (bg1 (bg0 j) 7))
def kt (j : Nat → Nat → Int32) (z : Int32) : Nat → Nat → Int32 := bgn (kt3 (kt2 (kt1 (kt0 j z))))
section
variable {i j : Nat → Nat → Int32} {l : Nat → Nat → Int64} {s r p : Nat}
theorem copies_ok {o h : Nat} (ho : o = 87 ∨ o = 88 ∨ o = 89 ∨ o = 90 ∨ o = 91 ∨ o = 92 ∨ o = 93 ∨ o = 94 ∨ o = 95 ∨ o = 96 ∨ o = 97 ∨ o = 99 ∨ o = 100 ∨ o = 101 ∨ o = 102 ∨ o = 103) (hg : gN o = 2 * h) (hh : h ≤ 64) : Mo_copies o (nI h) (j, l, Rp s r p) = some (none, (cpy0 o h j, l, Rp s r p)) := by
  rw [Mo_copies_eq _ _ _ _ _ _ _ ho]
  have hu := upto (fun k => Mo_copies_2 o (nI h) (nI k) (oi j o 0 k (fun q => j o (h + q)), l, Rp s r p)) h (fun k hk => by
    show Mo_copies_2 o (nI h) (nI k) _ = _
    rw [Mo_copies_2_eq _ _ _ _ _ _ _ _ ho, ifc_lt (by omega) (by omega), if_pos hk, nI_add, hg, gd_in (by omega) (by omega), gd_in (by omega) (by omega), nI_clamp (by omega), nI_clamp (by omega), nI_add, oi_k (k := h + k) (by omega), oi_s rfl]) 0 (by omega)
  simp only [oi_00] at hu
  rw [hu, Mo_copies_2_eq _ _ _ _ _ _ _ _ ho, ifc_lt (by omega) (by omega), if_neg (by omega)]
  rfl
theorem kt182 : Mo_keepText_182 (nI 0) (j, l, Rp s r p) = crV (Mo_begin (kt3 (kt2 j), l, Rp s r p)) (kt3 (kt2 j), l, Rp s r p) (fun i_6 l_6 => some (none, (i_6, l_6, Rp s r p))) := by
  have hu := upto (fun k => Mo_keepText_182 (nI k) (oi j 98 0 k (fun k => j 98 (3 + k) &&& 1), l, Rp s r p)) 3 (fun k hk => by
    show Mo_keepText_182 (nI k) _ = _
    rw [Mo_keepText_182_eq, ifc_lt (by omega) (by omega), if_pos hk, nI_add, gd_in (by omega) (by omega), gd_in (by omega) (by omega), nI_clamp (by omega), nI_clamp (by omega), nI_add, oi_k (k := 3 + k) (by omega), oi_s rfl]) 0 (by omega)
  simp only [oi_00] at hu
  rw [hu, Mo_keepText_182_eq, ifc_lt (by omega) (by omega), if_neg (by omega)]
  rw [copies_ok (by decide) rfl (by decide), crV_t, copies_ok (by decide) rfl (by decide), crV_t, copies_ok (by decide) rfl (by decide), crV_t, copies_ok (by decide) rfl (by decide), crV_t, copies_ok (by decide) rfl (by decide), crV_t]
  rfl
theorem begin16 : Mo_begin_16 (nI 0) (j, l, Rp s r p) = Mo_begin_36 (nI 0) (oi j 110 0 3 (fun _ => nI 0), l, Rp s r p) := by
  have hu := upto (fun k => Mo_begin_16 (nI k) (oi j 110 0 k (fun _ => nI 0), l, Rp s r p)) 3 (fun k hk => by
    show Mo_begin_16 (nI k) _ = _
    rw [Mo_begin_16_eq, ifc_lt (by omega) (by omega), if_pos hk, gd_in (by omega) (by omega), nI_clamp (by omega), nI_add, oi_s rfl]) 0 (by omega)
  simp only [oi_00] at hu
  rw [hu, Mo_begin_16_eq, ifc_lt (by omega) (by omega), if_neg (by omega)]
theorem begin36 : Mo_begin_36 (nI 0) (j, l, Rp s r p) = Mo_begin_58 (nI 0) (oi j 111 0 224 (fun _ => nI 0), l, Rp s r p) := by
  have hu := upto (fun k => Mo_begin_36 (nI k) (oi j 111 0 k (fun _ => nI 0), l, Rp s r p)) 224 (fun k hk => by
    show Mo_begin_36 (nI k) _ = _
    rw [Mo_begin_36_eq, ifc_lt (by omega) (by omega), if_pos hk, gd_in (by omega) (by omega), nI_clamp (by omega), nI_add, oi_s rfl]) 0 (by omega)
  simp only [oi_00] at hu
  rw [hu, Mo_begin_36_eq, ifc_lt (by omega) (by omega), if_neg (by omega)]
theorem begin58 : Mo_begin_58 (nI 0) (j, l, Rp s r p) = some (none, (bg3 (bg2 (bg1 j 7)), u2 l 82 65 ((j 87 2).toInt64), Rp s r p)) := by
  have hu := upto (fun k => Mo_begin_58 (nI k) (bg1 j k, l, Rp s r p)) 7 (fun k hk => by
    show Mo_begin_58 (nI k) _ = _
    rw [Mo_begin_58_eq, ifc_lt (by omega) (by omega), if_pos hk, gd_in (by omega) (by omega), gd_in (by omega) (by omega), gd_in (by omega) (by omega), nI_clamp (by omega), nI_add]
    unfold bg1
    rw [oi_uc (by decide), oi_uc (by decide), oi_s rfl, oi_uc (by decide), oi_s rfl, oi_s rfl]) 0 (by omega)
  have h0 : bg1 j 0 = j := by unfold bg1; rw [oi_00, oi_00, oi_00]
  simp only [h0] at hu
  rw [hu, Mo_begin_58_eq, ifc_lt (by omega) (by omega), if_neg (by omega), gd_in (by omega) (by omega), gd_in (by omega) (by omega), gd_in (by omega) (by omega), gd_in (by omega) (by omega), gd_in (by omega) (by omega), nI_clamp (by omega), nI_clamp (by omega), Mo_plainTried_eq, gd_0, gd_0, gd_0, gd_0, gd_0, gd_0, crV_t, gd_0]
  have e87 : bg1 j 7 87 2 = j 87 2 := by
    unfold bg1
    rw [congrFun (oi_c (by decide)) 2, congrFun (oi_c (by decide)) 2, congrFun (oi_c (by decide)) 2]
  rw [e87]
  rfl
theorem begin_o : Mo_begin (j, l, Rp s r p) = some (none, (bgn j, u2 l 82 65 ((j 87 2).toInt64), Rp s r p)) := by
  rw [Mo_begin_eq, gd_in (by omega) (by omega), gd_in (by omega) (by omega), nI_clamp (by omega), begin16, begin36, begin58]
  have e87 : oi (oi (u2 (u2 j 108 0 (nI 0)) 109 0 (nI 0)) 110 0 3 (fun _ => nI 0)) 111 0 224 (fun _ => nI 0) 87 2 = j 87 2 := by
    rw [congrFun (oi_c (by decide)) 2, congrFun (oi_c (by decide)) 2, u2_i (by decide), u2_i (by decide)]
  rw [e87]
  rfl
theorem kt83 {z : Int32} : Mo_keepText_83 (nI 0) z (u2 (u2 (u2 (u2 (u2 (u2 j 82 12 (j 82 18)) 82 13 (j 82 19)) 82 14 (j 82 20)) 82 15 (j 82 21)) 82 16 (j 82 22)) 82 17 (j 82 23), l, Rp s r p) = some (none, (kt j z, u2 l 82 65 ((j 87 5).toInt64), Rp s r p)) := by
  rw [Mo_keepText_83_eq, gd_in (by omega) (by omega), nI_clamp (by omega)]
  rw [copies_ok (by decide) rfl (by decide), crV_t, copies_ok (by decide) rfl (by decide), crV_t, copies_ok (by decide) rfl (by decide), crV_t, copies_ok (by decide) rfl (by decide), crV_t, copies_ok (by decide) rfl (by decide), crV_t, copies_ok (by decide) rfl (by decide), crV_t, copies_ok (by decide) rfl (by decide), crV_t, copies_ok (by decide) rfl (by decide), crV_t, copies_ok (by decide) rfl (by decide), crV_t, copies_ok (by decide) rfl (by decide), crV_t, copies_ok (by decide) rfl (by decide), crV_t]
  rw [kt182, begin_o, crV_t]
  have e87 : kt3 (kt2 (kt1 (kt0 j z))) 87 2 = j 87 5 := by
    unfold kt3 kt2 kt1
    simp (disch := decide) only [cp_c, oi_c]
    rw [cp_v (by decide)]
    unfold kt0
    simp (disch := decide) only [u2_i]
  show some (none, (bgn (kt3 (kt2 (kt1 (kt0 j z)))), u2 l 82 65 ((kt3 (kt2 (kt1 (kt0 j z))) 87 2).toInt64), Rp s r p)) = _
  rw [e87]
  rfl
/-- what all this leaves -/
theorem kt_82 {z : Int32} {k : Nat} (h : k < 12 ∨ 17 < k ∧ k < 66) : kt j z 82 k = j 82 k := by
  unfold kt bgn bg3
  simp (disch := omega) only [u2_k]
  unfold bg2
  rw [pT_k (by omega)]
  simp (disch := decide) only [u2_i]
  unfold bg1 bg0
  simp (disch := decide) only [oi_c, u2_i]
  unfold kt3 kt2 kt1
  simp (disch := decide) only [cp_c, oi_c]
  unfold kt0
  rw [u2_i (by decide)]
  simp (disch := omega) only [u2_k]
theorem kt_b {z : Int32} {a k : Nat} (ha : a < 108 ∧ a ≠ 82 ∨ 118 < a) : kt j z a k = kt3 (kt2 (kt1 (kt0 j z))) a k := by
  unfold kt bgn bg3
  simp (disch := omega) only [u2_i]
  unfold bg2
  rw [pT_r (by omega)]
  simp (disch := omega) only [u2_i]
  unfold bg1 bg0
  simp (disch := omega) only [oi_c, u2_i]
theorem kt_r {z : Int32} {a : Nat} (ha : a < 82 ∨ a = 83 ∨ a = 84 ∨ 118 < a) : kt j z a = j a := funext fun k => by
  rw [kt_b (by omega)]
  unfold kt3 kt2 kt1
  simp (disch := omega) only [cp_c, oi_c]
  unfold kt0
  simp (disch := omega) only [u2_i]
theorem kt_P {z : Int32} {a k : Nat} (hk : 12 ≤ k ∧ k ≤ 17) : kt j z 82 k = j 82 (k + 6) := by
  unfold kt bgn bg3
  simp (disch := omega) only [u2_k]
  unfold bg2
  rw [pT_k (by omega)]
  simp (disch := decide) only [u2_i]
  unfold bg1 bg0
  simp (disch := decide) only [oi_c, u2_i]
  unfold kt3 kt2 kt1
  simp (disch := decide) only [cp_c, oi_c]
  unfold kt0
  rw [u2_i (by decide)]
  have : k = 12 ∨ k = 13 ∨ k = 14 ∨ k = 15 ∨ k = 16 ∨ k = 17 := by omega
  rcases this with x | x | x | x | x | x <;> subst x <;> simp (disch := decide) only [u2_k, u2_s]
theorem kt_85 {z : Int32} : kt j z 85 0 = z := by
  rw [kt_b (by omega)]
  unfold kt3 kt2 kt1
  simp (disch := decide) only [cp_c, oi_c]
  exact u2_s _ _ _ _
theorem kt0_r {z : Int32} {a k : Nat} (ha : 85 < a) : kt0 j z a k = j a k := by
  unfold kt0
  simp (disch := omega) only [u2_i]
theorem kt_87 {z : Int32} {k : Nat} (hk : k < 3) : kt j z 87 k = j 87 (3 + k) := by
  rw [kt_b (by omega)]
  unfold kt3 kt2 kt1
  simp (disch := decide) only [cp_c, oi_c]
  rw [cp_v hk, kt0_r (by omega)]
theorem kt_88 {z : Int32} {k : Nat} (hk : k < 7) : kt j z 88 k = j 88 (7 + k) := by
  rw [kt_b (by omega)]
  unfold kt3 kt2 kt1
  simp (disch := decide) only [cp_c, oi_c]
  rw [cp_v hk, cp_c (by decide), kt0_r (by omega)]
theorem kt_89 {z : Int32} {k : Nat} (hk : k < 8) : kt j z 89 k = j 89 (8 + k) ∧ kt j z 90 k = j 90 (8 + k) := by
  constructor
  · rw [kt_b (by omega)]
    unfold kt3 kt2 kt1
    simp (disch := decide) only [cp_c, oi_c]
    rw [cp_v hk]
    simp (disch := decide) only [cp_c]
    rw [kt0_r (by omega)]
  · rw [kt_b (by omega)]
    unfold kt3 kt2 kt1
    simp (disch := decide) only [cp_c, oi_c]
    rw [cp_v hk]
    simp (disch := decide) only [cp_c]
    rw [kt0_r (by omega)]
theorem kt_91 {z : Int32} {k : Nat} (hk : k < 3) : kt j z 91 k = j 91 (3 + k) ∧ kt j z 92 k = j 92 (3 + k) := by
  constructor
  · rw [kt_b (by omega)]
    unfold kt3 kt2 kt1
    simp (disch := decide) only [cp_c, oi_c]
    rw [cp_v hk]
    simp (disch := decide) only [cp_c]
    rw [kt0_r (by omega)]
  · rw [kt_b (by omega)]
    unfold kt3 kt2 kt1
    simp (disch := decide) only [cp_c, oi_c]
    rw [cp_v hk]
    simp (disch := decide) only [cp_c]
    rw [kt0_r (by omega)]
theorem kt_93 {z : Int32} {k : Nat} (hk : k < 16) : kt j z 93 k = j 93 (16 + k) ∧ kt j z 94 k = j 94 (16 + k) ∧ kt j z 95 k = j 95 (16 + k) := by
  refine ⟨?_, ?_, ?_⟩
  · rw [kt_b (by omega)]
    unfold kt3 kt2 kt1
    simp (disch := decide) only [cp_c, oi_c]
    rw [cp_v hk]
    simp (disch := decide) only [cp_c]
    rw [kt0_r (by omega)]
  · rw [kt_b (by omega)]
    unfold kt3 kt2 kt1
    simp (disch := decide) only [cp_c, oi_c]
    rw [cp_v hk]
    simp (disch := decide) only [cp_c]
    rw [kt0_r (by omega)]
  · rw [kt_b (by omega)]
    unfold kt3 kt2 kt1
    simp (disch := decide) only [cp_c, oi_c]
    rw [cp_v hk]
    simp (disch := decide) only [cp_c]
    rw [kt0_r (by omega)]
theorem kt_96 {z : Int32} {k : Nat} (hk : k < 14) : kt j z 96 k = j 96 (14 + k) ∧ kt j z 97 k = j 97 (14 + k) := by
  constructor
  · rw [kt_b (by omega)]
    unfold kt3 kt2 kt1
    simp (disch := decide) only [cp_c, oi_c]
    rw [cp_v hk]
    simp (disch := decide) only [cp_c]
    rw [kt0_r (by omega)]
  · rw [kt_b (by omega)]
    unfold kt3 kt2 kt1
    simp (disch := decide) only [cp_c, oi_c]
    rw [cp_v hk]
    simp (disch := decide) only [cp_c]
    rw [kt0_r (by omega)]
theorem kt1_98 {z : Int32} {a k : Nat} (ha : 97 < a) : kt1 (kt0 j z) a k = j a k := by
  unfold kt1
  simp (disch := omega) only [cp_c]
  rw [kt0_r (by omega)]
theorem kt_98 {z : Int32} {k : Nat} (hk : k < 3) : kt j z 98 k = j 98 (3 + k) &&& 1 ∧ kt j z 99 k = j 99 (3 + k) ∧ kt j z 100 k = j 100 (3 + k) := by
  refine ⟨?_, ?_, ?_⟩
  · rw [kt_b (by omega)]
    unfold kt3
    simp (disch := decide) only [cp_c]
    unfold kt2
    rw [oi_0 _ _ _ hk, kt1_98 (by omega)]
  · rw [kt_b (by omega)]
    unfold kt3
    simp (disch := decide) only [cp_c]
    rw [cp_v hk]
    unfold kt2
    rw [congrFun (oi_c (by decide)) _, kt1_98 (by omega)]
  · rw [kt_b (by omega)]
    unfold kt3
    simp (disch := decide) only [cp_c]
    rw [cp_v hk, cp_c (by decide)]
    unfold kt2
    rw [congrFun (oi_c (by decide)) _, kt1_98 (by omega)]
theorem kt_101 {z : Int32} {a k : Nat} (ha : 101 ≤ a ∧ a ≤ 103) (hk : k < 64) : kt j z a k = j a (64 + k) := by
  rw [kt_b (by omega)]
  have : a = 101 ∨ a = 102 ∨ a = 103 := by omega
  rcases this with x | x | x
  all_goals subst x
  all_goals unfold kt3
  all_goals try simp (disch := decide) only [cp_c]
  all_goals rw [cp_v hk]
  all_goals try simp (disch := decide) only [cp_c]
  all_goals unfold kt2
  all_goals rw [congrFun (oi_c (by decide)) _, kt1_98 (by omega)]
theorem kt_s {z : Int32} : kt j z 108 0 = nI 0 ∧ kt j z 109 0 = nI 0 ∧ (∀ k, k < 3 → kt j z 110 k = nI 0) ∧ (∀ k, k < 224 → kt j z 111 k = nI 0) ∧ (∀ k, k < 7 → kt j z 112 k = nI 0 ∧ kt j z 113 k = nI 0 ∧ kt j z 114 k = nI 0) ∧ kt j z 115 0 = nI 0 ∧ kt j z 116 0 = nI 0 ∧ kt j z 117 0 = nI 0 ∧ kt j z 118 0 = nI 0 := by
  have e : ∀ a k, a ≠ 82 → kt j z a k = u2 (u2 (u2 (u2 (bg1 (bg0 (kt3 (kt2 (kt1 (kt0 j z))))) 7) 115 0 (nI 0)) 116 0 (nI 0)) 117 0 (nI 0)) 118 0 (nI 0) a k := fun a k ha => by
    unfold kt bgn bg3
    simp (disch := omega) only [u2_i (a := 82)]
    unfold bg2
    rw [pT_r ha]
  refine ⟨?_, ?_, fun k hk => ?_, fun k hk => ?_, fun k hk => ⟨?_, ?_, ?_⟩, ?_, ?_, ?_, ?_⟩
  all_goals rw [e _ _ (by decide)]
  · simp (disch := decide) only [u2_i]
    unfold bg1 bg0
    simp (disch := decide) only [oi_c, u2_i, u2_s]
  · simp (disch := decide) only [u2_i]
    unfold bg1 bg0
    simp (disch := decide) only [oi_c, u2_i, u2_s]
  · simp (disch := decide) only [u2_i]
    unfold bg1 bg0
    simp (disch := decide) only [oi_c]
    rw [oi_0 _ _ _ hk]
  · simp (disch := decide) only [u2_i]
    unfold bg1 bg0
    simp (disch := decide) only [oi_c]
    rw [oi_0 _ _ _ hk]
  · simp (disch := decide) only [u2_i]
    unfold bg1
    simp (disch := decide) only [oi_c]
    rw [oi_0 _ _ _ hk]
  · simp (disch := decide) only [u2_i]
    unfold bg1
    simp (disch := decide) only [oi_c]
    rw [oi_0 _ _ _ hk]
  · simp (disch := decide) only [u2_i]
    unfold bg1
    rw [oi_0 _ _ _ hk]
  all_goals simp (disch := decide) only [u2_i, u2_s]
theorem kt_t {z : Int32} : kt j z 82 73 = nM 1 ∧ kt j z 82 80 = nI 0 ∧ kt j z 82 81 = nM 1 ∧ kt j z 82 85 = nI 0 ∧ kt j z 82 87 = nI 0 := by
  unfold kt bgn bg3
  refine ⟨?_, ?_, ?_, ?_, ?_⟩
  · simp (disch := decide) only [u2_k]
    unfold bg2
    exact pT_73
  all_goals simp (disch := decide) only [u2_k, u2_s]
end
end

section
/-! the plan that was read -/
section
variable {i j : Nat → Nat → Int32} {l : Nat → Nat → Int64} {s s2 r2 p2 : Nat} {N L S E D : Nat}
def pln (s : Nat) (i : Nat → Nat → Int32) (K : Nat) (kd nm : Nat → Nat) : PL := (fun k => if k = 4 then K else (i s k).toNatClampNeg, fun a k => if a = 12 then kd k else if a = 13 then nm k else (i (s + a) k).toNatClampNeg, fun k => i (s + 3) k)
theorem pl1 {K : Nat} {kd nm : Nat → Nat} {k v : Nat} (hk : k ≠ 4) (h : i s k = nI v) (hv : v < 2 ^ 31) : (pln s i K kd nm).1 k = v := by
  show (if k = 4 then K else (i s k).toNatClampNeg) = v
  rw [if_neg hk, h, nI_clamp hv]
theorem pl2 {K : Nat} {kd nm : Nat → Nat} {a k v : Nat} (ha : a ≠ 12 ∧ a ≠ 13) (h : i (s + a) k = nI v) (hv : v < 2 ^ 31) : (pln s i K kd nm).2.1 a k = v := by
  show (if a = 12 then kd k else if a = 13 then nm k else (i (s + a) k).toNatClampNeg) = v
  rw [if_neg ha.1, if_neg ha.2, h, nI_clamp hv]
theorem bool1 (b : Bool) : nI b.toNat &&& 1 = nI b.toNat := by cases b <;> decide
theorem RD_P (hs : s = 7 ∨ s = 27) (h : RD s N L S E D i j) : ∃ P : PL, pwf P ∧ PC P s i ∧ (j 87 5 = nI (P.1 19)) ∧ i s 19 = nI (P.1 19) ∧ PM P (kt j (rt P 0)) ∧ Mo_keepText (j, l, Rp s2 r2 p2) = some (none, (kt j (rt P 0), u2 l 82 65 ((j 87 5).toInt64), Rp s2 r2 p2)) := by
  obtain ⟨⟨b1, b2, b3, b4⟩, ⟨c1, c2, c3, c4, c5⟩, ⟨d1, d2, d3, d4, d5⟩, ⟨e1, e2, e3, e4⟩, ⟨f1, f2, f3, f4, f5⟩, ⟨⟨g1, g2, g3, g4, g5⟩, ⟨g6, g7, g8, g9⟩, ⟨g10, g11, g12, g13⟩, g14⟩, h7, ⟨K, kd, nm, k1, k2, k3, k4, k5, k6, k7⟩⟩ := h
  obtain ⟨M, hM1, hM2, hM3⟩ : ∃ M, i s 16 = nI M ∧ (M < N ∨ N = 0 ∧ M = 0) ∧ (j 85 1 = nM 1 ∧ M = 0 ∨ j 85 1 = nI M ∧ M < N) := by
    rcases h7 with ⟨_, x2, x3⟩ | ⟨_, n, x1, x2, x3⟩
    · exact ⟨0, x2, by omega, Or.inl ⟨x3, rfl⟩⟩
    · exact ⟨n, x2, Or.inl x1, Or.inr ⟨x3, x1⟩⟩
  have p11 : (pln s i K kd nm).1 11 = N := pl1 (by decide) b2 (by omega)
  have p12 : (pln s i K kd nm).1 12 = L := pl1 (by decide) c2 (by omega)
  have p13 : (pln s i K kd nm).1 13 = S := pl1 (by decide) d2 (by omega)
  have p14 : (pln s i K kd nm).1 14 = E := pl1 (by decide) e2 (by omega)
  have p15 : (pln s i K kd nm).1 15 = D := pl1 (by decide) f2 (by omega)
  have p16 : (pln s i K kd nm).1 16 = M := pl1 (by decide) hM1 (by omega)
  have p17 : (pln s i K kd nm).1 17 = g1 := pl1 (by decide) g4 (by omega)
  have p18 : (pln s i K kd nm).1 18 = g6 := pl1 (by decide) g8 (by omega)
  have p19 : (pln s i K kd nm).1 19 = g10 := pl1 (by decide) g12 (by omega)
  have p4 : (pln s i K kd nm).1 4 = K := rfl
  have q12 : (pln s i K kd nm).2.1 12 = kd := rfl
  have q13 : (pln s i K kd nm).2.1 13 = nm := rfl
  have hr1 : ∀ k, k < N → i (s + 1) k = nI ((pln s i K kd nm).2.1 1 k) ∧ j 88 (7 + k) = nI ((pln s i K kd nm).2.1 1 k) := fun k hk => by
    obtain ⟨⟨n, x1, x2⟩, x3⟩ := b4 k hk
    rw [pl2 (by decide) x2 x1, x3, x2]; exact ⟨rfl, rfl⟩
  have hr2 : ∀ k, k < L → ∃ n, 1 ≤ n ∧ n ≤ 9 ∧ (pln s i K kd nm).2.1 2 k = n ∧ i (s + 2) k = nI n ∧ j 89 (8 + k) = nI n := fun k hk => by
    obtain ⟨⟨n, x1, x1', x2⟩, x3⟩ := c4 k hk
    exact ⟨n, x1, x1', pl2 (by decide) x2 (by omega), x2, x3.trans x2⟩
  have hr3 : ∀ k, k < L → (∀ q, bt ((pln s i K kd nm).2.2 k) q = true → q < N) ∧ j 90 (8 + k) = (pln s i K kd nm).2.2 k := fun k hk => ⟨(c5 k hk).1, (c5 k hk).2⟩
  have hr4 : ∀ k, k < S → i (s + 4) k = nI ((pln s i K kd nm).2.1 4 k) ∧ j 91 (3 + k) = nI ((pln s i K kd nm).2.1 4 k) := fun k hk => by
    obtain ⟨⟨n, x1, x2⟩, x3⟩ := d4 k hk
    rw [pl2 (by decide) x2 x1, x3, x2]; exact ⟨rfl, rfl⟩
  have hr5 : ∀ k, k < S → ∃ n, n < N ∧ (pln s i K kd nm).2.1 5 k = n ∧ i (s + 5) k = nI n ∧ j 92 (3 + k) = nI n := fun k hk => by
    obtain ⟨⟨n, x1, x2⟩, x3⟩ := d5 k hk
    exact ⟨n, x1, pl2 (by decide) x2 (by omega), x2, x3.trans x2⟩
  have hr6 : ∀ k, k < E → ∃ kd' who tk, 4 ≤ kd' ∧ kd' ≤ 7 ∧ (kd' ≤ 5 → who < N) ∧ (6 ≤ kd' → who < L) ∧ tk ≤ 99 ∧ (pln s i K kd nm).2.1 6 k = kd' ∧ (pln s i K kd nm).2.1 7 k = who ∧ (pln s i K kd nm).2.1 8 k = tk ∧ (i (s + 6) k = nI kd' ∧ i (s + 7) k = nI who ∧ i (s + 8) k = nI tk) ∧ j 93 (16 + k) = nI kd' ∧ j 94 (16 + k) = nI who ∧ j 95 (16 + k) = nI tk := fun k hk => by
    obtain ⟨kd', who, tk, x1, x2, x3, x4, x5, x6, x7, x8, x9, x10, x11, x12⟩ := e4 k hk
    exact ⟨kd', who, tk, x1, x2, x3, x4, x5, pl2 (by decide) x7 (by omega), pl2 (by decide) x8 (by omega), pl2 (by decide) x9 (by omega), ⟨x7, x8, x9⟩, x10, x11, x12⟩
  have hr9 : ∀ k, k < D → ∃ a b, a < S ∧ b < 100 ∧ (pln s i K kd nm).2.1 9 k = a ∧ (pln s i K kd nm).2.1 10 k = b ∧ (i (s + 9) k = nI a ∧ i (s + 10) k = nI b) ∧ j 96 (14 + k) = nI a ∧ j 97 (14 + k) = nI b := fun k hk => by
    obtain ⟨⟨n, x1, x2⟩, x3⟩ := f4 k hk
    obtain ⟨⟨n', y1, y2⟩, y3⟩ := f5 k hk
    exact ⟨n, n', x1, y1, pl2 (by decide) x2 (by omega), pl2 (by decide) y2 (by omega), ⟨x2, y2⟩, x3.trans x2, y3.trans y2⟩
  have hr14 : ∀ w, w < 3 → ∃ b e, (pln s i K kd nm).2.1 14 w = b ∧ (pln s i K kd nm).2.1 15 w = e ∧ b ≤ e ∧ e ≤ K ∧ i (s + 14) w = nI b ∧ i (s + 15) w = nI e ∧ j 98 (3 + w) = nI (decide (b < e)).toNat ∧ lwf kd b (e - b) ∧ (b < e → j 99 (3 + w) = nI b ∧ j 100 (3 + w) = nI e ∧ knr (knd j) kd nm b (e - b)) := fun w hw => by
    obtain ⟨x1, x2⟩ := k7 w hw
    rcases x2 with ⟨y1, y2, y3⟩ | ⟨y1, b, e, y2, y3, y4, y5, y6, y7, y8, y9⟩
    · refine ⟨0, 0, pl2 (by decide) y2 (by omega), pl2 (by decide) y3 (by omega), by omega, by omega, y2, y3, ?_, ⟨fun j hj => by omega, fun x => by omega⟩, fun x => by omega⟩
      rw [x1, y1]; rfl
    · refine ⟨b, e, pl2 (by decide) y4 (by omega), pl2 (by decide) y5 (by omega), by omega, y3, y4, y5, ?_, y8, fun _ => ⟨y6, y7, y9⟩⟩
      rw [x1, y1, show decide (b < e) = true by simp [y2]]
  have hpw : pwf (pln s i K kd nm) := by
    unfold pwf pN pL pS pE pD pM cst mem
    rw [p11, p12, p13, p14, p15, p16, p17, p18, p19, p4, q12, q13]
    refine ⟨⟨b1, c1, d1, e1, f1⟩, hM2, ⟨g2, g3, g7, g11, k1⟩, fun k hk => ?_, fun k hk => (hr3 k hk).1, fun k hk => ?_, fun k hk => ?_, fun k hk => ?_, fun w hw => ?_⟩
    · obtain ⟨n, x1, x2, x3, _⟩ := hr2 k hk
      rw [x3]; exact ⟨x1, x2⟩
    · obtain ⟨n, x1, x2, _⟩ := hr5 k hk
      rw [x2]; exact x1
    · obtain ⟨kd', who, tk, x1, x2, x3, x4, x5, x6, x7, x8, _⟩ := hr6 k hk
      rw [x6, x7, x8]; exact ⟨x1, x2, x3, x4, x5⟩
    · obtain ⟨a, b, x1, x2, x3, x4, _⟩ := hr9 k hk
      rw [x3, x4]; exact ⟨x1, by omega⟩
    · obtain ⟨b, e, x1, x2, x3, x4, x5, x6, x7, x8, x9⟩ := hr14 w hw
      rw [x1, x2]
      exact ⟨x3, by omega, fun k _ hk => (k6 k (by omega)).1, x8⟩
  refine ⟨pln s i K kd nm, hpw, ?_, by rw [p19]; exact g13, by rw [p19]; exact g12, ?_, ?_⟩
  · unfold PC pN pL pS pE pD cst mem
    refine ⟨fun k x1 x2 => ?_, by rw [p4]; exact k2, ?_⟩
    · have : k = 11 ∨ k = 12 ∨ k = 13 ∨ k = 14 ∨ k = 15 ∨ k = 16 ∨ k = 17 ∨ k = 18 ∨ k = 19 := by omega
      rcases this with x | x | x | x | x | x | x | x | x <;> subst x
      · rw [p11]; exact b2
      · rw [p12]; exact c2
      · rw [p13]; exact d2
      · rw [p14]; exact e2
      · rw [p15]; exact f2
      · rw [p16]; exact hM1
      · rw [p17]; exact g4
      · rw [p18]; exact g8
      · rw [p19]; exact g12
    rw [p11, p12, p13, p14, p15]
    refine ⟨fun k hk => (hr1 k hk).1, fun k hk => ⟨?_, rfl⟩, fun k hk => ⟨(hr4 k hk).1, ?_⟩, fun k hk => ?_, fun k hk => ?_, fun w hw => ?_⟩
    · obtain ⟨n, x1, x2, x3, x4, _⟩ := hr2 k hk
      rw [x3]; exact x4
    · obtain ⟨n, x1, x2, x3, _⟩ := hr5 k hk
      rw [x2]; exact x3
    · obtain ⟨kd', who, tk, x1, x2, x3, x4, x5, x6, x7, x8, x9, _⟩ := hr6 k hk
      rw [x6, x7, x8]; exact x9
    · obtain ⟨a, b, x1, x2, x3, x4, x5, _⟩ := hr9 k hk
      rw [x3, x4]; exact x5
    · obtain ⟨b, e, x1, x2, x3, x4, x5, x6, x7, x8, x9⟩ := hr14 w hw
      rw [x1, x2, q12, q13]
      exact ⟨x5, x6, fun k _ hk => (k6 k (by omega)).2⟩
  · unfold PM pN pL pS pE pD cst mem
    refine ⟨⟨?_, ?_, ?_, ?_, ?_, ?_⟩, kt_85, ⟨?_, ?_, ?_⟩, ?_⟩
    · rw [p11, kt_P (a := 0) (by omega)]; exact b3
    · rw [p12, kt_P (a := 0) (by omega)]; exact c3
    · rw [p13, kt_P (a := 0) (by omega)]; exact d3
    · rw [p14, kt_P (a := 0) (by omega)]; exact e3
    · rw [p15, kt_P (a := 0) (by omega)]; exact f3
    · rw [p4, kt_P (a := 0) (by omega)]; exact k4
    · rw [p17, kt_87 (by omega)]; exact g5
    · rw [p18, kt_87 (by omega)]; exact g9
    · rw [p19, kt_87 (by omega)]; exact g13
    rw [p11, p12, p13, p14, p15]
    refine ⟨fun k hk => ?_, fun k hk => ⟨?_, ?_⟩, fun k hk => ⟨?_, ?_⟩, fun k hk => ?_, fun k hk => ?_, fun w hw => ?_⟩
    · rw [kt_88 (by omega)]; exact (hr1 k hk).2
    · obtain ⟨n, x1, x2, x3, x4, x5⟩ := hr2 k hk
      rw [(kt_89 (by omega)).1, x3]; exact x5
    · rw [(kt_89 (by omega)).2]; exact (hr3 k hk).2
    · rw [(kt_91 (by omega)).1]; exact (hr4 k hk).2
    · obtain ⟨n, x1, x2, x3, x4⟩ := hr5 k hk
      rw [(kt_91 (by omega)).2, x2]; exact x4
    · obtain ⟨kd', who, tk, x1, x2, x3, x4, x5, x6, x7, x8, x9, x10⟩ := hr6 k hk
      rw [(kt_93 (by omega)).1, (kt_93 (by omega)).2.1, (kt_93 (by omega)).2.2, x6, x7, x8]; exact x10
    · obtain ⟨a, b, x1, x2, x3, x4, x5, x6⟩ := hr9 k hk
      rw [(kt_96 (by omega)).1, (kt_96 (by omega)).2, x3, x4]; exact x6
    · obtain ⟨b, e, x1, x2, x3, x4, x5, x6, x7, x8, x9⟩ := hr14 w hw
      unfold tld
      rw [(kt_98 hw).1, (kt_98 hw).2.1, (kt_98 hw).2.2, x1, x2, x7, bool1, q12, q13]
      refine ⟨rfl, fun hb => ?_⟩
      obtain ⟨y1, y2, y3⟩ := x9 (of_decide_eq_true hb)
      refine ⟨y1, y2, fun q hq => ?_⟩
      have := y3 q hq
      unfold knd at this
      rw [kt_101 (by omega) (by omega), kt_101 (by omega) (by omega), kt_101 (by omega) (by omega)]
      exact this
  · rw [Mo_keepText_eq, gd_in (by omega) (by omega), nI_clamp (by omega)]
    have hz : rt (pln s i K kd nm) 0 = if N = 0 then nM 1 else nI M := by
      unfold rt pN pM
      rw [p11, p16]
      rfl
    rcases hM3 with ⟨x1, x2⟩ | ⟨x1, x2⟩
    · rw [x1, ifc_t (nM_neg (by omega) (by omega)), b3, ifc_pos (by omega), hz]
      by_cases h0 : N = 0
      · rw [if_neg (by omega), if_pos h0, ← b3]
        exact kt83
      · rw [if_pos (by omega), if_neg h0, ← b3, x2]
        exact kt83
    · rw [x1, ifc_neg (by omega), gd_in (by omega) (by omega), hz, if_neg (by omega)]
      exact kt83
end
end

section
/-! what a text may change, once more -/
section
variable {i j : Nat → Nat → Int32} {l l2 : Nat → Nat → Int64} {s r p s2 r2 p2 : Nat} {P : PL}
theorem qA_T {a k : Nat} (hs : s = 7 ∨ s = 27) (h : qT s a k = false) : qA s a k = false := by
  have h1 : ¬ (s ≤ a ∧ a < s + 16) := fun x => by
    unfold qT at h
    rw [decide_eq_true x.1, decide_eq_true x.2] at h
    simp at h
  have h2 : ¬ (1 ≤ a ∧ a ≤ 6 ∧ a ≠ 3) := fun x => by
    unfold qT at h
    rw [decide_eq_true x.1, decide_eq_true x.2.1, show (a == 3) = false by simp; exact x.2.2] at h
    simp at h
  have h3 : ¬ (23 ≤ a ∧ a ≤ 25) := fun x => by
    unfold qT at h
    rw [decide_eq_true x.1, decide_eq_true x.2] at h
    simp at h
  exact qA_o hs h1 (by omega) (by omega) h3
theorem qB_T {a k : Nat} (hs : s = 7 ∨ s = 27) (h : qT s a k = false) : qB a k = false := by
  by_cases h1 : a < 82 ∨ a = 83 ∨ a = 84 ∨ 105 < a
  · exact qB_o h1
  · have : a = 82 ∨ a = 85 ∨ a = 86 ∨ a = 87 ∨ a = 88 ∨ a = 89 ∨ a = 90 ∨ a = 91 ∨ a = 92 ∨ a = 93 ∨ a = 94 ∨ a = 95 ∨ a = 96 ∨ a = 97 ∨ a = 98 ∨ a = 99 ∨ a = 100 ∨ a = 101 ∨ a = 102 ∨ a = 103 ∨ a = 104 ∨ a = 105 := by omega
    rcases this with x | x | x | x | x | x | x | x | x | x | x | x | x | x | x | x | x | x | x | x | x | x
    all_goals subst x
    all_goals unfold qT at h
    all_goals unfold qB qLr qQ
    all_goals simp at h
    all_goals simp
    all_goals omega
end
end

section
/-! a text, by both -/
def PrT (F G : AM → Option (Option Value × AM)) (i : Nat → Nat → Int32) (l : Nat → Nat → Int64) (s r p : Nat) : Prop :=
  ∃ v j1 l1 j2 l2 P' s' r' p', F (i, l, Rp s r p) = some (some (.int v), (j1, l1, Rp s' r' p')) ∧ G (j1, l1, Rp s' r' p') = some (some (.int v), (j2, l2, Rp s' r' p')) ∧ INV P' j2 l2 s' r' p'
def rs (f : Nat → Nat → Int32) (x : Int32) : Nat → Nat → Int32 := u2 (u2 (u2 (u2 (u2 (u2 (u2 (oi (oi (oi (oi (oi (oi f 52 0 3 (fun _ => nI 0)) 53 0 7 (fun _ => nI 0)) 54 0 7 (fun _ => nI 0)) 55 0 7 (fun _ => nI 0)) 56 0 224 (fun _ => nI 0)) 57 0 28 (fun _ => nI 0)) 51 6 (nI 0)) 51 7 (nI 0)) 51 8 (nI 0)) 51 9 (nI 0)) 51 10 (nI 0)) 51 11 (nI 0)) 51 12 x
def tc0 (f : Nat → Nat → Int32) : Nat → Nat → Int32 := u2 (u2 (u2 f 1 8 (nI 0)) 0 12 (f 23 8)) 0 13 (f 23 9)
def tc (s : Nat) (f : Nat → Nat → Int32) : Nat → Nat → Int32 := u2 (u2 (u2 (u2 (u2 (rs (u2 (tc0 f) 26 4 (nI 0)) (f s 19)) 74 8 (nI 0)) 74 9 (nM 1)) 74 7 (nM 1)) 72 2 (nI 0)) 0 11 (nI 0)
section
variable {i j : Nat → Nat → Int32} {l l2 : Nat → Nat → Int64} {s r p s2 r2 p2 : Nat} {P : PL}
theorem restart_ok {x : Int32} : State_restart x (i, l, Rp s r p) = some (none, (rs i x, l, Rp s r p)) := by
  rw [State_restart_eq, jfill_ok (by decide), crV_t, jfill_ok (by decide), crV_t, jfill_ok (by decide), crV_t, jfill_ok (by decide), crV_t, jfill_ok (by decide), crV_t, jfill_ok (by decide), crV_t]
  rfl
theorem rs_o {f : Nat → Nat → Int32} {x : Int32} {a k : Nat} (h : a < 51 ∨ 57 < a) : rs f x a k = f a k := by
  unfold rs
  simp (disch := omega) only [u2_i, oi_c]
theorem rs_51 {f : Nat → Nat → Int32} {x : Int32} : rs f x 51 6 = nI 0 ∧ rs f x 51 7 = nI 0 ∧ rs f x 51 8 = nI 0 ∧ rs f x 51 9 = nI 0 ∧ rs f x 51 10 = nI 0 ∧ rs f x 51 11 = nI 0 ∧ rs f x 51 12 = x := by
  unfold rs
  simp (disch := decide) only [u2_s, u2_k, and_self]
theorem rs_52 {f : Nat → Nat → Int32} {x : Int32} : (∀ k, k < 3 → rs f x 52 k = nI 0) ∧ (∀ k, k < 7 → rs f x 53 k = nI 0 ∧ rs f x 54 k = nI 0 ∧ rs f x 55 k = nI 0) ∧ (∀ k, k < 224 → rs f x 56 k = nI 0) ∧ ∀ k, k < 28 → rs f x 57 k = nI 0 := by
  unfold rs
  refine ⟨fun k hk => ?_, fun k hk => ⟨?_, ?_, ?_⟩, fun k hk => ?_, fun k hk => ?_⟩
  all_goals simp (disch := decide) only [u2_i, oi_c]
  all_goals rw [oi_0 _ _ _ hk]
theorem tc0_o {f : Nat → Nat → Int32} {a k : Nat} (h : ¬ (a = 1 ∧ k = 8) ∧ ¬ (a = 0 ∧ (k = 12 ∨ k = 13))) : tc0 f a k = f a k := by
  unfold tc0
  rw [u2_o (by omega), u2_o (by omega), u2_o (by omega)]
theorem tc0_v {f : Nat → Nat → Int32} : tc0 f 1 8 = nI 0 ∧ tc0 f 0 12 = f 23 8 ∧ tc0 f 0 13 = f 23 9 := by
  unfold tc0
  simp (disch := decide) only [u2_s, u2_k, u2_i, and_self]
theorem tc_o {f : Nat → Nat → Int32} {a k : Nat} (h : ¬ (a = 1 ∧ k = 8) ∧ ¬ (a = 0 ∧ (k = 11 ∨ k = 12 ∨ k = 13)) ∧ ¬ (a = 26 ∧ k = 4) ∧ ¬ (a = 74 ∧ 7 ≤ k ∧ k ≤ 9) ∧ ¬ (a = 72 ∧ k = 2) ∧ (a < 51 ∨ 57 < a)) : tc s f a k = f a k := by
  unfold tc
  rw [u2_o (by omega), u2_o (by omega), u2_o (by omega), u2_o (by omega), u2_o (by omega), rs_o (by omega), u2_o (by omega), tc0_o (by omega)]
theorem tc_t {f : Nat → Nat → Int32} {a k : Nat} (h : 51 ≤ a ∧ a ≤ 57) : tc s f a k = rs (u2 (tc0 f) 26 4 (nI 0)) (f s 19) a k := by
  unfold tc
  rw [u2_o (by omega), u2_o (by omega), u2_o (by omega), u2_o (by omega), u2_o (by omega)]
theorem tc_v {f : Nat → Nat → Int32} : tc s f 1 8 = nI 0 ∧ tc s f 0 12 = f 23 8 ∧ tc s f 0 13 = f 23 9 ∧ tc s f 26 4 = nI 0 ∧ tc s f 74 8 = nI 0 ∧ tc s f 74 9 = nM 1 ∧ tc s f 74 7 = nM 1 ∧ tc s f 72 2 = nI 0 ∧ tc s f 0 11 = nI 0 := by
  refine ⟨?_, ?_, ?_, ?_, ?_, ?_, ?_, ?_, ?_⟩
  all_goals unfold tc
  · simp (disch := decide) only [u2_i, u2_k]
    rw [rs_o (by omega), u2_i (by decide)]
    exact tc0_v.1
  · simp (disch := decide) only [u2_i, u2_k]
    rw [rs_o (by omega), u2_i (by decide)]
    exact tc0_v.2.1
  · simp (disch := decide) only [u2_i, u2_k]
    rw [rs_o (by omega), u2_i (by decide)]
    exact tc0_v.2.2
  · simp (disch := decide) only [u2_i, u2_k]
    rw [rs_o (by omega), u2_s]
  all_goals simp (disch := decide) only [u2_i, u2_k, u2_s]
theorem text_ct {n : Nat} {b : Bool} {i1 : Nat → Nat → Int32} (hs : s = 7 ∨ s = 27) (h1 : n ≤ 700) (h2 : ∃ n', n ≤ n' ∧ n' ≤ 700 ∧ i 1 8 = nI n') (h : Reader_read s (nI n) (i, l, Rp s r p) = some (some (.int (nI b.toNat)), (i1, l, Rp s s p))) :
    GT_text (nI n) (i, l, Rp s r p) = if b = true then some (some (.int (i1 23 7)), (tc s i1, l, Rp p s s)) else some (some (.int (nM 1)), (tc0 i1, l, Rp s s p)) := by
  obtain ⟨n', a1, a2, a3⟩ := h2
  rw [GT_text_eq _ _ _ _ _ _ hs, ifc_neg (by omega), a3, ifc_lt (by omega) (by omega), if_neg (by omega), h, cmI_t]
  cases b with
  | false =>
    rw [ifc_t (c := nI false.toNat = 0) rfl, if_neg (by decide)]
    rfl
  | true =>
    rw [ifc_f (c := nI true.toNat = 0) (by decide), if_pos rfl, Net_take_eq, gd_0, Rp_p, cmV_t, Rp_s]
    have hg : ∀ (x : Option (Option Value × AM)), gk (obj 5 s && Nat.blt 19 (cN 5)) x = x := fun x => by
      rcases hs with y | y <;> subst y <;> rfl
    have e19 : u2 (u2 (u2 (u2 i1 1 8 (nI 0)) 0 12 (i1 23 8)) 0 13 (i1 23 9)) 26 4 (nI 0) s 19 = i1 s 19 := by
      rw [u2_o (by omega), u2_o (by omega), u2_o (by omega), u2_o (by omega)]
    rw [hg, restart_ok, crV_t, Notes_restart_eq, crV_t, Past_clear_eq, crV_t, gd_0, e19]
    show some (some (Value.int (u2 (u2 (u2 (u2 (rs (u2 (tc0 i1) 26 4 (nI 0)) (i1 s 19)) 74 8 (nI 0)) 74 9 (nM 1)) 74 7 (nM 1)) 72 2 (nI 0) 23 7)), (tc s i1, l, Rp p s s)) = _
    rw [u2_i (by decide), u2_i (by decide), u2_i (by decide), u2_i (by decide), rs_o (by omega), u2_i (by decide), tc0_o (by omega)]
end
end

section
/-! a text, by both: all of it -/
section
variable {i j : Nat → Nat → Int32} {l l2 : Nat → Nat → Int64} {s r p s2 r2 p2 : Nat} {P : PL}
theorem text_pr (h : INV P i l s r p) (x : Int32) : PrT (GT_text x) (Mo_text x) i l s r p := by
  obtain ⟨hp, hr, hw, h1, h2, h3, h4, h5, h6, h7, h8, h9, h10, h11, h12, h13, h14⟩ := id h
  have hs : s = 7 ∨ s = 27 := by omega
  obtain ⟨n', c, hY⟩ := TP_TY h12
  have hn7 := hY.1
  have two : (x < 0 ∨ nI n' < x) → PrT (GT_text x) (Mo_text x) i l s r p := fun hx => by
    refine ⟨nM 2, i, l, u2 i 82 2 (nI 0), l, P, s, r, p, ?_, ?_, INV_th h⟩
    · rw [GT_text_eq _ _ _ _ _ _ hs, hY.2.1]
      rcases hx with y | y
      · rw [ifc_t y]
      · rw [ifc_t (c := nI n' < x) y]
        unfold ifc
        split <;> rfl
    · rw [Mo_text_eq, hY.2.2.1]
      rcases hx with y | y
      · rw [ifc_t y]
      · rw [ifc_t (c := nI n' < x) y]
        unfold ifc
        split <;> rfl
  rcases pk_ix (n := n' + 1) x (by omega) with hx | hx | ⟨n, hn, rfl⟩
  · exact two (Or.inl hx)
  · exact two (Or.inr (Int32.lt_of_lt_of_le (nI_lt (by omega) (by omega)) hx))
  clear two
  obtain ⟨b, i1, jx, a1, a2, _⟩ := text_j (l := l) (l2 := l) (r := r) (p := p) (s2 := s) (r2 := s) (p2 := s) (j := i) (n := n) hs hY h14 (by omega) hY.2.2.1 (fun k hk => (hY.2.2.2 k hk).2.1) h14.2
  have hG := text_ct hs (by omega) ⟨n', by omega, hn7, hY.2.1⟩ a1
  have a82 : ∀ a k, 82 ≤ a → i1 a k = i a k := fun a k ha => a2 a k (qA_o hs (by omega) (by omega) (by omega) (by omega))
  have second : ∀ (M : Nat → Nat → Int32) (s2 r2 p2 : Nat), (∀ a k, 82 ≤ a → M a k = i a k) → ∃ j', fr qB M j' ∧ j' 82 1 = nI 0 ∧ (b = false → Mo_text (nI n) (M, l, Rp s2 r2 p2) = some (some (.int (nM 1)), (j', l, Rp s2 r2 p2)) ∧ NO i1 j') ∧ (b = true → ∃ n2 N L S E D, i1 23 7 = nI n2 ∧ i1 23 8 = nI 0 ∧ i1 23 9 = nM 1 ∧ j' 82 4 = nI 0 ∧ j' 82 5 = nM 1 ∧ RD s N L S E D i1 j' ∧ Mo_text (nI n) (M, l, Rp s2 r2 p2) = crV (Mo_keepText (j', l, Rp s2 r2 p2)) (j', l, Rp s2 r2 p2) (fun i_1 l_1 => some (some (.int (nI n2)), (i_1, l_1, Rp s2 r2 p2)))) := fun M s2 r2 p2 hM => by
    obtain ⟨b', i1', j', y1, y2, y3, y4, y5, y6⟩ := text_j (l := l) (l2 := l) (r := r) (p := p) (s2 := s2) (r2 := r2) (p2 := p2) (j := M) (n := n) hs hY h14 (by omega) ((hM 82 1 (by omega)).trans hY.2.2.1) (fun k hk => (hM 83 k (by omega)).trans (hY.2.2.2 k hk).2.1) (fun k hk => (hM 84 k (by omega)).trans (h14.2 k hk))
    rw [a1] at y1
    simp only [Option.some.injEq, Prod.mk.injEq, Value.int.injEq] at y1
    obtain ⟨z1, z2, _⟩ := y1
    have hb : b = b' := by
      cases b <;> cases b' <;> first | rfl | exact absurd z1 (by decide)
    subst hb z2
    exact ⟨j', y3, y4, y5, y6⟩
  cases b with
  | false =>
    rw [if_neg (by decide)] at hG
    obtain ⟨j', y3, y4, y5, _⟩ := second (tc0 i1) s s p (fun a k ha => (tc0_o (by omega)).trans (a82 a k ha))
    obtain ⟨z1, z2⟩ := y5 rfl
    refine ⟨nM 1, tc0 i1, l, j', l, P, s, s, p, hG, z1, INV_T h ?_ hs ⟨0, by omega, ?_, y4, fun k hk => by omega⟩ ?_⟩
    · intro a k hq
      rw [y3 a k (qB_T hs hq), tc0_o (by unfold qT at hq; simp at hq; omega)]
      exact a2 a k (qA_T hs hq)
    · exact (y3 1 8 (qB_o (by omega))).trans tc0_v.1
    · refine ⟨?_, ?_⟩
      · rw [y3 0 12 (qB_o (by omega)), tc0_v.2.1]; exact z2.1
      · rw [y3 0 13 (qB_o (by omega)), tc0_v.2.2]; exact z2.2
  | true =>
    rw [if_pos rfl] at hG
    obtain ⟨j', y3, y4, _, y6⟩ := second (tc s i1) p s s (fun a k ha => (tc_o (by omega)).trans (a82 a k ha))
    obtain ⟨n2, N, L, S, E, D, z1, z2, z3, z4, z5, z6, z7⟩ := y6 rfl
    obtain ⟨P', w1, w2, w3, w4, w5, w6⟩ := RD_P (l := l) (s2 := p) (r2 := s) (p2 := s) hs z6
    have hJ : ∀ a k, a < 82 → kt j' (rt P' 0) a k = tc s i1 a k := fun a k ha => by
      rw [congrFun (kt_r (by omega)) k]
      exact y3 a k (qB_o (by omega))
    have hJt : ∀ a k, 51 ≤ a → a ≤ 57 → kt j' (rt P' 0) a k = rs (u2 (tc0 i1) 26 4 (nI 0)) (i1 s 19) a k := fun a k x1 x2 => (hJ a k (by omega)).trans (tc_t ⟨x1, x2⟩)
    have h26 : ∀ a k, a < 82 → a ≠ 1 → a ≠ 2 → ¬ (s ≤ a ∧ a < s + 16) → ¬ (4 ≤ a ∧ a ≤ 6) → ¬ (23 ≤ a ∧ a ≤ 25) → a ≠ 0 → i1 a k = i a k := fun a k x1 x2 x3 x4 x5 x6 x7 => a2 a k (qA_o hs (by omega) (by omega) (by omega) (by omega))
    obtain ⟨t1, t2, t3, t4, t5, t6, t7, t8, t9⟩ := tc_v (s := s) (f := i1)
    obtain ⟨r1, r2, r3, r4, r5, r6, r7⟩ := rs_51 (f := u2 (tc0 i1) 26 4 (nI 0)) (x := i1 s 19)
    obtain ⟨v1, v2, v3, v4⟩ := rs_52 (f := u2 (tc0 i1) 26 4 (nI 0)) (x := i1 s 19)
    obtain ⟨o1, o2, o3, o4, o5, o6, o7, o8, o9⟩ := kt_s (j := j') (z := rt P' 0)
    obtain ⟨u1, u2', u3, u4, u5⟩ := kt_t (j := j') (z := rt P' 0)
    refine ⟨nI n2, tc s i1, l, kt j' (rt P' 0), u2 l 82 65 ((j' 87 5).toInt64), P', p, s, s, by rw [hG, z1], by rw [z7, w6, crV_t], by omega, hs, w1, ?_, w5, ?_, ?_, ?_, ?_, u1, ?_, ?_, ?_, ?_, ?_, ?_, ?_⟩
    · exact PC_fr w2 (fun a ha => funext fun k => (hJ _ k (by omega)).trans (tc_o (by omega)))
    · exact Or.inl ((hJ 26 4 (by omega)).trans t4)
    · refine ⟨fun q hq => ⟨0, by omega, (hJt 56 q (by omega) (by omega)).trans (v3 q hq)⟩, fun a ha k hk => ?_, fun t n k x1 x2 x3 _ => ?_, fun k hk hb => ?_, fun k hk hb => ?_, fun q hq k hk hb => ?_, ?_⟩
      · show bt (kt j' (rt P' 0) 57 a) k = (decide (k < 8) && decide (kt j' (rt P' 0) 56 (8 * a + k) ≠ 0))
        rw [hJt 57 a (by omega) (by omega), v4 a ha, show bt (nI 0) k = false from b_0 k]
        by_cases h8 : k < 8
        · rw [hJt 56 _ (by omega) (by omega), v3 _ (by omega)]
          simp [h8]
          rfl
        · simp [h8]
      · show kt j' (rt P' 0) 56 _ = 0
        rw [hJt 56 _ (by omega) (by omega), v3 _ (by omega)]
        rfl
      · have hb' : bt (kt j' (rt P' 0) 51 7) k = true := hb
        rw [hJt 51 7 (by omega) (by omega), r2, show bt (nI 0) k = false from b_0 k] at hb'
        cases hb'
      · have hb' : bt (kt j' (rt P' 0) 51 8) k = true := hb
        rw [hJt 51 8 (by omega) (by omega), r3, show bt (nI 0) k = false from b_0 k] at hb'
        cases hb'
      · have hb' : bt (kt j' (rt P' 0) 52 q) k = true := hb
        rw [hJt 52 q (by omega) (by omega), v1 q hq, show bt (nI 0) k = false from b_0 k] at hb'
        cases hb'
      · show ¬ kt j' (rt P' 0) 51 12 < 0
        have := w1.2.2.1
        rw [hJt 51 12 (by omega) (by omega), r7, w4]
        exact nI_pos (by omega)
    · show SM 0 (vw 51 (kt j' (rt P' 0))) (kt j' (rt P' 0))
      unfold SM vw
      refine ⟨?_, ?_, fun q hq => ?_, fun q hq => ?_, fun q hq => ⟨?_, ?_, ?_⟩, ?_, ?_, ?_, ?_⟩
      · rw [hJt _ 8 (by omega) (by omega), o1]; exact r3.symm
      · rw [hJt _ 7 (by omega) (by omega), o2]; exact r2.symm
      · rw [hJt _ q (by omega) (by omega), show 3 * 0 + q = q by omega, o3 q hq]; exact (v1 q hq).symm
      · rw [hJt _ q (by omega) (by omega), show 224 * 0 + q = q by omega, o4 q hq]; exact (v3 q hq).symm
      · rw [hJt _ q (by omega) (by omega), show 7 * 0 + q = q by omega, (o5 q hq).1]; exact (v2 q hq).1.symm
      · rw [hJt _ q (by omega) (by omega), show 7 * 0 + q = q by omega, (o5 q hq).2.1]; exact (v2 q hq).2.1.symm
      · rw [hJt _ q (by omega) (by omega), show 7 * 0 + q = q by omega, (o5 q hq).2.2]; exact (v2 q hq).2.2.symm
      · rw [hJt _ 9 (by omega) (by omega), o6]; exact r4.symm
      · rw [hJt _ 10 (by omega) (by omega), o7]; exact r5.symm
      · rw [hJt _ 11 (by omega) (by omega), o8]; exact r6.symm
      · rw [hJt _ 6 (by omega) (by omega), o9]; exact r1.symm
    · rw [u2_s, hJt 51 12 (by omega) (by omega), r7, w3, w4]
    · obtain ⟨c0, nx, E0, q1, q2, q3, q4, q5, q6⟩ := h8
      refine ⟨0, nx, E0, by omega, q2, (hJ 72 2 (by omega)).trans t8, u4, ?_, fun e he => by omega⟩
      rw [hJ 72 1 (by omega), tc_o (by omega), h26 72 1 (by omega) (by omega) (by omega) (by omega) (by omega) (by omega) (by omega)]
      exact q5
    · exact ⟨false, (hJ 0 11 (by omega)).trans t9, u5, fun x => absurd x (by decide)⟩
    · exact ⟨0, by omega, (hJ 74 8 (by omega)).trans t5, u2', Or.inl ⟨(hJ 74 9 (by omega)).trans t6, u3⟩, fun k hk => by omega⟩
    · exact Or.inl ((hJ 74 7 (by omega)).trans t7)
    · exact ⟨0, by omega, (hJ 1 8 (by omega)).trans t1, (kt_82 (by omega)).trans y4, fun k hk => by omega⟩
    · refine ⟨?_, ?_⟩
      · rw [hJ 0 12 (by omega), t2, z2, kt_82 (by omega), z4]
      · rw [hJ 0 13 (by omega), t3, z3, kt_82 (by omega), z5]
    · refine WD_row h14 (funext fun k => ?_) (funext fun k => ?_)
      · rw [hJ 3 k (by omega), tc_o (by omega)]
        exact h26 3 k (by omega) (by omega) (by omega) (by omega) (by omega) (by omega) (by omega)
      · rw [congrFun (kt_r (by omega)) k, y3 84 k (qB_o (by omega)), tc_o (by omega)]
        exact a82 84 k (by omega)
end
end
