section
/-! the reference's packet, whole -/
theorem pS9_ueq {P : PL} {m : MD} {σ : ST} {sr : Nat} : ueq (pS9 P m σ sr) σ := by
  unfold pS9
  split
  · exact ⟨u2_k (by decide), u2_k (by decide), u2_r (by decide), u2_r (by decide), u2_r (by decide)⟩
  · exact ⟨rfl, rfl, rfl, rfl, rfl⟩
theorem pkb_msk {P : PL} {m : MD} {σ : ST} {sr : Nat} (h7 : pN P ≤ 32) (hs : swf P σ) : pkb P m σ sr = msk (hbt (pOwn P m σ sr) (pSh P m σ sr) (pS2 P m σ sr)) (pN P) := by
  apply b_ext
  intro q hq
  unfold pkb hbt
  rw [msk_bt _ _ h7 q hq, pS2_0 (by decide) (by decide) (by decide), b_and, b_or]
  generalize pOwn P m σ sr = own
  generalize pSh P m σ sr = sh
  cases hb : bt (σ 0 7) q
  · simp
  · have := hs.2.2.2.1 q hq hb
    rw [decide_eq_true this]
    unfold tms
    cases bt own q <;> cases bt sh q <;> rfl
section
variable {s r p : Nat}
theorem rpacket_ok {i : Nat → Nat → Int32} {l : Nat → Nat → Int64} {P : PL} {σ : ST} {b sr : Nat} {m : MD} (hw : pwf P) (hP : PM P i) (hM : RM m i) (hs : swf P σ) (hb : b < 2) (hS : SM b σ i) (hsr : sr < pS P) (hd : m.1 = true → l 82 65 = (σ 0 12).toInt64) :
    ∃ j l', Mo_packet (nI b) (nI sr) (i, l, Rp s r p) = some (some (.int (pkb P m σ sr)), (j, l', Rp s r p)) ∧ SM b (pkt P m σ sr) j ∧ fr (qR b) i j ∧ (m.1 = true → l' 82 65 = (pkt P m σ sr 0 12).toInt64) ∧ fL m l l' := by
  have h7 := hw.1.1
  have h3 := hw.1.2.2.1
  have hNp : 0 < pN P := by have := hw.2.2.2.2.2.1 sr hsr; omega
  have hpm : pM P < pN P := by have := hw.2.1; omega
  have hx0 : ¬ σ 0 12 < 0 := hs.2.2.2.2.2.2
  have hr0 : rt P 0 = nI (pM P) := by unfold rt; rw [if_neg (by omega), if_pos rfl]
  rw [Mo_packet_eq]
  simp (disch := omega) only [nI_add, nI_clamp, gd_in]
  have f1 : fr (qR b) i (u2 i 121 0 (nI 0)) := fr_u2 (by simp [qR])
  have S1 : SM b (u2 σ 0 11 (σ 0 11)) (u2 i 121 0 (nI 0)) := by
    rw [u2_self rfl]
    exact SM_fr hS (fun a h1 h2 => u2_r (by omega))
  obtain ⟨j1, l1, d0, d1, d2, d3, d4, d5, d6⟩ := goesDown_ok (l := l) (s := s) (r := r) (p := p) (t := 1 + sr) (sr := sr) (bar := nI 0) (x := σ 0 12) (A := σ 0 11) (a1 := rtb P (1 + sr)) hw (PM_qR hw hP f1) (RM_qR hM f1) hs hb (by omega) hsr hx0 hd S1 (fun q hq => by
    have hz : (1 + sr == 0) = false := by simp
    rw [hz, nI_0, b_0]; rfl) rfl
  have ed : dwn P m (upo P σ (1 + sr)) σ (1 + sr) (nI 0) 8 (σ 0 12, σ 0 11, nI 0, rtb P (1 + sr), rtb P (1 + sr)) = pd1 P m σ sr := rfl
  rw [ed] at d1 d2 d5
  have d2' : j1 121 (1 + sr) = pOwn P m σ sr := d2
  have d30 : j1 121 0 = nI 0 := (d3 0 (by omega)).trans (u2_s _ _ _ _)
  have f2 : fr (qR b) i j1 := fr_trans f1 d4
  rw [d0, crV_t]
  rw [d2', (PM_qR hw hP f2).2.1, hr0, isOf_ok _ (by omega), crI_t]
  -- from packet_86 on
  have tail : ∀ (f : Nat → Nat → Int32) (lf : Nat → Nat → Int64), SM b (u2 (pS9 P m σ sr) 0 11 (pd2 P m σ sr).2.1) f → f 121 (1 + sr) = pOwn P m σ sr → f 121 0 = pSh P m σ sr → fr (qR b) i f → (m.1 = true → lf 82 65 = (pd2 P m σ sr).1.toInt64) → fL m l lf →
      ∃ j l', Mo_packet_86 (nI b) (nI sr) (nI 0) (nI 0) (f, lf, Rp s r p) = some (some (.int (pkb P m σ sr)), (j, l', Rp s r p)) ∧ SM b (pkt P m σ sr) j ∧ fr (qR b) i j ∧ (m.1 = true → l' 82 65 = (pkt P m σ sr 0 12).toInt64) ∧ fL m l l' := by
    intro f lf g1 g2 g3 g4 g5 g6
    have S2 : SM b (pS2 P m σ sr) f := SM_12 g1
    obtain ⟨j2, e0, e1, e2, e3⟩ := phear_ok (l := lf) (s := s) (r := r) (p := p) hw (PM_qR hw hP g4) hb S2 hsr g3 g2
    have e1' : SM b (pS3 P m σ sr) j2 := e1
    have hs3 : swf P (pS3 P m σ sr) := by unfold pS3; exact swf_her (swf_pS2 hs) _
    have f3 := fr_trans g4 e2
    obtain ⟨j3, l3, w0, w1, w2, w3⟩ := switches_ok (l := lf) (s := s) (r := r) (p := p) (sr := sr) (came := pSh P m σ sr) hw (PM_qR hw hP f3) (RM_qR hM f3) hs3 hb e1' hsr (by rw [e3]; exact g3)
    have ek : (if m.2.2.1 = 1 then pS3 P m σ sr else swo P sr (pSh P m σ sr) (pS3 P m σ sr) (pN P)) = pkt P m σ sr := rfl
    rw [ek] at w1
    have e12 : pkt P m σ sr 0 12 = (pd2 P m σ sr).1 := by
      have h12 : pS3 P m σ sr 0 12 = (pd2 P m σ sr).1 := by
        unfold pS3
        rw [her_r (by decide) (by decide) (by decide)]
        exact u2_s _ _ _ _
      unfold pkt
      split
      · exact h12
      · rw [swo_r (by decide)]; exact h12
    refine ⟨j3, l3, ?_, w1, fr_trans f3 w2, fun h => ?_, fL_trans g6 (fL_of w3)⟩
    · rw [e0, Mo_packet_86_eq, (PM_qR hw hP f3).1.1, ifc_f (nI_nlt (Nat.le_refl _) (by omega)), w0, crV_t, pkb_msk (by omega) hs]
    · rw [w3 82 (by decide) (by decide), g5 h, e12]
  have k69 : ∀ (f : Nat → Nat → Int32) (lf : Nat → Nat → Int64), SM b (u2 (pS9 P m σ sr) 0 11 (pd1 P m σ sr).2.1) f → f 121 (1 + sr) = pOwn P m σ sr → f 121 0 = nI 0 → fr (qR b) i f → (m.1 = true → lf 82 65 = (pd1 P m σ sr).1.toInt64) → fL m l lf →
      ∃ j l', Mo_packet_69 (nI b) (nI sr) (nI (pThr P m σ sr).toNat) (f, lf, Rp s r p) = some (some (.int (pkb P m σ sr)), (j, l', Rp s r p)) ∧ SM b (pkt P m σ sr) j ∧ fr (qR b) i j ∧ (m.1 = true → l' 82 65 = (pkt P m σ sr 0 12).toInt64) ∧ fL m l l' := by
    intro f lf g1 g2 g3 g4 g5 g6
    rw [Mo_packet_69_eq, ifc_b]
    cases hth : pThr P m σ sr
    · simp only [Bool.false_eq_true, if_false]
      have e2 : pd2 P m σ sr = ((pd1 P m σ sr).1, (pd1 P m σ sr).2.1, nI 0, nI 0, nI 0) := by unfold pd2; rw [hth]; rfl
      exact tail f lf (by rw [e2]; exact g1) g2 (by unfold pSh; rw [e2]; exact g3) g4 (by rw [e2]; exact g5) g6
    · simp only [if_true]
      have e2 : pd2 P m σ sr = dwn P m (upo P σ 0) σ 0 (pOwn P m σ sr &&& σ 1 sr) 8 ((pd1 P m σ sr).1, (pd1 P m σ sr).2.1, nI 0, rtb P 0, rtb P 0) := by unfold pd2; rw [hth]; rfl
      have e91 : pS9 P m σ sr 1 sr = σ 1 sr := by
        unfold pS9
        split
        · exact u2_i (by decide)
        · rfl
      obtain ⟨j3, l3, c0, c1, c2, c3, c4, c5, c6⟩ := goesDown_ok (l := lf) (s := s) (r := r) (p := p) (σ := pS9 P m σ sr) (t := 0) (sr := sr) (bar := pOwn P m σ sr &&& σ 1 sr) (x := (pd1 P m σ sr).1) (A := (pd1 P m σ sr).2.1) (a1 := rtb P 0) hw (PM_qR hw hP g4) (RM_qR hM g4) (swf_pS9 hs) hb (by omega) hsr (pd1_pos hx0) g5 g1 (fun q hq => by
        rw [b_and, e91, g2]
        cases bt (pOwn P m σ sr) q <;> cases bt (σ 1 sr) q <;> rfl) rfl
      have eu : upo P (pS9 P m σ sr) 0 = upo P σ 0 := funext fun q => upo_ueq pS9_ueq 0 q
      have hcg : ∀ n, onl (pS9 P m σ sr) 0 n = onl σ 0 n := fun n => by
        unfold onl pS9
        split
        · rw [u2_i (by decide), u2_k (by decide)]
        · rfl
      rw [eu, dwn_cg hcg, ← e2] at c1 c2 c5
      rw [c0, crV_t]
      exact tail j3 l3 c1 ((c3 (1 + sr) (by omega)).trans g2) c2 (fr_trans g4 c4) c5 (fL_trans g6 c6)
  rw [ifc_b]
  cases hbo : bt (pOwn P m σ sr) (pM P)
  · simp only [Bool.false_eq_true, if_false]
    have e108 : j1 108 b = σ 0 8 := d1.1.trans (u2_k (by decide))
    rw [(PM_qR hw hP f2).2.1, hr0, farOf_ok hw (PM_qR hw hP f2) (RM_qR hM f2).2.2.2.2.2.2.2 hb e108 (show 1 + sr ≤ pS P by omega) (show pM P < 7 by omega), crI_t]
    have hf99 := fd_99 P (σ 0 8) (1 + sr) (pM P)
    simp (disch := omega) only [nI_add, nI_clamp, gd_in, ifc_lt]
    have f5 : fr (qR b) i (ov j1 119 0 7 (fd P (σ 0 8) (1 + sr))) := fr_trans f2 (fr_ov (fun k => by simp [qR]))
    have S5 : SM b (u2 σ 0 11 (pd1 P m σ sr).2.1) (ov j1 119 0 7 (fd P (σ 0 8) (1 + sr))) := SM_fr d1 (fun a h1 h2 => ov_c (by omega))
    have e121 : ∀ c, ov j1 119 0 7 (fd P (σ 0 8) (1 + sr)) 121 c = j1 121 c := fun c => by rw [ov_c (by decide)]
    by_cases h99 : fd P (σ 0 8) (1 + sr) (pM P) < 99
    · rw [if_pos h99]
      have hr : pReg P m σ sr = true := by unfold pReg; rw [hbo, decide_eq_true h99]; rfl
      have ht : pThr P m σ sr = true := by unfold pThr; rw [decide_eq_true h99, Bool.or_true]
      have e115 : ov j1 119 0 7 (fd P (σ 0 8) (1 + sr)) 115 b = σ 0 9 := S5.2.2.2.2.2.1.trans (u2_k (by decide))
      have e9 : pS9 P m σ sr = u2 σ 0 9 (σ 0 9 + nI 1) := by unfold pS9; rw [hr]; rfl
      rw [e115]
      have hk := k69 (u2 (ov j1 119 0 7 (fd P (σ 0 8) (1 + sr))) 115 b (σ 0 9 + nI 1)) l1 (by
        rw [e9, u2_ck (show 9 ≠ 11 by decide)]
        exact SM_9 S5) (by rw [u2_i (by decide), e121]; exact d2') (by rw [u2_i (by decide), e121]; exact d30) (fr_trans f5 (fr_u2 (by simp [qR]))) d5 d6
      rw [ht] at hk
      exact hk
    · rw [if_neg h99]
      have hr : pReg P m σ sr = false := by unfold pReg; rw [decide_eq_false h99, Bool.and_false]
      have ht : pThr P m σ sr = false := by unfold pThr; rw [hbo, decide_eq_false h99]; rfl
      have e9 : pS9 P m σ sr = σ := by unfold pS9; rw [hr]; rfl
      have hk := k69 _ l1 (by rw [e9]; exact S5) (by rw [e121]; exact d2') (by rw [e121]; exact d30) f5 d5 d6
      rw [ht] at hk
      exact hk
  · simp only [if_true]
    have hr : pReg P m σ sr = false := by unfold pReg; rw [hbo]; rfl
    have ht : pThr P m σ sr = true := by unfold pThr; rw [hbo]; rfl
    have e9 : pS9 P m σ sr = σ := by unfold pS9; rw [hr]; rfl
    have hk := k69 j1 l1 (by rw [e9]; exact d1) d2' d30 f2 d5 d6
    rw [ht] at hk
    exact hk
end
end

section
/-! a tick, on both sides; many -/
noncomputable def sds (P : PL) (m : MD) (σ : ST) : Nat → ST
  | 0 => σ
  | k + 1 => if nI (P.2.1 10 k) = σ 0 6 then pkt P m (sds P m σ k) (P.2.1 9 k) else sds P m σ k
noncomputable def tk3 (P : PL) (m : MD) (σ : ST) : ST := (jon P (m.2.2.1 == 4) (fad (evm P m σ), fun _ => false) (pN P)).1
noncomputable def tk4 (P : PL) (m : MD) (σ : ST) : ST := if m.2.1 then tk3 P m σ else sds P m (tk3 P m σ) (pD P)
noncomputable def tck (P : PL) (m : MD) (σ : ST) : ST := u2 (tk4 P m σ) 0 6 (tk4 P m σ 0 6 + nI 1)
noncomputable def tcn (P : PL) (m : MD) (σ : ST) : Nat → ST
  | 0 => σ
  | n + 1 => tck P m (tcn P m σ n)
theorem sds_06 {P : PL} {m : MD} {σ : ST} : ∀ k, sds P m σ k 0 6 = σ 0 6
  | 0 => rfl
  | k + 1 => by
    unfold sds
    split
    · rw [pkt_0 (by decide) (by decide) (by decide)]; exact sds_06 k
    · exact sds_06 k
theorem sds_08 {P : PL} {m : MD} {σ : ST} : ∀ k, sds P m σ k 0 8 = σ 0 8
  | 0 => rfl
  | k + 1 => by
    unfold sds
    split
    · rw [pkt_0 (by decide) (by decide) (by decide)]; exact sds_08 k
    · exact sds_08 k
theorem swf_sds {P : PL} {m : MD} {σ : ST} (hw : pwf P) (h : swf P σ) : ∀ k, k ≤ pD P → swf P (sds P m σ k)
  | 0, _ => h
  | k + 1, hk => by
    have ih := swf_sds (m := m) hw h k (by omega)
    unfold sds
    split
    · exact swf_pkt hw (hw.2.2.2.2.2.2.2.1 k (by omega)).1 ih
    · exact ih
theorem swf_tk3 {P : PL} {m : MD} {σ : ST} (hw : pwf P) (h : swf P σ) : swf P (tk3 P m σ) := swf_jon hw (swf_fad (swf_evm hw h)) _
theorem swf_tck {P : PL} {m : MD} {σ : ST} (hw : pwf P) (h : swf P σ) : swf P (tck P m σ) := by
  have h4 : swf P (tk4 P m σ) := by
    unfold tk4
    split
    · exact swf_tk3 hw h
    · exact swf_sds hw (swf_tk3 hw h) _ (Nat.le_refl _)
  exact swf_0 (by decide) (by decide) (by decide) h4
theorem swf_tcn {P : PL} {m : MD} {σ : ST} (hw : pwf P) (h : swf P σ) : ∀ n, swf P (tcn P m σ n)
  | 0 => h
  | n + 1 => swf_tck hw (swf_tcn hw h n)
section
variable {s r p : Nat}
theorem jfill_ok {i : Nat → Nat → Int32} {l : Nat → Nat → Int64} {o0 : Nat} {x : Int32} (hj : o0 = 21 ∨ o0 = 22 ∨ o0 = 41 ∨ o0 = 42 ∨ o0 = 48 ∨ o0 = 52 ∨ o0 = 53 ∨ o0 = 54 ∨ o0 = 55 ∨ o0 = 56 ∨ o0 = 57 ∨ o0 = 66) : Jarr_fill o0 x (i, l, Rp s r p) = some (none, (oi i o0 0 (gN o0) (fun _ => x), l, Rp s r p)) := by
  have hg : gN o0 < 1000 := by rcases hj with h | h | h | h | h | h | h | h | h | h | h | h <;> (subst h; decide)
  have h := upto (fun k => Jarr_fill_5 o0 x (nI k) (nI (gN o0)) (oi i o0 0 k (fun _ => x), l, Rp s r p)) (gN o0) (fun k hk => by
    show Jarr_fill_5 _ _ _ _ _ = Jarr_fill_5 _ _ _ _ _
    rw [Jarr_fill_5_eq _ _ _ _ _ _ _ _ _ hj]
    simp (disch := omega) only [nI_mul, nI_add, nI_clamp, gd_in, gd_0, gd_1, gd_b, gd_n0, ifc_lt, ifc_eq, ifc_neg, ifc_z, ifc_pos, ifc_b, if_pos, if_neg, crV_t, crI_t, crL_t, ifc_True, ifc_False, if_true, if_false]
    rw [oi_s rfl]) 0 (by omega)
  simp only [oi_00] at h
  rw [Jarr_fill_eq _ _ _ _ _ _ _ hj, h, Jarr_fill_5_eq _ _ _ _ _ _ _ _ _ hj, ifc_f (nI_nlt (Nat.le_refl _) (by omega))]
theorem NetI_D {P : PL} {o : Nat} {i j : Nat → Nat → Int32} (ho : o = 51 ∨ o = 65) (h : NetI P i) (hf : fr (qD o) i j) : NetI P j := by
  have e4 : j 26 4 = i 26 4 := hf 26 4 (by unfold qD; simp; omega)
  have e5 : j 26 5 = i 26 5 := hf 26 5 (by unfold qD; simp; omega)
  unfold NetI
  rw [e4, e5]
  rcases h with h | ⟨h1, h2⟩
  · exact Or.inl h
  · exact Or.inr ⟨h1, NetOk_D ho h2 hf⟩
theorem fr_netC {o : Nat} {i j : Nat → Nat → Int32} (h : fr qNet i j) : fr (qC o) i j := fr_mono (fun a k hq => by
  unfold qC at hq
  unfold qNet
  simp at hq ⊢
  omega) h
theorem vw_net {o : Nat} {i j : Nat → Nat → Int32} (ho : o = 51 ∨ o = 65) (h : fr qNet i j) : vw o j = vw o i := funext fun a => funext fun k => h (o + a) k (by unfold qNet; simp; omega)
theorem fr_rowsD {o : Nat} {i j : Nat → Nat → Int32} (h : ∀ a, (∀ c, c < 7 → a ≠ o + c) → j a = i a) : fr (qD o) i j := fun a k hq => by
  rw [h a (fun c hc e => by rw [e, qD_s hc] at hq; exact absurd hq (by decide))]
theorem ctick_ok {i : Nat → Nat → Int32} {l : Nat → Nat → Int64} {P : PL} {o n k : Nat} {m : MD} (ho : o = 51 ∨ o = 65) (hp : p = 7 ∨ p = 27) (hw : pwf P) (hP : PC P p i) (hm : m.2.2.1 ≤ 5) (hM : CM m i) (hs : swf P (vw o i)) (hN : NetI P i) (hk : k < n) (hn : n < 2 ^ 31) :
    ∃ j l', Course_run_11 o (nI n) p (nI k) (i, l, Rp s r p) = Course_run_11 o (nI n) p (nI (k + 1)) (j, l', Rp s r p) ∧ vw o j = tck P m (vw o i) ∧ fr (qC o) i j ∧ NetI P j ∧ (∀ a, a ≠ 46 → l' a = l a) ∧ NetOk P j (vw o j 0 8) := by
  have h7 := hw.1.1
  have h8 := hw.1.2.1
  have h3 := hw.1.2.2.1
  have h14 := hw.1.2.2.2.2
  have hev : ∃ j, Course_run_11 o (nI n) p (nI k) (i, l, Rp s r p) = Course_run_29 o (nI n) p (nI k) (j, l, Rp s r p) ∧ vw o j = evm P m (vw o i) ∧ fr (qD o) i j := by
    rw [Course_run_11_eq _ _ _ _ _ _ _ _ ho hp, ifc_t (nI_lt hk hn), hM.2.1, ifc_b]
    unfold evm
    cases hst : m.2.1
    · simp only [Bool.false_eq_true, if_false]
      obtain ⟨j, e0, e1, e2⟩ := happen_ok (l := l) (s := s) (r := r) ho hp hw hP hm hM
      rw [e0, crV_t]
      exact ⟨j, rfl, e1, fr_rowsD (fun a h => e2 a (by have := h 0 (by omega); omega) (h 1 (by omega)))⟩
    · simp only [if_true]
      exact ⟨i, rfl, rfl, fr_refl _ _⟩
  obtain ⟨j1, a0, a1, a2⟩ := hev
  have hs1 : swf P (vw o j1) := by rw [a1]; exact swf_evm hw hs
  have hP1 := PC_qC ho hp hP (fr_DC a2)
  have hN1 := NetI_D ho hN a2
  obtain ⟨j2, b0, b1, b2, b3, b4⟩ := measure_ok (l := l) (s := s) (r := r) (cut := vw o j1 0 8) hp hw hP1 hN1
  have f2 : fr (qC o) i j2 := fr_trans (fr_DC a2) (fr_netC b1)
  have v2 : vw o j2 = evm P m (vw o i) := (vw_net ho b1).trans a1
  obtain ⟨j3, c0, c1, c2⟩ := fade_ok (l := l) (s := s) (r := r) (p := p) (i := j2) ho (by rw [v2]; exact swf_evm hw hs)
  have v3 : vw o j3 = fad (evm P m (vw o i)) := by rw [c1, v2]
  have f23 : fr (qD o) j2 j3 := fr_rowsD (fun a h => c2 a (h 5 (by omega)) (h 6 (by omega)))
  rw [a0, Course_run_29_eq _ _ _ _ _ _ _ _ ho hp]
  have e8 : j1 o 8 = vw o j1 0 8 := rfl
  rw [e8, b0, crV_t, c0, crV_t, jfill_ok (by omega), crV_t]
  have g28 : gN 48 = 28 := by decide
  rw [g28]
  generalize hj4 : oi j3 48 0 28 (fun _ => nI 0) = j4
  have f34 : fr (qD o) j3 j4 := by rw [← hj4]; exact fr_oi (fun k => by simp [qD])
  have v4 : vw o j4 = fad (evm P m (vw o i)) := by
    rw [← v3, ← hj4]
    funext a
    exact oi_c (by omega)
  have J4 : JC (fun _ => false) j4 := fun a ha k hk => by rw [← hj4, oi_0 j3 48 _ ha, nI_0, b_0]
  have cut0 : fad (evm P m (vw o i)) 0 8 = vw o j1 0 8 := by rw [fad_a (by decide) (by decide), a1]
  have N4 : NetOk P j4 (vw o j1 0 8) := NetOk_D ho (NetOk_D ho b4 f23) f34
  have f4 : fr (qC o) i j4 := fr_trans f2 (fr_trans (fr_DC f23) (fr_DC f34))
  have I4 : NetI P j4 := NetI_D ho (NetI_D ho (Or.inr ⟨b2, by rw [b3]; exact b4⟩) f23) f34
  have S0 : swf P (fad (evm P m (vw o i))) := swf_fad (swf_evm hw hs)
  generalize hσ : fad (evm P m (vw o i)) = σ at *
  have hrow : ∀ q (M : (Nat → Nat → Int32) × (Nat → Nat → Int64)) (S : JnS), q < pN P → swf P S.1 → S.1 0 8 = vw o j1 0 8 → vw o M.1 = S.1 ∧ JC S.2 M.1 ∧ fr (qD o) j4 M.1 ∧ (∀ a, a ≠ 46 → M.2 a = l a) →
      ∃ M' : (Nat → Nat → Int32) × (Nat → Nat → Int64), Course_run_67 o (nI n) p (nI k) (nI q) (nI 0) (M.1, M.2, Rp s r p) = Course_run_67 o (nI n) p (nI k) (nI q) (nI (pS P + 1)) (M'.1, M'.2, Rp s r p) ∧ vw o M'.1 = (jot P (m.2.2.1 == 4) q S (pS P + 1)).1 ∧ JC (jot P (m.2.2.1 == 4) q S (pS P + 1)).2 M'.1 ∧ fr (qD o) j4 M'.1 ∧ (∀ a, a ≠ 46 → M'.2 a = l a) := by
    intro q M S hq hsw hcut hI
    exact loop_ex (F := fun t (M : (Nat → Nat → Int32) × (Nat → Nat → Int64)) => Course_run_67 o (nI n) p (nI k) (nI q) (nI t) (M.1, M.2, Rp s r p)) (I9 := fun t M => vw o M.1 = (jot P (m.2.2.1 == 4) q S t).1 ∧ JC (jot P (m.2.2.1 == 4) q S t).2 M.1 ∧ fr (qD o) j4 M.1 ∧ (∀ a, a ≠ 46 → M.2 a = l a)) (n := pS P + 1) (fun t M ht hI => by
      obtain ⟨f, lf⟩ := M
      obtain ⟨q1, q2, q3, q4⟩ := hI
      simp only at q1 q2 q3 q4
      have hPf := PC_qC ho hp hP (fr_trans f4 (fr_DC q3))
      have hMf := CM_qC ho hM (fr_trans f4 (fr_DC q3))
      have hsf : swf P (vw o f) := by rw [q1]; exact swf_jot hw hsw t (by omega)
      have hNf : NetOk P f (vw o f 0 8) := by rw [q1, jot_0 (by decide), hcut]; exact NetOk_D ho N4 q3
      obtain ⟨g, lg, e0, e1, e2, e3, e4⟩ := joinUp_ok (l := lf) (s := s) (r := r) (t := t) (n := q) ho hp hw hPf hm hMf hsf hNf q2 (by omega) hq
      rw [q1] at e1 e2
      have ej : jo1 P (m.2.2.1 == 4) t q ((jot P (m.2.2.1 == 4) q S t).1, (jot P (m.2.2.1 == 4) q S t).2) = jot P (m.2.2.1 == 4) q S (t + 1) := rfl
      rw [ej] at e1 e2
      refine ⟨(g, lg), ?_, e1, e2, fr_trans q3 e3, fun a ha => (e4 a ha).trans (q4 a ha)⟩
      show Course_run_67 o (nI n) p (nI k) (nI q) (nI t) (f, lf, Rp s r p) = _
      rw [Course_run_67_eq _ _ _ _ _ _ _ _ _ _ ho hp, show f p 13 = nI (pS P) from hPf.1 13 (by omega) (by omega), ifc_f (nI_nlt (by omega) (by omega)), e0, crV_t, nI_add]) 0 M (by omega) hI
  have hnodes := loop_ex (F := fun q (M : (Nat → Nat → Int32) × (Nat → Nat → Int64)) => Course_run_55 o (nI n) p (nI k) (nI q) (M.1, M.2, Rp s r p)) (I9 := fun q M => vw o M.1 = (jon P (m.2.2.1 == 4) (σ, fun _ => false) q).1 ∧ JC (jon P (m.2.2.1 == 4) (σ, fun _ => false) q).2 M.1 ∧ fr (qD o) j4 M.1 ∧ (∀ a, a ≠ 46 → M.2 a = l a)) (n := pN P) (fun q M hq hI => by
    obtain ⟨M', f1, f2', f3, f5, f6⟩ := hrow q M _ hq (swf_jon hw S0 q) (by rw [jon_0 (by decide)]; exact cut0) hI
    have hPf := PC_qC ho hp hP (fr_trans f4 (fr_DC hI.2.2.1))
    have hPf' := PC_qC ho hp hP (fr_trans f4 (fr_DC f5))
    refine ⟨M', ?_, f2', f3, f5, f6⟩
    show Course_run_55 _ _ _ _ _ _ = Course_run_55 _ _ _ _ _ _
    rw [Course_run_55_eq _ _ _ _ _ _ _ _ _ ho hp, show M.1 p 11 = nI (pN P) from hPf.1 11 (by omega) (by omega), ifc_t (nI_lt hq (by omega)), f1, Course_run_67_eq _ _ _ _ _ _ _ _ _ _ ho hp, show M'.1 p 13 = nI (pS P) from hPf'.1 13 (by omega) (by omega), ifc_t (nI_lt (by omega) (by omega)), nI_add]) 0 (j4, l) (by omega) ⟨v4, J4, fr_refl _ _, fun _ _ => rfl⟩
  obtain ⟨⟨j5, l5⟩, d0, d1, d2, d3, d4⟩ := hnodes
  simp only at d1 d2 d3 d4
  have d0' : Course_run_55 o (nI n) p (nI k) (nI 0) (j4, l, Rp s r p) = Course_run_55 o (nI n) p (nI k) (nI (pN P)) (j5, l5, Rp s r p) := d0
  have et3 : (jon P (m.2.2.1 == 4) (σ, fun _ => false) (pN P)).1 = tk3 P m (vw o i) := by rw [← hσ]; rfl
  rw [et3] at d1
  have f5 : fr (qC o) i j5 := fr_trans f4 (fr_DC d3)
  have hP5 := PC_qC ho hp hP f5
  have hM5 := CM_qC ho hM f5
  rw [d0', Course_run_55_eq _ _ _ _ _ _ _ _ _ ho hp, show j5 p 11 = nI (pN P) from hP5.1 11 (by omega) (by omega), ifc_f (nI_nlt (Nat.le_refl _) (by omega))]
  have cut5 : tk3 P m (vw o i) 0 8 = vw o j1 0 8 := by
    have e : tk3 P m (vw o i) 0 8 = fad (evm P m (vw o i)) 0 8 := jon_0 (by decide) _
    rw [e, hσ, cut0]
  have fin : ∀ (f : Nat → Nat → Int32), vw o f = tk4 P m (vw o i) → vw o (u2 f o 6 (f o 6 + nI 1)) = tck P m (vw o i) := fun f hf => by
    rw [vw_0, hf]
    have : f o 6 = tk4 P m (vw o i) 0 6 := by rw [← hf]; rfl
    rw [this]; rfl
  have f6o : ∀ (f : Nat → Nat → Int32), fr (qD o) f (u2 f o 6 (f o 6 + nI 1)) := fun f => fr_u2 (qD_s (a := 0) (by omega))
  have tc8 : tck P m (vw o i) 0 8 = vw o j1 0 8 := by
    unfold tck
    rw [u2_k (by decide)]
    unfold tk4
    split
    · exact cut5
    · rw [sds_08]; exact cut5
  cases hst : m.2.1
  · have hsend := loop_ex (F := fun q (M : (Nat → Nat → Int32) × (Nat → Nat → Int64)) => Course_run_100 o (nI n) p (nI k) (nI q) (M.1, M.2, Rp s r p)) (I9 := fun q M => vw o M.1 = sds P m (tk3 P m (vw o i)) q ∧ fr (qD o) j4 M.1 ∧ (∀ a, a ≠ 46 → M.2 a = l a)) (n := pD P) (fun q M hq hI => by
      obtain ⟨f, lf⟩ := M
      obtain ⟨q1, q2, q3⟩ := hI
      simp only at q1 q2 q3
      show ∃ M' : (Nat → Nat → Int32) × (Nat → Nat → Int64), Course_run_100 o (nI n) p (nI k) (nI q) (f, lf, Rp s r p) = Course_run_100 o (nI n) p (nI k) (nI (q + 1)) (M'.1, M'.2, Rp s r p) ∧ _
      have hPf := PC_qC ho hp hP (fr_trans f4 (fr_DC q2))
      have hMf := CM_qC ho hM (fr_trans f4 (fr_DC q2))
      have hsd := hw.2.2.2.2.2.2.2.1 q hq
      obtain ⟨e9, e10⟩ := hPf.2.2.2.2.2.2.1 q hq
      have et : f o 6 = tk3 P m (vw o i) 0 6 := by
        have : vw o f 0 6 = tk3 P m (vw o i) 0 6 := by rw [q1]; exact sds_06 q
        exact this
      rw [Course_run_100_eq _ _ _ _ _ _ _ _ _ ho hp, show f p 15 = nI (pD P) from hPf.1 15 (by omega) (by omega), hMf.2.1, hst]
      simp (disch := omega) only [nI_mul, nI_add, nI_clamp, gd_in, gd_0, gd_1, gd_b, gd_n0, ifc_lt, ifc_eq, ifc_neg, ifc_z, ifc_pos, ifc_b, if_pos, if_neg, crV_t, crI_t, crL_t, ifc_True, ifc_False, if_true, if_false, e9, e10, et]
      simp only [Bool.false_eq_true, if_false]
      unfold sds
      by_cases hc : nI (P.2.1 10 q) = tk3 P m (vw o i) 0 6
      · rw [ifc_t hc, if_pos hc]
        have hsf : swf P (vw o f) := by rw [q1]; exact swf_sds hw (swf_tk3 hw hs) q (by omega)
        have hNf : NetOk P f (vw o f 0 8) := by rw [q1, sds_08, cut5]; exact NetOk_D ho N4 q2
        obtain ⟨g, lg, z0, z1, z2, z3⟩ := cpacket_ok (l := lf) (s := s) (r := r) ho hp hw hPf hm hMf hsf hNf hsd.1
        rw [z0, crI_t]
        exact ⟨(g, lg), rfl, by rw [z1, q1], fr_trans q2 z2, fun a ha => (z3 a ha).trans (q3 a ha)⟩
      · rw [ifc_f hc, if_neg hc]
        exact ⟨(f, lf), rfl, q1, q2, q3⟩) 0 (j5, l5) (by omega) ⟨d1, d3, d4⟩
    obtain ⟨⟨j6, l6⟩, g0, g1, g2, g3⟩ := hsend
    simp only at g1 g2 g3
    have g0' : Course_run_100 o (nI n) p (nI k) (nI 0) (j5, l5, Rp s r p) = Course_run_100 o (nI n) p (nI k) (nI (pD P)) (j6, l6, Rp s r p) := g0
    have f6 : fr (qC o) i j6 := fr_trans f4 (fr_DC g2)
    have g4 : vw o j6 = tk4 P m (vw o i) := by unfold tk4; rw [hst]; exact g1
    rw [g0', Course_run_100_eq _ _ _ _ _ _ _ _ _ ho hp, show j6 p 15 = nI (pD P) from (PC_qC ho hp hP f6).1 15 (by omega) (by omega), ifc_f (nI_nlt (Nat.le_refl _) (by omega)), nI_add]
    exact ⟨_, l6, rfl, fin j6 g4, fr_trans f6 (fr_DC (f6o j6)), NetI_D ho (NetI_D ho I4 g2) (f6o j6), g3, by rw [fin j6 g4, tc8]; exact NetOk_D ho (NetOk_D ho N4 g2) (f6o j6)⟩
  · have g4 : vw o j5 = tk4 P m (vw o i) := by unfold tk4; rw [hst]; exact d1
    rw [Course_run_100_eq _ _ _ _ _ _ _ _ _ ho hp, hM5.2.1, hst, ifc_b, if_pos rfl, nI_add]
    refine ⟨_, l5, ?_, fin j5 g4, fr_trans f5 (fr_DC (f6o j5)), NetI_D ho (NetI_D ho I4 d3) (f6o j5), d4, by rw [fin j5 g4, tc8]; exact NetOk_D ho (NetOk_D ho N4 d3) (f6o j5)⟩
    by_cases h0 : nI 0 < j5 p 15
    · rw [ifc_t h0]
    · rw [ifc_f h0]
theorem run_ok {i : Nat → Nat → Int32} {l : Nat → Nat → Int64} {P : PL} {o n : Nat} {m : MD} (ho : o = 51 ∨ o = 65) (hp : p = 7 ∨ p = 27) (hw : pwf P) (hP : PC P p i) (hm : m.2.2.1 ≤ 5) (hM : CM m i) (hs : swf P (vw o i)) (hN : NetI P i) (hn : n < 2 ^ 31) :
    ∃ j l', Course_run o (nI n) (i, l, Rp s r p) = some (none, (j, l', Rp s r p)) ∧ vw o j = tcn P m (vw o i) n ∧ fr (qC o) i j ∧ NetI P j ∧ ∀ a, a ≠ 46 → l' a = l a := by
  have h := loop_ex (F := fun k (M : (Nat → Nat → Int32) × (Nat → Nat → Int64)) => Course_run_11 o (nI n) p (nI k) (M.1, M.2, Rp s r p)) (I9 := fun k M => vw o M.1 = tcn P m (vw o i) k ∧ fr (qC o) i M.1 ∧ NetI P M.1 ∧ (∀ a, a ≠ 46 → M.2 a = l a)) (n := n) (fun k M hk hI => by
    obtain ⟨f, lf⟩ := M
    obtain ⟨q1, q2, q3, q4⟩ := hI
    simp only at q1 q2 q3 q4
    obtain ⟨g, lg, e0, e1, e2, e3, e4, e5⟩ := ctick_ok (l := lf) (s := s) (r := r) ho hp hw (PC_qC ho hp hP q2) hm (CM_qC ho hM q2) (by rw [q1]; exact swf_tcn hw hs k) q3 hk hn
    exact ⟨(g, lg), e0, by rw [e1, q1]; rfl, fr_trans q2 e2, e3, fun a ha => (e4 a ha).trans (q4 a ha)⟩) 0 (i, l) (by omega) ⟨rfl, fr_refl _ _, hN, fun _ _ => rfl⟩
  obtain ⟨M', q0, q1, q2, q3, q4⟩ := h
  rw [Course_run_eq _ _ _ _ _ _ _ ho hp]
  refine ⟨M'.1, M'.2, q0.trans ?_, q1, q2, q3, q4⟩
  show Course_run_11 o (nI n) p (nI n) (M'.1, M'.2, Rp s r p) = _
  rw [Course_run_11_eq _ _ _ _ _ _ _ _ ho hp, ifc_f (nI_nlt (Nat.le_refl _) hn)]
theorem run1_ok {i : Nat → Nat → Int32} {l : Nat → Nat → Int64} {P : PL} {o : Nat} {m : MD} (ho : o = 51 ∨ o = 65) (hp : p = 7 ∨ p = 27) (hw : pwf P) (hP : PC P p i) (hm : m.2.2.1 ≤ 5) (hM : CM m i) (hs : swf P (vw o i)) (hN : NetI P i) :
    ∃ j l', Course_run o (nI 1) (i, l, Rp s r p) = some (none, (j, l', Rp s r p)) ∧ vw o j = tck P m (vw o i) ∧ fr (qC o) i j ∧ NetI P j ∧ (∀ a, a ≠ 46 → l' a = l a) ∧ NetOk P j (vw o j 0 8) := by
  obtain ⟨g, lg, e0, e1, e2, e3, e4, e5⟩ := ctick_ok (l := l) (s := s) (r := r) (n := 1) (k := 0) ho hp hw hP hm hM hs hN (by omega) (by omega)
  refine ⟨g, lg, ?_, e1, e2, e3, e4, e5⟩
  rw [Course_run_eq _ _ _ _ _ _ _ ho hp, e0, Course_run_11_eq _ _ _ _ _ _ _ _ ho hp, ifc_f (nI_nlt (Nat.le_refl _) (by omega))]
end
end

section
/-! the reference's tick, and many of them -/
section
variable {s r p : Nat}
theorem fr_oi_at {Q : Nat → Nat → Bool} {i : Nat → Nat → Int32} {a b n : Nat} {f : Nat → Int32} (h : ∀ k, b ≤ k → k < b + n → Q a k = true) : fr Q i (oi i a b n f) := fun c j hq => by
  unfold oi
  by_cases h1 : c = a
  · by_cases h2 : b ≤ j ∧ j < b + n
    · subst h1; rw [h j h2.1 h2.2] at hq; exact absurd hq (by decide)
    · rw [if_pos h1, if_neg h2]
  · rw [if_neg h1]
theorem rtick_ok {i : Nat → Nat → Int32} {l : Nat → Nat → Int64} {P : PL} {σ : ST} {b : Nat} {m : MD} (hw : pwf P) (hP : PM P i) (hM : RM m i) (hs : swf P σ) (hb : b < 2) (hS : SM b σ i) (hd : m.1 = true → l 82 65 = (σ 0 12).toInt64) :
    ∃ j l', Mo_tickGoes (nI b) (i, l, Rp s r p) = some (none, (j, l', Rp s r p)) ∧ SM b (tck P m σ) j ∧ fr (qR b) i j ∧ (m.1 = true → l' 82 65 = (tck P m σ 0 12).toInt64) ∧ fL m l l' := by
  have h14 := hw.1.2.2.2.2
  rw [Mo_tickGoes_eq]
  obtain ⟨j1, a0, a1, a2⟩ := tick2_ok (l := l) (s := s) (r := r) (p := p) hw hP hM hb hS
  have hse := swf_evm (m := m) hw hs
  rw [a0, tick50_ok hse a1 hb]
  have b1 := SM_fad hse a1
  have b2 : fr (qR b) i (oi j1 111 (224 * b) 224 (hfr (evm P m σ) 224)) := fr_trans a2 (fr_oi_at (fun k h1 h2 => by simp [qR]; omega))
  obtain ⟨j2, l2, c0, c1, c2, c3⟩ := joins_ok (l := l) (s := s) (r := r) (p := p) hw (PM_qR hw hP b2) (RM_qR hM b2) (swf_fad hse) hb b1
  rw [c0, crV_t]
  have c1' : SM b (tk3 P m σ) j2 := c1
  have f2 := fr_trans b2 c2
  have e12 : tk3 P m σ 0 12 = σ 0 12 := by
    have e : tk3 P m σ 0 12 = fad (evm P m σ) 0 12 := jon_0 (by decide) _
    rw [e, fad_a (by decide) (by decide)]
    unfold evm
    split
    · rfl
    · have : ∀ e, evs P m.2.2.2 (m.2.2.1 == 3) σ e 0 12 = σ 0 12 := by
        intro e
        induction e with
        | zero => rfl
        | succ e ih =>
          unfold evs
          split
          · unfold evt
            split
            · split
              · exact ih
              · rw [u2_k (by decide)]; exact ih
            · split
              · exact ih
              · split
                · split
                  · exact ih
                  · rw [u2_k (by decide)]; exact ih
                · rw [u2_k (by decide)]; exact ih
          · exact ih
      exact this _
  have hd2 : m.1 = true → l2 82 65 = (tk3 P m σ 0 12).toInt64 := fun h => by rw [c3 82 (by decide) (by decide), hd h, e12]
  cases hst : m.2.1
  · have h := loop_ex (F := fun k (M : (Nat → Nat → Int32) × (Nat → Nat → Int64)) => Mo_tickGoes_103 (nI b) (nI k) (M.1, M.2, Rp s r p)) (I9 := fun k M => SM b (sds P m (tk3 P m σ) k) M.1 ∧ fr (qR b) i M.1 ∧ (m.1 = true → M.2 82 65 = (sds P m (tk3 P m σ) k 0 12).toInt64) ∧ fL m l M.2) (n := pD P) (fun k M hk hI => by
      obtain ⟨f, lf⟩ := M
      obtain ⟨q1, q2, q3, q4⟩ := hI
      simp only at q1 q2 q3 q4
      show ∃ M' : (Nat → Nat → Int32) × (Nat → Nat → Int64), Mo_tickGoes_103 (nI b) (nI k) (f, lf, Rp s r p) = Mo_tickGoes_103 (nI b) (nI (k + 1)) (M'.1, M'.2, Rp s r p) ∧ _
      have hPf := PM_qR hw hP q2
      have hMf := RM_qR hM q2
      have hsd := hw.2.2.2.2.2.2.2.1 k hk
      obtain ⟨e9, e10⟩ := hPf.2.2.2.2.2.2.2.1 k hk
      have et : f 118 b = tk3 P m σ 0 6 := q1.2.2.2.2.2.2.2.2.trans (sds_06 k)
      rw [Mo_tickGoes_103_eq, hPf.1.2.2.2.2.1, hMf.2.2.2.2.2.1, hst]
      simp (disch := omega) only [nI_mul, nI_add, nI_clamp, gd_in, gd_0, gd_1, gd_b, gd_n0, ifc_lt, ifc_eq, ifc_neg, ifc_z, ifc_pos, ifc_b, if_pos, if_neg, crV_t, crI_t, crL_t, ifc_True, ifc_False, if_true, if_false, e9, e10, et]
      simp only [Bool.false_eq_true, if_false]
      unfold sds
      by_cases hc : nI (P.2.1 10 k) = tk3 P m σ 0 6
      · rw [ifc_t hc, if_pos hc]
        obtain ⟨g, lg, z0, z1, z2, z3, z4⟩ := rpacket_ok (l := lf) (s := s) (r := r) (p := p) hw hPf hMf (swf_sds hw (swf_tk3 hw hs) k (by omega)) hb q1 hsd.1 q3
        rw [z0, crI_t]
        exact ⟨(g, lg), rfl, z1, fr_trans q2 z2, z3, fL_trans q4 z4⟩
      · rw [ifc_f hc, if_neg hc]
        exact ⟨(f, lf), rfl, q1, q2, q3, q4⟩) 0 (j2, l2) (by omega) ⟨c1', f2, hd2, fL_of c3⟩
    obtain ⟨⟨j3, l3⟩, q0, q1, q2, q3, q4⟩ := h
    simp only at q1 q2 q3 q4
    have e4 : tk4 P m σ = sds P m (tk3 P m σ) (pD P) := by unfold tk4; rw [hst]; rfl
    rw [← e4] at q1 q3
    have q0' : Mo_tickGoes_103 (nI b) (nI 0) (j2, l2, Rp s r p) = Mo_tickGoes_103 (nI b) (nI (pD P)) (j3, l3, Rp s r p) := q0
    rw [q0', Mo_tickGoes_103_eq, (PM_qR hw hP q2).1.2.2.2.2.1, ifc_f (nI_nlt (Nat.le_refl _) (by omega))]
    simp (disch := omega) only [nI_mul, nI_add, nI_clamp, gd_in, gd_0, gd_1, gd_b, gd_n0, ifc_lt, ifc_eq, ifc_neg, ifc_z, ifc_pos, ifc_b, if_pos, if_neg, crV_t, crI_t, crL_t, ifc_True, ifc_False, if_true, if_false]
    rw [q1.2.2.2.2.2.2.2.2]
    refine ⟨_, l3, rfl, SM_6 q1, fr_trans q2 (fr_u2 (by simp [qR])), fun h => ?_, q4⟩
    rw [q3 h]
    unfold tck
    rw [u2_k (by decide)]
  · have e4 : tk4 P m σ = tk3 P m σ := by unfold tk4; rw [hst]; rfl
    rw [← e4] at c1' hd2
    rw [Mo_tickGoes_103_eq, (RM_qR hM f2).2.2.2.2.2.1, hst, ifc_b, if_pos rfl]
    simp (disch := omega) only [nI_clamp, gd_in]
    rw [c1'.2.2.2.2.2.2.2.2]
    refine ⟨u2 j2 118 b (tk4 P m σ 0 6 + nI 1), l2, ?_, SM_6 c1', fr_trans f2 (fr_u2 (by simp [qR])), fun h => ?_, fL_of c3⟩
    · by_cases h0 : nI 0 < j2 82 16
      · rw [ifc_t h0]
      · rw [ifc_f h0]
    · rw [hd2 h]
      unfold tck
      rw [u2_k (by decide)]
theorem goMany_ok {i : Nat → Nat → Int32} {l : Nat → Nat → Int64} {P : PL} {σ : ST} {n : Nat} {m : MD} (hw : pwf P) (hP : PM P i) (hM : RM m i) (hs : swf P σ) (hS : SM 1 σ i) (hd : m.1 = true → l 82 65 = (σ 0 12).toInt64) (hn : n < 2 ^ 31) :
    ∃ j l', Mo_goMany (nI n) (i, l, Rp s r p) = some (none, (j, l', Rp s r p)) ∧ SM 1 (tcn P m σ n) j ∧ fr (qR 1) i j ∧ (m.1 = true → l' 82 65 = (tcn P m σ n 0 12).toInt64) ∧ fL m l l' := by
  have h := loop_ex (F := fun k (M : (Nat → Nat → Int32) × (Nat → Nat → Int64)) => Mo_goMany_2 (nI n) (nI k) (M.1, M.2, Rp s r p)) (I9 := fun k M => SM 1 (tcn P m σ k) M.1 ∧ fr (qR 1) i M.1 ∧ (m.1 = true → M.2 82 65 = (tcn P m σ k 0 12).toInt64) ∧ fL m l M.2) (n := n) (fun k M hk hI => by
    obtain ⟨f, lf⟩ := M
    obtain ⟨q1, q2, q3, q4⟩ := hI
    simp only at q1 q2 q3 q4
    obtain ⟨g, lg, z0, z1, z2, z3, z4⟩ := rtick_ok (l := lf) (s := s) (r := r) (p := p) hw (PM_qR hw hP q2) (RM_qR hM q2) (swf_tcn hw hs k) (by omega) q1 q3
    refine ⟨(g, lg), ?_, z1, fr_trans q2 z2, z3, fL_trans q4 z4⟩
    show Mo_goMany_2 (nI n) (nI k) (f, lf, Rp s r p) = _
    rw [Mo_goMany_2_eq, ifc_t (nI_lt hk hn), z0, crV_t, nI_add]) 0 (i, l) (by omega) ⟨hS, fr_refl _ _, hd, fL_refl _ _⟩
  obtain ⟨M', q0, q1, q2, q3, q4⟩ := h
  rw [Mo_goMany_eq]
  refine ⟨M'.1, M'.2, q0.trans ?_, q1, q2, q3, q4⟩
  show Mo_goMany_2 (nI n) (nI n) (M'.1, M'.2, Rp s r p) = _
  rw [Mo_goMany_2_eq, ifc_f (nI_nlt (Nat.le_refl _) hn)]
end
end

section
/-! the invariant between calls -/
/-- a state kept by the reference in a row -/
def RPk (τ : ST) (b o : Nat) (i : Nat → Nat → Int32) : Prop :=
  (i o b = τ 0 8 ∧ i o (b + 1) = τ 0 7 ∧ i o (b + 2) = τ 0 9 ∧ i o (b + 3) = τ 0 10 ∧ i o (b + 4) = τ 0 11) ∧ (∀ k, k < 3 → i o (b + 5 + k) = τ 1 k) ∧ (∀ k, k < 7 → i o (b + 8 + k) = τ 2 k ∧ i o (b + 15 + k) = τ 3 k ∧ i o (b + 22 + k) = τ 4 k) ∧ (∀ k, k < 224 → i o (b + 29 + k) = τ 5 k)
/-- the component's packed row -/
def CPk (τ : ST) (b : Nat) (i : Nat → Nat → Int32) : Prop :=
  (i 73 b = τ 0 7 ∧ i 73 (b + 1) = τ 0 8 ∧ i 73 (b + 2) = τ 0 9 ∧ i 73 (b + 3) = τ 0 11) ∧ (∀ k, k < 3 → i 73 (b + 4 + k) = τ 1 k) ∧ (∀ k, k < 7 → i 73 (b + 7 + k) = τ 2 k ∧ i 73 (b + 14 + k) = τ 3 k ∧ i 73 (b + 21 + k) = τ 4 k)
/-- what an undo leaves -/
def hqs (σ τ : ST) : Prop := (∀ j, j < 224 → τ 5 j = σ 5 j) ∧ (∀ a, a < 28 → τ 6 a = σ 6 a) ∧ τ 0 6 = σ 0 6 ∧ τ 0 10 = σ 0 10 ∧ τ 0 12 = σ 0 12
def UIx (P : PL) (i : Nat → Nat → Int32) (c nx : Nat) (E : Nat → ST) : Prop :=
  c ≤ 20 ∧ nx < 20 ∧ i 72 2 = nI c ∧ i 82 85 = nI c ∧ i 72 1 = nI nx ∧ ∀ e, e < c → swf P (E e) ∧ hqs (vw 51 i) (E e) ∧ CPk (E e) (28 * ((nx + 20 - c + e) % 20)) i ∧ RPk (E e) (253 * e) 126 i
def UI (P : PL) (i : Nat → Nat → Int32) : Prop := ∃ c nx E, UIx P i c nx E
def II (P : PL) (i : Nat → Nat → Int32) (l : Nat → Nat → Int64) : Prop := ∃ kb : Bool, i 0 11 = nI kb.toNat ∧ i 82 87 = nI kb.toNat ∧ (kb = true → swf P (vw 58 i) ∧ RPk (vw 58 i) 0 127 i ∧ i 82 89 = i 58 6 ∧ l 82 90 = (i 58 12).toInt64)
/-- one note -/
def NT1 (P : PL) (i : Nat → Nat → Int32) (k : Nat) : Prop :=
  (i 75 k = nI 2 ∧ ∃ q, q < k ∧ i 76 k = nI q ∧ i 123 (4 * k) = nM 1 ∧ i 123 (4 * k + 1) = nI q) ∨
  (∃ a b c w, a < pN P ∧ b < pN P ∧ c ≤ 99 ∧ w < 2 ∧ i 75 k = nI w ∧ i 76 k = nI a ∧ i 77 k = nI b ∧ i 78 k = nI c ∧ i 123 (4 * k) = nI a ∧ i 123 (4 * k + 1) = nI b ∧ i 123 (4 * k + 2) = nI c ∧ i 123 (4 * k + 3) = nI (1 - w))
def NTx (P : PL) (i : Nat → Nat → Int32) (n : Nat) : Prop := n ≤ 24 ∧ i 74 8 = nI n ∧ i 82 80 = nI n ∧ (i 74 9 = nM 1 ∧ i 82 81 = nM 1 ∨ ∃ f, f ≤ n ∧ i 74 9 = nI f ∧ i 82 81 = nI f) ∧ ∀ k, k < n → NT1 P i k
def NT (P : PL) (i : Nat → Nat → Int32) : Prop := ∃ n, NTx P i n
/-- costs with one of them otherwise -/
def cso (P : PL) (k c : Nat) : Nat → Nat := fun j => if j = k then c else cst P j
noncomputable def dso (P : PL) (k c a : Nat) : Nat → Nat := dst (pN P) (pL P) (mem P) (cso P k c) (bt 0) (nI a)
def TBx (P : PL) (i : Nat → Nat → Int32) (k : Nat) : Prop := ∀ c a b, 1 ≤ c → c ≤ 9 → a < pN P → b < pN P → i 80 (((c - 1) * 7 + a) * 7 + b) = nI (dso P k c a b)
def TB (P : PL) (i : Nat → Nat → Int32) : Prop := i 74 7 = nM 1 ∨ ∃ k, k < pL P ∧ i 74 7 = nI k ∧ TBx P i k
def TPx (i : Nat → Nat → Int32) (n : Nat) : Prop := n ≤ 700 ∧ i 1 8 = nI n ∧ i 82 1 = nI n ∧ ∀ k, k < n → ∃ c, c < 256 ∧ i 83 k = nI c ∧ i 2 k = (nI c).toInt8.toInt32
def TP (i : Nat → Nat → Int32) : Prop := ∃ n, TPx i n
def FT (i : Nat → Nat → Int32) : Prop := i 0 12 = i 82 4 ∧ i 0 13 = i 82 5
/-- the words of the language: the component's packed, the reference's letters -/
def wdR : List Nat := [110, 111, 100, 101, 32, 108, 105, 110, 107, 32, 109, 101, 101, 116, 32, 115, 111, 117, 114, 99, 101, 32, 106, 111, 105, 110, 32, 108, 101, 97, 118, 101, 32, 99, 117, 116, 32, 109, 101, 110, 100, 32, 115, 101, 110, 100, 32, 104, 111, 108, 100, 32, 108, 111, 115, 115, 32, 115, 101, 101, 100, 32, 108, 97, 119, 32, 109, 101, 116, 114, 105, 99, 32, 115, 119, 105, 116, 99, 104, 32, 107, 101, 101, 112, 32, 97, 110, 100, 32, 111, 114, 32, 110, 111, 116, 32, 102, 97, 114, 32, 112, 108, 97, 99, 101, 32, 104, 101, 97, 114, 100, 32, 116, 119, 105, 99, 101, 32, 104, 101, 108, 100, 32, 116, 114, 101, 101, 32, 116, 105, 99, 107, 32]
def wdC : List Nat := [485626880, 412560384, 441634816, 653969509, 351582208, 407951520, 123338752, 441913344, 643239936, 284561408, 419023872, 642945024, 404455424, 442124579, 661966952, 374521856, 522190848, 48365568, 486146048, 202964992, 549489824, 273729664, 695504032, 274075648, 690131968, 680635392]
def WD (i : Nat → Nat → Int32) : Prop := (∀ k, k < 26 → i 3 k = nI (wdC.getD k 0)) ∧ (∀ k, k < 133 → i 84 k = nI (wdR.getD k 0))
def INV (P : PL) (i : Nat → Nat → Int32) (l : Nat → Nat → Int64) (s r p : Nat) : Prop :=
  (p = 7 ∧ s = 27 ∨ p = 27 ∧ s = 7) ∧ (r = 7 ∨ r = 27) ∧ pwf P ∧ PC P p i ∧ PM P i ∧ NetI P i ∧ swf P (vw 51 i) ∧ SM 0 (vw 51 i) i ∧ l 82 65 = (i 51 12).toInt64 ∧ i 82 73 = nM 1 ∧ UI P i ∧ II P i l ∧ NT P i ∧ TB P i ∧ TP i ∧ FT i ∧ WD i
/-- cells that tell nothing between calls -/
def qS (a k : Nat) : Bool := (decide (43 ≤ a) && decide (a ≤ 45)) || (decide (47 ≤ a) && decide (a ≤ 50)) || (decide (65 ≤ a) && decide (a ≤ 71)) || (decide (79 ≤ a) && decide (a ≤ 81)) || (a == 26 && (k == 4 || k == 5)) || (a == 74 && (k == 7 || k == 10 || k == 11 || k == 12)) ||
  (a == 82 && (k == 2 || k == 53 || (decide (66 ≤ k) && decide (k ≤ 74)) || k == 76)) || (decide (119 ≤ a) && decide (a ≤ 122)) || a == 124 || a == 125 || ((a == 108 || a == 109 || a == 115 || a == 116 || a == 117 || a == 118) && k == 1) || (a == 110 && decide (3 ≤ k)) || (a == 111 && decide (224 ≤ k)) || ((a == 112 || a == 113 || a == 114) && decide (7 ≤ k))
def lS (l l' : Nat → Nat → Int64) : Prop := ∀ a, a ≠ 46 → a ≠ 106 → a ≠ 107 → l' a = l a
theorem lS_refl (l : Nat → Nat → Int64) : lS l l := fun _ _ _ _ => rfl
theorem lS_trans {l l1 l2 : Nat → Nat → Int64} (h1 : lS l l1) (h2 : lS l1 l2) : lS l l2 := fun a x y z => (h2 a x y z).trans (h1 a x y z)
def SCR (P : PL) (i j : Nat → Nat → Int32) (l l' : Nat → Nat → Int64) : Prop := fr qS i j ∧ NetI P j ∧ TB P j ∧ j 82 73 = nM 1 ∧ lS l l'
theorem vw_qS {i j : Nat → Nat → Int32} (h : fr qS i j) {o : Nat} (ho : o = 51 ∨ o = 58) {a : Nat} (ha : a < 7) : j (o + a) = i (o + a) := funext fun k => h (o + a) k (by unfold qS; simp; omega)
theorem PM_qS {P : PL} {i j : Nat → Nat → Int32} (hw : pwf P) (h : PM P i) (hf : fr qS i j) : PM P j := PM_fr hw h (fun a k hq => hf a k (by
  unfold qPM at hq
  unfold qS
  simp at hq ⊢
  omega))
theorem SM0_qS {σ : ST} {i j : Nat → Nat → Int32} (h : SM 0 σ i) (hf : fr qS i j) : SM 0 σ j := by
  have e : ∀ a k, qS a k = false → j a k = i a k := hf
  obtain ⟨a1, a2, a3, a4, a5, a6, a7, a8, a9⟩ := h
  refine ⟨(e _ _ rfl).trans a1, (e _ _ rfl).trans a2, fun s hs => (e _ _ (by simp [qS]; omega)).trans (a3 s hs), fun j hj => (e _ _ (by simp [qS]; omega)).trans (a4 j hj), fun n hn => ⟨(e _ _ (by simp [qS]; omega)).trans (a5 n hn).1, (e _ _ (by simp [qS]; omega)).trans (a5 n hn).2.1, (e _ _ (by simp [qS]; omega)).trans (a5 n hn).2.2⟩, (e _ _ rfl).trans a6, (e _ _ rfl).trans a7, (e _ _ rfl).trans a8, (e _ _ rfl).trans a9⟩
theorem RPk_row {τ : ST} {b o : Nat} {i j : Nat → Nat → Int32} (h : RPk τ b o i) (hr : j o = i o) : RPk τ b o j := by
  unfold RPk
  rw [hr]
  exact h
theorem CPk_row {τ : ST} {b : Nat} {i j : Nat → Nat → Int32} (h : CPk τ b i) (hr : j 73 = i 73) : CPk τ b j := by
  unfold CPk
  rw [hr]
  exact h
theorem swf_rw {P : PL} {i j : Nat → Nat → Int32} {o : Nat} (h : swf P (vw o i)) (hr : ∀ a, a < 7 → j (o + a) = i (o + a)) : swf P (vw o j) := swf_cg (fun a ha => (hr a ha).symm) h
theorem SM_rw {b : Nat} {i j m : Nat → Nat → Int32} {o : Nat} (h : SM b (vw o i) m) (hr : ∀ a, a < 7 → j (o + a) = i (o + a)) : SM b (vw o j) m := SM_cg (fun a ha => (hr a ha).symm) h
theorem UI_row {P : PL} {i j : Nat → Nat → Int32} (h : UI P i) (hv : ∀ a, a < 7 → j (51 + a) = i (51 + a)) (h2 : j 72 = i 72) (h3 : j 73 = i 73) (h5 : j 82 85 = i 82 85) (h6 : j 126 = i 126) : UI P j := by
  obtain ⟨c, nx, E, a1, a2, a3, a4, a5, a6⟩ := h
  refine ⟨c, nx, E, a1, a2, by rw [h2]; exact a3, by rw [h5]; exact a4, by rw [h2]; exact a5, fun e he => ?_⟩
  obtain ⟨b1, b2, b3, b4⟩ := a6 e he
  refine ⟨b1, ?_, CPk_row b3 h3, RPk_row b4 h6⟩
  obtain ⟨c1, c2, c3, c4, c5⟩ := b2
  have e5 : vw 51 j 5 = vw 51 i 5 := hv 5 (by omega)
  have e6 : vw 51 j 6 = vw 51 i 6 := hv 6 (by omega)
  have e0 : vw 51 j 0 = vw 51 i 0 := hv 0 (by omega)
  unfold hqs
  rw [e5, e6, e0]
  exact ⟨c1, c2, c3, c4, c5⟩
theorem II_row {P : PL} {i j : Nat → Nat → Int32} {l l' : Nat → Nat → Int64} (h : II P i l) (hv : ∀ a, a < 7 → j (58 + a) = i (58 + a)) (h0 : j 0 11 = i 0 11) (h1 : j 82 87 = i 82 87) (h2 : j 127 = i 127) (h3 : j 82 89 = i 82 89) (h4 : l' 82 90 = l 82 90) : II P j l' := by
  obtain ⟨kb, a1, a2, a3⟩ := h
  refine ⟨kb, h0.trans a1, h1.trans a2, fun hk => ?_⟩
  obtain ⟨b1, b2, b3, b4⟩ := a3 hk
  have e0 : j 58 = i 58 := hv 0 (by omega)
  refine ⟨swf_rw b1 hv, ?_, by rw [h3, e0]; exact b3, by rw [h4, e0]; exact b4⟩
  unfold RPk vw at b2 ⊢
  rw [h2, hv 0 (by omega), hv 1 (by omega), hv 2 (by omega), hv 3 (by omega), hv 4 (by omega), hv 5 (by omega)]
  exact b2
theorem NT_row {P : PL} {i j : Nat → Nat → Int32} (h : NT P i) (h1 : j 74 8 = i 74 8) (h2 : j 74 9 = i 74 9) (h3 : j 82 80 = i 82 80) (h4 : j 82 81 = i 82 81) (h5 : ∀ a, 75 ≤ a → a ≤ 78 → j a = i a) (h6 : j 123 = i 123) : NT P j := by
  obtain ⟨n, a1, a2, a3, a4, a5⟩ := h
  refine ⟨n, a1, h1.trans a2, h3.trans a3, by rw [h2, h4]; exact a4, fun k hk => ?_⟩
  have := a5 k hk
  unfold NT1
  rw [h5 75 (by omega) (by omega), h5 76 (by omega) (by omega), h5 77 (by omega) (by omega), h5 78 (by omega) (by omega), h6]
  exact this
theorem TB_row {P : PL} {i j : Nat → Nat → Int32} (h : TB P i) (h1 : j 74 7 = i 74 7) (h2 : j 80 = i 80) : TB P j := by
  unfold TB TBx
  rw [h1, h2]
  exact h
theorem TP_row {i j : Nat → Nat → Int32} (h : TP i) (h1 : j 1 8 = i 1 8) (h2 : j 82 1 = i 82 1) (h3 : j 83 = i 83) (h4 : j 2 = i 2) : TP j := by
  obtain ⟨n, a1, a2, a3, a4⟩ := h
  refine ⟨n, a1, h1.trans a2, h2.trans a3, ?_⟩
  rw [h3, h4]
  exact a4
theorem WD_row {i j : Nat → Nat → Int32} (h : WD i) (h1 : j 3 = i 3) (h2 : j 84 = i 84) : WD j := by
  unfold WD
  rw [h1, h2]
  exact h
theorem qS_row {i j : Nat → Nat → Int32} (h : fr qS i j) {a : Nat} (ha : ∀ k, qS a k = false) : j a = i a := funext fun k => h a k (ha k)
theorem INV_S {P : PL} {i j : Nat → Nat → Int32} {l l' : Nat → Nat → Int64} {s r p : Nat} (h : INV P i l s r p) (hs : SCR P i j l l') : INV P j l' s r p := by
  obtain ⟨hp, hr, hw, h1, h2, h3, h4, h5, h6, h7, h8, h9, h10, h11, h12, h13, h14⟩ := h
  obtain ⟨q1, q2, q3, q4, q5⟩ := hs
  have v51 : ∀ a, a < 7 → j (51 + a) = i (51 + a) := fun a ha => vw_qS q1 (Or.inl rfl) ha
  have v58 : ∀ a, a < 7 → j (58 + a) = i (58 + a) := fun a ha => vw_qS q1 (Or.inr rfl) ha
  have l82 : l' 82 = l 82 := q5 82 (by decide) (by decide) (by decide)
  have rw0 : ∀ a, (∀ k, qS a k = false) → j a = i a := fun a ha => qS_row q1 ha
  refine ⟨hp, hr, hw, ?_, PM_qS hw h2 q1, q2, swf_rw h4 v51, SM_rw (SM0_qS h5 q1) v51, ?_, q4, ?_, ?_, ?_, q3, ?_, ?_, ?_⟩
  · exact PC_fr h1 (fun a ha => rw0 _ (fun k => by unfold qS; simp; omega))
  · rw [l82, show j 51 = i 51 from v51 0 (by omega)]; exact h6
  · exact UI_row h8 v51 (rw0 72 (fun k => by simp [qS])) (rw0 73 (fun k => by simp [qS])) (q1 82 85 rfl) (rw0 126 (fun k => by simp [qS]))
  · exact II_row h9 v58 (q1 0 11 rfl) (q1 82 87 rfl) (rw0 127 (fun k => by simp [qS])) (q1 82 89 rfl) (by rw [l82])
  · exact NT_row h10 (q1 74 8 rfl) (q1 74 9 rfl) (q1 82 80 rfl) (q1 82 81 rfl) (fun a x y => rw0 a (fun k => by unfold qS; simp; omega)) (rw0 123 (fun k => by simp [qS]))
  · exact TP_row h12 (q1 1 8 rfl) (q1 82 1 rfl) (rw0 83 (fun k => by simp [qS])) (rw0 2 (fun k => by simp [qS]))
  · exact ⟨(q1 0 12 rfl).trans (h13.1.trans (q1 82 4 rfl).symm), (q1 0 13 rfl).trans (h13.2.trans (q1 82 5 rfl).symm)⟩
  · exact WD_row h14 (rw0 3 (fun k => by simp [qS])) (rw0 84 (fun k => by simp [qS]))
theorem SCR_refl {P : PL} {i : Nat → Nat → Int32} {l : Nat → Nat → Int64} {s r p : Nat} (h : INV P i l s r p) : SCR P i i l l := ⟨fr_refl _ _, h.2.2.2.2.2.1, h.2.2.2.2.2.2.2.2.2.2.2.2.2.1, h.2.2.2.2.2.2.2.2.2.1, lS_refl _⟩
theorem SCR_trans {P : PL} {i j m : Nat → Nat → Int32} {l l1 l2 : Nat → Nat → Int64} (h1 : SCR P i j l l1) (h2 : SCR P j m l1 l2) : SCR P i m l l2 := ⟨fr_trans h1.1 h2.1, h2.2.1, h2.2.2.1, h2.2.2.2.1, lS_trans h1.2.2.2.2 h2.2.2.2.2⟩
/-- whether a number is below another -/
noncomputable def isn (N : Nat) (x : Int32) : Bool := @decide (∃ n, n < N ∧ x = nI n) (Classical.propDecidable _)
theorem isn_t {N : Nat} {x : Int32} (h : isn N x = true) : ∃ n, n < N ∧ x = nI n := by
  unfold isn at h
  exact @of_decide_eq_true _ (Classical.propDecidable _) h
theorem isn_n {N n : Nat} (h : n < N) : isn N (nI n) = true := by
  unfold isn
  exact @decide_eq_true _ (Classical.propDecidable _) ⟨n, h, rfl⟩
theorem isn_f {N : Nat} {x : Int32} (h : ¬ ∃ n, n < N ∧ x = nI n) : isn N x = false := by
  unfold isn
  exact @decide_eq_false _ (Classical.propDecidable _) h
theorem ifc_isn {α : Type} {N : Nat} (hN : N < 2 ^ 31) (x : Int32) (a b : Option α) : ifc (x < 0) a (ifc (x < nI N) b a) = if isn N x = true then b else a := by
  rcases pk_ix x hN with h | h | ⟨j, hj, rfl⟩
  · rw [ifc_t h, isn_f, if_neg (by decide)]
    rintro ⟨n, hn, rfl⟩
    exact nI_pos (by omega) h
  · have h2 : ¬ x < nI N := by rw [Int32.not_lt]; exact h
    rw [ifc_f h2, isn_f, if_neg (by decide)]
    · by_cases h0 : x < 0
      · rw [ifc_t h0]
      · rw [ifc_f h0]
    · rintro ⟨n, hn, rfl⟩
      exact h2 (nI_lt hn hN)
  · rw [ifc_f (nI_pos (by omega)), ifc_t (nI_lt hj hN), isn_n hj, if_pos rfl]
theorem ifc_isn2 {α : Type} {N : Nat} (hN : N + 1 < 2 ^ 31) (x : Int32) (a b : Option α) : ifc (x < 0) a (ifc (nI N < x) a b) = if isn (N + 1) x = true then b else a := by
  rw [← ifc_isn (by omega)]
  rcases pk_ix x hN with h | h | ⟨j, hj, rfl⟩
  · rw [ifc_t h, ifc_t h]
  · have h2 : ¬ x < nI (N + 1) := by rw [Int32.not_lt]; exact h
    have h3 : nI N < x := Int32.lt_of_lt_of_le (nI_lt (by omega) (by omega)) h
    rw [ifc_f h2, ifc_t h3]
  · rw [ifc_lt (by omega) (by omega), ifc_lt (by omega) (by omega), ifc_neg (by omega), ifc_neg (by omega)]
    by_cases h : N < j
    · omega
    · rw [if_neg h, if_pos (by omega)]
section
variable {i : Nat → Nat → Int32} {l : Nat → Nat → Int64} {s r p : Nat}
theorem cNode_ok {P : PL} (hp : p = 7 ∨ p = 27) (hw : pwf P) (hP : PC P p i) (x : Int32) : GT_isNode x (i, l, Rp s r p) = some (some (.int (nI (isn (pN P) x).toNat)), (i, l, Rp s r p)) := by
  have h7 := hw.1.1
  rw [GT_isNode_eq _ _ _ _ _ _ hp, show i p 11 = nI (pN P) from hP.1 11 (by omega) (by omega)]
  simp only [gd_0, gd_1]
  rw [ifc_isn (by omega)]
  cases isn (pN P) x <;> rfl
theorem cLink_ok {P : PL} (hp : p = 7 ∨ p = 27) (hw : pwf P) (hP : PC P p i) (x : Int32) : GT_isLink x (i, l, Rp s r p) = some (some (.int (nI (isn (pL P) x).toNat)), (i, l, Rp s r p)) := by
  have h8 := hw.1.2.1
  rw [GT_isLink_eq _ _ _ _ _ _ hp, show i p 12 = nI (pL P) from hP.1 12 (by omega) (by omega)]
  simp only [gd_0, gd_1]
  rw [ifc_isn (by omega)]
  cases isn (pL P) x <;> rfl
theorem cSource_ok {P : PL} (hp : p = 7 ∨ p = 27) (hw : pwf P) (hP : PC P p i) (x : Int32) : GT_isSource x (i, l, Rp s r p) = some (some (.int (nI (isn (pS P) x).toNat)), (i, l, Rp s r p)) := by
  have h3 := hw.1.2.2.1
  rw [GT_isSource_eq _ _ _ _ _ _ hp, show i p 13 = nI (pS P) from hP.1 13 (by omega) (by omega)]
  simp only [gd_0, gd_1]
  rw [ifc_isn (by omega)]
  cases isn (pS P) x <;> rfl
theorem cTree_ok {P : PL} (hp : p = 7 ∨ p = 27) (hw : pwf P) (hP : PC P p i) (x : Int32) : GT_isTree x (i, l, Rp s r p) = some (some (.int (nI (isn (pS P + 1) x).toNat)), (i, l, Rp s r p)) := by
  have h3 := hw.1.2.2.1
  rw [GT_isTree_eq _ _ _ _ _ _ hp, show i p 13 = nI (pS P) from hP.1 13 (by omega) (by omega)]
  simp only [gd_0, gd_1]
  rw [ifc_isn2 (by omega)]
  cases isn (pS P + 1) x <;> rfl
theorem rNode_ok {P : PL} (hw : pwf P) (hP : PM P i) (x : Int32) : Mo_isNode x (i, l, Rp s r p) = some (some (.int (nI (isn (pN P) x).toNat)), (i, l, Rp s r p)) := by
  have h7 := hw.1.1
  rw [Mo_isNode_eq, hP.1.1]
  simp only [gd_0, gd_1]
  rw [ifc_isn (by omega)]
  cases isn (pN P) x <;> rfl
theorem rLink_ok {P : PL} (hw : pwf P) (hP : PM P i) (x : Int32) : Mo_isLink x (i, l, Rp s r p) = some (some (.int (nI (isn (pL P) x).toNat)), (i, l, Rp s r p)) := by
  have h8 := hw.1.2.1
  rw [Mo_isLink_eq, hP.1.2.1]
  simp only [gd_0, gd_1]
  rw [ifc_isn (by omega)]
  cases isn (pL P) x <;> rfl
theorem rSource_ok {P : PL} (hw : pwf P) (hP : PM P i) (x : Int32) : Mo_isSource x (i, l, Rp s r p) = some (some (.int (nI (isn (pS P) x).toNat)), (i, l, Rp s r p)) := by
  have h3 := hw.1.2.2.1
  rw [Mo_isSource_eq, hP.1.2.2.1]
  simp only [gd_0, gd_1]
  rw [ifc_isn (by omega)]
  cases isn (pS P) x <;> rfl
theorem rTree_ok {P : PL} (hw : pwf P) (hP : PM P i) (x : Int32) : Mo_isTree x (i, l, Rp s r p) = some (some (.int (nI (isn (pS P + 1) x).toNat)), (i, l, Rp s r p)) := by
  have h3 := hw.1.2.2.1
  rw [Mo_isTree_eq, hP.1.2.2.1]
  simp only [gd_0, gd_1]
  rw [ifc_isn2 (by omega)]
  cases isn (pS P + 1) x <;> rfl
theorem rIn_ok {n : Nat} (hn : n + 1 < 2 ^ 31) (x : Int32) : Mo_isIn x (nI 0) (nI n) (i, l, Rp s r p) = some (some (.int (nI (isn (n + 1) x).toNat)), (i, l, Rp s r p)) := by
  rw [Mo_isIn_eq]
  simp only [gd_0, gd_1]
  rw [show (x < nI 0) = (x < 0) by rw [nI_0], ifc_isn2 hn]
  cases isn (n + 1) x <;> rfl
end
end

section
/-! pairs of answers; simple questions -/
def PrI (F G : AM → Option (Option Value × AM)) (P : PL) (i : Nat → Nat → Int32) (l : Nat → Nat → Int64) (s r p : Nat) : Prop :=
  ∃ v j1 l1 j2 l2, F (i, l, Rp s r p) = some (some (.int v), (j1, l1, Rp s r p)) ∧ G (j1, l1, Rp s r p) = some (some (.int v), (j2, l2, Rp s r p)) ∧ INV P j2 l2 s r p
def PrL (F G : AM → Option (Option Value × AM)) (P : PL) (i : Nat → Nat → Int32) (l : Nat → Nat → Int64) (s r p : Nat) : Prop :=
  ∃ v j1 l1 j2 l2, F (i, l, Rp s r p) = some (some (.long v), (j1, l1, Rp s r p)) ∧ G (j1, l1, Rp s r p) = some (some (.long v), (j2, l2, Rp s r p)) ∧ INV P j2 l2 s r p
/-- nothing is tried otherwise -/
def m0 : MD := (false, false, 5, nM 1)
def pT (i : Nat → Nat → Int32) : Nat → Nat → Int32 := u2 (u2 (u2 (u2 (u2 (u2 (u2 (u2 (u2 i 82 66 (nI 0)) 82 67 (nI 0)) 82 68 (nI 0)) 82 69 (nI 0)) 82 70 (nI 0)) 82 71 (nI 0)) 82 72 (nM 1)) 82 73 (nM 1)) 82 74 (nI 0)
theorem pT_r {i : Nat → Nat → Int32} {a : Nat} (h : a ≠ 82) : pT i a = i a := by
  unfold pT
  simp (disch := omega) only [u2_r]
theorem pT_k {i : Nat → Nat → Int32} {k : Nat} (h : k < 66 ∨ 74 < k) : pT i 82 k = i 82 k := by
  unfold pT
  simp (disch := omega) only [u2_k]
theorem pT_73 {i : Nat → Nat → Int32} : pT i 82 73 = nM 1 := by
  unfold pT
  simp (disch := omega) only [u2_k, u2_s]
theorem pT_RM {i : Nat → Nat → Int32} : RM m0 (pT i) := by
  unfold RM pT
  simp (disch := omega) only [u2_k, u2_s]
  decide
theorem pT_fr {i : Nat → Nat → Int32} : fr qS i (pT i) := fun a k hq => by
  by_cases ha : a = 82
  · subst ha
    refine pT_k ?_
    unfold qS at hq
    simp at hq
    omega
  · rw [pT_r ha]
theorem th_fr {i : Nat → Nat → Int32} : fr qS i (u2 i 82 2 (nI 0)) := fr_u2 rfl
/-- the reference touches scratch alone -/
theorem SCR_ref {P : PL} {i j : Nat → Nat → Int32} {l l' : Nat → Nat → Int64} {s r p : Nat} (h : INV P i l s r p) (hf : fr qS i j) (hr : ∀ a, a < 82 → j a = i a) (hc : j 82 73 = nM 1) (hl : lS l l') : SCR P i j l l' := by
  refine ⟨hf, ?_, ?_, hc, hl⟩
  · have := h.2.2.2.2.2.1
    unfold NetI NetOk NR
    rw [hr 26 (by omega), hr 43 (by omega), hr 44 (by omega), hr 45 (by omega)]
    exact this
  · exact TB_row h.2.2.2.2.2.2.2.2.2.2.2.2.2.1 (by rw [hr 74 (by omega)]) (hr 80 (by omega))
/-- the component touches scratch alone -/
theorem SCR_cmp {P : PL} {i j : Nat → Nat → Int32} {l l' : Nat → Nat → Int64} {s r p : Nat} (h : INV P i l s r p) (hf : fr qS i j) (hN : NetI P j) (h7 : j 74 7 = i 74 7) (h80 : j 80 = i 80) (h82 : j 82 73 = i 82 73) (hl : lS l l') : SCR P i j l l' :=
  ⟨hf, hN, TB_row h.2.2.2.2.2.2.2.2.2.2.2.2.2.1 h7 h80, h82.trans h.2.2.2.2.2.2.2.2.2.1, hl⟩
theorem fr_netS {i j : Nat → Nat → Int32} (h : fr qNet i j) : fr qS i j := fr_mono (fun a k hq => by
  cases hn : qNet a k
  · rfl
  · exfalso
    unfold qNet at hn
    simp at hn
    rcases hn with ((rfl | rfl) | rfl) | ⟨rfl, rfl | rfl⟩ <;> simp [qS] at hq) h
theorem lS_46 {l l' : Nat → Nat → Int64} (h : ∀ a, a ≠ 46 → l' a = l a) : lS l l' := fun a x _ _ => h a x
theorem lS_67 {l l' : Nat → Nat → Int64} (h : ∀ a, a ≠ 106 → a ≠ 107 → l' a = l a) : lS l l' := fun a _ x y => h a x y
/-- the component measures -/
theorem meas_ok {P : PL} {i : Nat → Nat → Int32} {l : Nat → Nat → Int64} {s r p : Nat} (h : INV P i l s r p) : ∃ j, Net_measure (i 51 8) (i, l, Rp s r p) = some (none, (j, l, Rp s r p)) ∧ SCR P i j l l ∧ NetOk P j (vw 51 i 0 8) ∧ fr qNet i j := by
  obtain ⟨hp0, hr, hw, hPC, hPM, hNI, hs, hS, hdr, hco, hrest⟩ := id h
  obtain ⟨j, a0, a1, a2, a3, a4⟩ := measure_ok (l := l) (s := s) (r := r) (cut := i 51 8) (show p = 7 ∨ p = 27 by omega) hw hPC hNI
  exact ⟨j, a0, SCR_cmp h (fr_netS a1) (Or.inr ⟨a2, by rw [a3]; exact a4⟩) (a1 74 7 rfl) (funext fun k => a1 80 k rfl) (a1 82 73 rfl) (lS_refl _), a4, a1⟩
section
variable {P : PL} {i : Nat → Nat → Int32} {l : Nat → Nat → Int64} {s r p : Nat}
theorem plainT_ok : Mo_plainTried (i, l, Rp s r p) = some (none, (pT i, l, Rp s r p)) := by
  rw [Mo_plainTried_eq]
  simp only [gd_0]
  rfl
theorem INV_th (h : INV P i l s r p) : INV P (u2 i 82 2 (nI 0)) l s r p := INV_S h (SCR_ref h th_fr (fun a ha => u2_r (by omega)) ((u2_k (by decide)).trans h.2.2.2.2.2.2.2.2.2.1) (lS_refl _))
theorem INV_pT (h : INV P i l s r p) : INV P (pT i) l s r p := INV_S h (SCR_ref h pT_fr (fun a ha => pT_r (by omega)) pT_73 (lS_refl _))
theorem far_pr (h : INV P i l s r p) (x1 x2 : Int32) : PrI (GT_far x1 x2) (Mo_far x1 x2) P i l s r p := by
  obtain ⟨hp0, hr, hw, hPC, hPM, hNI, hs, hS, hdr, hco, hrest⟩ := id h
  have hp : p = 7 ∨ p = 27 := by omega
  have h7 := hw.1.1
  have h3 := hw.1.2.2.1
  have none_ : GT_far x1 x2 (i, l, Rp s r p) = some (some (.int (nM 1)), (i, l, Rp s r p)) → Mo_far x1 x2 (i, l, Rp s r p) = some (some (.int (nM 1)), (pT (u2 i 82 2 (nI 0)), l, Rp s r p)) → PrI (GT_far x1 x2) (Mo_far x1 x2) P i l s r p := fun h1 h2 => ⟨_, i, l, _, l, h1, h2, INV_pT (INV_th h)⟩
  cases h1 : isn (pS P + 1) x1
  · refine none_ ?_ ?_
    · simp only [GT_far_eq, cTree_ok hp hw hPC, crI_t, ifc_b, h1, Bool.false_eq_true, if_false]
    · simp only [Mo_far_eq, plainT_ok, crV_t, rTree_ok hw (INV_pT (INV_th h)).2.2.2.2.1, crI_t, ifc_b, h1, Bool.false_eq_true, if_false]
  · cases h2 : isn (pN P) x2
    · refine none_ ?_ ?_
      · simp only [GT_far_eq, cTree_ok hp hw hPC, cNode_ok hp hw hPC, crI_t, ifc_b, h1, h2, Bool.false_eq_true, if_false, if_true]
      · simp only [Mo_far_eq, plainT_ok, crV_t, rTree_ok hw (INV_pT (INV_th h)).2.2.2.2.1, rNode_ok hw (INV_pT (INV_th h)).2.2.2.2.1, crI_t, ifc_b, h1, h2, Bool.false_eq_true, if_false, if_true]
    · obtain ⟨t, ht, rfl⟩ := isn_t h1
      obtain ⟨n, hn, rfl⟩ := isn_t h2
      obtain ⟨j, a0, a1, a2, a3⟩ := meas_ok h
      have hj := INV_S h a1
      have hj2 := INV_pT (INV_th hj)
      have hv : vw 51 j = vw 51 i := vw_net (Or.inl rfl) a3
      have e8 : pT (u2 j 82 2 (nI 0)) 108 0 = vw 51 i 0 8 := hj2.2.2.2.2.2.2.2.1.1.trans (by
        show pT (u2 j 82 2 (nI 0)) 51 8 = _
        rw [pT_r (by decide), u2_r (by decide), ← hv]; rfl)
      refine ⟨nI (fd P (vw 51 i 0 8) t n), j, l, ov (pT (u2 j 82 2 (nI 0))) 119 0 7 (fd P (vw 51 i 0 8) t), l, ?_, ?_, ?_⟩
      · simp only [GT_far_eq, cTree_ok hp hw hPC, cNode_ok hp hw hPC, crI_t, ifc_b, h1, h2, if_true, a0, crV_t]
        simp (disch := omega) only [nI_mul, nI_add, gd_in, nI_clamp]
        rw [show t * 7 + n = 7 * t + n by omega, (a2 t n (by omega) hn).1]
      · simp only [Mo_far_eq, plainT_ok, crV_t, rTree_ok hw hj2.2.2.2.2.1, rNode_ok hw hj2.2.2.2.2.1, crI_t, ifc_b, h1, h2, if_true, farOf_ok hw hj2.2.2.2.2.1 pT_73 (show 0 < 2 by omega) e8 (show t ≤ pS P by omega) (show n < 7 by omega)]
      · exact INV_S hj2 (SCR_ref hj2 (fr_ov (fun k => rfl)) (fun a ha => ov_c (by omega)) ((congrFun (ov_c (by decide)) 73).trans pT_73) (lS_refl _))
end
end

section
/-! up, held, wants, law, link, used, named, fault -/
section
variable {P : PL} {i : Nat → Nat → Int32} {l : Nat → Nat → Int64} {s r p : Nat}
theorem SM0_of {j : Nat → Nat → Int32} {l' : Nat → Nat → Int64} (h : INV P j l' s r p) : SM 0 (vw 51 j) j := h.2.2.2.2.2.2.2.1
theorem swf_of {j : Nat → Nat → Int32} {l' : Nat → Nat → Int64} (h : INV P j l' s r p) : swf P (vw 51 j) := h.2.2.2.2.2.2.1
theorem PM_of {j : Nat → Nat → Int32} {l' : Nat → Nat → Int64} (h : INV P j l' s r p) : PM P j := h.2.2.2.2.1
theorem PC_of {j : Nat → Nat → Int32} {l' : Nat → Nat → Int64} (h : INV P j l' s r p) : PC P p j := h.2.2.2.1
theorem co_of {j : Nat → Nat → Int32} {l' : Nat → Nat → Int64} (h : INV P j l' s r p) : j 82 73 = nM 1 := h.2.2.2.2.2.2.2.2.2.1
theorem vw51_S {j : Nat → Nat → Int32} (h : fr qS i j) : ∀ a, a < 7 → vw 51 j a = vw 51 i a := fun a ha => vw_qS h (Or.inl rfl) ha
theorem ueq_S {j : Nat → Nat → Int32} (h : fr qS i j) : ueq (vw 51 j) (vw 51 i) := ⟨congrFun (vw51_S h 0 (by omega)) 8, congrFun (vw51_S h 0 (by omega)) 6, vw51_S h 2 (by omega), vw51_S h 3 (by omega), vw51_S h 6 (by omega)⟩
theorem fr_mU_S {D : Nat → Nat} {e x : Int32} : fr qS i (mU i D e x) := fr_trans (fr_trans (fr_ov (fun k => rfl)) (fr_u2 rfl)) (fr_u2 rfl)
theorem fr_W_S {j : Nat → Nat → Int32} (h : fr qW i j) : fr qS i j := fr_mono (fun a k hq => by
  cases hn : qW a k
  · rfl
  · exfalso
    unfold qW at hn
    simp at hn
    rcases hn with rfl | ⟨rfl, rfl⟩ <;> simp [qS] at hq) h
theorem up_pr (h : INV P i l s r p) (x1 x2 x3 : Int32) : PrI (GT_up x1 x2 x3) (Mo_up x1 x2 x3) P i l s r p := by
  obtain ⟨hp0, hr, hw, hPC, hPM, hNI, hs, hS, hdr, hco, hrest⟩ := id h
  have hp : p = 7 ∨ p = 27 := by omega
  have h7 := hw.1.1
  have h8 := hw.1.2.1
  have h3 := hw.1.2.2.1
  have hth := INV_th h
  have none_ : GT_up x1 x2 x3 (i, l, Rp s r p) = some (some (.int (nM 1)), (i, l, Rp s r p)) → Mo_up x1 x2 x3 (i, l, Rp s r p) = some (some (.int (nM 1)), (u2 i 82 2 (nI 0), l, Rp s r p)) → PrI (GT_up x1 x2 x3) (Mo_up x1 x2 x3) P i l s r p := fun h1 h2 => ⟨_, i, l, _, l, h1, h2, hth⟩
  have hin : ∀ (a b : Option (Option Value × AM)), ifc (x3 < 0) a (ifc (nI 1 < x3) a b) = if isn 2 x3 = true then b else a := fun a b => ifc_isn2 (by decide) x3 a b
  cases h1 : isn (pS P + 1) x1
  · refine none_ ?_ ?_
    · simp only [GT_up_eq, cTree_ok hp hw hPC, h1, crI_t, crV_t, crL_t, ifc_b, Bool.false_eq_true, if_false, if_true]
    · simp only [Mo_up_eq, rTree_ok hw (PM_of hth), h1, crI_t, crV_t, crL_t, ifc_b, Bool.false_eq_true, if_false, if_true]
  · cases h2 : isn (pN P) x2
    · refine none_ ?_ ?_
      · simp only [GT_up_eq, cTree_ok hp hw hPC, cNode_ok hp hw hPC, h1, h2, crI_t, crV_t, crL_t, ifc_b, Bool.false_eq_true, if_false, if_true]
      · simp only [Mo_up_eq, rTree_ok hw (PM_of hth), rNode_ok hw (PM_of hth), h1, h2, crI_t, crV_t, crL_t, ifc_b, Bool.false_eq_true, if_false, if_true]
    · cases h4 : isn 2 x3
      · refine none_ ?_ ?_
        · simp only [GT_up_eq, cTree_ok hp hw hPC, cNode_ok hp hw hPC, h1, h2, hin, h4, crI_t, crV_t, crL_t, ifc_b, Bool.false_eq_true, if_false, if_true]
        · simp only [Mo_up_eq, rTree_ok hw (PM_of hth), rNode_ok hw (PM_of hth), rIn_ok (show 1 + 1 < 2 ^ 31 by decide), h1, h2, h4, crI_t, crV_t, crL_t, ifc_b, Bool.false_eq_true, if_false, if_true]
      · obtain ⟨t, ht, rfl⟩ := isn_t h1
        obtain ⟨n, hn, rfl⟩ := isn_t h2
        obtain ⟨w, hw2, rfl⟩ := isn_t h4
        obtain ⟨j, a0, a1, a2, a3⟩ := meas_ok h
        have hj := INV_S h a1
        have hv : vw 51 j = vw 51 i := vw_net (Or.inl rfl) a3
        obtain ⟨l2, c1, c2⟩ := climb_ok (l := l) (s := s) (r := r) (t := t) (n := n) (Or.inl rfl) hp hw (PC_of hj) (swf_of hj) (by omega) hn a2
        have hj2 : INV P j l2 s r p := INV_S hj (SCR_cmp hj (fr_refl _ _) hj.2.2.2.2.2.1 rfl rfl rfl (lS_46 c2))
        have hk := INV_pT (INV_th hj2)
        obtain ⟨l3, e, d1, d2⟩ := upLink_ok (l := l2) (s := s) (r := r) (p := p) (b := 0) hw (PM_of hk) (swf_of hk) (SM0_of hk) (co_of hk) (by omega) (show t ≤ pS P by omega) hn
        have fk : fr qS i (pT (u2 j 82 2 (nI 0))) := fr_trans a1.1 (fr_trans th_fr pT_fr)
        have eu : upl P (fd P (vw 51 (pT (u2 j 82 2 (nI 0))) 0 8) t) (bt (vw 51 (pT (u2 j 82 2 (nI 0))) 0 8)) (mtv P (fd P (vw 51 (pT (u2 j 82 2 (nI 0))) 0 8) t) (vw 51 (pT (u2 j 82 2 (nI 0)))) t) n = upo P (vw 51 i) t n := (show _ = upo P (vw 51 (pT (u2 j 82 2 (nI 0)))) t n from rfl).trans (upo_ueq (ueq_S fk) t n)
        have ec : upl P (fd P (vw 51 i 0 8) t) (bt (vw 51 i 0 8)) (mtv P (fd P (vw 51 i 0 8) t) (fun a => j (51 + a)) t) n = upo P (vw 51 i) t n := by
          have : (fun a => j (51 + a)) = vw 51 i := hv
          rw [this]; rfl
        rw [ec] at c1
        rw [eu] at d1
        refine ⟨(match upo P (vw 51 i) t n with
          | none => nM 2
          | some u => if w = 0 then nI u.1 else nI u.2), j, l2, mU (pT (u2 j 82 2 (nI 0))) (fd P (vw 51 (pT (u2 j 82 2 (nI 0))) 0 8) t) e (ndo (upo P (vw 51 i) t n)), l3, ?_, ?_, INV_S hk (SCR_ref hk fr_mU_S (fun a ha => mU_r (by omega) (by omega)) ((mU_k (by decide) (by decide)).trans (co_of hk)) (lS_67 d2))⟩
        · simp only [GT_up_eq, cTree_ok hp hw hPC, cNode_ok hp hw hPC, h1, h2, hin, h4, a0, c1, crI_t, crV_t, crL_t, ifc_b, Bool.false_eq_true, if_false, if_true]
          cases hu : upo P (vw 51 i) t n with
          | none => rw [ifc_t (show upc none < 0 from nM_neg (by omega) (by omega))]
          | some u =>
            obtain ⟨u1, u2', _⟩ := upo_some hu
            have e1 : (8 * u.1 + u.2) % 8 = u.2 := by omega
            have e2 : (8 * u.1 + u.2) / 8 = u.1 := by omega
            rw [show upc (some u) = nI (8 * u.1 + u.2) from rfl, ifc_neg (by omega), nI_mod (by omega) (by omega) (by omega), nI_div (by omega) (by omega) (by omega), e1, e2, ifc_z (by omega), gd_n0 (by omega) (by omega), gd_n0 (by omega) (by omega)]
            by_cases hw0 : w = 0
            · simp only [hw0, if_true]
            · simp only [hw0, if_false]
        · simp only [Mo_up_eq, rTree_ok hw (PM_of (INV_th hj2)), rNode_ok hw (PM_of (INV_th hj2)), rIn_ok (show 1 + 1 < 2 ^ 31 by decide), plainT_ok, h1, h2, h4, d1, mU_76, crI_t, crV_t, crL_t, ifc_b, Bool.false_eq_true, if_false, if_true]
          cases hu : upo P (vw 51 i) t n with
          | none => rw [ifc_t (show lnk none < 0 from nM_neg (by omega) (by omega))]
          | some u =>
            obtain ⟨u1, u2', _⟩ := upo_some hu
            rw [show lnk (some u) = nI u.1 from rfl, show ndo (some u) = nI u.2 from rfl, ifc_neg (by omega), ifc_z (by omega)]
            by_cases hw0 : w = 0
            · simp only [hw0, if_true]
            · simp only [hw0, if_false]
theorem held_pr (h : INV P i l s r p) (x1 x2 x3 : Int32) : PrI (GT_held x1 x2 x3) (Mo_held x1 x2 x3) P i l s r p := by
  obtain ⟨hp0, hr, hw, hPC, hPM, hNI, hs, hS, hdr, hco, hrest⟩ := id h
  have hp : p = 7 ∨ p = 27 := by omega
  have h7 := hw.1.1
  have h8 := hw.1.2.1
  have h3 := hw.1.2.2.1
  have hth := INV_th h
  have go_ : ∀ v, GT_held x1 x2 x3 (i, l, Rp s r p) = some (some (.int v), (i, l, Rp s r p)) → Mo_held x1 x2 x3 (i, l, Rp s r p) = some (some (.int v), (u2 i 82 2 (nI 0), l, Rp s r p)) → PrI (GT_held x1 x2 x3) (Mo_held x1 x2 x3) P i l s r p := fun v h1 h2 => ⟨_, i, l, _, l, h1, h2, hth⟩
  cases h1 : isn (pS P + 1) x1
  · refine go_ (nM 1) ?_ ?_
    · simp only [GT_held_eq, cTree_ok hp hw hPC, h1, crI_t, crV_t, crL_t, ifc_b, Bool.false_eq_true, if_false, if_true]
    · simp only [Mo_held_eq, rTree_ok hw (PM_of hth), h1, crI_t, crV_t, crL_t, ifc_b, Bool.false_eq_true, if_false, if_true]
  · cases h2 : isn (pN P) x2
    · refine go_ (nM 1) ?_ ?_
      · simp only [GT_held_eq, cTree_ok hp hw hPC, cNode_ok hp hw hPC, h1, h2, crI_t, crV_t, crL_t, ifc_b, Bool.false_eq_true, if_false, if_true]
      · simp only [Mo_held_eq, rTree_ok hw (PM_of hth), rNode_ok hw (PM_of hth), h1, h2, crI_t, crV_t, crL_t, ifc_b, Bool.false_eq_true, if_false, if_true]
    · cases h4 : isn (pL P) x3
      · refine go_ (nM 1) ?_ ?_
        · simp only [GT_held_eq, cTree_ok hp hw hPC, cNode_ok hp hw hPC, cLink_ok hp hw hPC, h1, h2, h4, crI_t, crV_t, crL_t, ifc_b, Bool.false_eq_true, if_false, if_true]
        · simp only [Mo_held_eq, rTree_ok hw (PM_of hth), rNode_ok hw (PM_of hth), rLink_ok hw (PM_of hth), h1, h2, h4, crI_t, crV_t, crL_t, ifc_b, Bool.false_eq_true, if_false, if_true]
      · obtain ⟨t, ht, rfl⟩ := isn_t h1
        obtain ⟨n, hn, rfl⟩ := isn_t h2
        obtain ⟨k, hk, rfl⟩ := isn_t h4
        refine go_ (vw 51 i 5 (56 * t + 8 * n + k)) ?_ ?_
        · simp only [GT_held_eq, cTree_ok hp hw hPC, cNode_ok hp hw hPC, cLink_ok hp hw hPC, h1, h2, h4, crI_t, crV_t, crL_t, ifc_b, Bool.false_eq_true, if_false, if_true]
          simp (disch := omega) only [nI_mul, nI_add, gd_in, nI_clamp]
          rw [show (t * 7 + n) * 8 + k = 56 * t + 8 * n + k by omega]
          rfl
        · simp only [Mo_held_eq, rTree_ok hw (PM_of hth), rNode_ok hw (PM_of hth), rLink_ok hw (PM_of hth), heldAt_ok (show 0 < 2 by omega) (show t < 4 by omega) (show n < 7 by omega) (show k < 8 by omega), h1, h2, h4, crI_t, crV_t, crL_t, ifc_b, Bool.false_eq_true, if_false, if_true]
          rw [u2_i (by decide), hS.2.2.2.1 _ (by omega)]
theorem wants_pr (h : INV P i l s r p) (x1 x2 : Int32) : PrI (GT_wants x1 x2) (Mo_wants x1 x2) P i l s r p := by
  obtain ⟨hp0, hr, hw, hPC, hPM, hNI, hs, hS, hdr, hco, hrest⟩ := id h
  have hp : p = 7 ∨ p = 27 := by omega
  have h7 := hw.1.1
  have h8 := hw.1.2.1
  have h3 := hw.1.2.2.1
  have hth := INV_th h
  have go_ : ∀ v, GT_wants x1 x2 (i, l, Rp s r p) = some (some (.int v), (i, l, Rp s r p)) → Mo_wants x1 x2 (i, l, Rp s r p) = some (some (.int v), (u2 i 82 2 (nI 0), l, Rp s r p)) → PrI (GT_wants x1 x2) (Mo_wants x1 x2) P i l s r p := fun v h1 h2 => ⟨_, i, l, _, l, h1, h2, hth⟩
  cases h1 : isn (pS P + 1) x1
  · refine go_ (nM 1) ?_ ?_
    · simp only [GT_wants_eq, cTree_ok hp hw hPC, h1, crI_t, crV_t, crL_t, ifc_b, Bool.false_eq_true, if_false, if_true]
    · simp only [Mo_wants_eq, rTree_ok hw (PM_of hth), h1, crI_t, crV_t, crL_t, ifc_b, Bool.false_eq_true, if_false, if_true]
  · cases h2 : isn (pN P) x2
    · refine go_ (nM 1) ?_ ?_
      · simp only [GT_wants_eq, cTree_ok hp hw hPC, cNode_ok hp hw hPC, h1, h2, crI_t, crV_t, crL_t, ifc_b, Bool.false_eq_true, if_false, if_true]
      · simp only [Mo_wants_eq, rTree_ok hw (PM_of hth), rNode_ok hw (PM_of hth), h1, h2, crI_t, crV_t, crL_t, ifc_b, Bool.false_eq_true, if_false, if_true]
    · obtain ⟨t, ht, rfl⟩ := isn_t h1
      obtain ⟨n, hn, rfl⟩ := isn_t h2
      have hS2 : SM 0 (vw 51 i) (u2 i 82 2 (nI 0)) := SM_fr hS (fun a h1 h2 => u2_r (by omega))
      refine go_ (nI (wnt P (vw 51 i) t n).toNat) ?_ ?_
      · simp only [GT_wants_eq, cTree_ok hp hw hPC, cNode_ok hp hw hPC, wanted_ok (Or.inl rfl) hp hw hPC (show t ≤ pS P by omega) hn, h1, h2, crI_t, crV_t, crL_t, ifc_b, Bool.false_eq_true, if_false, if_true]
        cases wnt P (vw 51 i) t n <;> rfl
      · simp only [Mo_wants_eq, rTree_ok hw (PM_of hth), rNode_ok hw (PM_of hth), wantsNow_ok hw (PM_of hth) hs hS2 (show 0 < 2 by omega) (show t ≤ pS P by omega) hn, h1, h2, crI_t, crV_t, crL_t, ifc_b, Bool.false_eq_true, if_false, if_true]
        cases wnt P (vw 51 i) t n <;> rfl
theorem law_pr (h : INV P i l s r p) (x1 x2 x3 : Int32) : PrL (GT_law x1 x2 x3) (Mo_law x1 x2 x3) P i l s r p := by
  obtain ⟨hp0, hr, hw, hPC, hPM, hNI, hs, hS, hdr, hco, hrest⟩ := id h
  have hp : p = 7 ∨ p = 27 := by omega
  have h7 := hw.1.1
  have h8 := hw.1.2.1
  have h3 := hw.1.2.2.1
  have hth := INV_th h
  have none_ : GT_law x1 x2 x3 (i, l, Rp s r p) = some (some (.long (lN 9223372036854775808)), (i, l, Rp s r p)) → Mo_law x1 x2 x3 (i, l, Rp s r p) = some (some (.long (lN 9223372036854775808)), (u2 i 82 2 (nI 0), l, Rp s r p)) → PrL (GT_law x1 x2 x3) (Mo_law x1 x2 x3) P i l s r p := fun h1 h2 => ⟨_, i, l, _, l, h1, h2, hth⟩
  have hin : ∀ (a b : Option (Option Value × AM)), ifc (x1 < 0) a (ifc (x1 < nI 3) b a) = if isn 3 x1 = true then b else a := fun a b => ifc_isn (by decide) x1 a b
  cases h1 : isn 3 x1
  · refine none_ ?_ ?_
    · simp only [GT_law_eq, hin, h1, crI_t, crV_t, crL_t, ifc_b, Bool.false_eq_true, if_false, if_true]
    · simp only [Mo_law_eq, rIn_ok (show 2 + 1 < 2 ^ 31 by decide), h1, crI_t, crV_t, crL_t, ifc_b, Bool.false_eq_true, if_false, if_true]
  · obtain ⟨w, hw3, rfl⟩ := isn_t h1
    have e98 : ∀ j : Nat → Nat → Int32, PM P j → j 98 w = nI (tld P w).toNat := fun j hj => (hj.2.2.2.2.2.2.2.2 w hw3).1
    cases h2 : isn (pS P + 1) x2
    · refine none_ ?_ ?_
      · simp only [GT_law_eq, hin, cTree_ok hp hw hPC, h1, h2, crI_t, crV_t, crL_t, ifc_b, Bool.false_eq_true, if_false, if_true]
      · simp only [Mo_law_eq, rIn_ok (show 2 + 1 < 2 ^ 31 by decide), rTree_ok hw (PM_of hth), h1, h2, crI_t, crV_t, crL_t, ifc_b, Bool.false_eq_true, if_false, if_true]
        rw [gd_in (by omega) (by omega), nI_clamp (by omega), e98 _ (PM_of hth), ifc_b]
        cases tld P w <;> rfl
    · cases h4 : isn (pN P) x3
      · refine none_ ?_ ?_
        · simp only [GT_law_eq, hin, cTree_ok hp hw hPC, cNode_ok hp hw hPC, h1, h2, h4, crI_t, crV_t, crL_t, ifc_b, Bool.false_eq_true, if_false, if_true]
        · simp only [Mo_law_eq, rIn_ok (show 2 + 1 < 2 ^ 31 by decide), rTree_ok hw (PM_of hth), rNode_ok hw (PM_of hth), h1, h2, h4, crI_t, crV_t, crL_t, ifc_b, Bool.false_eq_true, if_false, if_true]
          rw [gd_in (by omega) (by omega), nI_clamp (by omega), e98 _ (PM_of hth), ifc_b]
          cases tld P w <;> rfl
      · obtain ⟨t, ht, rfl⟩ := isn_t h2
        obtain ⟨n, hn, rfl⟩ := isn_t h4
        by_cases hsw : w = 1 ∧ t = 0
        · obtain ⟨rfl, rfl⟩ := hsw
          refine none_ ?_ ?_
          · simp only [GT_law_eq, hin, cTree_ok hp hw hPC, cNode_ok hp hw hPC, h1, h2, h4, crI_t, crV_t, crL_t, ifc_b, Bool.false_eq_true, if_false, if_true]
            simp (disch := omega) only [ifc_eq, ifc_z, if_true, ifc_True]
          · simp only [Mo_law_eq, rIn_ok (show 2 + 1 < 2 ^ 31 by decide), rTree_ok hw (PM_of hth), rNode_ok hw (PM_of hth), h1, h2, h4, crI_t, crV_t, crL_t, ifc_b, Bool.false_eq_true, if_false, if_true]
            rw [gd_in (by omega) (by omega), nI_clamp (by omega), e98 _ (PM_of hth), ifc_b]
            simp (disch := omega) only [ifc_eq, ifc_z, if_true, ifc_True]
            cases tld P 1 <;> rfl
        · have hif : ∀ (a b : Option (Option Value × AM)), ifc (nI w = nI 1) (ifc (nI t = 0) a b) b = b := fun a b => by
            rw [ifc_eq (by omega) (by omega), ifc_z (by omega)]
            by_cases e1 : w = 1
            · rw [if_pos e1, if_neg (fun e2 => hsw ⟨e1, e2⟩)]
            · rw [if_neg e1]
          obtain ⟨j, a0, a1, a2, a3⟩ := meas_ok h
          have hj := INV_S h a1
          have hv : vw 51 j = vw 51 i := vw_net (Or.inl rfl) a3
          obtain ⟨l2, c1, c2⟩ := work_P (l := l) (s := s) (r := r) (w := w) (t := t) (n := n) (Or.inl rfl) hp hw (PC_of hj) (swf_of hj) hw3 (by omega) hn a2
          have hj2 : INV P j l2 s r p := INV_S hj (SCR_cmp hj (fr_refl _ _) hj.2.2.2.2.2.1 rfl rfl rfl (lS_46 c2))
          have e2 : (fun a => j (51 + a)) = vw 51 i := hv
          rw [e2] at c1
          have hC : GT_law (nI w) (nI t) (nI n) (i, l, Rp s r p) = some (some (.long ((lw P w (fd P (vw 51 i 0 8) t) (vw 51 i) t n).getD (lN 9223372036854775808))), (j, l2, Rp s r p)) := by
            simp only [GT_law_eq, hin, cTree_ok hp hw hPC, cNode_ok hp hw hPC, h1, h2, h4, hif, GT_law_42_eq, a0, nI_add, c1, crI_t, crV_t, crL_t, ifc_b, Bool.false_eq_true, if_false, if_true]
          cases htl : tld P w
          · rw [lw_untold htl] at hC
            refine ⟨_, j, l2, _, l2, hC, ?_, INV_th hj2⟩
            simp only [Mo_law_eq, rIn_ok (show 2 + 1 < 2 ^ 31 by decide), h1, crI_t, crV_t, crL_t, ifc_b, Bool.false_eq_true, if_false, if_true]
            rw [gd_in (by omega) (by omega), nI_clamp (by omega), e98 _ (PM_of (INV_th hj2)), htl, ifc_b, if_neg (by decide)]
            rfl
          · have hk := INV_pT (INV_th hj2)
            have fk : fr qS i (pT (u2 j 82 2 (nI 0))) := fr_trans a1.1 (fr_trans th_fr pT_fr)
            obtain ⟨l3, l4, v, f1, f2, f3, f4, f5, f6⟩ := flw_ok (l := l2) (s := s) (r := r) (p := p) (b := 0) (t := t) (n := n) (w := w) hw (PM_of hk) (swf_of hk) (SM0_of hk) (co_of hk) (by omega) (by omega) hn hw3 htl
            have el : lw P w (fd P (vw 51 (pT (u2 j 82 2 (nI 0))) 0 8) t) (vw 51 (pT (u2 j 82 2 (nI 0)))) t n = lw P w (fd P (vw 51 i 0 8) t) (vw 51 i) t n := by
              rw [(ueq_S fk).1]
              exact lw_ueq (ueq_S fk) _ t n
            rw [el] at f3 f4
            refine ⟨_, j, l2, _, l4, hC, ?_, INV_S hk (SCR_ref hk (fr_W_S (f6 (nI (lw P w (fd P (vw 51 i 0 8) t) (vw 51 i) t n).isNone.toNat))) (fun a ha => (u2_r (by omega)).trans (ov_c (by omega))) ((u2_k (by decide)).trans ((congrFun (ov_c (by decide)) 73).trans (co_of hk))) (lS_67 f5))⟩
            simp only [Mo_law_eq, rIn_ok (show 2 + 1 < 2 ^ 31 by decide), rTree_ok hw (PM_of (INV_th hj2)), rNode_ok hw (PM_of (INV_th hj2)), h1, h2, h4, hif, crI_t, crV_t, crL_t, ifc_b, Bool.false_eq_true, if_false, if_true]
            rw [gd_in (by omega) (by omega), nI_clamp (by omega), e98 _ (PM_of (INV_th hj2)), htl, ifc_b, if_pos rfl, Mo_law_52_eq]
            simp only [plainT_ok, f1, f2, f3, u2_s, crI_t, crV_t, crL_t, ifc_b, Bool.false_eq_true, if_false, if_true]
            cases hL : lw P w (fd P (vw 51 i 0 8) t) (vw 51 i) t n with
            | none => rfl
            | some z =>
              rw [hL] at f4
              have : v = z := f4
              subst this
              rfl
theorem link_pr (h : INV P i l s r p) (x1 x2 : Int32) : PrI (GT_link x1 x2) (Mo_link x1 x2) P i l s r p := by
  obtain ⟨hp0, hr, hw, hPC, hPM, hNI, hs, hS, hdr, hco, hrest⟩ := id h
  have hp : p = 7 ∨ p = 27 := by omega
  have h7 := hw.1.1
  have h8 := hw.1.2.1
  have h3 := hw.1.2.2.1
  have hth := INV_th h
  have go_ : ∀ v, GT_link x1 x2 (i, l, Rp s r p) = some (some (.int v), (i, l, Rp s r p)) → Mo_link x1 x2 (i, l, Rp s r p) = some (some (.int v), (u2 i 82 2 (nI 0), l, Rp s r p)) → PrI (GT_link x1 x2) (Mo_link x1 x2) P i l s r p := fun v h1 h2 => ⟨_, i, l, _, l, h1, h2, hth⟩
  cases h1 : isn (pL P) x1
  · refine go_ (nM 1) ?_ ?_
    · simp only [GT_link_eq _ _ _ _ _ _ _ hp, cLink_ok hp hw hPC, h1, crI_t, crV_t, crL_t, ifc_b, Bool.false_eq_true, if_false, if_true]
    · simp only [Mo_link_eq, rLink_ok hw (PM_of hth), h1, crI_t, crV_t, crL_t, ifc_b, Bool.false_eq_true, if_false, if_true]
  · obtain ⟨k, hk, rfl⟩ := isn_t h1
    obtain ⟨c1, c2⟩ := hPC.2.2.2.1 k hk
    obtain ⟨d1, d2⟩ := (PM_of hth).2.2.2.2.1 k hk
    have e8 : u2 i 82 2 (nI 0) 108 0 = i 51 8 := (u2_i (by decide)).trans hS.1
    have hC : GT_link (nI k) x2 (i, l, Rp s r p) = ifc (x2 = 0) (some (some (.int (nI (cst P k))), (i, l, Rp s r p))) (ifc (x2 = nI 1) (some (some (.int (mem P k)), (i, l, Rp s r p))) (ifc (x2 = nI 2) (some (some (.int ((i 51 8 >>> (nI k &&& 31)) &&& nI 1)), (i, l, Rp s r p))) (some (some (.int (nM 1)), (i, l, Rp s r p))))) := by
      simp only [GT_link_eq _ _ _ _ _ _ _ hp, cLink_ok hp hw hPC, h1, crI_t, crV_t, crL_t, ifc_b, Bool.false_eq_true, if_false, if_true]
      simp (disch := omega) only [gd_in, nI_clamp, c1, c2]
      rfl
    have hR : Mo_link (nI k) x2 (i, l, Rp s r p) = ifc (x2 = 0) (some (some (.int (nI (cst P k))), (u2 i 82 2 (nI 0), l, Rp s r p))) (ifc (x2 = nI 1) (some (some (.int (mem P k)), (u2 i 82 2 (nI 0), l, Rp s r p))) (ifc (x2 = nI 2) (some (some (.int ((i 51 8 >>> (nI k &&& 31)) &&& nI 1)), (u2 i 82 2 (nI 0), l, Rp s r p))) (some (some (.int (nM 1)), (u2 i 82 2 (nI 0), l, Rp s r p))))) := by
      simp only [Mo_link_eq, rLink_ok hw (PM_of hth), h1, crI_t, crV_t, crL_t, ifc_b, Bool.false_eq_true, if_false, if_true]
      simp (disch := omega) only [gd_in, nI_clamp, d1, d2, e8]
    by_cases q0 : x2 = 0
    · rw [ifc_t q0] at hC hR; exact go_ _ hC hR
    · rw [ifc_f q0] at hC hR
      by_cases q1 : x2 = nI 1
      · rw [ifc_t q1] at hC hR; exact go_ _ hC hR
      · rw [ifc_f q1] at hC hR
        by_cases q2 : x2 = nI 2
        · rw [ifc_t q2] at hC hR; exact go_ _ hC hR
        · rw [ifc_f q2] at hC hR; exact go_ _ hC hR
theorem fault_pr (h : INV P i l s r p) (x1 : Int32) : PrI (GT_fault x1) (Mo_fault x1) P i l s r p := by
  have hth := INV_th h
  have hF : FT i := h.2.2.2.2.2.2.2.2.2.2.2.2.2.2.2.1
  have go_ : ∀ v, GT_fault x1 (i, l, Rp s r p) = some (some (.int v), (i, l, Rp s r p)) → Mo_fault x1 (i, l, Rp s r p) = some (some (.int v), (u2 i 82 2 (nI 0), l, Rp s r p)) → PrI (GT_fault x1) (Mo_fault x1) P i l s r p := fun v h1 h2 => ⟨_, i, l, _, l, h1, h2, hth⟩
  have hC := GT_fault_eq x1 i l s r p
  have hR := Mo_fault_eq x1 i l s r p
  rw [show (x1 = nI 0) = (x1 = 0) by rw [nI_0], hF.1, hF.2] at hC
  by_cases q0 : x1 = 0
  · rw [ifc_t q0] at hC hR; exact go_ _ hC hR
  · rw [ifc_f q0] at hC hR
    by_cases q1 : x1 = nI 1
    · rw [ifc_t q1] at hC hR; exact go_ _ hC hR
    · rw [ifc_f q1] at hC hR; exact go_ _ hC hR
end
end

section
/-! used, named, wide, best, count -/
def orN (f : Nat → Int32) : Nat → Int32
  | 0 => nI 0
  | n + 1 => orN f n ||| f n
def hbs (σ : ST) (t : Nat) : Int32 := orN (fun n => σ 6 (7 * t + n)) 7
theorem bt_ext8 {x y : Int32} {n : Nat} (h : ∀ k, k < 32 → bt x k = bt y k) : x = y := b_ext h
theorem snd_bits {P : PL} {σ : ST} (hs : swf P σ) {t n : Nat} (ht : t < 4) (hn : n < 7) (h8 : pL P ≤ 8) : msk (bt (σ 6 (7 * t + n))) (pL P) = σ 6 (7 * t + n) := by
  apply b_ext
  intro k hk
  rw [msk_bt _ _ (by omega) k hk]
  by_cases h : k < pL P
  · rw [decide_eq_true h, Bool.true_and]
  · rw [decide_eq_false h, Bool.false_and, hs.2.1 (7 * t + n) (by omega) k hk]
    by_cases h9 : k < 8
    · rw [show 8 * (7 * t + n) + k = 56 * t + 8 * n + k by omega, hs.2.2.1 t n k ht hn h9 (by omega)]; simp
    · rw [decide_eq_false h9]; rfl
theorem snd_out {P : PL} {σ : ST} (hs : swf P σ) {t n : Nat} (ht : t < 4) (hn : n < 7) (h : pN P ≤ n) : σ 6 (7 * t + n) = nI 0 := by
  apply b_ext
  intro k hk
  rw [nI_0, b_0, hs.2.1 (7 * t + n) (by omega) k hk]
  by_cases h9 : k < 8
  · rw [show 8 * (7 * t + n) + k = 56 * t + 8 * n + k by omega, hs.2.2.1 t n k ht hn h9 (by omega)]; simp
  · rw [decide_eq_false h9]; rfl
theorem orN_more {f : Nat → Int32} {a : Nat} : ∀ n, a ≤ n → (∀ k, a ≤ k → k < n → f k = nI 0) → orN f n = orN f a := by
  intro n hn h
  induction n with
  | zero => rw [show a = 0 by omega]
  | succ n ih =>
    by_cases e : a = n + 1
    · rw [e]
    · show orN f n ||| f n = _
      rw [h n (by omega) (by omega), or_0, ih (by omega) (fun k h1 h2 => h k h1 (by omega))]
/-- the first of a row that is like this -/
def fnd (f : Nat → Int32) (x : Int32) : Nat → Nat → Option Nat
  | 0, _ => none
  | n + 1, k => if f k = x then some k else fnd f x n (k + 1)
def fnv : Option Nat → Int32
  | none => nM 1
  | some k => nI k
theorem fnd_cg {f g : Nat → Int32} {x : Int32} : ∀ n k, (∀ j, k ≤ j → j < k + n → f j = g j) → fnd f x n k = fnd g x n k
  | 0, _, _ => rfl
  | n + 1, k, h => by
    unfold fnd
    rw [h k (by omega) (by omega), fnd_cg n (k + 1) (fun j h1 h2 => h j (by omega) (by omega))]
theorem fnd_lt {f : Nat → Int32} {x : Int32} : ∀ n k q, fnd f x n k = some q → k ≤ q ∧ q < k + n ∧ f q = x
  | 0, _, _, h => absurd h (by simp [fnd])
  | n + 1, k, q, h => by
    unfold fnd at h
    by_cases e : f k = x
    · rw [if_pos e] at h
      have : k = q := Option.some.inj h
      subst this
      exact ⟨by omega, by omega, e⟩
    · rw [if_neg e] at h
      have := fnd_lt n (k + 1) q h
      exact ⟨by omega, by omega, this.2.2⟩
def wdm (D : Nat → Nat) : Nat → Nat
  | 0 => 0
  | n + 1 => if D n < 99 then (if wdm D n < D n then D n else wdm D n) else wdm D n
theorem wdm_99 (D : Nat → Nat) : ∀ n, wdm D n ≤ 99
  | 0 => by unfold wdm; omega
  | n + 1 => by
    have := wdm_99 D n
    unfold wdm
    split
    · split <;> omega
    · exact this
def smL (m : Int32) (D : Nat → Nat) : Nat → Nat
  | 0 => 0
  | n + 1 => smL m D n + (if bt m n then D n else 0)
theorem smL_le {m : Int32} {D : Nat → Nat} (h : ∀ n, D n ≤ 99) : ∀ n, smL m D n ≤ 99 * n
  | 0 => by unfold smL; omega
  | n + 1 => by
    have h1 := smL_le (m := m) h n
    have h2 := h n
    unfold smL
    split <;> omega
def bsu (q : Option (Nat × Nat)) (r sm : Nat) : Option (Nat × Nat) := match q with
  | none => some (r, sm)
  | some (a, c) => if sm < c then some (r, sm) else some (a, c)
noncomputable def bst (P : PL) (σ : ST) : Nat → Option (Nat × Nat)
  | 0 => none
  | r + 1 => bsu (bst P σ r) r (smL (σ 0 7) (dst (pN P) (pL P) (mem P) (cst P) (bt (σ 0 8)) (nI r)) (pN P))
def bsa : Option (Nat × Nat) → Int32
  | none => nM 2
  | some q => nI q.1
def bsc : Option (Nat × Nat) → Int32
  | none => nM 2
  | some q => nI q.2
theorem bst_r {P : PL} {σ : ST} (h7 : pN P ≤ 7) : ∀ r q, r ≤ 7 → bst P σ r = some q → q.1 < 7 ∧ q.2 ≤ 693
  | 0, q, _, h => absurd h (by simp [bst])
  | r + 1, q, hr, h => by
    have hs := smL_le (m := σ 0 7) (D := dst (pN P) (pL P) (mem P) (cst P) (bt (σ 0 8)) (nI r)) (fun n => itr_99 _ _ _ _ _ _ _ _) (pN P)
    unfold bst bsu at h
    split at h
    · have := Option.some.inj h
      subst this
      simp only
      omega
    · rename_i a c hq
      have ih := bst_r h7 r (a, c) (by omega) hq
      split at h
      · have := Option.some.inj h
        subst this
        simp only
        omega
      · have := Option.some.inj h
        subst this
        exact ih
def smI (f : Nat → Int32) : Nat → Int32
  | 0 => nI 0
  | n + 1 => smI f n + f n
theorem smI_cg {f g : Nat → Int32} : ∀ n, (∀ k, k < n → f k = g k) → smI f n = smI g n
  | 0, _ => rfl
  | n + 1, h => by
    unfold smI
    rw [smI_cg n (fun k hk => h k (by omega)), h n (by omega)]
theorem cnt_add (f : Nat → Bool) (a : Nat) : ∀ n, cnt f (a + n) = cnt f a + cnt (fun k => f (a + k)) n
  | 0 => rfl
  | n + 1 => by
    show cnt f (a + n) + _ = cnt f a + (cnt (fun k => f (a + k)) n + _)
    rw [cnt_add f a n, Nat.add_assoc]
    rfl
section
variable {P : PL} {i : Nat → Nat → Int32} {l : Nat → Nat → Int64} {s r p : Nat}
theorem linksHeld_ok {o t : Nat} (ho : o = 51 ∨ o = 65) (ht : t < 4) : State_linksHeld o (nI t) (i, l, Rp s r p) = some (some (.int (hbs (vw o i) t)), (i, l, Rp s r p)) := by
  have h := upto (fun n => State_linksHeld_4 o (nI t) (orN (fun n => vw o i 6 (7 * t + n)) n) (nI n) (i, l, Rp s r p)) 7 (fun n hn => by
    show State_linksHeld_4 _ _ _ _ _ = State_linksHeld_4 _ _ _ _ _
    rw [State_linksHeld_4_eq _ _ _ _ _ _ _ _ _ ho]
    simp (disch := omega) only [nI_mul, nI_add, nI_clamp, gd_in, gd_0, gd_1, gd_b, gd_n0, ifc_lt, ifc_eq, ifc_neg, ifc_z, ifc_pos, ifc_b, if_pos, if_neg, crV_t, crI_t, crL_t, ifc_True, ifc_False, if_true, if_false]
    rw [show t * 7 + n = 7 * t + n by omega]
    rfl) 0 (by omega)
  rw [State_linksHeld_eq _ _ _ _ _ _ _ ho]
  refine (show State_linksHeld_4 o (nI t) (nI 0) (nI 0) (i, l, Rp s r p) = _ from h).trans ?_
  show State_linksHeld_4 _ _ _ _ _ = _
  rw [State_linksHeld_4_eq _ _ _ _ _ _ _ _ _ ho, ifc_f (by decide)]
  rfl
theorem heldBits_ok {σ : ST} {b t : Nat} (hw : pwf P) (hP : PM P i) (hs : swf P σ) (hS : SM b σ i) (hb : b < 2) (ht : t < 4) : Mo_heldBits (nI b) (nI t) (i, l, Rp s r p) = some (some (.int (hbs σ t)), (i, l, Rp s r p)) := by
  have h7 := hw.1.1
  have h8 := hw.1.2.1
  have h := upto (fun n => Mo_heldBits_5 (nI b) (nI t) (orN (fun n => σ 6 (7 * t + n)) n) (nI n) (i, l, Rp s r p)) (pN P) (fun n hn => by
    show Mo_heldBits_5 _ _ _ _ _ = Mo_heldBits_5 _ _ _ _ _
    have hk := upto (fun k => Mo_heldBits_17 (nI b) (nI t) (orN (fun n => σ 6 (7 * t + n)) n ||| msk (bt (σ 6 (7 * t + n))) k) (nI n) (nI k) (i, l, Rp s r p)) (pL P) (fun k hk => by
      show Mo_heldBits_17 _ _ _ _ _ _ = Mo_heldBits_17 _ _ _ _ _ _
      rw [Mo_heldBits_17_eq, hP.1.2.1, ifc_t (nI_lt hk (by omega)), heldAt_ok hb ht (by omega) (by omega), crI_t, hS.2.2.2.1 _ (by omega), nI_add, or_0, or_assoc3]
      have hbit := swf_bit hs ht (show n < 7 by omega) (show k < 8 by omega)
      obtain ⟨h, hh, he⟩ := hs.1 (56 * t + 8 * n + k) (by omega)
      rw [he] at hbit ⊢
      rw [msk_s, hbit, ifc_pos (by omega)]
      by_cases h0 : 0 < h
      · rw [if_pos h0, decide_eq_true (nI_ne0 h0 (by omega))]; rfl
      · have : h = 0 := by omega
        subst this
        rw [if_neg h0]; rfl) 0 (by omega)
    have e0 : orN (fun n => σ 6 (7 * t + n)) n ||| msk (bt (σ 6 (7 * t + n))) 0 = orN (fun n => σ 6 (7 * t + n)) n := or_0 _
    simp only [e0] at hk
    rw [Mo_heldBits_5_eq, hP.1.1, ifc_t (nI_lt hn (by omega)), hk, Mo_heldBits_17_eq, hP.1.2.1, ifc_f (nI_nlt (Nat.le_refl _) (by omega)), nI_add, snd_bits hs ht (by omega) h8]
    rfl) 0 (by omega)
  rw [Mo_heldBits_eq]
  refine (show Mo_heldBits_5 (nI b) (nI t) (nI 0) (nI 0) (i, l, Rp s r p) = _ from h).trans ?_
  show Mo_heldBits_5 _ _ _ _ _ = _
  rw [Mo_heldBits_5_eq, hP.1.1, ifc_f (nI_nlt (Nat.le_refl _) (by omega))]
  unfold hbs
  rw [orN_more (a := pN P) 7 h7 (fun k h1 h2 => snd_out hs ht h2 h1)]
theorem used_pr (h : INV P i l s r p) (x1 : Int32) : PrI (GT_used x1) (Mo_used x1) P i l s r p := by
  obtain ⟨hp0, hr, hw, hPC, hPM, hNI, hs, hS, hdr, hco, hrest⟩ := id h
  have hp : p = 7 ∨ p = 27 := by omega
  have h7 := hw.1.1
  have h8 := hw.1.2.1
  have h3 := hw.1.2.2.1
  have hth := INV_th h
  have go_ : ∀ v, GT_used x1 (i, l, Rp s r p) = some (some (.int v), (i, l, Rp s r p)) → Mo_used x1 (i, l, Rp s r p) = some (some (.int v), (u2 i 82 2 (nI 0), l, Rp s r p)) → PrI (GT_used x1) (Mo_used x1) P i l s r p := fun v h1 h2 => ⟨_, i, l, _, l, h1, h2, hth⟩
  cases h1 : isn (pS P + 1) x1
  · refine go_ (nM 1) ?_ ?_
    · simp only [GT_used_eq, cTree_ok hp hw hPC, h1, crI_t, crV_t, crL_t, ifc_b, Bool.false_eq_true, if_false, if_true]
    · simp only [Mo_used_eq, rTree_ok hw (PM_of hth), h1, crI_t, crV_t, crL_t, ifc_b, Bool.false_eq_true, if_false, if_true]
  · obtain ⟨t, ht, rfl⟩ := isn_t h1
    have hS2 : SM 0 (vw 51 i) (u2 i 82 2 (nI 0)) := SM_fr hS (fun a h1 h2 => u2_r (by omega))
    refine go_ (hbs (vw 51 i) t) ?_ ?_
    · simp only [GT_used_eq, cTree_ok hp hw hPC, h1, linksHeld_ok (Or.inl rfl) (show t < 4 by omega), crI_t, crV_t, crL_t, ifc_b, Bool.false_eq_true, if_false, if_true]
    · simp only [Mo_used_eq, rTree_ok hw (PM_of hth), h1, heldBits_ok hw (PM_of hth) hs hS2 (show 0 < 2 by omega) (show t < 4 by omega), crI_t, crV_t, crL_t, ifc_b, Bool.false_eq_true, if_false, if_true]
theorem cfind_ok {o0 n : Nat} {x : Int32} (hj : o0 = 3 ∨ o0 = 8 ∨ o0 = 11 ∨ o0 = 28 ∨ o0 = 31) (hn : n ≤ gN o0) : GT_find o0 (nI n) x (i, l, Rp s r p) = some (some (.int (fnv (fnd (i o0) x n 0))), (i, l, Rp s r p)) := by
  have hg : gN o0 < 1000 := by rcases hj with h | h | h | h | h <;> (subst h; decide)
  have key : ∀ m k, m + k = n → GT_find_2 o0 (nI n) x (nI k) (i, l, Rp s r p) = some (some (.int (fnv (fnd (i o0) x m k))), (i, l, Rp s r p)) := by
    intro m
    induction m with
    | zero =>
      intro k hk
      rw [GT_find_2_eq _ _ _ _ _ _ _ _ _ hj, ifc_f (nI_nlt (by omega) (by omega))]
      rfl
    | succ m ih =>
      intro k hk
      rw [GT_find_2_eq _ _ _ _ _ _ _ _ _ hj]
      simp (disch := omega) only [nI_mul, nI_add, nI_clamp, gd_in, gd_0, gd_1, gd_b, gd_n0, ifc_lt, ifc_eq, ifc_neg, ifc_z, ifc_pos, ifc_b, if_pos, if_neg, crV_t, crI_t, crL_t, ifc_True, ifc_False, if_true, if_false]
      unfold fnd
      by_cases e : i o0 k = x
      · rw [ifc_t e, if_pos e]; rfl
      · rw [ifc_f e, if_neg e]; exact ih (k + 1) (by omega)
  rw [GT_find_eq _ _ _ _ _ _ _ _ hj]
  exact key n 0 (by omega)
theorem rfind_ok {o0 b n : Nat} {x : Int32} (hj : o0 = 88 ∨ o0 = 91) (hn : b + n ≤ gN o0) : Mo_find o0 (nI b) (nI n) x (i, l, Rp s r p) = some (some (.int (fnv (fnd (fun k => i o0 (b + k)) x n 0))), (i, l, Rp s r p)) := by
  have hg : gN o0 < 1000 := by rcases hj with h | h <;> (subst h; decide)
  have key : ∀ m k, m + k = n → Mo_find_3 o0 (nI b) (nI n) x (nI k) (i, l, Rp s r p) = some (some (.int (fnv (fnd (fun k => i o0 (b + k)) x m k))), (i, l, Rp s r p)) := by
    intro m
    induction m with
    | zero =>
      intro k hk
      rw [Mo_find_3_eq _ _ _ _ _ _ _ _ _ _ hj, ifc_f (nI_nlt (by omega) (by omega))]
      rfl
    | succ m ih =>
      intro k hk
      rw [Mo_find_3_eq _ _ _ _ _ _ _ _ _ _ hj]
      simp (disch := omega) only [nI_mul, nI_add, nI_clamp, gd_in, gd_0, gd_1, gd_b, gd_n0, ifc_lt, ifc_eq, ifc_neg, ifc_z, ifc_pos, ifc_b, if_pos, if_neg, crV_t, crI_t, crL_t, ifc_True, ifc_False, if_true, if_false]
      unfold fnd
      by_cases e : i o0 (b + k) = x
      · rw [ifc_t e, if_pos e]; rfl
      · rw [ifc_f e, if_neg e]; exact ih (k + 1) (by omega)
  rw [Mo_find_eq _ _ _ _ _ _ _ _ _ hj]
  exact key n 0 (by omega)
theorem named_pr (h : INV P i l s r p) (x1 x2 : Int32) : PrI (GT_named x1 x2) (Mo_named x1 x2) P i l s r p := by
  obtain ⟨hp0, hr, hw, hPC, hPM, hNI, hs, hS, hdr, hco, hrest⟩ := id h
  have hp : p = 7 ∨ p = 27 := by omega
  have h7 := hw.1.1
  have h8 := hw.1.2.1
  have h3 := hw.1.2.2.1
  have hth := INV_th h
  have go_ : ∀ v, GT_named x1 x2 (i, l, Rp s r p) = some (some (.int v), (i, l, Rp s r p)) → Mo_named x1 x2 (i, l, Rp s r p) = some (some (.int v), (u2 i 82 2 (nI 0), l, Rp s r p)) → PrI (GT_named x1 x2) (Mo_named x1 x2) P i l s r p := fun v h1 h2 => ⟨_, i, l, _, l, h1, h2, hth⟩
  have hC := GT_named_eq x1 x2 i l s r p hp
  have hR := Mo_named_eq x1 x2 i l s r p
  have g1 : gN (p + 1) = 7 := by rcases hp with h | h <;> (subst h; decide)
  have g4 : gN (p + 4) = 3 := by rcases hp with h | h <;> (subst h; decide)
  rw [show (x1 = nI 0) = (x1 = 0) by rw [nI_0], show i p 11 = nI (pN P) from hPC.1 11 (by omega) (by omega), show i p 13 = nI (pS P) from hPC.1 13 (by omega) (by omega), cfind_ok (by omega) (by omega), cfind_ok (by omega) (by omega), crI_t, crI_t] at hC
  rw [hPM.1.1, hPM.1.2.2.1, rfind_ok (Or.inl rfl) (show 0 + pN P ≤ 14 by omega), rfind_ok (Or.inr rfl) (show 0 + pS P ≤ 6 by omega), crI_t, crI_t] at hR
  by_cases q0 : x1 = 0
  · rw [ifc_t q0] at hC hR
    refine go_ _ hC (hR.trans ?_)
    rw [fnd_cg (g := i (p + 1)) (pN P) 0 (fun j _ hj => by
      show u2 i 82 2 (nI 0) 88 (0 + j) = _
      rw [u2_i (by decide), Nat.zero_add, hPM.2.2.2.1 j (by omega), hPC.2.2.1 j (by omega)])]
  · rw [ifc_f q0] at hC hR
    by_cases q1 : x1 = nI 1
    · rw [ifc_t q1] at hC hR
      refine go_ _ hC (hR.trans ?_)
      rw [fnd_cg (g := i (p + 4)) (pS P) 0 (fun j _ hj => by
        show u2 i 82 2 (nI 0) 91 (0 + j) = _
        rw [u2_i (by decide), Nat.zero_add, (hPM.2.2.2.2.2.1 j (by omega)).1, (hPC.2.2.2.2.1 j (by omega)).1])]
    · rw [ifc_f q1] at hC hR; exact go_ _ hC hR
end
end

section
/-! wide, best, way -/
section
variable {P : PL} {i : Nat → Nat → Int32} {l : Nat → Nat → Int64} {s r p : Nat}
/-- the reference's distances, as it goes -/
theorem lay_dst (hw : pwf P) (hP : PM P i) (hc : i 82 73 = nM 1) (root out : Int32) : Mo_layDist root out (i, l, Rp s r p) = some (none, (ov i 119 0 7 (dst (pN P) (pL P) (mem P) (cst P) (bt out) root), l, Rp s r p)) := by
  refine layDist_ok hP.1.1 hw.1.1 hP.1.2.1 hw.1.2.1 (fun k hk => (hP.2.2.2.2.1 k hk).2) (fun k hk => ?_) (fun k hk => (PC_costs (i := i) hw k hk).1) (fun k hk => (PC_costs (i := i) hw k hk).2)
  have h8 := hw.1.2.1
  rw [hc, if_neg (fun e => by
    have h9 := nM_neg (m := 1) (by omega) (by omega)
    rw [← e] at h9
    exact absurd h9 (nI_pos (by omega)))]
  exact (hP.2.2.2.2.1 k hk).1
theorem INV_ov (h : INV P i l s r p) {D : Nat → Nat} : INV P (ov i 119 0 7 D) l s r p := INV_S h (SCR_ref h (fr_ov (fun k => rfl)) (fun a ha => ov_c (by omega)) ((congrFun (ov_c (by decide)) 73).trans (co_of h)) (lS_refl _))
theorem wide_pr (h : INV P i l s r p) (x1 : Int32) : PrI (GT_wide x1) (Mo_wide x1) P i l s r p := by
  obtain ⟨hp0, hr, hw, hPC, hPM, hNI, hs, hS, hdr, hco, hrest⟩ := id h
  have hp : p = 7 ∨ p = 27 := by omega
  have h7 := hw.1.1
  have h8 := hw.1.2.1
  have h3 := hw.1.2.2.1
  have hth := INV_th h
  cases h1 : isn (pS P + 1) x1
  · refine ⟨nM 1, i, l, _, l, ?_, ?_, hth⟩
    · simp only [GT_wide_eq, cTree_ok hp hw hPC, h1, crI_t, crV_t, crL_t, ifc_b, Bool.false_eq_true, if_false, if_true]
    · simp only [Mo_wide_eq, rTree_ok hw (PM_of hth), h1, crI_t, crV_t, crL_t, ifc_b, Bool.false_eq_true, if_false, if_true]
  · obtain ⟨t, ht, rfl⟩ := isn_t h1
    obtain ⟨j, a0, a1, a2, a3⟩ := meas_ok h
    have hj := INV_S h a1
    have hk := INV_pT (INV_th hj)
    have hv : vw 51 j = vw 51 i := vw_net (Or.inl rfl) a3
    generalize hD : fd P (vw 51 i 0 8) t = D at *
    have hD99 : ∀ n, D n ≤ 99 := fun n => by rw [← hD]; exact fd_99 _ _ _ _
    have e8 : pT (u2 j 82 2 (nI 0)) 108 0 = vw 51 i 0 8 := (SM0_of hk).1.trans (by
      show pT (u2 j 82 2 (nI 0)) 51 8 = _
      rw [pT_r (by decide), u2_r (by decide), ← hv]; rfl)
    have hlay := lay_dst (l := l) (s := s) (r := r) (p := p) hw (PM_of hk) (co_of hk) (rt P t) (vw 51 i 0 8)
    have hd2 : dst (pN P) (pL P) (mem P) (cst P) (bt (vw 51 i 0 8)) (rt P t) = D := hD
    rw [hd2] at hlay
    refine ⟨nI (wdm D (pN P)), j, l, ov (pT (u2 j 82 2 (nI 0))) 119 0 7 D, l, ?_, ?_, INV_ov hk⟩
    · simp only [GT_wide_eq, cTree_ok hp hw hPC, h1, a0, crI_t, crV_t, crL_t, ifc_b, Bool.false_eq_true, if_false, if_true]
      have hlp := upto (fun n => GT_wide_28 (nI t) (nI (wdm D n)) (nI n) (j, l, Rp s r p)) (pN P) (fun n hn => by
        show GT_wide_28 _ _ _ _ = GT_wide_28 _ _ _ _
        have hwd := wdm_99 D n
        have hdn := hD99 n
        have e43 : j 43 (t * 7 + n) = nI (D n) := by
          rw [show t * 7 + n = 7 * t + n by omega, ← hD]; exact (a2 t n (by omega) hn).1
        rw [GT_wide_28_eq _ _ _ _ _ _ _ _ hp, show j p 11 = nI (pN P) from (PC_of hj).1 11 (by omega) (by omega)]
        simp (disch := omega) only [nI_mul, nI_add, nI_clamp, gd_in, gd_0, gd_1, gd_b, gd_n0, ifc_lt, ifc_eq, ifc_neg, ifc_z, ifc_pos, ifc_b, if_pos, if_neg, crV_t, crI_t, crL_t, ifc_True, ifc_False, if_true, if_false, e43]
        rw [show wdm D (n + 1) = if D n < 99 then (if wdm D n < D n then D n else wdm D n) else wdm D n from rfl]
        by_cases h99 : D n < 99
        · rw [if_pos h99, if_pos h99]
          unfold mxI
          by_cases hm : wdm D n < D n
          · rw [if_pos (nI_lt hm (by omega)), if_pos hm]
          · rw [if_neg (nI_nlt (by omega) (by omega)), if_neg hm]
        · rw [if_neg h99, if_neg h99]) 0 (by omega)
      refine (show GT_wide_28 (nI t) (nI 0) (nI 0) (j, l, Rp s r p) = _ from hlp).trans ?_
      show GT_wide_28 _ _ _ _ = _
      rw [GT_wide_28_eq _ _ _ _ _ _ _ _ hp, show j p 11 = nI (pN P) from (PC_of hj).1 11 (by omega) (by omega), ifc_f (nI_nlt (Nat.le_refl _) (by omega))]
    · simp only [Mo_wide_eq, rTree_ok hw (PM_of (INV_th hj)), h1, plainT_ok, rootOf_ok hw (PM_of hk) (show t ≤ pS P by omega), crI_t, crV_t, crL_t, ifc_b, Bool.false_eq_true, if_false, if_true]
      simp (disch := omega) only [gd_in, nI_clamp, e8, hlay, crV_t]
      have hlp := upto (fun n => Mo_wide_38 (nI (wdm D n)) (nI n) (ov (pT (u2 j 82 2 (nI 0))) 119 0 7 D, l, Rp s r p)) (pN P) (fun n hn => by
        show Mo_wide_38 _ _ _ = Mo_wide_38 _ _ _
        have hwd := wdm_99 D n
        have hdn := hD99 n
        rw [Mo_wide_38_eq, (PM_of (INV_ov hk)).1.1]
        simp (disch := omega) only [nI_mul, nI_add, nI_clamp, gd_in, gd_0, gd_1, gd_b, gd_n0, ifc_lt, ifc_eq, ifc_neg, ifc_z, ifc_pos, ifc_b, if_pos, if_neg, crV_t, crI_t, crL_t, ifc_True, ifc_False, if_true, if_false, ov_0]
        rw [show wdm D (n + 1) = if D n < 99 then (if wdm D n < D n then D n else wdm D n) else wdm D n from rfl]
        by_cases h99 : D n < 99
        · rw [if_pos h99, if_pos h99]
          by_cases hm : wdm D n < D n
          · rw [if_pos hm, if_pos hm]
          · rw [if_neg hm, if_neg hm]
        · rw [if_neg h99, if_neg h99]) 0 (by omega)
      refine (show Mo_wide_38 (nI 0) (nI 0) _ = _ from hlp).trans ?_
      show Mo_wide_38 _ _ _ = _
      rw [Mo_wide_38_eq, (PM_of (INV_ov hk)).1.1, ifc_f (nI_nlt (Nat.le_refl _) (by omega))]
theorem bsa_neg {q : Option (Nat × Nat)} (h : ∀ u, q = some u → u.1 < 7 ∧ u.2 ≤ 693) {α : Type} (x y : Option α) : ifc (bsa q < 0) x y = match q with
    | none => x
    | some _ => y := by
  cases q with
  | none => exact ifc_t (nM_neg (by omega) (by omega))
  | some u => exact ifc_f (nI_pos (by have := h u rfl; omega))
theorem best_pr (h : INV P i l s r p) (x1 : Int32) : PrI (GT_best x1) (Mo_best x1) P i l s r p := by
  obtain ⟨hp0, hr, hw, hPC, hPM, hNI, hs, hS, hdr, hco, hrest⟩ := id h
  have hp : p = 7 ∨ p = 27 := by omega
  have h7 := hw.1.1
  have h8 := hw.1.2.1
  have h3 := hw.1.2.2.1
  have hth := INV_th h
  have hin : ∀ (a b : Option (Option Value × AM)), ifc (x1 < 0) a (ifc (nI 1 < x1) a b) = if isn 2 x1 = true then b else a := fun a b => ifc_isn2 (by decide) x1 a b
  cases h1 : isn 2 x1
  · refine ⟨nM 1, i, l, _, l, ?_, ?_, hth⟩
    · simp only [GT_best_eq, hin, h1, crI_t, crV_t, crL_t, ifc_b, Bool.false_eq_true, if_false, if_true]
    · simp only [Mo_best_eq, rIn_ok (show 1 + 1 < 2 ^ 31 by decide), h1, crI_t, crV_t, crL_t, ifc_b, Bool.false_eq_true, if_false, if_true]
  · obtain ⟨w, hw2, rfl⟩ := isn_t h1
    have hbr := fun q h => bst_r (P := P) (σ := vw 51 i) h7 q h
    have hsl : ∀ r, smL (vw 51 i 0 7) (dst (pN P) (pL P) (mem P) (cst P) (bt (vw 51 i 0 8)) (nI r)) (pN P) ≤ 693 := fun r => by
      have := smL_le (m := vw 51 i 0 7) (D := dst (pN P) (pL P) (mem P) (cst P) (bt (vw 51 i 0 8)) (nI r)) (fun n => itr_99 _ _ _ _ _ _ _ _) (pN P)
      omega
    have smS : ∀ m D n, smL m D (n + 1) = smL m D n + (if bt m n then D n else 0) := fun _ _ _ => rfl
    have upd : ∀ q, q < pN P → ∀ (X : Int32 → Int32 → Option (Option Value × AM)), ifc (bsa (bst P (vw 51 i) q) < 0) (X (nI q) (nI (smL (vw 51 i 0 7) (dst (pN P) (pL P) (mem P) (cst P) (bt (vw 51 i 0 8)) (nI q)) (pN P)))) (ifc (nI (smL (vw 51 i 0 7) (dst (pN P) (pL P) (mem P) (cst P) (bt (vw 51 i 0 8)) (nI q)) (pN P)) < bsc (bst P (vw 51 i) q)) (X (nI q) (nI (smL (vw 51 i 0 7) (dst (pN P) (pL P) (mem P) (cst P) (bt (vw 51 i 0 8)) (nI q)) (pN P)))) (X (bsa (bst P (vw 51 i) q)) (bsc (bst P (vw 51 i) q)))) = X (bsa (bst P (vw 51 i) (q + 1))) (bsc (bst P (vw 51 i) (q + 1))) := fun q hq X => by
      have hsq := hsl q
      have e : bst P (vw 51 i) (q + 1) = bsu (bst P (vw 51 i) q) q (smL (vw 51 i 0 7) (dst (pN P) (pL P) (mem P) (cst P) (bt (vw 51 i 0 8)) (nI q)) (pN P)) := rfl
      rw [e]
      generalize smL (vw 51 i 0 7) (dst (pN P) (pL P) (mem P) (cst P) (bt (vw 51 i 0 8)) (nI q)) (pN P) = sm at hsq
      have hb := hbr q
      cases hq2 : bst P (vw 51 i) q with
      | none => exact ifc_t (nM_neg (by omega) (by omega))
      | some u =>
        obtain ⟨a, c⟩ := u
        have hac := hb (a, c) (by omega) hq2
        simp only at hac
        show ifc (nI a < 0) _ (ifc (nI sm < nI c) (X (nI q) (nI sm)) (X (nI a) (nI c))) = _
        rw [ifc_neg (by omega), ifc_lt (by omega) (by omega)]
        unfold bsu
        simp only
        by_cases hlt : sm < c
        · rw [if_pos hlt, if_pos hlt]; rfl
        · rw [if_neg hlt, if_neg hlt]; rfl
    have hC := loop_ex (F := fun q (j : Nat → Nat → Int32) => GT_best_20 (nI w) (bsa (bst P (vw 51 i) q)) (bsc (bst P (vw 51 i) q)) (nI q) (j, l, Rp s r p)) (I9 := fun _ j => ∀ a, a ≠ 81 → j a = i a) (n := pN P) (fun q j hq hI => by
      have hPj : PC P p j := PC_fr hPC (fun a ha => hI _ (by omega))
      have hN : ∀ D, ov j 81 0 (pN P) D p 11 = nI (pN P) := fun D => by rw [ov_c (by omega)]; exact hPj.1 11 (by omega) (by omega)
      have hsp := spread_ok (i := j) (l := l) (p := p) (o1 := p + 2) (a := 81) (b := 0) (N := pN P) (L := pL P) (x2 := i 51 8) (root := nI q) (mem := mem P) (cost := cst P) (s := s) (r := r) (q := p) (by omega) (hPj.1 11 (by omega) (by omega)) h7 (hPj.1 12 (by omega) (by omega)) h8 (by show 0 + pN P ≤ 7; omega) (fun k hk => (hPj.2.2.2.1 k hk).2) (fun k hk => (hPj.2.2.2.1 k hk).1) (fun k hk => (PC_costs (i := i) hw k hk).1) (fun k hk => (PC_costs (i := i) hw k hk).2)
      have hse := upd q hq (fun x y => GT_best_20 (nI w) x y (nI (q + 1)) (ov j 81 0 (pN P) (dst (pN P) (pL P) (mem P) (cst P) (bt (vw 51 i 0 8)) (nI q)), l, Rp s r p))
      generalize hDD : dst (pN P) (pL P) (mem P) (cst P) (bt (vw 51 i 0 8)) (nI q) = D at *
      have hDD' : dst (pN P) (pL P) (mem P) (cst P) (bt (i 51 8)) (nI q) = D := hDD
      rw [hDD'] at hsp
      have hD9 : ∀ n, D n ≤ 99 := fun n => by rw [← hDD]; exact itr_99 _ _ _ _ _ _ _ _
      refine ⟨ov j 81 0 (pN P) D, ?_, fun a ha => (ov_c ha).trans (hI a ha)⟩
      show GT_best_20 (nI w) (bsa (bst P (vw 51 i) q)) (bsc (bst P (vw 51 i) q)) (nI q) (j, l, Rp s r p) = _
      rw [GT_best_20_eq _ _ _ _ _ _ _ _ _ hp, show j p 11 = nI (pN P) from hPj.1 11 (by omega) (by omega), ifc_t (nI_lt hq (by omega)), show j 51 8 = i 51 8 by rw [hI 51 (by decide)], hsp, crV_t]
      have hlp := upto (fun n => GT_best_75 (nI w) (bsa (bst P (vw 51 i) q)) (bsc (bst P (vw 51 i) q)) (nI q) (nI (smL (vw 51 i 0 7) D n)) (nI n) (ov j 81 0 (pN P) D, l, Rp s r p)) (pN P) (fun n hn => by
        show GT_best_75 _ _ _ _ _ _ _ = GT_best_75 _ _ _ _ _ _ _
        have e7 : ov j 81 0 (pN P) D 51 7 = vw 51 i 0 7 := by rw [ov_c (by decide), hI 51 (by decide)]; rfl
        rw [GT_best_75_eq _ _ _ _ _ _ _ _ _ _ _ hp, hN, e7, bitn _ (by omega), smS]
        simp (disch := omega) only [nI_mul, nI_add, nI_clamp, gd_in, gd_0, gd_1, gd_b, gd_n0, ifc_lt, ifc_eq, ifc_neg, ifc_z, ifc_pos, ifc_b, if_pos, if_neg, crV_t, crI_t, crL_t, ifc_True, ifc_False, if_true, if_false, ov_0]
        cases bt (vw 51 i 0 7) n
        · simp only [Bool.false_eq_true, if_false, Nat.zero_mul]
        · simp only [if_true, Nat.one_mul]) 0 (by omega)
      refine (show GT_best_75 (nI w) (bsa (bst P (vw 51 i) q)) (bsc (bst P (vw 51 i) q)) (nI q) (nI 0) (nI 0) (ov j 81 0 (pN P) D, l, Rp s r p) = _ from hlp).trans ?_
      show GT_best_75 _ _ _ _ _ _ _ = _
      rw [GT_best_75_eq _ _ _ _ _ _ _ _ _ _ _ hp, hN, ifc_f (nI_nlt (Nat.le_refl _) (by omega)), nI_add]
      exact hse) 0 i (by omega) (fun _ _ => rfl)
    obtain ⟨j1, q0, q1⟩ := hC
    have f1 : fr qS i j1 := fun a k hq => by rw [q1 a (fun e => by subst e; simp [qS] at hq)]
    have hj : INV P j1 l s r p := INV_S h (SCR_cmp h f1 (by
      unfold NetI NetOk NR
      rw [q1 26 (by decide), q1 43 (by decide), q1 44 (by decide), q1 45 (by decide)]
      exact hNI) (by rw [q1 74 (by decide)]) (q1 80 (by decide)) (by rw [q1 82 (by decide)]) (lS_refl _))
    have hk := INV_pT (INV_th hj)
    have fk : fr qS i (pT (u2 j1 82 2 (nI 0))) := fr_trans f1 (fr_trans th_fr pT_fr)
    have hR := loop_ex (F := fun q (j : Nat → Nat → Int32) => Mo_best_29 (nI w) (bsa (bst P (vw 51 i) q)) (bsc (bst P (vw 51 i) q)) (nI q) (j, l, Rp s r p)) (I9 := fun _ j => INV P j l s r p ∧ fr qS i j) (n := pN P) (fun q j hq hI => by
      obtain ⟨hIj, hf⟩ := hI
      have e8 : j 108 0 = vw 51 i 0 8 := (SM0_of hIj).1.trans (congrFun (vw51_S hf 0 (by omega)) 8)
      have e7 : j 109 0 = vw 51 i 0 7 := (SM0_of hIj).2.1.trans (congrFun (vw51_S hf 0 (by omega)) 7)
      have hlay := lay_dst (l := l) (s := s) (r := r) (p := p) hw (PM_of hIj) (co_of hIj) (nI q) (vw 51 i 0 8)
      have hse := upd q hq (fun x y => Mo_best_29 (nI w) x y (nI (q + 1)) (ov j 119 0 7 (dst (pN P) (pL P) (mem P) (cst P) (bt (vw 51 i 0 8)) (nI q)), l, Rp s r p))
      have hIo : INV P (ov j 119 0 7 (dst (pN P) (pL P) (mem P) (cst P) (bt (vw 51 i 0 8)) (nI q))) l s r p := INV_ov hIj
      generalize hDD : dst (pN P) (pL P) (mem P) (cst P) (bt (vw 51 i 0 8)) (nI q) = D at *
      refine ⟨ov j 119 0 7 D, ?_, hIo, fr_trans hf (fr_ov (fun k => rfl))⟩
      show Mo_best_29 (nI w) (bsa (bst P (vw 51 i) q)) (bsc (bst P (vw 51 i) q)) (nI q) (j, l, Rp s r p) = _
      rw [Mo_best_29_eq, (PM_of hIj).1.1, ifc_t (nI_lt hq (by omega)), gd_in (by omega) (by omega), nI_clamp (by omega), e8, hlay, crV_t]
      have hlp := upto (fun n => Mo_best_56 (nI w) (bsa (bst P (vw 51 i) q)) (bsc (bst P (vw 51 i) q)) (nI q) (nI (smL (vw 51 i 0 7) D n)) (nI n) (ov j 119 0 7 D, l, Rp s r p)) (pN P) (fun n hn => by
        show Mo_best_56 _ _ _ _ _ _ _ = Mo_best_56 _ _ _ _ _ _ _
        have e7' : ov j 119 0 7 D 109 0 = vw 51 i 0 7 := by rw [ov_c (by decide)]; exact e7
        rw [Mo_best_56_eq, (PM_of hIo).1.1, smS]
        simp (disch := omega) only [nI_mul, nI_add, nI_clamp, gd_in, gd_0, gd_1, gd_b, gd_n0, ifc_lt, ifc_eq, ifc_neg, ifc_z, ifc_pos, ifc_b, if_pos, if_neg, crV_t, crI_t, crL_t, ifc_True, ifc_False, if_true, if_false, e7', isOf_ok, ov_0]
        cases bt (vw 51 i 0 7) n
        · simp only [Bool.false_eq_true, if_false]
        · simp only [if_true]) 0 (by omega)
      refine (show Mo_best_56 (nI w) (bsa (bst P (vw 51 i) q)) (bsc (bst P (vw 51 i) q)) (nI q) (nI 0) (nI 0) (ov j 119 0 7 D, l, Rp s r p) = _ from hlp).trans ?_
      show Mo_best_56 _ _ _ _ _ _ _ = _
      rw [Mo_best_56_eq, (PM_of hIo).1.1, ifc_f (nI_nlt (Nat.le_refl _) (by omega)), nI_add]
      exact hse) 0 (pT (u2 j1 82 2 (nI 0))) (by omega) ⟨hk, fk⟩
    obtain ⟨j2, r0, r1, r2⟩ := hR
    refine ⟨if w = 0 then bsa (bst P (vw 51 i) (pN P)) else bsc (bst P (vw 51 i) (pN P)), j1, l, j2, l, ?_, ?_, r1⟩
    · have q0' : GT_best_20 (nI w) (nM 2) (nM 2) (nI 0) (i, l, Rp s r p) = GT_best_20 (nI w) (bsa (bst P (vw 51 i) (pN P))) (bsc (bst P (vw 51 i) (pN P))) (nI (pN P)) (j1, l, Rp s r p) := q0
      simp only [GT_best_eq, hin, h1, q0', crI_t, crV_t, crL_t, ifc_b, Bool.false_eq_true, if_false, if_true]
      rw [GT_best_20_eq _ _ _ _ _ _ _ _ _ hp, show j1 p 11 = nI (pN P) from (PC_of hj).1 11 (by omega) (by omega), ifc_f (nI_nlt (Nat.le_refl _) (by omega)), ifc_z (by omega)]
      by_cases w0 : w = 0
      · rw [if_pos w0, if_pos w0]
      · rw [if_neg w0, if_neg w0]
    · have r0' : Mo_best_29 (nI w) (nM 2) (nM 2) (nI 0) (pT (u2 j1 82 2 (nI 0)), l, Rp s r p) = Mo_best_29 (nI w) (bsa (bst P (vw 51 i) (pN P))) (bsc (bst P (vw 51 i) (pN P))) (nI (pN P)) (j2, l, Rp s r p) := r0
      simp only [Mo_best_eq, rIn_ok (show 1 + 1 < 2 ^ 31 by decide), h1, plainT_ok, r0', crI_t, crV_t, crL_t, ifc_b, Bool.false_eq_true, if_false, if_true]
      rw [Mo_best_29_eq, (PM_of r1).1.1, ifc_f (nI_nlt (Nat.le_refl _) (by omega)), ifc_z (by omega)]
      by_cases w0 : w = 0
      · rw [if_pos w0, if_pos w0]
      · rw [if_neg w0, if_neg w0]
end
end

section
/-! way, count -/
noncomputable def wyb (P : PL) (σ : ST) (t : Nat) : Nat → Nat → Int32 → Int32
  | 0, n, acc => stb acc n
  | f + 1, n, acc => match upo P σ t n with
    | none => stb acc n
    | some u => wyb P σ t f u.2 (stb acc n)
noncomputable def clo (P : PL) (σ : ST) (t n : Nat) : Nat := cnt (fun q => decide (fd P (σ 0 8) t q < fd P (σ 0 8) t n)) (pN P)
theorem clo_up {P : PL} {σ : ST} {t n : Nat} {u : Nat × Nat} (hw : pwf P) (h : upo P σ t n = some u) : clo P σ t u.2 < clo P σ t n := by
  obtain ⟨u1, u2, _, _, _, u6⟩ := upo_some h
  have hc := (hw.2.2.2.1 u.1 u1).1
  refine cnt_mono_lt (pN P) u.2 u2 (fun k _ hk => ?_) ?_ ?_
  · have := of_decide_eq_true hk
    exact decide_eq_true (by omega)
  · exact decide_eq_false (by omega)
  · exact decide_eq_true (by omega)
theorem clo_lt {P : PL} {σ : ST} {t n : Nat} (hn : n < pN P) : clo P σ t n < pN P := cnt_lt _ (pN P) n hn (decide_eq_false (by omega))
section
variable {P : PL} {i : Nat → Nat → Int32} {l : Nat → Nat → Int64} {s r p : Nat}
theorem way_pr (h : INV P i l s r p) (x1 x2 : Int32) : PrI (GT_way x1 x2) (Mo_way x1 x2) P i l s r p := by
  obtain ⟨hp0, hr, hw, hPC, hPM, hNI, hs, hS, hdr, hco, hrest⟩ := id h
  have hp : p = 7 ∨ p = 27 := by omega
  have h7 := hw.1.1
  have h8 := hw.1.2.1
  have h3 := hw.1.2.2.1
  have hth := INV_th h
  cases h1 : isn (pS P + 1) x1
  · refine ⟨nM 1, i, l, _, l, ?_, ?_, hth⟩
    · simp only [GT_way_eq, cTree_ok hp hw hPC, h1, crI_t, crV_t, crL_t, ifc_b, Bool.false_eq_true, if_false, if_true]
    · simp only [Mo_way_eq, rTree_ok hw (PM_of hth), h1, crI_t, crV_t, crL_t, ifc_b, Bool.false_eq_true, if_false, if_true]
  · cases h2 : isn (pN P) x2
    · refine ⟨nM 1, i, l, _, l, ?_, ?_, hth⟩
      · simp only [GT_way_eq, cTree_ok hp hw hPC, cNode_ok hp hw hPC, h1, h2, crI_t, crV_t, crL_t, ifc_b, Bool.false_eq_true, if_false, if_true]
      · simp only [Mo_way_eq, rTree_ok hw (PM_of hth), rNode_ok hw (PM_of hth), h1, h2, crI_t, crV_t, crL_t, ifc_b, Bool.false_eq_true, if_false, if_true]
    · obtain ⟨t, ht, rfl⟩ := isn_t h1
      obtain ⟨n, hn, rfl⟩ := isn_t h2
      obtain ⟨j, a0, a1, a2, a3⟩ := meas_ok h
      have hj := INV_S h a1
      have hv : vw 51 j = vw 51 i := vw_net (Or.inl rfl) a3
      have e43 : j 43 (t * 7 + n) = nI (fd P (vw 51 i 0 8) t n) := by
        rw [show t * 7 + n = 7 * t + n by omega]; exact (a2 t n (by omega) hn).1
      have h99 := fd_99 P (vw 51 i 0 8) t n
      have clm : ∀ q (lf : Nat → Nat → Int64), q < pN P → ∃ l', Net_climb 51 (nI t) (nI q) (j, lf, Rp s r p) = some (some (.int (upc (upo P (vw 51 i) t q))), (j, l', Rp s r p)) ∧ ∀ a, a ≠ 46 → l' a = lf a := by
        intro q lf hq
        have h1 := climb_ok (i := j) (l := lf) (s := s) (r := r) (t := t) (n := q) (Or.inl rfl) hp hw (PC_of hj) (swf_of hj) (by omega) hq a2
        have e : (fun a => j (51 + a)) = vw 51 i := hv
        rw [e] at h1
        exact h1
      have cw : ∀ f q k acc (lf : Nat → Nat → Int64), q < pN P → clo P (vw 51 i) t q ≤ f → k + f ≤ 6 → (∀ a, a ≠ 46 → lf a = l a) → ∃ l', GT_way_76 (nI t) (stb acc q) (upc (upo P (vw 51 i) t q)) (nI k) (j, lf, Rp s r p) = some (some (.int (wyb P (vw 51 i) t f q acc)), (j, l', Rp s r p)) ∧ ∀ a, a ≠ 46 → l' a = l a := by
        intro f
        induction f with
        | zero =>
          intro q k acc lf hq hc hk hl
          cases hu : upo P (vw 51 i) t q with
          | none =>
            rw [GT_way_76_eq, ifc_t (nI_lt (by omega) (by omega)), ifc_t (show upc none < 0 from nM_neg (by omega) (by omega))]
            exact ⟨lf, rfl, hl⟩
          | some u => have := clo_up hw hu; omega
        | succ f ih =>
          intro q k acc lf hq hc hk hl
          unfold wyb
          cases hu : upo P (vw 51 i) t q with
          | none =>
            rw [GT_way_76_eq, ifc_t (nI_lt (by omega) (by omega)), ifc_t (show upc none < 0 from nM_neg (by omega) (by omega))]
            exact ⟨lf, rfl, hl⟩
          | some u =>
            obtain ⟨u1, u2', _⟩ := upo_some hu
            have hcl := clo_up hw hu
            have e1 : (8 * u.1 + u.2) % 8 = u.2 := by omega
            obtain ⟨l2, c1, c2⟩ := clm u.2 lf u2'
            rw [show upc (some u) = nI (8 * u.1 + u.2) from rfl, GT_way_76_eq, ifc_t (nI_lt (by omega) (by omega)), ifc_neg (by omega), nI_mod (by omega) (by omega) (by omega), e1, gd_n0 (by omega) (by omega), gd_n0 (by omega) (by omega), c1, crI_t, nI_add]
            exact ih u.2 (k + 1) (stb acc q) l2 u2' (by omega) (by omega) (fun a ha => (c2 a ha).trans (hl a ha))
      have hcl0 := clo_lt (P := P) (σ := vw 51 i) (t := t) hn
      by_cases hf : fd P (vw 51 i 0 8) t n < 99
      · obtain ⟨l2, c1, c2⟩ := clm n l hn
        obtain ⟨l3, d1, d2⟩ := cw 6 n 0 (nI 0) l2 hn (by omega) (by omega) c2
        have hj3 : INV P j l3 s r p := INV_S hj (SCR_cmp hj (fr_refl _ _) hj.2.2.2.2.2.1 rfl rfl rfl (lS_46 d2))
        have hk := INV_pT (INV_th hj3)
        have fk : fr qS i (pT (u2 j 82 2 (nI 0))) := fr_trans a1.1 (fr_trans th_fr pT_fr)
        have e8 : pT (u2 j 82 2 (nI 0)) 108 0 = vw 51 i 0 8 := (SM0_of hk).1.trans (congrFun (vw51_S fk 0 (by omega)) 8)
        have hk2 : INV P (ov (pT (u2 j 82 2 (nI 0))) 119 0 7 (fd P (vw 51 i 0 8) t)) l3 s r p := INV_ov hk
        have fk2 : fr qS i (ov (pT (u2 j 82 2 (nI 0))) 119 0 7 (fd P (vw 51 i 0 8) t)) := fr_trans fk (fr_ov (fun k => rfl))
        have rwy : ∀ f q acc (g : Nat → Nat → Int32) (lf : Nat → Nat → Int64), q < pN P → clo P (vw 51 i) t q ≤ f → INV P g lf s r p → fr qS i g → ∃ g' l', Mo_way_47 (nI t) acc (nI q) (g, lf, Rp s r p) = some (some (.int (wyb P (vw 51 i) t f q acc)), (g', l', Rp s r p)) ∧ INV P g' l' s r p := by
          have step : ∀ q (g : Nat → Nat → Int32) (lf : Nat → Nat → Int64), q < pN P → INV P g lf s r p → fr qS i g → ∃ g' l', Mo_upLink (nI 0) (nI t) (nI q) (g, lf, Rp s r p) = some (some (.int (lnk (upo P (vw 51 i) t q))), (g', l', Rp s r p)) ∧ g' 82 76 = ndo (upo P (vw 51 i) t q) ∧ INV P g' l' s r p ∧ fr qS i g' := by
            intro q g lf hq hg hfg
            obtain ⟨l4, e, z1, z2⟩ := upLink_ok (l := lf) (s := s) (r := r) (p := p) (b := 0) hw (PM_of hg) (swf_of hg) (SM0_of hg) (co_of hg) (by omega) (show t ≤ pS P by omega) hq
            have eu : upl P (fd P (vw 51 g 0 8) t) (bt (vw 51 g 0 8)) (mtv P (fd P (vw 51 g 0 8) t) (vw 51 g) t) q = upo P (vw 51 i) t q := (show _ = upo P (vw 51 g) t q from rfl).trans (upo_ueq (ueq_S hfg) t q)
            rw [eu] at z1
            exact ⟨_, l4, z1, mU_76, INV_S hg (SCR_ref hg fr_mU_S (fun a ha => mU_r (by omega) (by omega)) ((mU_k (by decide) (by decide)).trans (co_of hg)) (lS_67 z2)), fr_trans hfg fr_mU_S⟩
          intro f
          induction f with
          | zero =>
            intro q acc g lf hq hc hg hfg
            obtain ⟨g', l', z1, z2, z3, z4⟩ := step q g lf hq hg hfg
            cases hu : upo P (vw 51 i) t q with
            | none =>
              rw [hu] at z2
              rw [Mo_way_47_eq, ifc_neg (by omega), z1, crI_t, z2, Mo_way_47_eq, ifc_t (show ndo none < 0 from nM_neg (by omega) (by omega))]
              exact ⟨g', l', rfl, z3⟩
            | some u => have := clo_up hw hu; omega
          | succ f ih =>
            intro q acc g lf hq hc hg hfg
            obtain ⟨g', l', z1, z2, z3, z4⟩ := step q g lf hq hg hfg
            unfold wyb
            cases hu : upo P (vw 51 i) t q with
            | none =>
              rw [hu] at z2
              rw [Mo_way_47_eq, ifc_neg (by omega), z1, crI_t, z2, Mo_way_47_eq, ifc_t (show ndo none < 0 from nM_neg (by omega) (by omega))]
              exact ⟨g', l', rfl, z3⟩
            | some u =>
              obtain ⟨u1, u2', _⟩ := upo_some hu
              have hcl := clo_up hw hu
              rw [hu] at z2
              rw [Mo_way_47_eq, ifc_neg (by omega), z1, crI_t, z2]
              exact ih u.2 (stb acc q) g' l' u2' (by omega) z3 z4
        obtain ⟨g', l', z1, z2⟩ := rwy 6 n (nI 0) _ l3 hn (by omega) hk2 fk2
        refine ⟨wyb P (vw 51 i) t 6 n (nI 0), j, l3, g', l', ?_, ?_, z2⟩
        · simp only [GT_way_eq, cTree_ok hp hw hPC, cNode_ok hp hw hPC, h1, h2, a0, c1, crI_t, crV_t, crL_t, ifc_b, Bool.false_eq_true, if_false, if_true]
          simp (disch := omega) only [nI_mul, nI_add, nI_clamp, gd_in, gd_0, gd_1, gd_b, gd_n0, ifc_lt, ifc_eq, ifc_neg, ifc_z, ifc_pos, ifc_b, if_pos, if_neg, crV_t, crI_t, crL_t, ifc_True, ifc_False, if_true, if_false, e43]
          have e0 : stb (nI 0) n = nI 1 <<< (nI n &&& 31) := by
            apply b_ext
            intro k hk
            rw [bt_stb _ (by omega) hk, nI_0, b_0, Bool.false_or, bt_mask (by omega) hk]
          rw [← e0]
          exact d1
        · simp only [Mo_way_eq, rTree_ok hw (PM_of (INV_th hj3)), rNode_ok hw (PM_of (INV_th hj3)), h1, h2, plainT_ok, farOf_ok hw (PM_of hk) pT_73 (show 0 < 2 by omega) e8 (show t ≤ pS P by omega) (show n < 7 by omega), crI_t, crV_t, crL_t, ifc_b, Bool.false_eq_true, if_false, if_true]
          rw [ifc_lt (by omega) (by omega), if_pos hf]
          exact z1
      · have hk := INV_pT (INV_th hj)
        have fk : fr qS i (pT (u2 j 82 2 (nI 0))) := fr_trans a1.1 (fr_trans th_fr pT_fr)
        have e8 : pT (u2 j 82 2 (nI 0)) 108 0 = vw 51 i 0 8 := (SM0_of hk).1.trans (congrFun (vw51_S fk 0 (by omega)) 8)
        refine ⟨nM 2, j, l, ov (pT (u2 j 82 2 (nI 0))) 119 0 7 (fd P (vw 51 i 0 8) t), l, ?_, ?_, INV_ov hk⟩
        · simp only [GT_way_eq, cTree_ok hp hw hPC, cNode_ok hp hw hPC, h1, h2, a0, crI_t, crV_t, crL_t, ifc_b, Bool.false_eq_true, if_false, if_true]
          simp (disch := omega) only [nI_mul, nI_add, nI_clamp, gd_in, gd_0, gd_1, gd_b, gd_n0, ifc_lt, ifc_eq, ifc_neg, ifc_z, ifc_pos, ifc_b, if_pos, if_neg, crV_t, crI_t, crL_t, ifc_True, ifc_False, if_true, if_false, e43]
        · simp only [Mo_way_eq, rTree_ok hw (PM_of (INV_th hj)), rNode_ok hw (PM_of (INV_th hj)), h1, h2, plainT_ok, farOf_ok hw (PM_of hk) pT_73 (show 0 < 2 by omega) e8 (show t ≤ pS P by omega) (show n < 7 by omega), crI_t, crV_t, crL_t, ifc_b, Bool.false_eq_true, if_false, if_true]
          rw [ifc_lt (by omega) (by omega), if_neg hf]
theorem csum_ok {o0 : Nat} (hj : o0 = 53 ∨ o0 = 54 ∨ o0 = 55 ∨ o0 = 67 ∨ o0 = 68 ∨ o0 = 69) : GT_sum o0 (i, l, Rp s r p) = some (some (.int (smI (i o0) 7)), (i, l, Rp s r p)) := by
  have h := upto (fun n => GT_sum_4 o0 (smI (i o0) n) (nI n) (i, l, Rp s r p)) 7 (fun n hn => by
    show GT_sum_4 _ _ _ _ = GT_sum_4 _ _ _ _
    rw [GT_sum_4_eq _ _ _ _ _ _ _ _ hj]
    simp (disch := omega) only [nI_mul, nI_add, nI_clamp, gd_in, gd_0, gd_1, gd_b, gd_n0, ifc_lt, ifc_eq, ifc_neg, ifc_z, ifc_pos, ifc_b, if_pos, if_neg, crV_t, crI_t, crL_t, ifc_True, ifc_False, if_true, if_false]
    rfl) 0 (by omega)
  rw [GT_sum_eq _ _ _ _ _ _ hj]
  refine (show GT_sum_4 o0 (nI 0) (nI 0) (i, l, Rp s r p) = _ from h).trans ?_
  show GT_sum_4 _ _ _ _ = _
  rw [GT_sum_4_eq _ _ _ _ _ _ _ _ hj, ifc_f (by decide)]
theorem rsum_ok {o0 b : Nat} (hj : o0 = 112 ∨ o0 = 113 ∨ o0 = 114) (hb : b < 2) : Mo_sumOf o0 (nI b) (i, l, Rp s r p) = some (some (.int (smI (fun k => i o0 (7 * b + k)) 7)), (i, l, Rp s r p)) := by
  have h := upto (fun n => Mo_sumOf_4 o0 (nI b) (smI (fun k => i o0 (7 * b + k)) n) (nI n) (i, l, Rp s r p)) 7 (fun n hn => by
    show Mo_sumOf_4 _ _ _ _ _ = Mo_sumOf_4 _ _ _ _ _
    rw [Mo_sumOf_4_eq _ _ _ _ _ _ _ _ _ hj]
    simp (disch := omega) only [nI_mul, nI_add, nI_clamp, gd_in, gd_0, gd_1, gd_b, gd_n0, ifc_lt, ifc_eq, ifc_neg, ifc_z, ifc_pos, ifc_b, if_pos, if_neg, crV_t, crI_t, crL_t, ifc_True, ifc_False, if_true, if_false]
    rfl) 0 (by omega)
  rw [Mo_sumOf_eq _ _ _ _ _ _ _ hj]
  refine (show Mo_sumOf_4 o0 (nI b) (nI 0) (nI 0) (i, l, Rp s r p) = _ from h).trans ?_
  show Mo_sumOf_4 _ _ _ _ _ = _
  rw [Mo_sumOf_4_eq _ _ _ _ _ _ _ _ _ hj, ifc_f (by decide)]
theorem many_ok {x : Int32} : Mo_manyOf x (i, l, Rp s r p) = some (some (.int (nI (cnt (bt x) 8))), (i, l, Rp s r p)) := by
  have h := upto (fun n => Mo_manyOf_4 x (nI (cnt (bt x) n)) (nI n) (i, l, Rp s r p)) 8 (fun n hn => by
    show Mo_manyOf_4 _ _ _ _ = Mo_manyOf_4 _ _ _ _
    rw [Mo_manyOf_4_eq, ifc_t (nI_lt hn (by omega)), bitn x (by omega), nI_add, nI_add]
    rfl) 0 (by omega)
  rw [Mo_manyOf_eq]
  refine (show Mo_manyOf_4 x (nI 0) (nI 0) (i, l, Rp s r p) = _ from h).trans ?_
  show Mo_manyOf_4 _ _ _ _ = _
  rw [Mo_manyOf_4_eq, ifc_f (by decide)]
theorem heldAll_ok (hs : swf P (vw 51 i)) : State_heldInAll (i, l, Rp s r p) = some (some (.int (nI (cnt (fun j => decide (vw 51 i 5 j ≠ 0)) 224))), (i, l, Rp s r p)) := by
  have h := upto (fun n => State_heldInAll_4 (nI (cnt (fun j => decide (vw 51 i 5 j ≠ 0)) (8 * n))) (nI n) (i, l, Rp s r p)) 28 (fun n hn => by
    show State_heldInAll_4 _ _ _ = State_heldInAll_4 _ _ _
    rw [State_heldInAll_4_eq]
    simp (disch := omega) only [nI_mul, nI_add, nI_clamp, gd_in, gd_0, gd_1, gd_b, gd_n0, ifc_lt, ifc_eq, ifc_neg, ifc_z, ifc_pos, ifc_b, if_pos, if_neg, crV_t, crI_t, crL_t, ifc_True, ifc_False, if_true, if_false]
    have e57 : i 57 n = vw 51 i 6 n := rfl
    rw [e57, bitCount_ok (fun k hk hb => by
      rw [hs.2.1 n hn k hk] at hb
      by_cases h9 : k < 8
      · exact h9
      · rw [decide_eq_false h9] at hb; simp at hb), crI_t, nI_add, show 8 * (n + 1) = 8 * n + 8 by omega, cnt_add]
    rw [cnt_cg (f := bt (vw 51 i 6 n)) (g := fun k => decide (vw 51 i 5 (8 * n + k) ≠ 0)) 8 (fun k hk => by rw [hs.2.1 n hn k (by omega), decide_eq_true hk, Bool.true_and])]) 0 (by omega)
  rw [State_heldInAll_eq]
  refine (show State_heldInAll_4 (nI 0) (nI 0) (i, l, Rp s r p) = _ from h).trans ?_
  show State_heldInAll_4 _ _ _ = _
  rw [State_heldInAll_4_eq, ifc_f (by decide)]
theorem ifc_self {α : Type} {c : Prop} (x : Option α) : ifc c x x = x := by
  by_cases h : c
  · exact ifc_t h
  · exact ifc_f h
end
end
