section
/-! formulas: what may stand where a side is due -/
section
variable {i j : Nat → Nat → Int32} {l l2 : Nat → Nat → Int64} {s r p s2 r2 p2 : Nat} {c : Nat → Nat} {e m a : Nat} {kd nm : Nat → Nat} {b sz kn op : Nat} {W : List Nat} {mn : Bool}
theorem leaf129 {x1 : Int32} {z w : Nat} (h48 : j 82 48 = nI kn) (hkn : kn ≤ 64) (hx : x1 < 0 ∧ z = 0 ∧ j 82 9 = nI w ∨ ¬ x1 < 0 ∧ z = 1 ∧ x1 = nI w) :
    Mo_leafRead_129 x1 (j, l2, Rp s2 r2 p2) = crI (Mo_isCounted (j, l2, Rp s2 r2 p2)) (j, l2, Rp s2 r2 p2) (fun x_1 i_1 l_1 => ifc (x_1 = 0) (gd (isB (nI 0)) (some (some (.int (nI 0)), (i_1, l_1, Rp s2 r2 p2)))) (Mo_leafRead_160 (nI z) (nI w) (i_1, l_1, Rp s2 r2 p2))) := by
  rw [Mo_leafRead_129_eq]
  by_cases h64 : kn = 64
  · subst h64
    rw [count_f h48, crI_t, crI_t, ifc_00, ifc_00]
  · rw [count_t h48 (by omega), crI_t, crI_t, ifc_10, ifc_10]
    rcases hx with ⟨h1, h2, h3⟩ | ⟨h1, h2, h3⟩
    · rw [ifc_t h1, ifc_t h1, u2_o (by omega), h3, h2]
    · rw [ifc_f h1, ifc_f h1, h2, h3]
theorem leaf_j (hr : r = 7 ∨ r = 27) (t : TT c e m a i j) (hC : FC kd nm sz kn W r i) (hR : FR kd nm b sz kn op W true mn j) (hP : FP kd b sz kn op W true) (hmn : mn = decide (tpr W < 4)) {K : Nat} (hK : sK c e a = K) (h8 : ¬ (K = 29 ∧ op = 8)) :
    JJ (Reader_side (i, l, Rp s r p)) (Mo_leafRead (j, l2, Rp s2 r2 p2)) i j l l2 s r p s2 r2 p2 (NX c e m (a + 1) r b sz kd nm i j (if K = 29 then op + 1 else op) (decide (K = 29 ∨ K = 18))) := by
  obtain ⟨k1, k2, k3⟩ := TT_K t
  rw [hK] at k1 k2 k3
  have hkn := hP.2.1
  by_cases h29 : K = 29
  · rw [if_pos h29, show decide (K = 29 ∨ K = 18) = true by simp [h29]]
    exact leaf_open hr t hC hR hP (hK.trans h29) (fun x => h8 ⟨h29, x⟩)
  rw [if_neg h29]
  by_cases h18 : K = 18
  · rw [show decide (K = 29 ∨ K = 18) = true by simp [h18]]
    exact leaf_not hr t hC hR hP hmn (hK.trans h18)
  rw [show decide (K = 29 ∨ K = 18) = false by simp [h29, h18]]
  have eG : Mo_leafRead (j, l2, Rp s2 r2 p2) = Mo_leafRead_86 (j, l2, Rp s2 r2 p2) := by
    rw [Mo_leafRead_eq, show nI 40 = nI (sgc 29) from rfl, isSign_ok (by omega) k3, crI_t, show decide (K = 29) = false by simp [h29], ifc_t (show nI false.toNat = 0 from rfl), show nI 18 = nI (sw 18) from rfl, isKey_ok (by omega) k3, crI_t, show decide (K = 18) = false by simp [h18], ifc_t (show nI false.toNat = 0 from rfl)]
  rw [eG, Mo_leafRead_86_eq, Mo_nameMet_eq, Reader_side_eq, k1, ifc_eq (by omega) (by omega), if_neg h29, ifc_eq (by omega) (by omega), if_neg h18, ifc_eq (by omega) (by omega), ifc_lt (by omega) (by omega), ifc_lt (by omega) (by omega), ifc_if (kOk_1 k3)]
  by_cases h27 : K = 27
  · obtain ⟨v, v1, v2, v3⟩ := t.1.2.2.2.2.2.1 (by rw [← h27]; exact hK)
    obtain ⟨w, w1, w2, w3⟩ := t.2.2.2.2.2.2.1 (by rw [← h27]; exact hK)
    rw [if_pos h27, if_neg (by omega), crI_t, ifc_t (nM_neg (by omega) (by omega)), ifc_if (kOk_27 k3), if_pos h27, Reader_side_89_eq, ifc_eq (by omega) (by omega), if_pos h27, Mo_leafRead_109_eq, ifc_t (nM_neg (by omega) (by omega)), v2, w2, ifc_lt (by omega) (by omega), ifc_lt (by omega) (by omega)]
    by_cases h9 : 9999 < v
    · rw [if_pos h9, if_pos (by omega)]
      exact JJ_no (w := nI 2) (TT_10 t) (by rw [cfail, crI_t, gd_0]) (by rw [rwrong, crI_t, gd_0])
    · rw [if_neg h9, if_neg (by omega), leaf129 (z := 0) (w := w) hR.1 hkn (Or.inl ⟨nM_neg (by omega) (by omega), rfl, w2⟩)]
      have := leaf_val (l := l) (l2 := l2) (s := s) (p := p) (s2 := s2) (r2 := r2) (p2 := p2) (v := v) (w := w) hr t hC hR hP hK (Or.inl h27) (by omega) v2 (fun _ => by omega) (fun x => by omega)
      rw [if_pos h27] at this
      exact this
  · rw [if_neg h27]
    by_cases hnm : 19 ≤ K ∧ K ≤ 25
    · obtain ⟨v, v1, v2⟩ := t.1.2.2.2.2.2.2 (show tK c e (sA c e a) ≤ 25 by show sK c e a ≤ 25; omega)
      have hsw : sw K = K := by unfold sw; rw [if_neg (by omega), if_neg (by omega)]
      rw [if_neg (by omega), if_neg (by omega), if_pos (by omega), (k3.2.2.1 (by omega)).2, hsw, ifc_lt (by omega) (by omega), if_neg (by omega), pk_sub (by omega), crI_t, ifc_neg (by omega), Mo_leafRead_109_eq, ifc_neg (by omega), Reader_side_89_eq, ifc_eq (by omega) (by omega), if_neg h27, leaf129 (z := 1) (w := K - 19) hR.1 hkn (Or.inr ⟨nI_pos (by omega), rfl, rfl⟩)]
      have := leaf_val (l := l) (l2 := l2) (s := s) (p := p) (s2 := s2) (r2 := r2) (p2 := p2) (v := v) (w := K - 19) hr t hC hR hP hK (Or.inr hnm) v1 v2 (fun x => by omega) (fun _ => rfl)
      rw [if_neg h27] at this
      exact this
    · have eR : crI (if K < 26 then ifc (j 82 9 < nI 19) (some (some (Value.int (nM 1)), (j, l2, Rp s2 r2 p2))) (some (some (Value.int (j 82 9 - nI 19)), (j, l2, Rp s2 r2 p2))) else some (some (Value.int (nM 1)), (j, l2, Rp s2 r2 p2))) (j, l2, Rp s2 r2 p2) (fun x_1 i_1 l_1 => ifc (x_1 < 0) (ifc ((i_1 82 8) = (nI 3)) (Mo_leafRead_109 x_1 (i_1, l_1, Rp s2 r2 p2)) (crI (Mo_wrong (nI 1) (i_1, l_1, Rp s2 r2 p2)) (i_1, l_1, Rp s2 r2 p2) (fun x_2 i_2 l_2 => gd (isB x_2) (some (some (Value.int x_2), (i_2, l_2, Rp s2 r2 p2)))))) (Mo_leafRead_109 x_1 (i_1, l_1, Rp s2 r2 p2))) = some (some (.int (nI 0)), (u2 (u2 j 82 4 (nI 1)) 82 5 (j 82 10), l2, Rp s2 r2 p2)) := by
        have e1 : (if K < 26 then ifc (j 82 9 < nI 19) (some (some (Value.int (nM 1)), (j, l2, Rp s2 r2 p2))) (some (some (Value.int (j 82 9 - nI 19)), (j, l2, Rp s2 r2 p2))) else some (some (Value.int (nM 1)), (j, l2, Rp s2 r2 p2))) = some (some (Value.int (nM 1)), (j, l2, Rp s2 r2 p2)) := by
          by_cases h26 : K < 26
          · have hsl : sw K < 19 := by unfold sw; repeat' split
                                       all_goals omega
            rw [if_pos h26, (k3.2.2.1 h26).2, ifc_lt (by omega) (by omega), if_pos hsl]
          · rw [if_neg h26]
        rw [e1, crI_t, ifc_t (nM_neg (by omega) (by omega)), ifc_if (kOk_27 k3), if_neg h27, rwrong, crI_t, gd_0]
      rw [eR]
      refine JJ_no (w := nI 1) (TT_10 t) ?_ rfl
      rw [cfail, crI_t, gd_0]
      by_cases h19 : K < 19
      · rw [if_pos h19]
      · rw [if_neg h19, if_pos (by omega)]
end
end

section
/-! formulas: a sign between two sides -/
section
variable {i j : Nat → Nat → Int32} {l l2 : Nat → Nat → Int64} {s r p s2 r2 p2 : Nat} {c : Nat → Nat} {e m a : Nat} {kd nm : Nat → Nat} {b sz kn op : Nat} {W : List Nat} {mn : Bool}
theorem rel_eq (hr : r = 7 ∨ r = 27) (x : Int32) : Reader_release x (i, l, Rp s r p) = Reader_release_0 x (i, l, Rp s r p) := by
  rw [Reader_release_eq _ _ _ _ _ _ hr, ← Reader_release_0_eq _ _ _ _ _ _ hr]
theorem bind_eq (x : Int32) : Mo_bind x (j, l, Rp s r p) = Mo_bind_0 x (j, l, Rp s r p) := by
  rw [Mo_bind_eq, ← Mo_bind_0_eq]
theorem TT_rel {i' j' : Nat → Nat → Int32} (hr : r = 7 ∨ r = 27) (t : TT c e m a i j) (f : fr (qRl r) i i') (g : fr qRm j j') : TT c e m a i' j' := by
  refine ⟨CT_fr t.1 (fun k _ => f 1 k ?_) (funext fun k => f 4 k ?_) (funext fun k => f 5 k ?_) (funext fun k => f 6 k ?_) (fun k hk => f 23 k ?_), RT_fr t.2 (fun k hk => g 82 k ?_) (funext fun k => g 83 k ?_) (funext fun k => g 84 k ?_)⟩
  all_goals (first | (unfold qRl; simp; done) | (unfold qRl; simp; omega) | (unfold qRm; simp; done) | (unfold qRm; simp; omega))
theorem FP_sign {k : Nat} (h : FP kd b sz kn op W false) (hk : okj k) (h64 : kn < 64) : FP kd b sz (kn + 1) op (k :: W) true := by
  obtain ⟨g1, g2, g3, g4, g5, g6, g7, g8⟩ := h
  have hl : (k :: W).length = W.length + 1 := rfl
  have hn : ¬ (k = 29 ∨ k = 18) := by unfold okj at hk; omega
  rw [if_neg (by decide)] at g7
  refine ⟨g1, by omega, g3, ?_, by omega, fun q hq => ?_, ?_, g8⟩
  · show nO W + (if k = 29 then 1 else 0) = op
    rw [if_neg (by omega)]; exact g4
  · rcases List.mem_cons.mp hq with x | x
    · rw [x]; exact Or.inr (Or.inr hk)
    · exact g6 q x
  · show _ = nBi W + (if k = 29 ∨ k = 18 then 0 else 1) + _
    rw [g7, if_neg hn, if_pos rfl]
theorem FP_lenf (h : FP kd b sz kn op W false) : W.length + sz = kn + op ∧ kn ≤ 64 ∧ op ≤ 8 := ⟨by have := h.2.2.2.2.1; omega, h.2.1, h.2.2.1⟩
/-- a sign is put down -/
theorem put_j {K : Nat} {i0 j0 : Nat → Nat → Int32} {kd0 nm0 : Nat → Nat} {sz0 : Nat} (hr : r = 7 ∨ r = 27) (t : TT c e m a i j) (hC : FC kd nm sz kn W r i) (hR : FR kd nm b sz kn op W false mn j) (hP : FP kd b sz kn op W false) (hK : sK c e a = K) (hj : okj K)
    (F : fr (qFm r) i0 i) (G : fr qFn j0 j) (hO : ∀ x q, 101 ≤ x → x ≤ 103 → q < sz0 → j x (64 + q) = j0 x (64 + q)) (hs : sz0 ≤ sz) (hpre : ∀ q, q < sz0 → kd q = kd0 q ∧ nm q = nm0 q) :
    JJ (Reader_sign_68 (i, l, Rp s r p)) (Mo_signs_217 (nI (wm K)) (j, l2, Rp s2 r2 p2)) i j l l2 s r p s2 r2 p2 (NX c e m (a + 1) r b sz0 kd0 nm0 i0 j0 op true) := by
  obtain ⟨k1, k2, k3⟩ := TT_K t
  rw [hK] at k1 k2 k3
  have hlen := FP_lenf hP
  have hW72 := (FP_sz hP).1
  have hrk := rk_le K
  obtain ⟨g1, g2, g3, g4, g5, g6, g7, g8, g9, g10⟩ := hR
  have hR0 : FR kd nm b sz kn op W false mn j := ⟨g1, g2, g3, g4, g5, g6, g7, g8, g9, g10⟩
  rw [Reader_sign_68_eq, Mo_signs_217_eq]
  by_cases h64 : kn = 64
  · subst h64
    refine JJ_no (w := nI 2) (TT_10 t) ?_ ?_
    · rw [knot_f hr hC, crI_t]; exact if0 _
    · rw [count_f g1, crI_t]; exact if0 _
  · have hC1 := FC_knot hr hC
    obtain ⟨i1, f1, f2, f3⟩ := step_ok (i := psC (knC r i kn) W.length K) (l := l) (s := s) (r := r) (p := p) (CT_u (CT_u (CT_u (CT_u t.1 (by omega)) (by omega)) (by omega)) (by omega))
    have e9 : knC r i kn 1 9 = nI K := (u2_o (by omega)).trans k1
    rw [knot_t hr hC (by omega), crI_t, ifc_10, e9, push_ok hC1.2.2.2.1 (by omega) (by omega) f1, crI_t, ifc_10, gd_1]
    have eW : Mo_waitsFor (nI (wm K)) (u2 j 82 48 (nI (kn + 1)), l2, Rp s2 r2 p2) = some (none, (wtR (u2 j 82 48 (nI (kn + 1))) W.length K, l2, Rp s2 r2 p2)) := wait_ok (k := K) ((u2_k (by decide)).trans g4) (by omega)
    rw [count_t g1 (by omega), crI_t, ifc_10, eW, crV_t, gd_1, rstand_ok (Or.inr (Or.inr hj)), crI_t, ifc_lt (by omega) (by omega)]
    obtain ⟨j1, y1, y2, y3⟩ := rtok_ok (i := u2 (u2 (wtR (u2 j 82 48 (nI (kn + 1))) W.length K) 82 49 (nI 1)) 82 50 (nI (decide (rk K < 4)).toNat)) (l := l2) (s := s2) (r := r2) (p := p2) (RT_u (RT_u (RT_u (RT_u (RT_u t.2 (by omega)) (by omega)) (by omega)) (by omega)) (by omega))
    have h34 : rk K < 3 ↔ rk K < 4 := by
      have : rk K ≠ 3 := by
        unfold rk okj at *
        repeat' split
        all_goals omega
      omega
    have eT : (if rk K < 3 then gd (isB (nI 1)) (crV (Mo_token (u2 (u2 (wtR (u2 j 82 48 (nI (kn + 1))) W.length K) 82 49 (nI 1)) 82 50 (nI 1), l2, Rp s2 r2 p2)) (u2 (u2 (wtR (u2 j 82 48 (nI (kn + 1))) W.length K) 82 49 (nI 1)) 82 50 (nI 1), l2, Rp s2 r2 p2) (fun i_5 l_5 => gd (isB (nI 1)) (some (some (Value.int (nI 1)), (i_5, l_5, Rp s2 r2 p2))))) else gd (isB (nI 0)) (crV (Mo_token (u2 (u2 (wtR (u2 j 82 48 (nI (kn + 1))) W.length K) 82 49 (nI 1)) 82 50 (nI 0), l2, Rp s2 r2 p2)) (u2 (u2 (wtR (u2 j 82 48 (nI (kn + 1))) W.length K) 82 49 (nI 1)) 82 50 (nI 0), l2, Rp s2 r2 p2) (fun i_4 l_4 => gd (isB (nI 1)) (some (some (Value.int (nI 1)), (i_4, l_4, Rp s2 r2 p2)))))) = some (some (Value.int (nI 1)), (j1, l2, Rp s2 r2 p2)) := by
      by_cases h3 : rk K < 3
      · rw [show decide (rk K < 4) = true by simp; omega, show nI true.toNat = nI 1 from rfl] at y1
        rw [if_pos h3, gd_1, y1, crV_t]
        exact gd_1 _
      · rw [show decide (rk K < 4) = false by simp; omega, show nI false.toNat = nI 0 from rfl] at y1
        rw [if_neg h3, gd_0, y1, crV_t]
        exact gd_1 _
    rw [eT]
    have hR1 : FR kd nm b sz (kn + 1) op (K :: W) true (decide (rk K < 4)) (u2 (u2 (wtR (u2 j 82 48 (nI (kn + 1))) W.length K) 82 49 (nI 1)) 82 50 (nI (decide (rk K < 4)).toNat)) := by
      unfold wtR
      refine FR_set hR0 ?_ ?_ ?_ ⟨?_, WR_fr W (fun q hq => ?_) g5⟩ ?_ (fun q _ => ?_) ?_ ?_ (u2_s _ _ _ _) (fun x q y z => ?_)
      · rw [u2_o (by omega), u2_o (by omega), u2_o (by omega), u2_o (by omega), u2_s]
      · rw [u2_o (by omega), u2_o (by omega), u2_o (by omega), u2_o (by omega), u2_o (by omega)]
      · rw [u2_o (by omega), u2_o (by omega), u2_s]; rfl
      · rw [u2_o (by omega), u2_o (by omega), u2_o (by omega), u2_s]
      · rw [u2_o (by omega), u2_o (by omega), u2_o (by omega), u2_o (by omega), u2_o (by omega)]
      · rw [u2_o (by omega), u2_o (by omega), u2_o (by omega), u2_o (by omega), u2_o (by omega)]
      · rw [u2_o (by omega), u2_o (by omega), u2_o (by omega), u2_o (by omega), u2_o (by omega)]
      · rw [u2_o (by omega), u2_o (by omega), u2_o (by omega), u2_o (by omega), u2_o (by omega)]; exact g8
      · rw [u2_o (by omega), u2_s]; rfl
      · rw [u2_o (by omega), u2_o (by omega), u2_o (by omega), u2_o (by omega), u2_o (by omega)]
    have fC : fr (qFm r) i i1 := fr_trans (fr_trans knC_fr psC_fr) (qFm_P (qP_S f2))
    have fG : fr qFn j j1 := fr_trans (fr_trans (fr_trans (fr_trans (fr_u2 (by decide)) wtR_fr) (fr_u2 (by decide))) (fr_u2 (by decide))) (qFn_Q (qQ_R y2))
    refine JJ_yes (i0 := i1) (j0 := j1) rfl rfl (qLc_F fC) (qLr_F fG) ⟨⟨f3, y3⟩, fr_trans F fC, fr_trans G fG, fun x q z1 z2 z3 => ?_, kd, nm, sz, kn + 1, K :: W, decide (rk K < 4), FC_fr hr (FC_push hC1 hr) (qP_S f2), FR_fr hR1 (qQ_R y2), FP_sign hP hj (by omega), fun _ => rfl, hs, hpre⟩
    rw [← hO x q z1 z2 z3, y2 x (64 + q) (by unfold qRt; simp; omega)]
    unfold wtR
    rw [u2_o (by omega), u2_o (by omega), u2_o (by omega), u2_o (by omega), u2_o (by omega)]
end
end

section
/-! formulas: a sign between two sides, whole -/
section
variable {i j : Nat → Nat → Int32} {l l2 : Nat → Nat → Int64} {s r p s2 r2 p2 : Nat} {c : Nat → Nat} {e m a : Nat} {kd nm : Nat → Nat} {b sz kn op : Nat} {W : List Nat} {mn : Bool}
def zk (K : Nat) : Nat := if K = 17 then 3 else if K = 16 then 4 else if 35 ≤ K ∧ K ≤ 40 then K - 30 else if K = 31 then 11 else if K = 32 then 12 else if K = 33 then 13 else if K = 34 then 14 else 0
theorem zk_j {K : Nat} (h : okj K) : zk K = wm K ∧ wm K ≠ 0 ∧ wm K < 100 ∧ rk K ≠ 0 := by
  unfold okj at h
  have hk : K = 16 ∨ K = 17 ∨ K = 31 ∨ K = 32 ∨ K = 33 ∨ K = 34 ∨ K = 35 ∨ K = 36 ∨ K = 37 ∨ K = 38 ∨ K = 39 ∨ K = 40 := by omega
  rcases hk with rfl | rfl | rfl | rfl | rfl | rfl | rfl | rfl | rfl | rfl | rfl | rfl <;> decide
theorem dec0 {K q : Nat} (h : K ≠ q) {α : Type} (x y : Option α) : ifc (nI (decide (K = q)).toNat = 0) x y = x := ifc_t (by rw [show decide (K = q) = false by simp [h]]; rfl)
theorem dec1 {K q : Nat} (h : K = q) {α : Type} (x y : Option α) : ifc (nI (decide (K = q)).toNat = 0) x y = y := ifc_f (by rw [show decide (K = q) = true by simp [h]]; decide)
theorem s47 {K : Nat} (k3 : kOk K (j 82 8) (j 82 9)) : Mo_signs_47 (j, l2, Rp s2 r2 p2) = Mo_signs_147 (nI (zk K)) (j, l2, Rp s2 r2 p2) := by
  unfold zk
  rw [Mo_signs_47_eq, show nI 16 = nI (sw 17) from rfl, isKey_ok (by omega) k3, crI_t]
  by_cases h17 : K = 17
  · rw [dec1 h17, if_pos h17]
  rw [dec0 h17, if_neg h17, show nI 17 = nI (sw 16) from rfl, isKey_ok (by omega) k3, crI_t]
  by_cases h16 : K = 16
  · rw [dec1 h16, if_pos h16]
  rw [dec0 h16, if_neg h16, ifc_if (kOk_5 k3)]
  by_cases h5 : 35 ≤ K ∧ K ≤ 40
  · rw [if_pos h5, if_pos h5, (k3.2.2.2.2.2.2.1 h5.1 h5.2).2, nI_add, show 5 + (K - 35) = K - 30 by omega]
  rw [if_neg h5, if_neg h5, show nI 43 = nI (sgc 31) from rfl, isSign_ok (by omega) k3, crI_t]
  by_cases h31 : K = 31
  · rw [dec1 h31, if_pos h31]
  rw [dec0 h31, if_neg h31, show nI 45 = nI (sgc 32) from rfl, isSign_ok (by omega) k3, crI_t]
  by_cases h32 : K = 32
  · rw [dec1 h32, if_pos h32]
  rw [dec0 h32, if_neg h32, show nI 42 = nI (sgc 33) from rfl, isSign_ok (by omega) k3, crI_t]
  by_cases h33 : K = 33
  · rw [dec1 h33, if_pos h33]
  rw [dec0 h33, if_neg h33, show nI 47 = nI (sgc 34) from rfl, isSign_ok (by omega) k3, crI_t]
  by_cases h34 : K = 34
  · rw [dec1 h34, if_pos h34]
  rw [dec0 h34, if_neg h34]
theorem rk_0 {K : Nat} (h : ¬ okj K) : rk K = 0 ∨ K = 18 := by
  unfold okj at h
  unfold rk
  rw [if_neg (by omega), if_neg (by omega)]
  by_cases h18 : K = 18
  · exact Or.inr h18
  · rw [if_neg h18, if_neg (by omega), if_neg (by omega), if_neg (by omega)]
    exact Or.inl rfl
theorem zk_0 {K : Nat} (h : ¬ okj K) : zk K = 0 := by
  unfold okj at h
  unfold zk
  simp (disch := omega) only [if_neg]
theorem sign_j (hr : r = 7 ∨ r = 27) (t : TT c e m a i j) (hC : FC kd nm sz kn W r i) (hR : FR kd nm b sz kn op W false mn j) (hP : FP kd b sz kn op W false) {K : Nat} (hK : sK c e a = K) :
    JJ (Reader_sign (i, l, Rp s r p)) (Mo_signs_47 (j, l2, Rp s2 r2 p2)) i j l l2 s r p s2 r2 p2 (NX c e m (a + 1) r b sz kd nm i j op true) := by
  obtain ⟨k1, k2, k3⟩ := TT_K t
  rw [hK] at k1 k2 k3
  have hrk := rk_le K
  rw [s47 k3, Reader_sign_eq, k1, crank_ok k2, crI_t, k1, ifc_z (by omega), ifc_eq (by omega) (by omega), ifc_eq (by omega) (by omega)]
  by_cases hj : okj K
  · obtain ⟨z1, z2, z3, z4⟩ := zk_j hj
    have h18 : K ≠ 18 := by unfold okj at hj; omega
    have e1 : (if rk K = 4 then Reader_sign_46 (nI (rk K)) (nI (rk K) + nI 1) (i, l, Rp s r p) else Reader_sign_46 (nI (rk K)) (nI (rk K)) (i, l, Rp s r p)) = Reader_sign_46 (nI (rk K)) (nI (if rk K = 4 then 5 else rk K)) (i, l, Rp s r p) := by
      by_cases h4 : rk K = 4
      · rw [if_pos h4, if_pos h4, nI_add, h4]
      · rw [if_neg h4, if_neg h4]
    have e2 : Mo_signs_147 (nI (wm K)) (j, l2, Rp s2 r2 p2) = Mo_signs_175 (nI (wm K)) (nI (if rk K = 4 then 5 else rk K)) (j, l2, Rp s2 r2 p2) := by
      rw [Mo_signs_147_eq, ifc_z (by omega), if_neg z2, rstand_ok (Or.inr (Or.inr hj)), crI_t, ifc_eq (by omega) (by omega)]
      by_cases h4 : rk K = 4
      · rw [if_pos h4, if_pos h4]
      · rw [if_neg h4, if_neg h4, rstand_ok (Or.inr (Or.inr hj)), crI_t]
    rw [if_neg z4, if_neg h18, e1, z1, e2, Reader_sign_46_eq, Mo_signs_175_eq, rel_eq hr, bind_eq]
    obtain ⟨kd', nm', sz', W', i', j', y1, y2, y3, y4, y5, y6, y7, y8, y9, y10, y11⟩ := rel_j (l := l) (l2 := l2) (s := s) (p := p) (s2 := s2) (r2 := r2) (p2 := p2) (least := if rk K = 4 then 5 else rk K) hr (by split <;> omega) (by split <;> omega) W kd nm sz i j hC hR hP
    have t' := TT_rel hr t y9 y10
    have hW72 := (FP_sz y5).1
    have hp := put_j (l := l) (l2 := l2) (s := s) (p := p) (s2 := s2) (r2 := r2) (p2 := p2) (K := K) hr t' y3 y4 y5 hK hj (qFm_R y9) (qFn_R y10) y11 y7 y8
    have ht6 := tpr_le W'
    rw [y1, crV_t, y2, crV_t, rstand_ok (Or.inr (Or.inr hj)), crI_t, ifc_eq (by omega) (by omega), ifc_eq (by omega) (by omega)]
    refine JJ_pre (qLc_F (qFm_R y9)) (qLr_F (qFn_R y10)) ?_
    by_cases h4 : rk K = 4
    · rw [if_pos h4, if_pos h4, ctop_ok y3 hW72, crI_t, ifc_eq (by omega) (by omega)]
      have eT : ∀ (z w : (Nat → Nat → Int32) → (Nat → Nat → Int64) → Option (Option Value × AM)), ifc (0 < (j' 82 45)) (gd (inB ((j' 82 45) - (nI 1)) 96) (crI (Mo_standing (j' 104 ((j' 82 45) - (nI 1)).toNatClampNeg) (j', l2, Rp s2 r2 p2)) (j', l2, Rp s2 r2 p2) (fun x_3 i_3 l_3 => ifc (x_3 = (nI 4)) (z i_3 l_3) (w i_3 l_3)))) (w j' l2) = if tpr W' = 4 then z j' l2 else w j' l2 := by
        intro z w
        rw [y4.2.2.2.1]
        match W', y4, y5, hW72 with
        | [], _, _, _ => rw [show ([] : List Nat).length = 0 from rfl, ifc_pos (by omega), if_neg (by omega), if_neg (by decide)]
        | q :: W2, y4, y5, hW72 =>
          have hl : (q :: W2).length = W2.length + 1 := rfl
          have hq6 := rk_le q
          rw [hl, ifc_pos (by omega), if_pos (by omega), pk_sub (by omega), show W2.length + 1 - 1 = W2.length by omega, gd_in (by omega) (by omega), nI_clamp (by omega), y4.2.2.2.2.1.1, rstand_ok (y5.2.2.2.2.2.1 q (List.mem_cons_self ..)), crI_t, ifc_eq (by omega) (by omega)]
          rfl
      rw [eT (fun i_3 l_3 => crI (Mo_wrong (nI 1) (i_3, l_3, Rp s2 r2 p2)) (i_3, l_3, Rp s2 r2 p2) (fun x_4 i_4 l_4 => gd (isB x_4) (some (some (.int x_4), (i_4, l_4, Rp s2 r2 p2))))) (fun i_3 l_3 => Mo_signs_217 (nI (wm K)) (i_3, l_3, Rp s2 r2 p2))]
      by_cases ht : tpr W' = 4
      · rw [if_pos ht, if_pos ht]
        exact JJ_no (w := nI 1) (TT_10 t') (by rw [cfail, crI_t, gd_0]) (by rw [rwrong, crI_t, gd_0])
      · rw [if_neg ht, if_neg ht]
        exact hp
    · rw [if_neg h4, if_neg h4]
      exact hp
  · rw [zk_0 hj, Mo_signs_147_eq, ifc_t (c := nI 0 = 0) rfl]
    refine JJ_no (w := nI 1) (TT_10 t) ?_ (by rw [rwrong, crI_t, gd_0])
    rw [cfail, crI_t, gd_0]
    by_cases h0 : rk K = 0
    · rw [if_pos h0]
    · rcases rk_0 hj with x | x
      · exact absurd x h0
      · rw [if_neg h0, if_pos x]
end
end

section
/-! formulas: brackets that close, the end -/
section
variable {i j : Nat → Nat → Int32} {l l2 : Nat → Nat → Int64} {s r p s2 r2 p2 : Nat} {c : Nat → Nat} {e m a : Nat} {kd nm : Nat → Nat} {b sz kn op : Nat} {W : List Nat} {mn : Bool}
theorem JJ_mono {x y : Option (Option Value × AM)} {post post' : PT} (h : JJ x y i j l l2 s r p s2 r2 p2 post) (hp : ∀ i' j', post i' j' → post' i' j') : JJ x y i j l l2 s r p s2 r2 p2 post' := by
  obtain ⟨b, i1, j1, e1, e2, f1, f2, ht, hn⟩ := h
  exact ⟨b, i1, j1, e1, e2, f1, f2, fun x => hp _ _ (ht x), hn⟩
theorem top1 (h : FP kd b sz kn op W false) (ht : tpr W < 1) : (op = 0 → W = []) ∧ (0 < op → ∃ W2, W = 29 :: W2) := by
  obtain ⟨g1, g2, g3, g4, g5, g6, g7, g8⟩ := h
  cases W with
  | nil =>
    refine ⟨fun _ => rfl, fun x => ?_⟩
    have : nO [] = 0 := rfl
    omega
  | cons k W =>
    have hk := g6 k (List.mem_cons_self ..)
    have h0 : rk k < 1 := ht
    have h29 : k = 29 := by
      rcases hk with x | x | x
      · exact x
      · subst x; exact absurd h0 (by decide)
      · exact absurd (zk_j x).2.2.2 (by omega)
    subst h29
    refine ⟨fun x => ?_, fun _ => ⟨W, rfl⟩⟩
    have : nO (29 :: W) = nO W + 1 := rfl
    omega
theorem FP_close (h : FP kd b sz kn op (29 :: W) false) : FP kd b sz kn (op - 1) W false ∧ 0 < op := by
  obtain ⟨g1, g2, g3, g4, g5, g6, g7, g8⟩ := h
  have h1 : nO (29 :: W) = nO W + 1 := rfl
  have h2 : nBi (29 :: W) = nBi W := rfl
  have hl : (29 :: W).length = W.length + 1 := rfl
  refine ⟨⟨g1, g2, by omega, by omega, by omega, fun q hq => g6 q (List.mem_cons_of_mem _ hq), ?_, g8⟩, by omega⟩
  rw [g7, h2]
/-- a bracket closes -/
theorem close_j (hr : r = 7 ∨ r = 27) (t : TT c e m a i j) (hC : FC kd nm sz kn W r i) (hR : FR kd nm b sz kn op W false mn j) (hP : FP kd b sz kn op W false) (ho : 0 < op) :
    ∃ i1 i2 j1 j2, Reader_release (nI 1) (i, l, Rp s r p) = some (none, (i1, l, Rp s r p)) ∧ Tokens_step (u2 i1 23 4 (i1 23 4 - nI 1), l, Rp s r p) = some (some (.int (nI 1)), (i2, l, Rp s r p)) ∧ Mo_bind (nI 1) (j, l2, Rp s2 r2 p2) = some (none, (j1, l2, Rp s2 r2 p2)) ∧ Mo_token (u2 (u2 j1 82 45 (j1 82 45 - nI 1)) 82 47 (j1 82 47 - nI 1), l2, Rp s2 r2 p2) = some (none, (j2, l2, Rp s2 r2 p2)) ∧ NX c e m (a + 1) r b sz kd nm i j (op - 1) false i2 j2 := by
  obtain ⟨kd', nm', sz', W', i', j', y1, y2, y3, y4, y5, y6, y7, y8, y9, y10, y11⟩ := rel_j (l := l) (l2 := l2) (s := s) (p := p) (s2 := s2) (r2 := r2) (p2 := p2) (least := 1) hr (by omega) (by omega) W kd nm sz i j hC hR hP
  have t' := TT_rel hr t y9 y10
  obtain ⟨W2, hW⟩ := (top1 y5 y6).2 ho
  subst hW
  have hl : (29 :: W2).length = W2.length + 1 := rfl
  have hW72 := (FP_sz y5).1
  have hP2 := (FP_close y5).1
  have hop := hP.2.2.1
  obtain ⟨g1, g2, g3, g4, g5, g6, g7, g8, g9, g10⟩ := id y4
  have e4 : i' 23 4 - nI 1 = nI W2.length := by rw [y3.2.2.2.1, hl, pk_sub (by omega)]; rfl
  have e45 : j' 82 45 - nI 1 = nI W2.length := by rw [g4, hl, pk_sub (by omega)]; rfl
  have e47 : j' 82 47 - nI 1 = nI (op - 1) := by rw [g8, pk_sub (by omega)]
  rw [rel_eq hr, bind_eq, y1, y2]
  obtain ⟨i2, f1, f2, f3⟩ := step_ok (i := u2 i' 23 4 (nI W2.length)) (l := l) (s := s) (r := r) (p := p) (CT_u t'.1 (by omega))
  obtain ⟨j2, z1, z2, z3⟩ := rtok_ok (i := u2 (u2 j' 82 45 (nI W2.length)) 82 47 (nI (op - 1))) (l := l2) (s := s2) (r := r2) (p := p2) (RT_u (RT_u t'.2 (by omega)) (by omega))
  have hC2 : FC kd' nm' sz' kn W2 r (u2 i' 23 4 (nI W2.length)) := by
    obtain ⟨x1, x2, x3, x4, x5⟩ := y3
    refine ⟨(u2_i (by omega)).trans x1, (u2_i (by omega)).trans x2, fun q hq => ?_, u2_s _ _ _ _, WC_fr W2 (fun q _ => ⟨u2_i (by omega), u2_i (by omega)⟩) (WC_t x5)⟩
    rw [u2_i (by omega), u2_i (by omega)]
    exact x3 q hq
  have hR2 : FR kd' nm' b sz' kn (op - 1) W2 false mn (u2 (u2 j' 82 45 (nI W2.length)) 82 47 (nI (op - 1))) := by
    refine FR_set y4 ?_ ?_ ?_ (WR_fr W2 (fun q hq => ?_) g5.2) ?_ (fun q _ => ?_) (u2_s _ _ _ _) ?_ ?_ (fun x q y z => ?_)
    · rw [u2_o (by omega), u2_o (by omega)]; exact g1
    · rw [u2_o (by omega), u2_o (by omega)]
    · rw [u2_o (by omega), u2_s]
    · rw [u2_o (by omega), u2_o (by omega)]
    · rw [u2_o (by omega), u2_o (by omega)]
    · rw [u2_o (by omega), u2_o (by omega)]
    · rw [u2_o (by omega), u2_o (by omega)]; exact g9
    · rw [u2_o (by omega), u2_o (by omega)]; exact g10
    · rw [u2_o (by omega), u2_o (by omega)]
  have fC : fr (qFm r) i i2 := fr_trans (fr_trans (qFm_R y9) (fr_u2 (by unfold qFm; simp))) (qFm_P (qP_S f2))
  have fG : fr qFn j j2 := fr_trans (fr_trans (fr_trans (qFn_R y10) (fr_u2 (by decide))) (fr_u2 (by decide))) (qFn_Q (qQ_R z2))
  refine ⟨i', i2, j', j2, rfl, by rw [e4]; exact f1, rfl, by rw [e45, e47]; exact z1, ⟨f3, z3⟩, fC, fG, fun x q w1 w2 w3 => ?_, kd', nm', sz', kn, W2, mn, FC_fr hr hC2 (qP_S f2), FR_fr hR2 (qQ_R z2), hP2, fun x => absurd x (by decide), y7, y8⟩
  rw [z2 x (64 + q) (by unfold qRt; simp; omega), u2_o (by omega), u2_o (by omega)]
  exact y11 x q w1 w2 w3
end
end

section
/-! formulas: the loop -/
section
variable {i j : Nat → Nat → Int32} {l l2 : Nat → Nat → Int64} {s r p s2 r2 p2 : Nat} {c : Nat → Nat} {e m a : Nat} {kd nm : Nat → Nat} {b sz kn op : Nat} {W : List Nat} {mn : Bool}
theorem leaf_41 {post : PT} (t : TT c e m a i j) (hK : sK c e a = 41) : JJ (Reader_side (i, l, Rp s r p)) (Mo_leafRead (j, l2, Rp s2 r2 p2)) i j l l2 s r p s2 r2 p2 post := by
  obtain ⟨k1, k2, k3⟩ := TT_K t
  rw [hK] at k1 k2 k3
  refine JJ_no (w := nI 1) (TT_10 t) ?_ ?_
  · rw [Reader_side_eq, k1, ifc_f (show ¬ nI 41 = nI 29 by decide), ifc_f (show ¬ nI 41 = nI 18 by decide), ifc_f (show ¬ nI 41 = nI 27 by decide), ifc_f (show ¬ nI 41 < nI 19 by decide), ifc_t (show nI 25 < nI 41 by decide), cfail, crI_t, gd_0]
  · rw [Mo_leafRead_eq, show nI 40 = nI (sgc 29) from rfl, isSign_ok (by omega) k3, crI_t, dec0 (by decide), show nI 18 = nI (sw 18) from rfl, isKey_ok (by omega) k3, crI_t, dec0 (by decide), Mo_leafRead_86_eq, Mo_nameMet_eq, ifc_if (kOk_1 k3), if_neg (by omega), crI_t, ifc_t (nM_neg (by omega) (by omega)), ifc_if (kOk_27 k3), if_neg (by omega), rwrong, crI_t, gd_0]
theorem sign_41 {post : PT} (t : TT c e m a i j) (hK : sK c e a = 41) : JJ (Reader_sign (i, l, Rp s r p)) (Mo_signs_47 (j, l2, Rp s2 r2 p2)) i j l l2 s r p s2 r2 p2 post := by
  obtain ⟨k1, k2, k3⟩ := TT_K t
  rw [hK] at k1 k2 k3
  refine JJ_no (w := nI 1) (TT_10 t) ?_ ?_
  · rw [Reader_sign_eq, k1, crank_ok k2, crI_t, ifc_t (show nI (rk 41) = 0 from rfl), cfail, crI_t, gd_0]
  · rw [s47 k3, show zk 41 = 0 from rfl, Mo_signs_147_eq, ifc_t (c := nI 0 = 0) rfl, rwrong, crI_t, gd_0]
/-- a formula is read -/
def PF (c : Nat → Nat) (e m a0 r b : Nat) (kd0 nm0 : Nat → Nat) (i0 j0 : Nat → Nat → Int32) : PT := fun i' j' => ∃ a' kd nm sz, a0 ≤ a' ∧ TT c e m a' i' j' ∧ fr (qFm r) i0 i' ∧ fr qFn j0 j' ∧ (∀ x q, 101 ≤ x → x ≤ 103 → q < b → j' x (64 + q) = j0 x (64 + q)) ∧ i' (r + 11) 4 = nI sz ∧ i' (r + 11) 5 = nI sz ∧ j' 82 23 = nI sz ∧ j' 82 48 = nI sz ∧ b < sz ∧ sz ≤ 64 ∧ (∀ k, k < sz → nm k < 2 ^ 31 ∧ i' (r + 12) k = nI (kd k) ∧ i' (r + 13) k = nI (nm k)) ∧ (∀ q, q < b → kd q = kd0 q ∧ nm q = nm0 q) ∧ lwf kd b (sz - b) ∧ knr (knd j') kd nm b (sz - b)
theorem K_end (t : TT c e m a i j) (h : m ≤ a) : sK c e a = 41 := by
  have := (sK_ge t.1.1.2.1 (a - m)).1
  rwa [show m + (a - m) = a by omega] at this
theorem after50 {K n : Nat} (hK : K ≤ 42) (ho : op ≤ 8) (x : Option (Option Value × AM)) : ifc (nI 1 = 0) x (ifc (nI K = nI 29) (Reader_formula_72 (nI n) (nI K) (nI op) (nI 1) (i, l, Rp s r p)) (Reader_formula_72 (nI n) (nI K) (nI op) (nI 0) (i, l, Rp s r p))) = Reader_formula_11 (nI (if K = 29 then op + 1 else op)) (nI (decide (K = 29 ∨ K = 18)).toNat) (nI (n + 1)) (i, l, Rp s r p) := by
  rw [ifc_10, ifc_eq (by omega) (by omega)]
  by_cases h29 : K = 29
  · rw [if_pos h29, if_pos h29, Reader_formula_72_eq, ifc_eq (by omega) (by omega), if_pos h29, show decide (K = 29 ∨ K = 18) = true by simp [h29], nI_add, nI_add]
    rfl
  · rw [if_neg h29, if_neg h29, Reader_formula_72_eq, ifc_eq (by omega) (by omega), if_neg h29, ifc_eq (by omega) (by omega), nI_add, nI_add]
    by_cases h18 : K = 18
    · rw [if_pos h18, show decide (K = 29 ∨ K = 18) = true by simp [h18]]
      rfl
    · rw [if_neg h18, show decide (K = 29 ∨ K = 18) = false by simp [h18, h29]]
      rfl
/-- between two tokens of a formula -/
def FS (c : Nat → Nat) (e m a0 a r b : Nat) (kd0 nm0 : Nat → Nat) (i0 j0 : Nat → Nat → Int32) (op : Nat) (due : Bool) : PT := fun i j => a0 ≤ a ∧ TT c e m a i j ∧ fr (qFm r) i0 i ∧ fr qFn j0 j ∧ (∀ x q, 101 ≤ x → x ≤ 103 → q < b → j x (64 + q) = j0 x (64 + q)) ∧ ∃ kd nm sz kn W mn, FC kd nm sz kn W r i ∧ FR kd nm b sz kn op W due mn j ∧ FP kd b sz kn op W due ∧ (due = true → mn = decide (tpr W < 4)) ∧ ∀ q, q < b → kd q = kd0 q ∧ nm q = nm0 q
theorem FS_NX {a0 : Nat} {kd0 nm0 : Nat → Nat} {i0 j0 i' j' : Nat → Nat → Int32} {op' : Nat} {due' : Bool} (h0 : a0 ≤ a) (f : fr (qFm r) i0 i) (g : fr qFn j0 j) (hk : ∀ x q, 101 ≤ x → x ≤ 103 → q < b → j x (64 + q) = j0 x (64 + q)) (hb : b ≤ sz) (hp : ∀ q, q < b → kd q = kd0 q ∧ nm q = nm0 q) (h : NX c e m (a + 1) r b sz kd nm i j op' due' i' j') : FS c e m a0 (a + 1) r b kd0 nm0 i0 j0 op' due' i' j' := by
  obtain ⟨t, f1, g1, k1, kd', nm', sz', kn', W', mn', hC, hR, hP, hm, hs, hq⟩ := h
  refine ⟨by omega, t, fr_trans f f1, fr_trans g g1, fun x q x1 x2 x3 => (k1 x q x1 x2 (by omega)).trans (hk x q x1 x2 x3), kd', nm', sz', kn', W', mn', hC, hR, hP, hm, fun q hq' => ?_⟩
  have y1 := hq q (by omega)
  have y2 := hp q hq'
  exact ⟨y1.1.trans y2.1, y1.2.trans y2.2⟩
theorem fin_j {a0 : Nat} {kd0 nm0 : Nat → Nat} {i0 j0 : Nat → Nat → Int32} (hr : r = 7 ∨ r = 27) (h : FS c e m a0 a r b kd0 nm0 i0 j0 0 false i j) : ∃ i1 j1, Reader_release (nI 1) (i, l, Rp s r p) = some (none, (i1, l, Rp s r p)) ∧ Mo_bind (nI 1) (j, l2, Rp s2 r2 p2) = some (none, (j1, l2, Rp s2 r2 p2)) ∧ fr (qFm r) i i1 ∧ fr qFn j j1 ∧ PF c e m a0 r b kd0 nm0 i0 j0 i1 j1 := by
  obtain ⟨h0, t, f, g, hk, kd, nm, sz, kn, W, mn, hC, hR, hP, hm, hp⟩ := h
  obtain ⟨kd', nm', sz', W', i', j', y1, y2, y3, y4, y5, y6, y7, y8, y9, y10, y11⟩ := rel_j (l := l) (l2 := l2) (s := s) (p := p) (s2 := s2) (r2 := r2) (p2 := p2) (least := 1) hr (by omega) (by omega) W kd nm sz i j hC hR hP
  have hW := (top1 y5 y6).1 rfl
  subst hW
  obtain ⟨p1, p2', p3, p4, p5, p6, p7, p8⟩ := y5
  have hl : ([] : List Nat).length = 0 := rfl
  have hb0 := hP.1
  have hsk : sz' = kn := by omega
  subst hsk
  have hbs : b < sz' := by
    rcases Nat.lt_or_ge b sz' with x | x
    · exact x
    · rw [show sz' - b = 0 by omega] at p7
      exact absurd (show (0 : Nat) = 1 from p7) (by decide)
  refine ⟨i', j', (rel_eq hr _).trans y1, (bind_eq _).trans y2, qFm_R y9, qFn_R y10, a, kd', nm', sz', h0, TT_rel hr t y9 y10, fr_trans f (qFm_R y9), fr_trans g (qFn_R y10), fun x q x1 x2 x3 => (y11 x q x1 x2 (by omega)).trans (hk x q x1 x2 x3), y3.1, y3.2.1, y4.2.1, y4.1, hbs, p2', y3.2.2.1, fun q hq => ?_, ⟨p8, fun _ => p7⟩, y4.2.2.1⟩
  have z1 := y8 q (by omega)
  have z2 := hp q hq
  exact ⟨z1.1.trans z2.1, z1.2.trans z2.2⟩
end
end

section
/-! formulas: all of it -/
section
variable {l l2 : Nat → Nat → Int64} {s r p s2 r2 p2 : Nat} {c : Nat → Nat} {e m : Nat} {b : Nat}
theorem isS {j : Nat → Nat → Int32} {K : Nat} (K0 : Nat) (h0 : 28 ≤ K0 ∧ K0 ≤ 34) (k3 : kOk K (j 82 8) (j 82 9)) (f : Int32 → (Nat → Nat → Int32) → (Nat → Nat → Int64) → Option (Option Value × AM)) : crI (Mo_isSign (nI (sgc K0)) (j, l2, Rp s2 r2 p2)) (j, l2, Rp s2 r2 p2) f = f (nI (decide (K = K0)).toNat) j l2 := by
  rw [isSign_ok h0 k3, crI_t]
theorem JJ_F {x y : Option (Option Value × AM)} {i j : Nat → Nat → Int32} {post : PT} {w : Int32} {a : Nat} (t : TT c e m a i j) (hx : x = crI (Reader_fail w (i, l, Rp s r p)) (i, l, Rp s r p) (fun x_1 i_1 l_1 => gd (isB x_1) (some (some (.int x_1), (i_1, l_1, Rp s r p))))) (hy : y = crI (Mo_wrong w (j, l2, Rp s2 r2 p2)) (j, l2, Rp s2 r2 p2) (fun x_1 i_1 l_1 => gd (isB x_1) (some (some (.int x_1), (i_1, l_1, Rp s2 r2 p2))))) : JJ x y i j l l2 s r p s2 r2 p2 post := by
  refine JJ_no (w := w) (TT_10 t) ?_ ?_
  · rw [hx, cfail, crI_t, gd_0]
  · rw [hy, rwrong, crI_t, gd_0]
theorem loop_f {a0 : Nat} {kd0 nm0 : Nat → Nat} {i0 j0 : Nat → Nat → Int32} (hr : r = 7 ∨ r = 27) : ∀ d a n op (due : Bool) (i j : Nat → Nat → Int32), a + d = m + 1 → n < a → FS c e m a0 a r b kd0 nm0 i0 j0 op due i j →
    JJ (Reader_formula_11 (nI op) (nI due.toNat) (nI n) (i, l, Rp s r p)) (Mo_sumRead_25 (j, l2, Rp s2 r2 p2)) i j l l2 s r p s2 r2 p2 (PF c e m a0 r b kd0 nm0 i0 j0)
  | d, a, n, op, due, i, j, hd, hn, h => by
    obtain ⟨h0, t, f, g, hk, kd, nm, sz, kn, W, mn, hC, hR, hP, hm, hp⟩ := id h
    have hb := hP.1
    have ho := hP.2.2.1
    have hm7 := t.1.1.1
    obtain ⟨k1, k2, k3⟩ := TT_K t
    obtain ⟨K, hK⟩ : ∃ K, sK c e a = K := ⟨_, rfl⟩
    rw [hK] at k1 k2 k3
    have h49 := hR.2.2.2.2.2.2.2.2.1
    have h47 := hR.2.2.2.2.2.2.2.1
    have ha : K ≠ 41 → a < m := fun x => by
      rcases Nat.lt_or_ge a m with y | y
      · exact y
      · exact absurd (hK.symm.trans (K_end t y)) x
    have e0 : Mo_sumRead_25 (j, l2, Rp s2 r2 p2) = if K = 28 then ifc (j 82 49 = 0) (ifc (0 < j 82 47) (Mo_sumRead_48 (j, l2, Rp s2 r2 p2)) (crV (Mo_bind (nI 1) (j, l2, Rp s2 r2 p2)) (j, l2, Rp s2 r2 p2) (fun i_2 l_2 => gd (isB (nI 1)) (some (some (.int (nI 1)), (i_2, l_2, Rp s2 r2 p2)))))) (Mo_sumRead_48 (j, l2, Rp s2 r2 p2)) else Mo_sumRead_48 (j, l2, Rp s2 r2 p2) := by
      rw [Mo_sumRead_25_eq, show nI 59 = nI (sgc 28) from rfl, isS 28 (by omega) k3]
      by_cases h28 : K = 28
      · rw [dec1 h28, if_pos h28]
      · rw [dec0 h28, if_neg h28]
    rw [e0, h49, h47, Mo_sumRead_48_eq, h49, Reader_formula_11_eq, ifc_lt (by omega) (by omega), if_neg (by omega), k1]
    cases due with
    | true =>
      rw [ifc_f (c := nI true.toNat = 0) (by decide), ifc_f (c := nI true.toNat = 0) (by decide), ifc_f (c := nI true.toNat = 0) (by decide), ite_self, ifc_eq (by omega) (by omega), ifc_eq (by omega) (by omega)]
      by_cases h8 : K = 29 ∧ op = 8
      · rw [if_pos h8.1, if_pos h8.2]
        refine JJ_F t rfl ?_
        rw [Mo_leafRead_eq, show nI 40 = nI (sgc 29) from rfl, isS 29 (by omega) k3, dec1 h8.1, h47, h8.2, ifc_t rfl, rwrong, crI_t, gd_0, crI_t, if0]
      · have e1 : (if K = 29 then if op = 8 then crI (Reader_fail (nI 2) (i, l, Rp s r p)) (i, l, Rp s r p) (fun x_1 i_1 l_1 => gd (isB x_1) (some (some (.int x_1), (i_1, l_1, Rp s r p)))) else Reader_formula_50 (nI op) (nI n) (nI K) (i, l, Rp s r p) else Reader_formula_50 (nI op) (nI n) (nI K) (i, l, Rp s r p)) = Reader_formula_50 (nI op) (nI n) (nI K) (i, l, Rp s r p) := by
          by_cases h29 : K = 29
          · rw [if_pos h29, if_neg (fun x => h8 ⟨h29, x⟩)]
          · rw [if_neg h29]
        rw [e1, Reader_formula_50_eq]
        by_cases h41 : K = 41
        · exact JJ_I rfl rfl (leaf_41 (post := fun _ _ => False) t (hK.trans h41)) (fun _ _ _ _ x => x.elim) (fun _ => if0 _) (fun _ => if0 _)
        · have := ha h41
          obtain ⟨d, rfl⟩ : ∃ d', d = d' + 1 := ⟨d - 1, by omega⟩
          refine JJ_I rfl rfl (leaf_j hr t hC hR hP (hm rfl) hK h8) (fun i1 j1 f1 g1 hx => ?_) (fun _ => if0 _) (fun _ => if0 _)
          show JJ (ifc (nI 1 = 0) _ (ifc (nI K = nI 29) _ _)) (ifc (nI 1 = 0) _ _) _ _ _ _ _ _ _ _ _ _ _
          rw [after50 k2 ho, ifc_10]
          exact loop_f hr d (a + 1) (n + 1) _ _ i1 j1 (by omega) (by omega) (FS_NX h0 f g hk hb hp hx)
    | false =>
      rw [ifc_t (c := nI false.toNat = 0) rfl, ifc_t (c := nI false.toNat = 0) rfl, ifc_t (c := nI false.toNat = 0) rfl, ifc_eq (by omega) (by omega), ifc_pos (by omega), ifc_pos (by omega)]
      by_cases h30 : K = 30 ∧ 0 < op
      · have := ha (by omega)
        obtain ⟨d, rfl⟩ : ∃ d', d = d' + 1 := ⟨d - 1, by omega⟩
        obtain ⟨i1, i2, j1, j2, e1, e2, e3, e4, hx⟩ := close_j (l := l) (l2 := l2) (s := s) (p := p) (s2 := s2) (r2 := r2) (p2 := p2) hr t hC hR hP h30.2
        rw [if_pos h30.1, if_pos h30.2, if_neg (show ¬ K = 28 by omega), e1, crV_t, e2, crI_t, nI_nM h30.2, nI_add, Mo_signs_eq, show nI 41 = nI (sgc 30) from rfl, isS 30 (by omega) k3, dec1 h30.1, h47, ifc_pos (by omega), if_pos h30.2, e3, crV_t, e4, crV_t, gd_1, crI_t, ifc_10]
        exact JJ_pre (qLc_F hx.2.1) (qLr_F hx.2.2.1) (loop_f hr d (a + 1) (n + 1) (op - 1) false i2 j2 (by omega) (by omega) (FS_NX h0 f g hk hb hp hx))
      · have e1 : (if K = 30 then if 0 < op then crV (Reader_release (nI 1) (i, l, Rp s r p)) (i, l, Rp s r p) (fun i_2 l_2 => crI (Tokens_step ((u2 i_2 23 4 ((i_2 23 4) - (nI 1))), l_2, Rp s r p)) ((u2 i_2 23 4 ((i_2 23 4) - (nI 1))), l_2, Rp s r p) (fun x_3 i_3 l_3 => Reader_formula_11 (nI op + (nM 1)) (nI false.toNat) (nI n + (nI 1)) (i_3, l_3, Rp s r p))) else Reader_formula_137 (nI op) (nI n) (nI K) (i, l, Rp s r p) else Reader_formula_137 (nI op) (nI n) (nI K) (i, l, Rp s r p)) = Reader_formula_137 (nI op) (nI n) (nI K) (i, l, Rp s r p) := by
          by_cases hx : K = 30
          · rw [if_pos hx, if_neg (fun y => h30 ⟨hx, y⟩)]
          · rw [if_neg hx]
        rw [e1, Reader_formula_137_eq, ifc_eq (by omega) (by omega), ifc_z (by omega)]
        by_cases h28 : K = 28 ∧ op = 0
        · rw [if_pos h28.1, if_pos h28.2, if_pos h28.1, if_neg (by omega)]
          have h' := h
          rw [h28.2] at h'
          obtain ⟨i1, j1, e1, e2, f1, g1, hx⟩ := fin_j (l := l) (l2 := l2) (s := s) (p := p) (s2 := s2) (r2 := r2) (p2 := p2) hr h'
          rw [e1, e2, crV_t, crV_t, gd_1, gd_1]
          exact JJ_yes rfl rfl (qLc_F f1) (qLr_F g1) hx
        · have e2 : (if K = 28 then if op = 0 then crV (Reader_release (nI 1) (i, l, Rp s r p)) (i, l, Rp s r p) (fun i_1 l_1 => gd (isB (nI 1)) (some (some (.int (nI 1)), (i_1, l_1, Rp s r p)))) else Reader_formula_155 (nI op) (nI n) (i, l, Rp s r p) else Reader_formula_155 (nI op) (nI n) (i, l, Rp s r p)) = Reader_formula_155 (nI op) (nI n) (i, l, Rp s r p) := by
            by_cases hx : K = 28
            · rw [if_pos hx, if_neg (fun y => h28 ⟨hx, y⟩)]
            · rw [if_neg hx]
          have e3 : ∀ (X Y : Option (Option Value × AM)), (if K = 28 then if 0 < op then X else Y else X) = X := fun X Y => by
            by_cases hx : K = 28
            · rw [if_pos hx, if_pos (by omega)]
            · rw [if_neg hx]
          have e4 : Mo_signs (j, l2, Rp s2 r2 p2) = Mo_signs_47 (j, l2, Rp s2 r2 p2) := by
            rw [Mo_signs_eq, show nI 41 = nI (sgc 30) from rfl, isS 30 (by omega) k3]
            by_cases hx : K = 30
            · rw [dec1 hx, h47, ifc_pos (by omega), if_neg (fun y => h30 ⟨hx, y⟩)]
            · rw [dec0 hx]
          rw [e2, e3, e4, Reader_formula_155_eq]
          by_cases h41 : K = 41
          · exact JJ_I rfl rfl (sign_41 (post := fun _ _ => False) t (hK.trans h41)) (fun _ _ _ _ x => x.elim) (fun _ => if0 _) (fun _ => if0 _)
          · have := ha h41
            obtain ⟨d, rfl⟩ : ∃ d', d = d' + 1 := ⟨d - 1, by omega⟩
            refine JJ_I rfl rfl (sign_j hr t hC hR hP hK) (fun i1 j1 f1 g1 hx => ?_) (fun _ => if0 _) (fun _ => if0 _)
            show JJ (ifc (nI 1 = 0) _ _) (ifc (nI 1 = 0) _ _) _ _ _ _ _ _ _ _ _ _ _
            rw [ifc_10, ifc_10, nI_add]
            exact loop_f hr d (a + 1) (n + 1) op true i1 j1 (by omega) (by omega) (FS_NX h0 f g hk hb hp hx)
  termination_by d => d
end
end

section
/-! a line of a law -/
section
variable {i j : Nat → Nat → Int32} {l l2 : Nat → Nat → Int64} {s r p s2 r2 p2 : Nat} {c : Nat → Nat} {e m a N L S E D : Nat}
theorem formula_j {K : Nat} {kd nm : Nat → Nat} (hr : r = 7 ∨ r = 27) (t : TT c e m a i j) (ha : a ≤ m) (ha0 : 0 < a) (hK : K ≤ 64) (h4 : i (r + 11) 4 = nI K) (h5 : i (r + 11) 5 = nI K) (h23 : j 82 23 = nI K) (h48 : j 82 48 = nI K) (hk : ∀ k, k < K → nm k < 2 ^ 31 ∧ i (r + 12) k = nI (kd k) ∧ i (r + 13) k = nI (nm k)) :
    JJ (Reader_formula (i, l, Rp s r p)) (Mo_sumRead (j, l2, Rp s2 r2 p2)) i j l l2 s r p s2 r2 p2 (PF c e m a r K kd nm i j) := by
  rw [Reader_formula_eq, Mo_sumRead_eq, gd_1, gd_1]
  have f1 : fr (qFm r) i (u2 i 23 4 (nI 0)) := fr_u2 (by unfold qFm; simp)
  have g1 : fr qFn j (u2 (u2 (u2 (u2 (u2 j 82 45 (nI 0)) 82 46 (nI 0)) 82 47 (nI 0)) 82 49 (nI 1)) 82 50 (nI 1)) := fr_trans (fr_trans (fr_trans (fr_trans (fr_u2 (by decide)) (fr_u2 (by decide))) (fr_u2 (by decide))) (fr_u2 (by decide))) (fr_u2 (by decide))
  refine JJ_pre (qLc_F f1) (qLr_F g1) (loop_f (kd0 := kd) (nm0 := nm) hr (m + 1 - a) a 0 0 true _ _ (by omega) ha0 ⟨Nat.le_refl _, ⟨CT_u t.1 (by omega), RT_u (RT_u (RT_u (RT_u (RT_u t.2 (by omega)) (by omega)) (by omega)) (by omega)) (by omega)⟩, f1, g1, fun x q x1 x2 x3 => ?_, kd, nm, K, K, [], true, ?_, ?_, ?_, fun _ => rfl, fun _ _ => ⟨rfl, rfl⟩⟩)
  · rw [u2_o (by omega), u2_o (by omega), u2_o (by omega), u2_o (by omega), u2_o (by omega)]
  · refine ⟨(u2_o (by omega)).trans h4, (u2_o (by omega)).trans h5, fun k hq => ?_, u2_s _ _ _ _, trivial⟩
    rw [u2_o (by omega), u2_o (by omega)]
    exact hk k hq
  · have e0 : ixs kd K (K - K) = [] := by rw [Nat.sub_self]; rfl
    refine ⟨?_, ?_, fun q hq => absurd hq (by omega), ?_, trivial, ?_, ?_, ?_, ?_, u2_s _ _ _ _⟩
    · rw [u2_o (by omega), u2_o (by omega), u2_o (by omega), u2_o (by omega), u2_o (by omega)]; exact h48
    · rw [u2_o (by omega), u2_o (by omega), u2_o (by omega), u2_o (by omega), u2_o (by omega)]; exact h23
    · rw [u2_o (by omega), u2_o (by omega), u2_o (by omega), u2_o (by omega), u2_s]; rfl
    · rw [u2_o (by omega), u2_o (by omega), u2_o (by omega), u2_s, e0]; rfl
    · rw [e0]; trivial
    · rw [u2_o (by omega), u2_o (by omega), u2_s]
    · rw [u2_o (by omega), u2_s]; rfl
  · refine ⟨Nat.le_refl _, hK, by omega, rfl, ?_, fun k hq => by simp at hq, ?_, fun q hq => absurd hq (by omega)⟩
    · show K + 0 = K + 0
      rfl
    · rw [Nat.sub_self]; rfl
theorem l269_0 : Mo_lineRead_269 (nI 0) (j, l2, Rp s2 r2 p2) = some (some (.int (nI 0)), (j, l2, Rp s2 r2 p2)) := by
  rw [Mo_lineRead_269_eq]
  exact if0 _
/-- a line: the component's answer, and where the reference goes on with the same -/
def JL (x : Option (Option Value × AM)) (y : Option (Option Value × AM)) (i j : Nat → Nat → Int32) (l l2 : Nat → Nat → Int64) (s r p s2 r2 p2 : Nat) (post : PT) : Prop :=
  ∃ (b : Bool) (i' j' : Nat → Nat → Int32), x = some (some (.int (nI b.toNat)), (i', l, Rp s r p)) ∧ y = Mo_lineRead_269 (nI b.toNat) (j', l2, Rp s2 r2 p2) ∧ fr (qLc r) i i' ∧ fr qLr j j' ∧ (b = true → post i' j') ∧ (b = false → NO i' j')
theorem JL_no {x y : Option (Option Value × AM)} {post : PT} {w : Int32} (h : i 1 10 = j 82 10) (hx : x = some (some (.int (nI 0)), (u2 (u2 i 23 8 w) 23 9 (i 1 10), l, Rp s r p))) (hy : y = some (some (.int (nI 0)), (u2 (u2 j 82 4 w) 82 5 (j 82 10), l2, Rp s2 r2 p2))) : JL x y i j l l2 s r p s2 r2 p2 post :=
  ⟨false, _, _, hx, hy.trans l269_0.symm, qLc_P fr_f, qLr_Q fr_w, fun x => absurd x (by decide), fun _ => NO_f h⟩
theorem JL_pre {x y : Option (Option Value × AM)} {post : PT} {i0 j0 : Nat → Nat → Int32} (f : fr (qLc r) i i0) (g : fr qLr j j0) (h : JL x y i0 j0 l l2 s r p s2 r2 p2 post) : JL x y i j l l2 s r p s2 r2 p2 post := by
  obtain ⟨b, i1, j1, e1, e2, f1, f2, ht, hn⟩ := h
  exact ⟨b, i1, j1, e1, e2, fr_trans f f1, fr_trans g f2, ht, hn⟩
theorem JL_N {F G : AM → Option (Option Value × AM)} {post : PT} (h : JN F G (qLc r) qLr i j l l2 s r p s2 r2 p2 post) : JL (F (i, l, Rp s r p)) (crI (G (j, l2, Rp s2 r2 p2)) (j, l2, Rp s2 r2 p2) (fun x i l => Mo_lineRead_269 x (i, l, Rp s2 r2 p2))) i j l l2 s r p s2 r2 p2 post := by
  obtain ⟨b, i1, j1, e1, e2, f1, f2, ht, hn⟩ := h
  exact ⟨b, i1, j1, e1, by rw [e2, crI_t], f1, f2, ht, hn⟩
theorem lwf_cg {kd kd' : Nat → Nat} {b n : Nat} (h : ∀ q, q < n → kd' (b + q) = kd (b + q)) (x : lwf kd b n) : lwf kd' b n :=
  ⟨lwp_cg h x.1, fun y => by rw [ixs_cg n h]; exact x.2 y⟩
theorem nI13 : ∀ K, K < 13 → nI K - nI 13 < 0 := by decide
noncomputable def lawR (j : Nat → Nat → Int32) (l2 : Nat → Nat → Int64) (s2 r2 p2 : Nat) : Option (Option Value × AM) := crV (Mo_token (j, l2, Rp s2 r2 p2)) (j, l2, Rp s2 r2 p2) (fun i_10 l_10 => ifc ((i_10 82 8) = (nI 1)) (ifc ((i_10 82 9) < (nI 13)) (Mo_lineRead_202 (i_10, l_10, Rp s2 r2 p2)) (ifc ((nI 15) < (i_10 82 9)) (Mo_lineRead_202 (i_10, l_10, Rp s2 r2 p2)) (gd (inB (((nI 3) + (i_10 82 9)) - (nI 13)) 6) (ifc ((i_10 98 (((nI 3) + (i_10 82 9)) - (nI 13)).toNatClampNeg) = 0) (gd (inB (((nI 3) + (i_10 82 9)) - (nI 13)) 6) (crV (Mo_token ((u2 i_10 98 (((nI 3) + (i_10 82 9)) - (nI 13)).toNatClampNeg ((nI 1) &&& 1)), l_10, Rp s2 r2 p2)) ((u2 i_10 98 (((nI 3) + (i_10 82 9)) - (nI 13)).toNatClampNeg ((nI 1) &&& 1)), l_10, Rp s2 r2 p2) (fun i_11 l_11 => gd (inB (((nI 3) + (i_10 82 9)) - (nI 13)) 6) (crI (Mo_sumRead ((u2 i_11 99 (((nI 3) + (i_10 82 9)) - (nI 13)).toNatClampNeg (i_11 82 23)), l_11, Rp s2 r2 p2)) ((u2 i_11 99 (((nI 3) + (i_10 82 9)) - (nI 13)).toNatClampNeg (i_11 82 23)), l_11, Rp s2 r2 p2) (fun x_12 i_12 l_12 => gd (inB (((nI 3) + (i_10 82 9)) - (nI 13)) 6) (Mo_lineRead_269 x_12 ((u2 i_12 100 (((nI 3) + (i_10 82 9)) - (nI 13)).toNatClampNeg (i_12 82 23)), l_12, Rp s2 r2 p2))))))) (crI (Mo_wrong (nI 3) (i_10, l_10, Rp s2 r2 p2)) (i_10, l_10, Rp s2 r2 p2) (fun x_13 i_13 l_13 => gd (isB x_13) (some (some (.int x_13), (i_13, l_13, Rp s2 r2 p2))))))))) (Mo_lineRead_202 (i_10, l_10, Rp s2 r2 p2)))
theorem r202 : Mo_lineRead_202 (j, l2, Rp s2 r2 p2) = some (some (.int (nI 0)), (u2 (u2 j 82 4 (nI 1)) 82 5 (j 82 10), l2, Rp s2 r2 p2)) := by
  rw [Mo_lineRead_202_eq, rwrong, crI_t, gd_0]
theorem law_j (hr : r = 7 ∨ r = 27) (h : TT c e m a i j) (hR : RD r N L S E D i j) : JL (Reader_lawLine (i, l, Rp s r p)) (lawR j l2 s2 r2 p2) i j l l2 s r p s2 r2 p2 (PO c e m a r) := by
  obtain ⟨i1, j1, f1, g1, f2, g2, t1⟩ := step_j (l := l) (l2 := l2) (s := s) (r := r) (p := p) (s2 := s2) (r2 := r2) (p2 := p2) h
  have R1 := RD_fr hR f2 g2 (kC_P hr) kR_Q
  obtain ⟨k1, k2, k3⟩ := TT_K t1
  obtain ⟨K, hK⟩ : ∃ K, sK c e (a + 1) = K := ⟨_, rfl⟩
  rw [hK] at k1 k2 k3
  refine JL_pre (qLc_P f2) (qLr_Q g2) ?_
  unfold lawR
  rw [Reader_lawLine_eq _ _ _ _ _ hr, f1, g1, crI_t, crV_t, k1, ifc_if (kOk_1 k3)]
  have hfail : ∀ x : Option (Option Value × AM), x = some (some (.int (nI 0)), (u2 (u2 j1 82 4 (nI 1)) 82 5 (j1 82 10), l2, Rp s2 r2 p2)) → JL (crI (Reader_fail (nI 1) (i1, l, Rp s r p)) (i1, l, Rp s r p) (fun x_2 i_2 l_2 => gd (isB x_2) (some (some (.int x_2), (i_2, l_2, Rp s r p))))) x i1 j1 l l2 s r p s2 r2 p2 (PO c e m a r) := fun x hx => JL_no (w := nI 1) (TT_10 t1) (by rw [cfail, crI_t, gd_0]) hx
  by_cases h13 : K < 13
  · have hs : sw K = K := by unfold sw; rw [if_neg (by omega), if_neg (by omega)]
    rw [ifc_t (nI13 K h13)]
    refine hfail _ ?_
    rw [if_pos (by omega), (k3.2.2.1 (by omega)).2, hs, ifc_lt (by omega) (by omega), if_pos h13, r202]
  rw [pk_sub (by omega), ifc_neg (by omega), ifc_lt (by omega) (by omega)]
  by_cases h16 : 16 ≤ K
  · rw [if_neg (by omega)]
    refine hfail _ ?_
    by_cases h26 : K < 26
    · have hs : 16 ≤ sw K ∧ sw K < 26 := by unfold sw; repeat' split
                                            all_goals omega
      rw [if_pos h26, (k3.2.2.1 h26).2, ifc_lt (by omega) (by omega), if_neg (by omega), ifc_lt (by omega) (by omega), if_pos (by omega), r202]
    · rw [if_neg h26, r202]
  obtain ⟨w, rfl⟩ : ∃ w, K = 13 + w := ⟨K - 13, by omega⟩
  have hw : w < 3 := by omega
  have hs : sw (13 + w) = 13 + w := by unfold sw; rw [if_neg (by omega), if_neg (by omega)]
  have ex : nI 3 + nI (13 + w) - nI 13 = nI (3 + w) := by rw [nI_add, pk_sub (by omega)]; congr 1; omega
  have ew : 13 + w - 13 = w := by omega
  obtain ⟨Kn, kd, nm, a1, a2, a3, a4, a5, a6, a7⟩ := R1.2.2.2.2.2.2.2
  rw [if_pos (by omega), if_pos (by omega), (k3.2.2.1 (by omega)).2, hs, ifc_lt (by omega) (by omega), if_neg (by omega), ifc_lt (by omega) (by omega), if_neg (by omega), ex, ew, gd_in (by omega) (by omega), gd_in (by omega) (by omega), nI_clamp (by omega), nI_clamp (by omega), (a7 w hw).1]
  cases hb : bt (i1 23 5) (13 + w) with
  | true =>
    rw [once_f (by omega) k1 hb, crI_t, ifc_f (show ¬ nI true.toNat = 0 by decide)]
    exact JL_no (w := nI 3) (TT_10 t1) (if0 _) (by rw [rwrong, crI_t, gd_0])
  | false =>
    rw [ifc_t (show nI false.toNat = 0 from rfl), show nI 1 &&& 1 = nI 1 from rfl]
    have h' : TT c e m (a + 1) (tl1 i1 (13 + w)) (u2 j1 98 (3 + w) (nI 1)) := ⟨CT_u t1.1 (by omega), RT_u t1.2 (by omega)⟩
    obtain ⟨i2, j2, f3, g3, f4, g4, t2⟩ := step_j (l := l) (l2 := l2) (s := s) (r := r) (p := p) (s2 := s2) (r2 := r2) (p2 := p2) h'
    have ham : a + 1 < m := by
      rcases Nat.lt_or_ge (a + 1) m with y | y
      · exact y
      · exact absurd (hK.symm.trans (K_end t1 y)) (by omega)
    rw [once_t (by omega) k1 hb f3, crI_t, ifc_10, g3, crV_t, gd_in (by omega) (by omega), gd_in (by omega) (by omega)]
    have fi : ∀ x k, x ≠ 1 → x ≠ 23 → i2 x k = i1 x k := fun x k y2 y3 => (f4 x k (by unfold qP; simp; omega)).trans (u2_i (by omega))
    have gj : ∀ x k, ¬ (x = 82 ∧ k < 12) → ¬ (x = 98 ∧ k = 3 + w) → j2 x k = j1 x k := fun x k y1 y2 => (g4 x k (by unfold qQ; simp; omega)).trans (u2_o y2)
    have gs : j2 98 (3 + w) = nI 1 := (g4 98 (3 + w) (by unfold qQ; simp)).trans (u2_s _ _ _ _)
    have ft : i2 23 5 = tl1 i1 (13 + w) 23 5 := f4 23 5 rfl
    have b5 : i2 (r + 11) 5 = nI Kn := (fi _ _ (by omega) (by omega)).trans a3
    have b23 : j2 82 23 = nI Kn := (gj _ _ (by omega) (by omega)).trans a4
    rw [b5, b23]
    have t3 : TT c e m (a + 1 + 1) (u2 i2 (r + 14) w (nI Kn)) (u2 j2 99 (3 + w) (nI Kn)) := ⟨CT_u t2.1 (by omega), RT_u t2.2 (by omega)⟩
    obtain ⟨b, i3, j3, e1, e2, f5, g5, ht, hn⟩ := formula_j (l := l) (l2 := l2) (s := s) (p := p) (s2 := s2) (r2 := r2) (p2 := p2) (K := Kn) (kd := kd) (nm := nm) hr t3 (by omega) (by omega) a1 ((u2_o (by omega)).trans ((fi _ _ (by omega) (by omega)).trans a2)) ((u2_o (by omega)).trans b5) ((u2_o (by omega)).trans b23) ((u2_o (by omega)).trans ((gj _ _ (by omega) (by omega)).trans a5)) (fun k hk => by
      rw [u2_o (by omega), u2_o (by omega), fi _ _ (by omega) (by omega), fi _ _ (by omega) (by omega)]
      exact a6 k hk)
    have fr1 : fr (qLc r) i1 (u2 i2 (r + 14) w (nI Kn)) := fr_trans (fr_trans fr_tl1 (qLc_P f4)) (fr_qLc (by omega))
    have fr2 : fr qLr j1 (u2 j2 99 (3 + w) (nI Kn)) := fr_trans (fr_trans (fr_u2 (by unfold qLr; simp)) (qLr_Q g4)) (fr_u2 (by unfold qLr; simp))
    refine JL_pre fr1 fr2 ?_
    rw [e1, e2, crI_t, crI_t, gd_in (by omega) (by omega)]
    cases b with
    | false => exact ⟨false, i3, u2 j3 100 (3 + w) (j3 82 23), if0 _, gd_in (by omega) (by omega) _, f5, fr_trans g5 (fr_u2 (by unfold qLr; simp)), fun x => absurd x (by decide), fun _ => ⟨(hn rfl).1.trans (u2_o (by omega)).symm, (hn rfl).2.trans (u2_o (by omega)).symm⟩⟩
    | true =>
      obtain ⟨a', kd', nm', sz, c1, c2, c3, c4, c5, c6, c7, c8, c9, c10, c11, c12, c13, c14, c15⟩ := ht rfl
      refine ⟨true, u2 i3 (r + 15) w (nI sz), u2 j3 100 (3 + w) (nI sz), ?_, ?_, fr_trans f5 (fr_qLc (by omega)), fr_trans g5 (fr_u2 (by unfold qLr; simp)), fun _ => ?_, fun x => absurd x (by decide)⟩
      · show ifc (nI 1 = 0) _ _ = _
        rw [ifc_10, gd_1, c7]
        rfl
      · rw [c8, gd_in (by omega) (by omega)]
      · have fi3 : ∀ x k, qFm r x k = false → ¬ (x = r + 14 ∧ k = w) → ¬ (x = r + 15 ∧ k = w) → x ≠ 23 → x ≠ 1 → u2 i3 (r + 15) w (nI sz) x k = i1 x k := fun x k y1 y2 y3 y4 y5 => by
          rw [u2_o y3, c3 x k y1, u2_o y2, fi _ _ y5 y4]
        have gj3 : ∀ x k, qFn x k = false → ¬ (x = 99 ∧ k = 3 + w) → ¬ (x = 100 ∧ k = 3 + w) → ¬ (x = 98 ∧ k = 3 + w) → ¬ (x = 82 ∧ k < 12) → u2 j3 100 (3 + w) (nI sz) x k = j1 x k := fun x k y1 y2 y3 y4 y5 => by
          rw [u2_o y3, c4 x k y1, u2_o y2, gj _ _ y5 y4]
        have f5' : u2 i3 (r + 15) w (nI sz) 23 5 = tl1 i1 (13 + w) 23 5 := by
          rw [u2_o (by omega), c3 23 5 (by unfold qFm qP; simp; omega), u2_o (by omega), ft]
        refine ⟨a', N, L, S, E, D, by omega, ⟨CT_u c2.1 (by omega), RT_u c2.2 (by omega)⟩, RD_8 R1 ⟨sz, kd', nm', c11, ?_, ?_, ?_, ?_, fun k hk => ?_, fun v hv => ?_⟩ (fun x k hk => ?_) (fun k hk => ?_) (fun x k hk => ?_)⟩
        · rw [u2_o (by omega)]; exact c6
        · rw [u2_o (by omega)]; exact c7
        · rw [u2_o (by omega)]; exact c8
        · rw [u2_o (by omega)]; exact c9
        · rw [u2_o (by omega), u2_o (by omega)]; exact c12 k hk
        · rw [f5', tl1_b (by omega) (by omega)]
          by_cases hvw : v = w
          · subst hvw
            refine ⟨?_, Or.inr ⟨by simp, Kn, sz, c10, Nat.le_refl _, ?_, u2_s _ _ _ _, ?_, u2_s _ _ _ _, c14, knr_fr (K := 64) c15 (by omega) (fun x q _ _ _ => u2_o (by omega))⟩⟩
            · rw [u2_o (by omega), c4 98 _ (by unfold qFn qQ; simp), u2_o (by omega), gs]; simp
            · rw [u2_o (by omega), c3 (r + 14) _ (by unfold qFm qP; simp; omega), u2_s]
            · rw [u2_o (by omega), c4 99 _ (by unfold qFn qQ; simp), u2_s]
          · rw [show decide (13 + v = 13 + w) = false by simp; omega, Bool.or_false]
            obtain ⟨d1, d2⟩ := a7 v hv
            refine ⟨?_, ?_⟩
            · rw [gj3 98 _ (by unfold qFn qQ; simp) (by omega) (by omega) (by omega) (by omega)]; exact d1
            · rw [fi3 (r + 14) v (by unfold qFm qP; simp; omega) (by omega) (by omega) (by omega) (by omega), fi3 (r + 15) v (by unfold qFm qP; simp; omega) (by omega) (by omega) (by omega) (by omega), gj3 99 _ (by unfold qFn qQ; simp) (by omega) (by omega) (by omega) (by omega), gj3 100 _ (by unfold qFn qQ; simp) (by omega) (by omega) (by omega) (by omega)]
              rcases d2 with d2 | ⟨d2, b', e', d3, d4, d5, d6, d7, d8, d9, d10⟩
              · exact Or.inl d2
              · refine Or.inr ⟨d2, b', e', d3, by omega, d5, d6, d7, d8, lwf_cg (fun q hq => (c13 _ (by omega)).1) d9, knr_cg (fun q hq => (c13 _ (by omega)).1) (fun q hq => (c13 _ (by omega)).2) (knr_fr (K := Kn) d10 (by omega) (fun x k x1 x2 x3 => ?_))⟩
                rw [u2_o (by omega), c5 x k x1 x2 x3, u2_o (by omega), gj _ _ (by omega) (by omega)]
        · exact fi3 x k (by unfold qFm qP; simp; omega) (by omega) (by omega) (by omega) (by omega)
        · rw [f5']
          rw [tl1_b (by omega) (by omega), show decide (k = 13 + w) = false by simp; omega, Bool.or_false]
        · exact gj3 x k (by unfold qFn qQ; simp; omega) (by omega) (by omega) (by omega) (by omega)
end
end

section
/-! all lines of a text -/
section
variable {i j : Nat → Nat → Int32} {l l2 : Nat → Nat → Int64} {s r p s2 r2 p2 : Nat} {c : Nat → Nat} {e m a N L S E D : Nat}
def JM (x y : Option (Option Value × AM)) (i j : Nat → Nat → Int32) (l l2 : Nat → Nat → Int64) (s r p s2 r2 p2 : Nat) (post : PT) : Prop :=
  ∃ (b : Bool) (i' j' : Nat → Nat → Int32), x = Reader_read_210 (nI b.toNat) (i', l, Rp s r p) ∧ y = Mo_lineRead_269 (nI b.toNat) (j', l2, Rp s2 r2 p2) ∧ fr (qLc r) i i' ∧ fr qLr j j' ∧ (b = true → post i' j') ∧ (b = false → NO i' j')
theorem JM_L {x y X : Option (Option Value × AM)} {post : PT} (h : JL x y i j l l2 s r p s2 r2 p2 post) (hX : X = crI x (i, l, Rp s r p) (fun x i l => Reader_read_210 x (i, l, Rp s r p))) : JM X y i j l l2 s r p s2 r2 p2 post := by
  obtain ⟨b, i1, j1, e1, e2, f1, f2, ht, hn⟩ := h
  exact ⟨b, i1, j1, by rw [hX, e1, crI_t], e2, f1, f2, ht, hn⟩
theorem line_j {n : Nat} (hr : r = 7 ∨ r = 27) (t : TT c e m a i j) (hR : RD r N L S E D i j) (hK : sK c e a ≠ 41) (h7 : i 23 7 = nI n) (hn : n ≤ 700) : JM (Reader_read_42 (nI 1) (i, l, Rp s r p)) (Mo_lineRead (j, l2, Rp s2 r2 p2)) i j l l2 s r p s2 r2 p2 (PO c e m a r) := by
  obtain ⟨k1, k2, k3⟩ := TT_K t
  obtain ⟨K, hK1⟩ : ∃ K, sK c e a = K := ⟨_, rfl⟩
  rw [hK1] at k1 k2 k3 hK
  have e1 : Reader_read_42 (nI 1) (i, l, Rp s r p) = if K = 0 then crI (Reader_nodeLine (i, l, Rp s r p)) (i, l, Rp s r p) (fun x i l => Reader_read_210 x (i, l, Rp s r p)) else if K = 1 then crI (Reader_linkLine (i, l, Rp s r p)) (i, l, Rp s r p) (fun x i l => Reader_read_210 x (i, l, Rp s r p)) else if K = 2 then crI (Reader_meetLine (i, l, Rp s r p)) (i, l, Rp s r p) (fun x i l => Reader_read_210 x (i, l, Rp s r p)) else if K = 3 then crI (Reader_sourceLine (i, l, Rp s r p)) (i, l, Rp s r p) (fun x i l => Reader_read_210 x (i, l, Rp s r p)) else if K ≤ 7 then Reader_read_172 (i, l, Rp s r p) else if K = 8 then crI (Reader_sendLine (i, l, Rp s r p)) (i, l, Rp s r p) (fun x i l => Reader_read_210 x (i, l, Rp s r p)) else if K ≤ 11 then Reader_read_188 (i, l, Rp s r p) else if K = 12 then crI (Reader_lawLine (i, l, Rp s r p)) (i, l, Rp s r p) (fun x i l => Reader_read_210 x (i, l, Rp s r p)) else crI (Reader_fail (nI 1) (i, l, Rp s r p)) (i, l, Rp s r p) (fun x i l => Reader_read_210 x (i, l, Rp s r p)) := by
    rw [Reader_read_42_eq, h7, ifc_lt (by omega) (by omega), if_neg (by omega), ifc_10, k1, ifc_eq (by omega) (by omega), if_neg hK]
    rw [ifc_eq (by omega) (by omega), ifc_eq (by omega) (by omega), ifc_eq (by omega) (by omega), ifc_eq (by omega) (by omega), ifc_eq (by omega) (by omega), ifc_eq (by omega) (by omega), ifc_eq (by omega) (by omega), ifc_eq (by omega) (by omega), ifc_eq (by omega) (by omega), ifc_eq (by omega) (by omega), ifc_eq (by omega) (by omega), ifc_eq (by omega) (by omega), ifc_eq (by omega) (by omega)]
    by_cases g13 : 13 ≤ K
    · simp only [show ¬ K = 0 by omega, show ¬ K = 1 by omega, show ¬ K = 2 by omega, show ¬ K = 3 by omega, show ¬ K = 4 by omega, show ¬ K = 5 by omega, show ¬ K = 6 by omega, show ¬ K = 7 by omega, show ¬ K = 8 by omega, show ¬ K = 9 by omega, show ¬ K = 10 by omega, show ¬ K = 11 by omega, show ¬ K = 12 by omega, show ¬ K ≤ 7 by omega, show ¬ K ≤ 11 by omega, if_false]
    · have : K = 0 ∨ K = 1 ∨ K = 2 ∨ K = 3 ∨ K = 4 ∨ K = 5 ∨ K = 6 ∨ K = 7 ∨ K = 8 ∨ K = 9 ∨ K = 10 ∨ K = 11 ∨ K = 12 := by omega
      rcases this with x | x | x | x | x | x | x | x | x | x | x | x | x
      all_goals rw [x]
      all_goals rfl
  rw [e1]
  by_cases h13 : 13 ≤ K
  · have e2 : Mo_lineRead (j, l2, Rp s2 r2 p2) = some (some (.int (nI 0)), (u2 (u2 j 82 4 (nI 1)) 82 5 (j 82 10), l2, Rp s2 r2 p2)) := by
      rw [Mo_lineRead_eq, ifc_if (kOk_1 k3)]
      by_cases h26 : K < 26
      · have hs : 13 ≤ sw K ∧ sw K < 26 := by unfold sw; repeat' split
                                              all_goals omega
        rw [if_pos h26, (k3.2.2.1 h26).2, ifc_lt (by omega) (by omega), if_pos (by omega), rwrong, crI_t, gd_0]
      · rw [if_neg h26, rwrong, crI_t, gd_0]
    rw [if_neg (by omega), if_neg (by omega), if_neg (by omega), if_neg (by omega), if_neg (by omega), if_neg (by omega), if_neg (by omega), if_neg (by omega), e2]
    exact JM_L (JL_no (w := nI 1) (TT_10 t) (cfail _) rfl) rfl
  · have hs : sw K = K := by unfold sw; rw [if_neg (by omega), if_neg (by omega)]
    have e2 : Mo_lineRead (j, l2, Rp s2 r2 p2) = if K = 0 then crI (Mo_nodeLine (j, l2, Rp s2 r2 p2)) (j, l2, Rp s2 r2 p2) (fun x i l => Mo_lineRead_269 x (i, l, Rp s2 r2 p2)) else if K = 1 then crI (Mo_linkLine (j, l2, Rp s2 r2 p2)) (j, l2, Rp s2 r2 p2) (fun x i l => Mo_lineRead_269 x (i, l, Rp s2 r2 p2)) else if K = 2 then crI (Mo_meetLine (j, l2, Rp s2 r2 p2)) (j, l2, Rp s2 r2 p2) (fun x i l => Mo_lineRead_269 x (i, l, Rp s2 r2 p2)) else if K = 3 then crI (Mo_sourceLine (j, l2, Rp s2 r2 p2)) (j, l2, Rp s2 r2 p2) (fun x i l => Mo_lineRead_269 x (i, l, Rp s2 r2 p2)) else if K ≤ 7 then crI (Mo_eventLine (j, l2, Rp s2 r2 p2)) (j, l2, Rp s2 r2 p2) (fun x i l => Mo_lineRead_269 x (i, l, Rp s2 r2 p2)) else if K = 8 then crI (Mo_sendLine (j, l2, Rp s2 r2 p2)) (j, l2, Rp s2 r2 p2) (fun x i l => Mo_lineRead_269 x (i, l, Rp s2 r2 p2)) else if K = 9 then crI (Mo_onceLine (nI 0) (nI 1) (nI 20) (j, l2, Rp s2 r2 p2)) (j, l2, Rp s2 r2 p2) (fun x i l => Mo_lineRead_269 x (i, l, Rp s2 r2 p2)) else if K = 10 then crI (Mo_onceLine (nI 1) (nI 0) (nI 100) (j, l2, Rp s2 r2 p2)) (j, l2, Rp s2 r2 p2) (fun x i l => Mo_lineRead_269 x (i, l, Rp s2 r2 p2)) else if K = 11 then crI (Mo_onceLine (nI 2) (nI 0) (nI 99999) (j, l2, Rp s2 r2 p2)) (j, l2, Rp s2 r2 p2) (fun x i l => Mo_lineRead_269 x (i, l, Rp s2 r2 p2)) else lawR j l2 s2 r2 p2 := by
      unfold lawR
      rw [Mo_lineRead_eq, ifc_if (kOk_1 k3), if_pos (by omega), (k3.2.2.1 (by omega)).2, hs, ifc_lt (by omega) (by omega), if_neg (by omega), Mo_lineRead_120_eq]
      rw [ifc_eq (by omega) (by omega), ifc_eq (by omega) (by omega), ifc_eq (by omega) (by omega), ifc_eq (by omega) (by omega), ifc_eq (by omega) (by omega), ifc_eq (by omega) (by omega), ifc_eq (by omega) (by omega), ifc_eq (by omega) (by omega), ifc_eq (by omega) (by omega), ifc_eq (by omega) (by omega), ifc_eq (by omega) (by omega), ifc_eq (by omega) (by omega)]
      have : K = 0 ∨ K = 1 ∨ K = 2 ∨ K = 3 ∨ K = 4 ∨ K = 5 ∨ K = 6 ∨ K = 7 ∨ K = 8 ∨ K = 9 ∨ K = 10 ∨ K = 11 ∨ K = 12 := by omega
      rcases this with x | x | x | x | x | x | x | x | x | x | x | x | x
      all_goals rw [x]
      all_goals rfl
    rw [e2]
    by_cases q0 : K = 0
    · rw [if_pos q0, if_pos q0]
      exact JM_L (JL_N (node_j hr t hR)) rfl
    rw [if_neg q0, if_neg q0]
    by_cases q1 : K = 1
    · rw [if_pos q1, if_pos q1]
      exact JM_L (JL_N (link_j hr t hR)) rfl
    rw [if_neg q1, if_neg q1]
    by_cases q2 : K = 2
    · rw [if_pos q2, if_pos q2]
      exact JM_L (JL_N (meet_j hr (hK1.trans q2) t hR)) rfl
    rw [if_neg q2, if_neg q2]
    by_cases q3 : K = 3
    · rw [if_pos q3, if_pos q3]
      exact JM_L (JL_N (source_j hr t hR)) rfl
    rw [if_neg q3, if_neg q3]
    by_cases q7 : K ≤ 7
    · rw [if_pos q7, if_pos q7, Reader_read_172_eq]
      exact JM_L (JL_N (event_j hr hK1 (by omega) t hR)) rfl
    rw [if_neg q7, if_neg q7]
    by_cases q8 : K = 8
    · rw [if_pos q8, if_pos q8]
      exact JM_L (JL_N (send_j hr t hR)) rfl
    rw [if_neg q8, if_neg q8]
    by_cases q9 : K = 9
    · rw [if_pos (by omega), if_pos q9, Reader_read_188_eq, Reader_numberLine_eq, k1, q9, ifc_t rfl]
      exact JM_L (JL_N (once_j (q := 0) (lo := 1) (hi := 20) hr (by omega) rfl rfl (hK1.trans q9) t hR)) rfl
    rw [if_neg q9]
    by_cases q10 : K = 10
    · rw [if_pos (by omega), if_pos q10, Reader_read_188_eq, Reader_numberLine_eq, k1, q10, ifc_f (show ¬ nI 10 = nI 9 by decide), ifc_t rfl]
      exact JM_L (JL_N (once_j (q := 1) (lo := 0) (hi := 100) hr (by omega) rfl rfl (hK1.trans q10) t hR)) rfl
    rw [if_neg q10]
    by_cases q11 : K = 11
    · rw [if_pos (by omega), if_pos q11, Reader_read_188_eq, Reader_numberLine_eq, k1, q11, ifc_f (show ¬ nI 11 = nI 9 by decide), ifc_f (show ¬ nI 11 = nI 10 by decide)]
      exact JM_L (JL_N (once_j (q := 2) (lo := 0) (hi := 99999) hr (by omega) rfl rfl (hK1.trans q11) t hR)) rfl
    rw [if_neg q11, if_neg (by omega), if_pos (by omega)]
    exact JM_L (law_j hr t hR) rfl
def qLd (r a k : Nat) : Bool := qLc r a k || (a == 23 && k == 7)
theorem qLd_c {i i' : Nat → Nat → Int32} (h : fr (qLc r) i i') : fr (qLd r) i i' := fr_mono (fun a k hq => by
  unfold qLd at hq
  simp at hq
  exact hq.1) h
theorem read0 : Reader_read_42 (nI 0) (i, l, Rp s r p) = some (some (.int (nI 0)), (i, l, Rp s r p)) := by
  rw [Reader_read_42_eq, gd_0, ifc_00]
  unfold ifc
  split <;> rfl
/-- what reading lines comes to -/
def JE (x y : Option (Option Value × AM)) (i j : Nat → Nat → Int32) (l l2 : Nat → Nat → Int64) (s r p s2 r2 p2 : Nat) : Prop :=
  ∃ (b : Bool) (i' j' : Nat → Nat → Int32), x = some (some (.int (nI b.toNat)), (i', l, Rp s r p)) ∧ fr (qLd r) i i' ∧ fr qLr j j' ∧ (b = false → y = some (some (.int (nM 1)), (j', l2, Rp s2 r2 p2)) ∧ NO i' j') ∧ (b = true → ∃ n N L S E D, i' 23 7 = nI n ∧ i' 23 8 = nI 0 ∧ i' 23 9 = nM 1 ∧ j' 82 4 = nI 0 ∧ j' 82 5 = nM 1 ∧ RD r N L S E D i' j' ∧ y = crV (Mo_keepText (j', l2, Rp s2 r2 p2)) (j', l2, Rp s2 r2 p2) (fun i_1 l_1 => some (some (.int (nI n)), (i_1, l_1, Rp s2 r2 p2))))
theorem kC_7 (hr : r = 7 ∨ r = 27) : kC r (fun a k => a == 23 && k == 7) := fun a k x => by
  simp
  omega
theorem loop_r (hr : r = 7 ∨ r = 27) : ∀ d a n N L S E D (i j : Nat → Nat → Int32), a + d = m → n ≤ a → i 23 7 = nI n → TT c e m a i j → RD r N L S E D i j →
    JE (Reader_read_42 (nI 1) (i, l, Rp s r p)) (Mo_text_55 (nI n) (j, l2, Rp s2 r2 p2)) i j l l2 s r p s2 r2 p2
  | d, a, n, N, L, S, E, D, i, j, hd, hn, h7, t, hR => by
    have hm7 := t.1.1.1
    obtain ⟨k1, k2, k3⟩ := TT_K t
    rw [Mo_text_55_eq, ifc_if (kOk_0 k3)]
    by_cases h41 : sK c e a = 41
    · rw [if_pos h41]
      refine ⟨true, i, j, ?_, fr_refl _ _, fr_refl _ _, fun x => absurd x (by decide), fun _ => ⟨n, N, L, S, E, D, h7, t.1.1.2.2.1.2.1, t.1.1.2.2.1.2.2, t.2.1.2.1, t.2.1.2.2, hR, rfl⟩⟩
      rw [Reader_read_42_eq, h7, ifc_lt (by omega) (by omega), if_neg (by omega), ifc_10, k1, h41, ifc_t rfl, gd_1]
      rfl
    · rw [if_neg h41]
      obtain ⟨b, i1, j1, e1, e2, f1, g1, ht, hno⟩ := line_j (l := l) (l2 := l2) (s := s) (p := p) (s2 := s2) (r2 := r2) (p2 := p2) hr t hR h41 h7 (by omega)
      have h71 : i1 23 7 = nI n := (f1 23 7 (by unfold qLc qP; simp; omega)).trans h7
      rw [e1, e2]
      cases b with
      | false =>
        refine ⟨false, u2 i1 23 7 (nI (n + 1)), j1, ?_, fr_trans (qLd_c f1) (fr_u2 (by unfold qLd; simp)), g1, fun _ => ⟨?_, ?_⟩, fun x => absurd x (by decide)⟩
        · rw [Reader_read_210_eq, ifc_t (c := nI false.toNat = 0) rfl, h71, nI_add, read0]
          rfl
        · rw [show nI false.toNat = nI 0 from rfl, l269_0, crI_t, ifc_00]
        · exact ⟨(u2_k (by decide)).trans (hno rfl).1, (u2_k (by decide)).trans (hno rfl).2⟩
      | true =>
        obtain ⟨a1, N1, L1, S1, E1, D1, ha1, t1, R1⟩ := ht rfl
        obtain ⟨q1, q2, q3⟩ := TT_K t1
        rw [Reader_read_210_eq, ifc_f (c := nI true.toNat = 0) (by decide), Mo_lineRead_269_eq, ifc_f (c := nI true.toNat = 0) (by decide), show nI 59 = nI (sgc 28) from rfl, isS 28 (by omega) q3, Reader_stops_eq, q1, ifc_eq (by omega) (by omega)]
        by_cases h28 : sK c e a1 = 28
        · have ham : a1 < m := by
            rcases Nat.lt_or_ge a1 m with y | y
            · exact y
            · exact absurd (K_end t1 y) (by omega)
          obtain ⟨i2, j2, z1, z2, f2, g2, t2⟩ := step_j (l := l) (l2 := l2) (s := s) (r := r) (p := p) (s2 := s2) (r2 := r2) (p2 := p2) t1
          have R2 := RD_fr R1 f2 g2 (kC_P hr) kR_Q
          have h72 : i2 23 7 = nI n := (f2 23 7 rfl).trans h71
          rw [if_pos h28, z1, crI_t, gd_1, crI_t, ifc_10, dec1 h28, z2, crV_t, gd_1, crI_t, ifc_10, h72, nI_add]
          obtain ⟨d', hd'⟩ : ∃ d', a1 + 1 + d' = m := ⟨m - (a1 + 1), by omega⟩
          have R3 : RD r N1 L1 S1 E1 D1 (u2 i2 23 7 (nI (n + 1))) j2 := RD_fr (qr := qQ) R2 (fr_u2 (Q := fun a k => a == 23 && k == 7) rfl) (fr_refl _ _) (kC_7 hr) kR_Q
          have hdd : d' < d := by omega
          obtain ⟨b, i3, j3, y1, y2, y3, y4, y5⟩ := loop_r hr d' (a1 + 1) (n + 1) N1 L1 S1 E1 D1 (u2 i2 23 7 (nI (n + 1))) j2 hd' (by omega) (u2_s _ _ _ _) ⟨CT_u t2.1 (by omega), t2.2⟩ R3
          exact ⟨b, i3, j3, y1, fr_trans (fr_trans (qLd_c (fr_trans f1 (qLc_P f2))) (fr_u2 (by unfold qLd; simp))) y2, fr_trans (fr_trans g1 (qLr_Q g2)) y3, y4, y5⟩
        · rw [if_neg h28, cfail, crI_t, gd_0, crI_t, ifc_00, dec0 h28, rwrong, crI_t, gd_0, crI_t, ifc_00, read0]
          refine ⟨false, _, _, rfl, fr_trans (qLd_c (fr_trans f1 (qLc_P fr_f))) (fr_u2 (by unfold qLd; simp)), fr_trans g1 (qLr_Q fr_w), fun _ => ⟨rfl, ?_⟩, fun x => absurd x (by decide)⟩
          have := NO_f (w := nI 1) (TT_10 t1)
          exact ⟨(u2_k (by decide)).trans this.1, (u2_k (by decide)).trans this.2⟩
  termination_by d => d
end
end
