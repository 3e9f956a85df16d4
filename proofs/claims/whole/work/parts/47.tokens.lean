section
/-! what a text may change; feed -/
def qT (s a k : Nat) : Bool :=
  (decide (1 ≤ a) && decide (a ≤ 6) && !(a == 3)) || (decide (s ≤ a) && decide (a < s + 16)) || (decide (23 ≤ a) && decide (a ≤ 25)) || (a == 0 && (k == 12 || k == 13)) ||
  (a == 82 && (k == 1 || k == 2 || (decide (4 ≤ k) && decide (k ≤ 11)) || (decide (18 ≤ k) && decide (k ≤ 23)) || (decide (45 ≤ k) && decide (k ≤ 50)))) || a == 83 || (a == 85 && k == 1) || a == 86 || (a == 87 && decide (3 ≤ k)) || (a == 88 && decide (7 ≤ k)) ||
  ((a == 89 || a == 90) && decide (8 ≤ k)) || ((a == 91 || a == 92) && decide (3 ≤ k)) || ((a == 93 || a == 94 || a == 95) && decide (16 ≤ k)) || ((a == 96 || a == 97) && decide (14 ≤ k)) || ((a == 98 || a == 99 || a == 100) && decide (3 ≤ k)) || ((a == 101 || a == 102 || a == 103) && decide (64 ≤ k)) || a == 104 || a == 105
theorem qT_row {s : Nat} {i j : Nat → Nat → Int32} (h : fr (qT s) i j) {a : Nat} (h1 : a = 3 ∨ 26 ≤ a ∧ ¬ (s ≤ a ∧ a < s + 16) ∧ a < 82 ∨ 7 ≤ a ∧ a < 23 ∧ ¬ (s ≤ a ∧ a < s + 16) ∨ a = 84 ∨ 106 ≤ a) (hs : s = 7 ∨ s = 27) : j a = i a := funext fun k => h a k (by
  unfold qT
  simp
  omega)
theorem qT_PM {s a k : Nat} (hs : s = 7 ∨ s = 27) (h : qPM a k = true) : qT s a k = false := by
  unfold qPM at h
  simp at h
  unfold qT
  simp
  omega
theorem INV_T {P : PL} {i j : Nat → Nat → Int32} {l : Nat → Nat → Int64} {s r p r' : Nat} (h : INV P i l s r p) (q1 : fr (qT s) i j) (hr' : r' = 7 ∨ r' = 27) (hT : TP j) (hF : FT j) : INV P j l s r' p := by
  obtain ⟨hp, hr, hw, h1, h2, h3, h4, h5, h6, h7, h8, h9, h10, h11, h12, h13, h14⟩ := h
  have hs : s = 7 ∨ s = 27 := by omega
  have rwr : ∀ a, a = 3 ∨ 26 ≤ a ∧ ¬ (s ≤ a ∧ a < s + 16) ∧ a < 82 ∨ 7 ≤ a ∧ a < 23 ∧ ¬ (s ≤ a ∧ a < s + 16) ∨ a = 84 ∨ 106 ≤ a → j a = i a := fun a ha => qT_row q1 ha hs
  have rwm : ∀ k, k = 73 ∨ k = 80 ∨ k = 81 ∨ k = 85 ∨ k = 87 ∨ k = 89 → j 82 k = i 82 k := fun k hk => q1 82 k (by unfold qT; simp; omega)
  have v51 : ∀ a, a < 7 → j (51 + a) = i (51 + a) := fun a ha => rwr _ (by omega)
  have v58 : ∀ a, a < 7 → j (58 + a) = i (58 + a) := fun a ha => rwr _ (by omega)
  refine ⟨hp, hr', hw, ?_, ?_, ?_, swf_rw h4 v51, SM_rw (SM_fr h5 (fun a x y => rwr a (by omega))) v51, ?_, (rwm 73 (by omega)).trans h7, ?_, ?_, ?_, ?_, hT, hF, ?_⟩
  · exact PC_fr h1 (fun a ha => rwr _ (by omega))
  · exact PM_fr hw h2 (fun a k hq => q1 a k (qT_PM hs hq))
  · unfold NetI NetOk NR
    rw [rwr 26 (by omega), rwr 43 (by omega), rwr 44 (by omega), rwr 45 (by omega)]
    exact h3
  · rw [show j 51 = i 51 from v51 0 (by omega)]; exact h6
  · exact UI_row h8 v51 (rwr 72 (by omega)) (rwr 73 (by omega)) (rwm 85 (by omega)) (rwr 126 (by omega))
  · exact II_row h9 v58 (q1 0 11 (by unfold qT; simp; omega)) (rwm 87 (by omega)) (rwr 127 (by omega)) (rwm 89 (by omega)) rfl
  · exact NT_row h10 (congrFun (rwr 74 (by omega)) 8) (congrFun (rwr 74 (by omega)) 9) (rwm 80 (by omega)) (rwm 81 (by omega)) (fun a x y => rwr a (by omega)) (rwr 123 (by omega))
  · exact TB_row h11 (congrFun (rwr 74 (by omega)) 7) (rwr 80 (by omega))
  · exact WD_row h14 (rwr 3 (by omega)) (rwr 84 (by omega))
/-! a byte -/
theorem byt (y : Int32) : ∃ c, c < 256 ∧ y &&& nI 255 = nI c ∧ y.toInt8.toInt32.toInt8.toInt32 = (nI c).toInt8.toInt32 := by
  have e1 : y.toInt8.toInt32.toInt8.toInt32 = (y &&& nI 255).toInt8.toInt32 := by
    apply b_ext
    intro k hk
    unfold bt
    simp only [Int8.toBitVec_toInt32, Int32.toBitVec_toInt8, BitVec.getLsbD_signExtend, BitVec.msb_eq_getLsbD_last, Int32.toBitVec_and, BitVec.getLsbD_and]
    have e : ∀ q, q < 8 → (nI 255).toBitVec.getLsbD q = true := by decide +kernel
    by_cases h8 : k < 8
    · simp only [h8, e k h8, Bool.and_true, decide_true, Bool.true_and, if_true]
      have : k < 32 := by omega
      simp [this]
    · have e7 := e 7 (by omega)
      simp only [h8, if_false, Nat.reduceSub, Nat.reduceLT, if_true, decide_true, Bool.true_and, e7, Bool.and_true]
  have e2 : y &&& nI 255 = nI (y &&& nI 255).toBitVec.toNat := by
    apply Int32.toBitVec_inj.mp
    show _ = BitVec.ofNat 32 _
    rw [BitVec.ofNat_toNat, BitVec.setWidth_eq]
  refine ⟨(y &&& nI 255).toBitVec.toNat, ?_, e2, ?_⟩
  · rw [Int32.toBitVec_and, BitVec.toNat_and]
    exact Nat.lt_of_le_of_lt Nat.and_le_right (by decide)
  · rw [e1, ← e2]
section
variable {i : Nat → Nat → Int32} {l : Nat → Nat → Int64} {s r p : Nat} {P : PL}
/-- the tape, longer by m bytes: the component's -/
def tpC (i : Nat → Nat → Int32) (n m : Nat) (g : Nat → Int32) : Nat → Nat → Int32 := u2 (oi i 2 n m g) 1 8 (nI (n + m))
theorem tpC_8 {n m : Nat} {g : Nat → Int32} : tpC i n m g 1 8 = nI (n + m) := u2_s _ _ _ _
theorem tpC_s {n m : Nat} {g : Nat → Int32} {x : Int32} (h : g m = x) : u2 (u2 (tpC i n m g) 2 (n + m) x) 1 8 (nI (n + m + 1)) = tpC i n (m + 1) g := by
  unfold tpC
  rw [u2_comm (by decide), u2_u2, ← u2_comm (by decide), oi_sb h]
  rfl
theorem app1 {x : Int32} {n m q : Nat} {g : Nat → Int32} (hq : q < 4) (h : n + m < 700) (hg : g m = ((x >>> (nI (24 - 8 * q) &&& 31)).toInt8.toInt32).toInt8.toInt32) :
    Tokens_append_3 x (nI (24 - 8 * q)) (tpC i n m g, l, Rp s r p) = Tokens_append_3 x (nI (24 - 8 * q) + nM 8) (tpC i n (m + 1) g, l, Rp s r p) := by
  rw [Tokens_append_3_eq]
  simp only [tpC_8]
  rw [ifc_neg (by omega), ifc_lt (by omega) (by omega), if_pos h, gd_in h (by omega), nI_clamp (by omega), nI_add, tpC_s hg]
theorem app_ok {x : Int32} {n m : Nat} {g : Nat → Int32} (h : n + m + 4 ≤ 700) (hg : ∀ q, q < 4 → g (m + q) = ((x >>> (nI (24 - 8 * q) &&& 31)).toInt8.toInt32).toInt8.toInt32) :
    Tokens_append x (tpC i n m g, l, Rp s r p) = some (none, (tpC i n (m + 4) g, l, Rp s r p)) := by
  rw [Tokens_append_eq, show nI 24 = nI (24 - 8 * 0) from rfl, app1 (q := 0) (m := m) (by omega) (by omega) (hg 0 (by omega))]
  rw [show nI (24 - 8 * 0) + nM 8 = nI (24 - 8 * 1) from nI_nM (by omega), app1 (q := 1) (m := m + 1) (by omega) (by omega) (hg 1 (by omega))]
  rw [show nI (24 - 8 * 1) + nM 8 = nI (24 - 8 * 2) from nI_nM (by omega), app1 (q := 2) (m := m + 2) (by omega) (by omega) (hg 2 (by omega))]
  rw [show nI (24 - 8 * 2) + nM 8 = nI (24 - 8 * 3) from nI_nM (by omega), app1 (q := 3) (m := m + 3) (by omega) (by omega) (hg 3 (by omega))]
  rw [Tokens_append_3_eq, ifc_t (by decide)]
/-- the words of a feed, by its byte -/
def fdw (a b c d e : Int32) (k : Nat) : Int32 := if k < 4 then a else if k < 8 then b else if k < 12 then c else if k < 16 then d else e
def fdy (a b c d e : Int32) (k : Nat) : Int32 := fdw a b c d e k >>> (nI (24 - 8 * (k % 4)) &&& 31)
theorem fd_sh : ∀ k, k < 20 → nI 24 - nI 8 * (nI k - nI k / nI 4 * nI 4) = nI (24 - 8 * (k % 4)) := by decide +kernel
theorem fd_1 {a b c d e : Int32} {n k : Nat} {j : Nat → Nat → Int32} (h1 : j 82 1 = nI n) (hn : n + 20 ≤ 700) (hk : k < 20) :
    Mo_feed_23 a b c d e (nI k) (oi j 83 n k (fun q => fdy a b c d e q &&& nI 255), l, Rp s r p) = Mo_feed_23 a b c d e (nI (k + 1)) (oi j 83 n (k + 1) (fun q => fdy a b c d e q &&& nI 255), l, Rp s r p) := by
  have h2 : oi j 83 n k (fun q => fdy a b c d e q &&& nI 255) 82 1 = nI n := (congrFun (oi_c (by decide)) 1).trans h1
  have hz : ∀ z, fdw a b c d e k = z → Mo_feed_76 a b c d e (nI k) z (oi j 83 n k (fun q => fdy a b c d e q &&& nI 255), l, Rp s r p) = Mo_feed_23 a b c d e (nI (k + 1)) (oi j 83 n (k + 1) (fun q => fdy a b c d e q &&& nI 255), l, Rp s r p) := by
    intro z hz
    rw [Mo_feed_76_eq]
    simp only [h2]
    rw [gd_n0 (by omega) (by omega), nI_add, gd_in (by omega) (by omega), nI_clamp (by omega), fd_sh k hk, nI_add, oi_sb]
    show fdy a b c d e k &&& nI 255 = _
    unfold fdy
    rw [hz]
  rw [Mo_feed_23_eq]
  simp (disch := omega) only [ifc_lt]
  rw [if_pos hk]
  by_cases h4 : k < 4
  · rw [if_pos h4]; exact hz a (by unfold fdw; rw [if_pos h4])
  · rw [if_neg h4]
    by_cases h8 : k < 8
    · rw [if_pos h8]; exact hz b (by unfold fdw; rw [if_neg h4, if_pos h8])
    · rw [if_neg h8]
      by_cases h12 : k < 12
      · rw [if_pos h12]; exact hz c (by unfold fdw; rw [if_neg h4, if_neg h8, if_pos h12])
      · rw [if_neg h12]
        by_cases h16 : k < 16
        · rw [if_pos h16]; exact hz d (by unfold fdw; rw [if_neg h4, if_neg h8, if_neg h12, if_pos h16])
        · rw [if_neg h16]; exact hz e (by unfold fdw; rw [if_neg h4, if_neg h8, if_neg h12, if_neg h16])
theorem feed_pr (h : INV P i l s r p) (a b c d e : Int32) : PrI (GT_feed a b c d e) (Mo_feed a b c d e) P i l s r p := by
  obtain ⟨n, h700, t1, t2, t3⟩ := h.2.2.2.2.2.2.2.2.2.2.2.2.2.2.1
  by_cases hn : 700 < n + 20
  · refine ⟨nM 1, i, l, u2 i 82 2 (nI 0), l, ?_, ?_, INV_th h⟩
    · rw [GT_feed_eq, t1, nI_add, ifc_lt (by omega) (by omega), if_pos hn]
    · rw [Mo_feed_eq, t2, nI_add, ifc_lt (by omega) (by omega), if_pos hn]
  · have hg : ∀ m x, (∀ q, q < 4 → fdw a b c d e (m + q) = x) → m % 4 = 0 → ∀ q, q < 4 → (fun k => ((fdy a b c d e k).toInt8.toInt32).toInt8.toInt32) (m + q) = ((x >>> (nI (24 - 8 * q) &&& 31)).toInt8.toInt32).toInt8.toInt32 := by
      intro m x hx hm q hq
      show ((fdy a b c d e (m + q)).toInt8.toInt32).toInt8.toInt32 = _
      unfold fdy
      rw [hx q hq, show (m + q) % 4 = q from by omega]
    have e0 : tpC i n 0 (fun k => ((fdy a b c d e k).toInt8.toInt32).toInt8.toInt32) = i := by
      unfold tpC
      rw [oi_b0, Nat.add_zero]
      exact u2_self t1
    refine ⟨nI (n + 20), tpC i n 20 (fun k => ((fdy a b c d e k).toInt8.toInt32).toInt8.toInt32), l, u2 (oi (u2 (tpC i n 20 (fun k => ((fdy a b c d e k).toInt8.toInt32).toInt8.toInt32)) 82 2 (nI 0)) 83 n 20 (fun q => fdy a b c d e q &&& nI 255)) 82 1 (nI (n + 20)), l, ?_, ?_, ?_⟩
    · rw [GT_feed_eq, t1, nI_add, ifc_lt (by omega) (by omega), if_neg hn]
      have a1 := app_ok (i := i) (l := l) (s := s) (r := r) (p := p) (x := a) (n := n) (m := 0) (g := fun k => ((fdy a b c d e k).toInt8.toInt32).toInt8.toInt32) (by omega) (hg 0 a (fun q hq => by unfold fdw; rw [if_pos (by omega)]) rfl)
      rw [e0] at a1
      rw [a1, crV_t, app_ok (by omega) (hg (0 + 4) b (fun q hq => by unfold fdw; rw [if_neg (by omega), if_pos (by omega)]) rfl), crV_t]
      rw [app_ok (by omega) (hg (0 + 4 + 4) c (fun q hq => by unfold fdw; rw [if_neg (by omega), if_neg (by omega), if_pos (by omega)]) rfl), crV_t]
      rw [app_ok (by omega) (hg (0 + 4 + 4 + 4) d (fun q hq => by unfold fdw; rw [if_neg (by omega), if_neg (by omega), if_neg (by omega), if_pos (by omega)]) rfl), crV_t]
      rw [app_ok (by omega) (hg (0 + 4 + 4 + 4 + 4) e (fun q hq => by unfold fdw; rw [if_neg (by omega), if_neg (by omega), if_neg (by omega), if_neg (by omega)]) rfl), crV_t, tpC_8]
    · have t4 : tpC i n 20 (fun k => ((fdy a b c d e k).toInt8.toInt32).toInt8.toInt32) 82 1 = nI n := by
        unfold tpC
        rw [u2_i (by decide), congrFun (oi_c (by decide)) 1, t2]
      rw [Mo_feed_eq, t4, nI_add, ifc_lt (by omega) (by omega), if_neg hn]
      have hu := upto (fun k => Mo_feed_23 a b c d e (nI k) (oi (u2 (tpC i n 20 (fun k => ((fdy a b c d e k).toInt8.toInt32).toInt8.toInt32)) 82 2 (nI 0)) 83 n k (fun q => fdy a b c d e q &&& nI 255), l, Rp s r p)) 20 (fun k hk => fd_1 ((u2_k (by decide)).trans t4) (by omega) hk) 0 (by omega)
      simp only [oi_b0] at hu
      rw [hu, Mo_feed_23_eq]
      rw [ifc_lt (by omega) (by omega), if_neg (Nat.lt_irrefl 20), congrFun (oi_c (by decide)) 1, u2_k (by decide), t4, nI_add]
    · refine INV_T h ?_ h.2.1 ?_ ?_
      · exact fr_trans (fr_trans (fr_trans (fr_trans (fr_oi (fun k => by simp [qT])) (fr_u2 (by simp [qT]))) (fr_u2 (by simp [qT]))) (fr_oi (fun k => by simp [qT]))) (fr_u2 (by simp [qT]))
      · refine ⟨n + 20, by omega, ?_, ?_, ?_⟩
        · rw [u2_i (by decide), congrFun (oi_c (by decide)) 8, u2_i (by decide), tpC_8]
        · rw [u2_s]
        · intro k hk
          rw [u2_i (by decide), u2_i (by decide), congrFun (oi_c (a := 83) (c := 2) (by decide)) k, u2_i (by decide)]
          unfold tpC
          rw [u2_i (by decide)]
          by_cases hkn : k < n
          · rw [oi_k (by omega), oi_k (by omega), u2_i (by decide), u2_i (by decide), congrFun (oi_c (by decide)) k]
            exact t3 k hkn
          · obtain ⟨q, rfl⟩ : ∃ q, k = n + q := ⟨k - n, by omega⟩
            rw [oi_a _ _ _ _ (by omega), oi_a _ _ _ _ (by omega)]
            exact byt _
      · have hF := h.2.2.2.2.2.2.2.2.2.2.2.2.2.2.2.1
        unfold FT tpC
        simp (disch := decide) only [u2_s, u2_i, u2_k, oi_c]
        exact hF
end
end

section
/-! tokens, by the bytes alone -/
def sb (c : Nat) : Int32 := (nI c).toInt8.toInt32
theorem sb_val : ∀ c, c < 256 → sb c = if c < 128 then nI c else nM (256 - c) := by decide +kernel
theorem nM_nI {m k : Nat} (h0 : 0 < m) (hm : m < 2 ^ 31) (hk : k < 2 ^ 31) : nM m < nI k := by
  have h1 := nM_neg h0 hm
  have h2 : ¬ nI k < 0 := nI_pos hk
  rw [Int32.lt_iff_toInt_lt] at *
  omega
theorem sb_eq {c k : Nat} (hc : c < 256) (hk : k < 128) : sb c = nI k ↔ c = k := by
  rw [sb_val c hc]
  by_cases h : c < 128
  · rw [if_pos h]; exact nI_eq (by omega) (by omega)
  · rw [if_neg h]
    constructor
    · intro e
      have := nM_nI (m := 256 - c) (k := k) (by omega) (by omega) (by omega)
      rw [e] at this
      exact absurd this (by rw [Int32.lt_iff_toInt_lt]; omega)
    · omega
theorem sb_lt {c k : Nat} (hc : c < 256) (hk : k < 128) : sb c < nI k ↔ c < k ∨ 128 ≤ c := by
  rw [sb_val c hc]
  by_cases h : c < 128
  · rw [if_pos h, nI_ltI (by omega) (by omega)]; omega
  · rw [if_neg h]
    have := nM_nI (m := 256 - c) (k := k) (by omega) (by omega) (by omega)
    exact ⟨fun _ => Or.inr (by omega), fun _ => this⟩
theorem sb_gt {c k : Nat} (hc : c < 256) (hk : k < 128) : nI k < sb c ↔ k < c ∧ c < 128 := by
  rw [sb_val c hc]
  by_cases h : c < 128
  · rw [if_pos h, nI_ltI (by omega) (by omega)]; omega
  · rw [if_neg h]
    have := nM_nI (m := 256 - c) (k := k) (by omega) (by omega) (by omega)
    constructor
    · intro h2
      rw [Int32.lt_iff_toInt_lt] at *
      omega
    · omega
def blk (c : Nat) : Bool := c == 32 || c == 10
def sml (c : Nat) : Bool := decide (97 ≤ c) && decide (c ≤ 122)
def dgt (c : Nat) : Bool := decide (48 ≤ c) && decide (c ≤ 57)
def adv (f : Nat → Bool) (e : Nat) : Nat → Nat → Nat
  | 0, n => n
  | m + 1, n => if n < e ∧ f n = true then adv f e m (n + 1) else n
def av (f : Nat → Bool) (e n : Nat) : Nat := adv f e (e - n) n
theorem av_t {f : Nat → Bool} {e n : Nat} (h : n < e) (hf : f n = true) : av f e n = av f e (n + 1) := by
  unfold av
  rw [show e - n = (e - (n + 1)) + 1 by omega]
  conv => lhs; unfold adv
  rw [if_pos ⟨h, hf⟩]
theorem av_f {f : Nat → Bool} {e n : Nat} (h : ¬ (n < e ∧ f n = true)) : av f e n = n := by
  unfold av
  match e - n with
  | 0 => rfl
  | m + 1 => exact if_neg h
theorem adv_ge {f : Nat → Bool} {e : Nat} : ∀ m n, n ≤ adv f e m n
  | 0, n => Nat.le_refl _
  | m + 1, n => by
    unfold adv
    split
    · have := adv_ge (f := f) (e := e) m (n + 1); omega
    · exact Nat.le_refl _
theorem adv_le {f : Nat → Bool} {e : Nat} : ∀ m n, n ≤ e → adv f e m n ≤ e
  | 0, n, h => h
  | m + 1, n, h => by
    unfold adv
    split
    · rename_i hh; exact adv_le m (n + 1) (by omega)
    · exact h
theorem av_ge {f : Nat → Bool} {e n : Nat} : n ≤ av f e n := adv_ge _ _
theorem av_le {f : Nat → Bool} {e n : Nat} (h : n ≤ e) : av f e n ≤ e := adv_le _ _ h
theorem adv_in {f : Nat → Bool} {e : Nat} : ∀ m n k, n ≤ k → k < adv f e m n → f k = true
  | 0, n, k, h1, h2 => by unfold adv at h2; omega
  | m + 1, n, k, h1, h2 => by
    unfold adv at h2
    split at h2
    · rename_i hh
      by_cases e1 : k = n
      · rw [e1]; exact hh.2
      · exact adv_in m (n + 1) k (by omega) h2
    · omega
theorem av_in {f : Nat → Bool} {e n k : Nat} (h1 : n ≤ k) (h2 : k < av f e n) : f k = true := adv_in _ _ _ h1 h2
theorem adv_end {f : Nat → Bool} {e : Nat} : ∀ m n, e ≤ n + m → ¬ (adv f e m n < e ∧ f (adv f e m n) = true)
  | 0, n, h => fun x => by unfold adv at x; omega
  | m + 1, n, h => by
    unfold adv
    split
    · exact adv_end m (n + 1) (by omega)
    · rename_i hh; exact hh
theorem av_end {f : Nat → Bool} {e n : Nat} : ¬ (av f e n < e ∧ f (av f e n) = true) := adv_end _ _ (by omega)
/-- going on where f holds, as a program does -/
theorem av_loop {α : Type} {f : Nat → Bool} {e : Nat} (F : Nat → α) (z : Nat) (hF : ∀ n, z ≤ n → n < e → f n = true → F n = F (n + 1)) : ∀ n, z ≤ n → F n = F (av f e n) := by
  have key : ∀ m n, z ≤ n → F n = F (adv f e m n) := by
    intro m
    induction m with
    | zero => intro n _; rfl
    | succ m ih =>
      intro n hn
      unfold adv
      split
      · rename_i hh
        rw [hF n hn hh.1 hh.2, ih (n + 1) (by omega)]
      · rfl
  exact fun n hn => key _ n hn
/-! signs -/
def sgk (x y : Nat) : Nat := if x = 59 then 28 else if x = 40 then 29 else if x = 41 then 30 else if x = 43 then 31 else if x = 45 then 32 else if x = 42 then 33 else if x = 47 then 34 else if x = 61 then 37 else
  if x = 60 then (if y = 61 then 36 else if y = 62 then 38 else 35) else if x = 62 then (if y = 61 then 39 else 40) else 42
def sgn (x y : Nat) : Nat := if x = 60 ∧ (y = 61 ∨ y = 62) ∨ x = 62 ∧ y = 61 then 2 else 1
def sgy (c : Nat → Nat) (e a : Nat) : Nat := if a + 1 < e then c (a + 1) else 0
/-! words -/
def dg (c : Nat → Nat) (a n q : Nat) : Nat := if q < n then c (a + q) - 96 else 0
def pkw (c : Nat → Nat) (a n : Nat) : Nat := ((((dg c a n 0 * 32 + dg c a n 1) * 32 + dg c a n 2) * 32 + dg c a n 3) * 32 + dg c a n 4) * 32 + dg c a n 5
def wk (c : Nat → Nat) (a n : Nat) : Nat := if 6 < n then 42 else (fnd (fun k => nI (wdC.getD k 0)) (nI (pkw c a n)) 26 0).getD 26
/-! numbers -/
def nv (c : Nat → Nat) (a : Nat) : Nat → Nat
  | 0 => 0
  | k + 1 => min 100000 (10 * nv c a k + (c (a + k) - 48))
/-! a token: its place, kind, value, and where it ends -/
def tA (c : Nat → Nat) (e n : Nat) : Nat := av (fun k => blk (c k)) e n
def tK (c : Nat → Nat) (e a : Nat) : Nat := if e ≤ a then 41 else if sml (c a) then wk c a (av (fun k => sml (c k)) e a - a) else if dgt (c a) then 27 else sgk (c a) (sgy c e a)
def tE (c : Nat → Nat) (e a : Nat) : Nat := if e ≤ a then a else if sml (c a) then av (fun k => sml (c k)) e a else if dgt (c a) then av (fun k => dgt (c k)) e a else a + sgn (c a) (sgy c e a)
def tV (c : Nat → Nat) (e a : Nat) : Nat := if sml (c a) then pkw c a (av (fun k => sml (c k)) e a - a) else nv c a (av (fun k => dgt (c k)) e a - a)
/-- a value as either side may hold it -/
def vOk (c : Nat → Nat) (e a : Nat) (v : Int32) : Prop := (tK c e a = 26 → v = nI (tV c e a)) ∧ (tK c e a = 27 → ∃ w, w ≤ 1000000 ∧ v = nI w ∧ min 100000 w = tV c e a) ∧ (tK c e a ≤ 25 → ∃ w, w < 2 ^ 31 ∧ v = nI w)
end

section
/-! the component tells a token apart -/
def qKc (a k : Nat) : Bool := a == 1 && (k == 6 || k == 9 || k == 10 || k == 11)
def TC (i : Nat → Nat → Int32) (c : Nat → Nat) (e : Nat) : Prop := i 1 5 = nI e ∧ e ≤ 700 ∧ (∀ k, k < e → c k < 256 ∧ i 2 k = sb (c k)) ∧ (∀ k, k < 26 → i 3 k = nI (wdC.getD k 0))
theorem TC_fr {i j : Nat → Nat → Int32} {c : Nat → Nat} {e : Nat} (h : TC i c e) (hf : fr qKc i j) : TC j c e := ⟨(hf 1 5 rfl).trans h.1, h.2.1, fun k hk => ⟨(h.2.2.1 k hk).1, (hf 2 k rfl).trans (h.2.2.1 k hk).2⟩, fun k hk => (hf 3 k rfl).trans (h.2.2.2 k hk)⟩
theorem TC_u {i : Nat → Nat → Int32} {c : Nat → Nat} {e k : Nat} {x : Int32} (h : TC i c e) (hk : qKc 1 k = true) : TC (u2 i 1 k x) c e := TC_fr h (fr_u2 hk)
theorem shl_nI {w m : Nat} (hm : m < 32) : nI w <<< (nI m &&& 31) = nI (w * 2 ^ m) := by
  apply b_ext
  intro k hk
  rw [b_shl m hm _ hk]
  unfold bt
  show (_ && (BitVec.ofNat 32 w).getLsbD (k - m)) = (BitVec.ofNat 32 (w * 2 ^ m)).getLsbD k
  rw [BitVec.getLsbD_ofNat, BitVec.getLsbD_ofNat, Nat.testBit_mul_two_pow]
  by_cases h : m ≤ k
  · simp [h, hk, show k - m < 32 by omega]
  · simp [h]
theorem or_nI {w d : Nat} (hd : d < 32) : nI (w * 2 ^ 5) ||| nI d = nI (w * 2 ^ 5 + d) := by
  apply b_ext
  intro k hk
  rw [b_or]
  unfold bt
  show ((BitVec.ofNat 32 (w * 2 ^ 5)).getLsbD k || (BitVec.ofNat 32 d).getLsbD k) = (BitVec.ofNat 32 (w * 2 ^ 5 + d)).getLsbD k
  rw [BitVec.getLsbD_ofNat, BitVec.getLsbD_ofNat, BitVec.getLsbD_ofNat, ← Nat.shiftLeft_eq, Nat.shiftLeft_add_eq_or_of_lt (by omega), Nat.testBit_or]
  simp [hk]
section
variable {i : Nat → Nat → Int32} {l : Nat → Nat → Int64} {s r p : Nat} {c : Nat → Nat} {e : Nat}
theorem isL_ok {x : Nat} (hx : x < 256) : Tokens_isLetter (sb x) (i, l, Rp s r p) = some (some (.int (nI (sml x).toNat)), (i, l, Rp s r p)) := by
  rw [Tokens_isLetter_eq, ifc_if (sb_lt hx (by omega)), ifc_if (sb_gt hx (by omega)), gd_0, gd_1]
  unfold sml
  by_cases h1 : x < 97 ∨ 128 ≤ x
  · rw [if_pos h1]
    have : (decide (97 ≤ x) && decide (x ≤ 122)) = false := by simp; omega
    rw [this]; rfl
  · rw [if_neg h1]
    by_cases h2 : 122 < x ∧ x < 128
    · rw [if_pos h2]
      have : (decide (97 ≤ x) && decide (x ≤ 122)) = false := by simp; omega
      rw [this]; rfl
    · rw [if_neg h2]
      have : (decide (97 ≤ x) && decide (x ≤ 122)) = true := by simp; omega
      rw [this]; rfl
theorem isD_ok {x : Nat} (hx : x < 256) : Tokens_isDigit (sb x) (i, l, Rp s r p) = some (some (.int (nI (dgt x).toNat)), (i, l, Rp s r p)) := by
  rw [Tokens_isDigit_eq, ifc_if (sb_lt hx (by omega)), ifc_if (sb_gt hx (by omega)), gd_0, gd_1]
  unfold dgt
  by_cases h1 : x < 48 ∨ 128 ≤ x
  · rw [if_pos h1]
    have : (decide (48 ≤ x) && decide (x ≤ 57)) = false := by simp; omega
    rw [this]; rfl
  · rw [if_neg h1]
    by_cases h2 : 57 < x ∧ x < 128
    · rw [if_pos h2]
      have : (decide (48 ≤ x) && decide (x ≤ 57)) = false := by simp; omega
      rw [this]; rfl
    · rw [if_neg h2]
      have : (decide (48 ≤ x) && decide (x ≤ 57)) = true := by simp; omega
      rw [this]; rfl
theorem ifc_nb {α : Type} (b : Bool) (x y : Option α) : ifc (nI b.toNat = 0) x y = if b = true then y else x := by
  cases b
  · exact ifc_t rfl
  · exact ifc_f (by decide)
/-- the letters so far, as the component packs them -/
def wv (c : Nat → Nat) (a : Nat) : Nat → Int32
  | 0 => nI 0
  | k + 1 => (wv c a k <<< (nI 5 &&& 31)) ||| (sb (c (a + k)) - nI 97 + nI 1)
def wN (c : Nat → Nat) (a : Nat) : Nat → Nat
  | 0 => 0
  | k + 1 => wN c a k * 2 ^ 5 + (c (a + k) - 96)
theorem sb_let : ∀ x, x < 256 → sml x = true → sb x - nI 97 + nI 1 = nI (x - 96) ∧ x - 96 < 32 := by decide +kernel
theorem wv_N {a : Nat} : ∀ k, (∀ q, q < k → c (a + q) < 256 ∧ sml (c (a + q)) = true) → wv c a k = nI (wN c a k)
  | 0, _ => rfl
  | k + 1, h => by
    obtain ⟨h1, h2⟩ := sb_let _ (h k (by omega)).1 (h k (by omega)).2
    unfold wv wN
    rw [wv_N k (fun q hq => h q (by omega)), h1, shl_nI (by omega), or_nI h2]
theorem wv_pk {a n : Nat} (hn : n ≤ 6) (h1 : 1 ≤ n) (h : ∀ q, q < n → c (a + q) < 256 ∧ sml (c (a + q)) = true) : wv c a n <<< ((nI 5 * (nI 6 - nI n)) &&& 31) = nI (pkw c a n) := by
  have e1 : ∀ n, n < 7 → nI 5 * (nI 6 - nI n) = nI (5 * (6 - n)) := by decide +kernel
  rw [wv_N n h, e1 n (by omega), shl_nI (by omega)]
  congr 1
  unfold pkw dg
  match n, hn, h1 with
  | 1, _, _ => simp [wN] <;> omega
  | 2, _, _ => simp [wN] <;> omega
  | 3, _, _ => simp [wN] <;> omega
  | 4, _, _ => simp [wN] <;> omega
  | 5, _, _ => simp [wN] <;> omega
  | 6, _, _ => simp [wN]
/-- a word -/
theorem cword_ok {a : Nat} (h : TC i c e) (ha : a < e) (hs : sml (c a) = true) (h6 : i 1 6 = nI a) : ∃ j, Tokens_word (i, l, Rp s r p) = some (none, (j, l, Rp s r p)) ∧ fr qKc i j ∧ j 1 6 = nI (av (fun k => sml (c k)) e a) ∧ j 1 9 = nI (wk c a (av (fun k => sml (c k)) e a - a)) ∧ j 1 10 = i 1 10 ∧
    (¬ 6 < av (fun k => sml (c k)) e a - a → j 1 11 = nI (pkw c a (av (fun k => sml (c k)) e a - a))) := by
  have e700 := h.2.1
  have hl := av_loop (f := fun k => sml (c k)) (e := e) (fun n => Tokens_word_7 (nI (n - a)) (u2 (u2 i 1 11 (wv c a (n - a))) 1 6 (nI n), l, Rp s r p)) a (fun n h1 h2 h3 => by
    have hb := h.2.2.1 n h2
    show Tokens_word_7 _ _ = Tokens_word_7 _ _
    rw [Tokens_word_7_eq]
    simp (disch := decide) only [u2_s, u2_i, u2_k]
    rw [h.1, ifc_lt (by omega) (by omega), if_pos h2, gd_in (by omega) (by omega), nI_clamp (by omega), hb.2, isL_ok hb.1, crI_t, show sml (c n) = true from h3]
    rw [ifc_nb, if_pos rfl]
    simp (disch := decide) only [u2_s, u2_i, u2_k]
    rw [gd_in (by omega) (by omega), nI_clamp (by omega), nI_add, nI_add, hb.2, u2_ck (k := 6) (j := 11) (by decide), u2_u2, u2_u2, show n + 1 - a = (n - a) + 1 by omega]
    conv => rhs; unfold wv
    rw [show a + (n - a) = n by omega]) a (Nat.le_refl _)
  simp only [Nat.sub_self] at hl
  have hst : u2 (u2 i 1 11 (nI 0)) 1 6 (nI a) = u2 i 1 11 (nI 0) := u2_self ((u2_k (by decide)).trans h6)
  have hb1 : av (fun k => sml (c k)) e a ≤ e := av_le (by omega)
  have hb2 : a + 1 ≤ av (fun k => sml (c k)) e a := by rw [av_t ha hs]; exact av_ge
  have hin : ∀ q, q < av (fun k => sml (c k)) e a - a → c (a + q) < 256 ∧ sml (c (a + q)) = true := fun q hq => ⟨(h.2.2.1 (a + q) (by omega)).1, av_in (f := fun k => sml (c k)) (e := e) (n := a) (by omega) (by omega)⟩
  have hend : ¬ (av (fun k => sml (c k)) e a < e ∧ sml (c (av (fun k => sml (c k)) e a)) = true) := av_end (f := fun k => sml (c k))
  rw [Tokens_word_eq]
  rw [show wv c a 0 = nI 0 from rfl, hst] at hl
  rw [hl]
  generalize av (fun k => sml (c k)) e a = b at *
  have h74 : Tokens_word_7 (nI (b - a)) (u2 (u2 i 1 11 (wv c a (b - a))) 1 6 (nI b), l, Rp s r p) = Tokens_word_74 (nI (b - a)) (u2 (u2 i 1 11 (wv c a (b - a))) 1 6 (nI b), l, Rp s r p) := by
    rw [Tokens_word_7_eq]
    simp (disch := decide) only [u2_s, u2_i, u2_k]
    rw [h.1, ifc_lt (by omega) (by omega)]
    by_cases hbe : b < e
    · have hb := h.2.2.1 b hbe
      rw [if_pos hbe, gd_in (by omega) (by omega), nI_clamp (by omega), hb.2, isL_ok hb.1, crI_t, show sml (c b) = false from by
        cases hx : sml (c b)
        · rfl
        · exact absurd ⟨hbe, hx⟩ hend]
      rw [ifc_nb, if_neg (by decide)]
    · rw [if_neg hbe]
  rw [h74, Tokens_word_74_eq, ifc_lt (by omega) (by omega)]
  unfold wk
  by_cases h6n : 6 < b - a
  · rw [if_pos h6n, if_pos h6n]
    refine ⟨_, rfl, ?_, ?_, ?_, ?_, fun x => absurd h6n x⟩
    · exact fr_trans (fr_trans (fr_u2 rfl) (fr_u2 rfl)) (fr_u2 rfl)
    · simp (disch := decide) only [u2_s, u2_i, u2_k]
    · simp (disch := decide) only [u2_s, u2_i, u2_k]
    · simp (disch := decide) only [u2_s, u2_i, u2_k]
  · rw [if_neg h6n, if_neg h6n]
    simp (disch := decide) only [u2_s, u2_i, u2_k]
    rw [wv_pk (by omega) (by omega) hin, cfind_ok (Or.inl rfl) (by decide), crI_t]
    have hfd : fnd (u2 (u2 (u2 i 1 11 (wv c a (b - a))) 1 6 (nI b)) 1 11 (nI (pkw c a (b - a))) 3) (nI (pkw c a (b - a))) 26 0 = fnd (fun k => nI (wdC.getD k 0)) (nI (pkw c a (b - a))) 26 0 := fnd_cg 26 0 (fun k _ hk => by
      simp (disch := decide) only [u2_i]
      exact h.2.2.2 k (by omega))
    rw [hfd]
    generalize hg : fnd (fun k => nI (wdC.getD k 0)) (nI (pkw c a (b - a))) 26 0 = o
    cases o with
    | none =>
      rw [show fnv none = nM 1 from rfl, ifc_t (nM_neg (by omega) (by omega))]
      refine ⟨_, rfl, fr_trans (fr_trans (fr_trans (fr_u2 rfl) (fr_u2 rfl)) (fr_u2 rfl)) (fr_u2 rfl), ?_, ?_, ?_, fun _ => ?_⟩
      · simp (disch := decide) only [u2_s, u2_i, u2_k]
      · simp (disch := decide) only [u2_s, u2_i, u2_k]; rfl
      · simp (disch := decide) only [u2_s, u2_i, u2_k]
      · simp (disch := decide) only [u2_s, u2_i, u2_k]
    | some q =>
      have hq := fnd_lt 26 0 q hg
      rw [show fnv (some q) = nI q from rfl, ifc_neg (by omega)]
      refine ⟨_, rfl, fr_trans (fr_trans (fr_trans (fr_u2 rfl) (fr_u2 rfl)) (fr_u2 rfl)) (fr_u2 rfl), ?_, ?_, ?_, fun _ => ?_⟩
      · simp (disch := decide) only [u2_s, u2_i, u2_k]
      · simp (disch := decide) only [u2_s, u2_i, u2_k]; rfl
      · simp (disch := decide) only [u2_s, u2_i, u2_k]
      · simp (disch := decide) only [u2_s, u2_i, u2_k]
end
end

section
/-! the component: numbers, signs, a token -/
theorem mnI_n {a b : Nat} (ha : a < 2 ^ 31) (hb : b < 2 ^ 31) : mnI (nI a) (nI b) = nI (min a b) := by
  unfold mnI
  by_cases h : b < a
  · rw [if_pos (nI_lt h ha), Nat.min_eq_right (by omega)]
  · rw [if_neg (nI_nlt (by omega) hb), Nat.min_eq_left (by omega)]
def cvN (c : Nat → Nat) (a : Nat) : Nat → Nat
  | 0 => 0
  | k + 1 => min (10 * cvN c a k + (c (a + k) - 48)) 1000000
theorem cv_le {c : Nat → Nat} {a : Nat} : ∀ k, cvN c a k ≤ 1000000
  | 0 => Nat.zero_le _
  | k + 1 => Nat.min_le_right _ _
theorem cv_nv {c : Nat → Nat} {a : Nat} : ∀ k, (∀ q, q < k → dgt (c (a + q)) = true) → min 100000 (cvN c a k) = nv c a k
  | 0, _ => rfl
  | k + 1, h => by
    have ih := cv_nv k (fun q hq => h q (by omega))
    have hd := h k (by omega)
    unfold dgt at hd
    simp at hd
    unfold cvN nv
    rw [← ih]
    omega
theorem sb_dig : ∀ x, x < 256 → dgt x = true → sb x = nI x ∧ 48 ≤ x ∧ x ≤ 57 := by decide +kernel
section
variable {i : Nat → Nat → Int32} {l : Nat → Nat → Int64} {s r p : Nat} {c : Nat → Nat} {e : Nat}
theorem cnum_ok {a : Nat} (h : TC i c e) (ha : a < e) (h6 : i 1 6 = nI a) : ∃ j, Tokens_number (i, l, Rp s r p) = some (none, (j, l, Rp s r p)) ∧ fr qKc i j ∧ j 1 6 = nI (av (fun k => dgt (c k)) e a) ∧ j 1 9 = nI 27 ∧ j 1 10 = i 1 10 ∧
    ∃ w, w ≤ 1000000 ∧ j 1 11 = nI w ∧ min 100000 w = nv c a (av (fun k => dgt (c k)) e a - a) := by
  have e700 := h.2.1
  have hl := av_loop (f := fun k => dgt (c k)) (e := e) (fun n => Tokens_number_11 (u2 (u2 (u2 i 1 9 (nI 27)) 1 11 (nI (cvN c a (n - a)))) 1 6 (nI n), l, Rp s r p)) a (fun n h1 h2 h3 => by
    have hb := h.2.2.1 n h2
    obtain ⟨d1, d2, d3⟩ := sb_dig _ hb.1 h3
    show Tokens_number_11 _ = Tokens_number_11 _
    rw [Tokens_number_11_eq]
    simp (disch := decide) only [u2_s, u2_i, u2_k]
    rw [h.1, ifc_lt (by omega) (by omega), if_pos h2, gd_in (by omega) (by omega), nI_clamp (by omega), hb.2, isD_ok hb.1, crI_t, show dgt (c n) = true from h3]
    rw [ifc_nb, if_pos rfl]
    simp (disch := decide) only [u2_s, u2_i, u2_k]
    have hc := cv_le (c := c) (a := a) (n - a)
    rw [gd_in (by omega) (by omega), nI_clamp (by omega), hb.2, d1, nI_mul, nI_add, pk_sub (by omega), mnI_n (by omega) (by omega), nI_add, u2_ck (k := 6) (j := 11) (by decide), u2_u2, u2_u2, show n + 1 - a = (n - a) + 1 by omega]
    conv => rhs; unfold cvN
    rw [show a + (n - a) = n by omega, show cvN c a (n - a) * 10 + c n - 48 = 10 * cvN c a (n - a) + (c n - 48) by omega]) a (Nat.le_refl _)
  simp only [Nat.sub_self] at hl
  have hst : u2 (u2 (u2 i 1 9 (nI 27)) 1 11 (nI 0)) 1 6 (nI a) = u2 (u2 i 1 9 (nI 27)) 1 11 (nI 0) := u2_self (by simp (disch := decide) only [u2_k]; exact h6)
  have hb1 : av (fun k => dgt (c k)) e a ≤ e := av_le (by omega)
  have hb2 : a ≤ av (fun k => dgt (c k)) e a := av_ge
  have hin : ∀ q, q < av (fun k => dgt (c k)) e a - a → dgt (c (a + q)) = true := fun q hq => av_in (f := fun k => dgt (c k)) (e := e) (n := a) (by omega) (by omega)
  have hend : ¬ (av (fun k => dgt (c k)) e a < e ∧ dgt (c (av (fun k => dgt (c k)) e a)) = true) := av_end (f := fun k => dgt (c k))
  rw [Tokens_number_eq]
  rw [show cvN c a 0 = 0 from rfl, hst] at hl
  rw [hl]
  generalize av (fun k => dgt (c k)) e a = b at *
  have h74 : Tokens_number_11 (u2 (u2 (u2 i 1 9 (nI 27)) 1 11 (nI (cvN c a (b - a)))) 1 6 (nI b), l, Rp s r p) = some (none, (u2 (u2 (u2 i 1 9 (nI 27)) 1 11 (nI (cvN c a (b - a)))) 1 6 (nI b), l, Rp s r p)) := by
    rw [Tokens_number_11_eq]
    simp (disch := decide) only [u2_s, u2_i, u2_k]
    rw [h.1, ifc_lt (by omega) (by omega)]
    by_cases hbe : b < e
    · have hb := h.2.2.1 b hbe
      rw [if_pos hbe, gd_in (by omega) (by omega), nI_clamp (by omega), hb.2, isD_ok hb.1, crI_t, show dgt (c b) = false from by
        cases hx : dgt (c b)
        · rfl
        · exact absurd ⟨hbe, hx⟩ hend]
      rw [ifc_nb, if_neg (by decide)]
    · rw [if_neg hbe]
  refine ⟨_, h74, fr_trans (fr_trans (fr_u2 rfl) (fr_u2 rfl)) (fr_u2 rfl), ?_, ?_, ?_, cvN c a (b - a), cv_le _, ?_, cv_nv _ hin⟩
  · simp (disch := decide) only [u2_s, u2_i, u2_k]
  · simp (disch := decide) only [u2_s, u2_i, u2_k]
  · simp (disch := decide) only [u2_s, u2_i, u2_k]
  · simp (disch := decide) only [u2_s, u2_i, u2_k]
/-- the first part of a sign -/
def sg1 (x : Nat) : Nat := if x = 59 then 28 else if x = 40 then 29 else if x = 41 then 30 else if x = 43 then 31 else if x = 45 then 32 else if x = 42 then 33 else if x = 47 then 34 else if x = 61 then 37 else if x = 60 then 35 else if x = 62 then 40 else 42
theorem ifc_n {α : Type} {a b : Nat} (x y : Option α) : ifc (a = b) x y = if a = b then x else y := ifc_if Iff.rfl x y
theorem csign_ok {x : Nat} (hx : x < 256) : Tokens_sign (sb x) (i, l, Rp s r p) = some (some (.int (nI (sg1 x))), (i, l, Rp s r p)) := by
  have key : ∀ k, k < 128 → (sb x = nI k) = (x = k) := fun k hk => propext (sb_eq hx hk)
  rw [Tokens_sign_eq]
  simp only [key 40 (by omega), key 41 (by omega), key 42 (by omega), key 43 (by omega), key 44 (by omega), key 45 (by omega), key 46 (by omega), key 47 (by omega), key 48 (by omega), key 49 (by omega), key 50 (by omega), key 51 (by omega), key 52 (by omega), key 53 (by omega), key 54 (by omega), key 55 (by omega), key 56 (by omega), key 57 (by omega), key 58 (by omega), key 59 (by omega), key 60 (by omega), key 61 (by omega), key 62 (by omega), ifc_n, Tokens_sign_138_eq]
  unfold sg1
  by_cases hz : x < 40 ∨ 62 < x
  · simp (disch := omega) only [if_neg]
  · have : x = 40 ∨ x = 41 ∨ x = 42 ∨ x = 43 ∨ x = 44 ∨ x = 45 ∨ x = 46 ∨ x = 47 ∨ x = 48 ∨ x = 49 ∨ x = 50 ∨ x = 51 ∨ x = 52 ∨ x = 53 ∨ x = 54 ∨ x = 55 ∨ x = 56 ∨ x = 57 ∨ x = 58 ∨ x = 59 ∨ x = 60 ∨ x = 61 ∨ x = 62 := by omega
    rcases this with rfl | rfl | rfl | rfl | rfl | rfl | rfl | rfl | rfl | rfl | rfl | rfl | rfl | rfl | rfl | rfl | rfl | rfl | rfl | rfl | rfl | rfl | rfl <;> rfl
theorem sg1_k {x y : Nat} (h : x ≠ 60) (h' : x ≠ 62) : sgk x y = sg1 x ∧ sgn x y = 1 ∧ sg1 x ≠ 35 ∧ sg1 x ≠ 40 := by
  unfold sgk sg1 sgn
  rw [if_neg (show ¬ (x = 60 ∧ (y = 61 ∨ y = 62) ∨ x = 62 ∧ y = 61) by omega)]
  rw [if_neg h, if_neg h', if_neg h, if_neg h']
  refine ⟨rfl, rfl, ?_, ?_⟩ <;> (repeat' split) <;> omega
theorem clen_ok {a x : Nat} (h : TC i c e) (ha : a + 1 ≤ e) (h6 : i 1 6 = nI (a + 1)) (h9 : i 1 9 = nI (sg1 x)) : ∃ j, Tokens_lengthen (i, l, Rp s r p) = some (none, (j, l, Rp s r p)) ∧ fr qKc i j ∧ j 1 6 = nI (a + sgn x (sgy c e a)) ∧ j 1 9 = nI (sgk x (sgy c e a)) ∧ j 1 10 = i 1 10 ∧ j 1 11 = i 1 11 := by
  have e700 := h.2.1
  have hk : sg1 x ≤ 42 := by
    unfold sg1
    repeat' split
    all_goals omega
  rw [Tokens_lengthen_eq, h6, h.1, h9, ifc_lt (by omega) (by omega), ifc_eq (by omega) (by omega), ifc_eq (by omega) (by omega)]
  have stay : sgn x (sgy c e a) = 1 → sgk x (sgy c e a) = sg1 x → ∃ j, some ((none : Option Value), (i, l, Rp s r p)) = some (none, (j, l, Rp s r p)) ∧ fr qKc i j ∧ j 1 6 = nI (a + sgn x (sgy c e a)) ∧ j 1 9 = nI (sgk x (sgy c e a)) ∧ j 1 10 = i 1 10 ∧ j 1 11 = i 1 11 := fun g1 g2 => ⟨i, rfl, fr_refl _ _, by rw [g1]; exact h6, by rw [g2]; exact h9, rfl, rfl⟩
  have go : ∀ K, sgn x (sgy c e a) = 2 → sgk x (sgy c e a) = K → ∃ j, some ((none : Option Value), (u2 (u2 i 1 9 (nI K)) 1 6 (nI (a + 1) + nI 1), l, Rp s r p)) = some (none, (j, l, Rp s r p)) ∧ fr qKc i j ∧ j 1 6 = nI (a + sgn x (sgy c e a)) ∧ j 1 9 = nI (sgk x (sgy c e a)) ∧ j 1 10 = i 1 10 ∧ j 1 11 = i 1 11 := fun K g1 g2 => ⟨_, rfl, fr_trans (fr_u2 rfl) (fr_u2 rfl), by rw [u2_s, g1, nI_add], by rw [u2_k (by decide), u2_s, g2], by rw [u2_k (by decide), u2_k (by decide)], by rw [u2_k (by decide), u2_k (by decide)]⟩
  by_cases he : a + 1 < e
  · rw [if_pos he]
    have hb := h.2.2.1 (a + 1) he
    have hy : sgy c e a = c (a + 1) := if_pos he
    have key : Tokens_lengthen_30 (i, l, Rp s r p) = if c (a + 1) = 61 then (if sg1 x = 35 then some (none, (u2 (u2 i 1 9 (nI 36)) 1 6 (nI (a + 1) + nI 1), l, Rp s r p)) else some (none, (u2 (u2 i 1 9 (nI 39)) 1 6 (nI (a + 1) + nI 1), l, Rp s r p))) else if c (a + 1) = 62 then (if sg1 x = 35 then some (none, (u2 (u2 i 1 9 (nI 38)) 1 6 (nI (a + 1) + nI 1), l, Rp s r p)) else some (none, (i, l, Rp s r p))) else some (none, (i, l, Rp s r p)) := by
      rw [Tokens_lengthen_30_eq]
      rw [h6, h9, gd_in (by omega) (by omega), gd_in (by omega) (by omega), nI_clamp (by omega), hb.2, ifc_if (sb_eq hb.1 (by omega)), ifc_if (sb_eq hb.1 (by omega)), ifc_eq (by omega) (by omega), ifc_eq (by omega) (by omega)]
    rw [key]
    by_cases h60 : x = 60
    · subst h60
      rw [if_pos (show sg1 60 = 35 from rfl), if_pos (show sg1 60 = 35 from rfl), if_pos (show sg1 60 = 35 from rfl)]
      by_cases c1 : c (a + 1) = 61
      · rw [if_pos c1]
        exact go 36 (by rw [hy, c1]; rfl) (by rw [hy, c1]; rfl)
      · rw [if_neg c1]
        by_cases c2 : c (a + 1) = 62
        · rw [if_pos c2]
          exact go 38 (by rw [hy, c2]; rfl) (by rw [hy, c2]; rfl)
        · rw [if_neg c2]
          exact stay (by rw [hy]; unfold sgn; rw [if_neg (by omega)]) (by rw [hy]; unfold sgk; simp [c1, c2, sg1])
    · by_cases h62 : x = 62
      · subst h62
        rw [if_neg (show ¬ sg1 62 = 35 by decide), if_pos (show sg1 62 = 40 from rfl), if_neg (show ¬ sg1 62 = 35 by decide), if_neg (show ¬ sg1 62 = 35 by decide)]
        by_cases c1 : c (a + 1) = 61
        · rw [if_pos c1]
          exact go 39 (by rw [hy, c1]; rfl) (by rw [hy, c1]; rfl)
        · rw [if_neg c1, ite_self]
          exact stay (by rw [hy]; unfold sgn; rw [if_neg (by omega)]) (by rw [hy]; unfold sgk; simp [c1, sg1])
      · obtain ⟨g1, g2, g3, g4⟩ := sg1_k (y := sgy c e a) h60 h62
        rw [if_neg g3, if_neg g4]
        exact stay g2 g1
  · rw [if_neg he]
    have hy : sgy c e a = 0 := if_neg he
    refine stay ?_ ?_
    · rw [hy]; unfold sgn; rw [if_neg (by omega)]
    · rw [hy]
      by_cases h60 : x = 60
      · subst h60; rfl
      · by_cases h62 : x = 62
        · subst h62; rfl
        · exact (sg1_k h60 h62).1
end
end

section
/-! the component: a token -/
theorem sgk_ne (x y : Nat) : sgk x y ≠ 26 ∧ sgk x y ≠ 27 := by
  unfold sgk
  constructor <;> (repeat' split) <;> omega
theorem sgk_28 (x y : Nat) : 28 ≤ sgk x y := by
  unfold sgk
  (repeat' split) <;> omega
theorem sml_r0 {x : Nat} (h : sml x = true) : 97 ≤ x ∧ x ≤ 122 := by
  unfold sml at h
  simp at h
  omega
theorem dg_lt0 {c : Nat → Nat} {a n : Nat} (h : ∀ q, q < n → 97 ≤ c (a + q) ∧ c (a + q) ≤ 122) (q : Nat) : dg c a n q < 32 := by
  unfold dg
  split
  · have := h q (by assumption); omega
  · omega
theorem pkw_lt0 {c : Nat → Nat} {a n : Nat} (h : ∀ q, q < n → 97 ≤ c (a + q) ∧ c (a + q) ≤ 122) : pkw c a n < 2 ^ 30 := by
  have h0 := dg_lt0 h 0
  have h1 := dg_lt0 h 1
  have h2 := dg_lt0 h 2
  have h3 := dg_lt0 h 3
  have h4 := dg_lt0 h 4
  have h5 := dg_lt0 h 5
  unfold pkw
  omega
section
variable {i : Nat → Nat → Int32} {l : Nat → Nat → Int64} {s r p : Nat} {c : Nat → Nat} {e : Nat}
/-- a token, from any byte on -/
theorem scan_ok {n : Nat} (h : TC i c e) (hn : n ≤ e) (h6 : i 1 6 = nI n) : ∃ j, Tokens_scan (i, l, Rp s r p) = some (none, (j, l, Rp s r p)) ∧ fr qKc i j ∧ j 1 6 = nI (tE c e (tA c e n)) ∧ j 1 9 = nI (tK c e (tA c e n)) ∧ j 1 10 = nI (tA c e n) ∧ vOk c e (tA c e n) (j 1 11) := by
  have e700 := h.2.1
  have hl := av_loop (f := fun k => blk (c k)) (e := e) (fun n => Tokens_scan_0 (u2 i 1 6 (nI n), l, Rp s r p)) 0 (fun n _ h2 h3 => by
    have hb := h.2.2.1 n h2
    show Tokens_scan_0 _ = Tokens_scan_0 _
    rw [Tokens_scan_0_eq]
    simp (disch := decide) only [u2_s, u2_i, u2_k]
    rw [h.1, ifc_lt (by omega) (by omega), if_pos h2, gd_in (by omega) (by omega), gd_in (by omega) (by omega), nI_clamp (by omega), hb.2, ifc_if (sb_eq hb.1 (by omega)), ifc_if (sb_eq hb.1 (by omega)), u2_u2, nI_add]
    have h4 : blk (c n) = true := h3
    unfold blk at h4
    simp at h4
    by_cases c1 : c n = 32
    · rw [if_pos c1]
    · rw [if_neg c1, if_pos (by omega)]) n (Nat.zero_le _)
  simp only [u2_self h6] at hl
  have hb1 : tA c e n ≤ e := av_le hn
  have hend : ¬ (tA c e n < e ∧ blk (c (tA c e n)) = true) := av_end (f := fun k => blk (c k))
  rw [Tokens_scan_eq, ← Tokens_scan_0_eq, hl]
  show ∃ j, Tokens_scan_0 (u2 i 1 6 (nI (tA c e n)), l, Rp s r p) = _ ∧ _
  generalize tA c e n = a at *
  have h52 : Tokens_scan_0 (u2 i 1 6 (nI a), l, Rp s r p) = Tokens_scan_52 (u2 i 1 6 (nI a), l, Rp s r p) := by
    rw [Tokens_scan_0_eq]
    simp (disch := decide) only [u2_s, u2_i, u2_k]
    rw [h.1, ifc_lt (by omega) (by omega)]
    by_cases ha : a < e
    · have hb := h.2.2.1 a ha
      rw [if_pos ha, gd_in (by omega) (by omega), gd_in (by omega) (by omega), nI_clamp (by omega), hb.2, ifc_if (sb_eq hb.1 (by omega)), ifc_if (sb_eq hb.1 (by omega))]
      have h4 : ¬ blk (c a) = true := fun x => hend ⟨ha, x⟩
      unfold blk at h4
      simp at h4
      rw [if_neg h4.1, if_neg h4.2]
    · rw [if_neg ha]
  rw [h52, Tokens_scan_52_eq]
  simp (disch := decide) only [u2_s, u2_i, u2_k]
  rw [h.1, ifc_lt (by omega) (by omega)]
  unfold tE tK vOk tK
  by_cases ha : e ≤ a
  · rw [if_neg (by omega)]
    simp only [if_pos ha]
    refine ⟨_, rfl, fr_trans (fr_trans (fr_u2 rfl) (fr_u2 rfl)) (fr_u2 rfl), ?_, ?_, ?_, fun x => absurd x (by decide), fun x => absurd x (by decide), fun x => absurd x (by decide)⟩
    · simp (disch := decide) only [u2_s, u2_i, u2_k]
    · simp (disch := decide) only [u2_s, u2_i, u2_k]
    · simp (disch := decide) only [u2_s, u2_i, u2_k]
  · have hb := h.2.2.1 a (by omega)
    rw [if_pos (by omega), gd_in (by omega) (by omega), nI_clamp (by omega), hb.2, isL_ok hb.1, crI_t, ifc_nb]
    simp only [if_neg ha]
    have hT : TC (u2 (u2 i 1 6 (nI a)) 1 10 (nI a)) c e := TC_u (TC_u h rfl) rfl
    have hT6 : u2 (u2 i 1 6 (nI a)) 1 10 (nI a) 1 6 = nI a := by simp (disch := decide) only [u2_s, u2_i, u2_k]
    have hT10 : u2 (u2 i 1 6 (nI a)) 1 10 (nI a) 1 10 = nI a := u2_s _ _ _ _
    have hF : fr qKc i (u2 (u2 i 1 6 (nI a)) 1 10 (nI a)) := fr_trans (fr_u2 rfl) (fr_u2 rfl)
    generalize u2 (u2 i 1 6 (nI a)) 1 10 (nI a) = m at *
    by_cases hL : sml (c a) = true
    · rw [if_pos hL]
      obtain ⟨j, g1, g2, g3, g4, g5, g6⟩ := cword_ok (l := l) (s := s) (r := r) (p := p) hT (by omega) hL hT6
      rw [g1, crV_t]
      simp only [if_pos hL]
      refine ⟨j, rfl, fr_trans hF g2, g3, g4, g5.trans hT10, fun x => ?_, fun x => ?_, fun x => ?_⟩
      · unfold tV
        rw [if_pos hL]
        refine g6 (fun y => ?_)
        unfold wk at x
        rw [if_pos y] at x
        omega
      · exfalso
        unfold wk at x
        split at x
        · omega
        · generalize hg : fnd (fun k => nI (wdC.getD k 0)) (nI (pkw c a (av (fun k => sml (c k)) e a - a))) 26 0 = o at x
          cases o with
          | none => simp at x
          | some q =>
            have := fnd_lt 26 0 q hg
            simp at x
            omega
      · have h3 : a ≤ av (fun k => sml (c k)) e a := av_ge
        have hp := pkw_lt0 (n := av (fun k => sml (c k)) e a - a) (fun q hq => sml_r0 (av_in (f := fun k => sml (c k)) (e := e) (n := a) (k := a + q) (by omega) (by omega)))
        refine ⟨_, by omega, g6 (fun y => ?_)⟩
        unfold wk at x
        rw [if_pos y] at x
        omega
    · rw [if_neg hL]
      simp only [if_neg hL]
      have hbm := (hT.2.2.1 a (by omega)).2
      rw [hT6, gd_in (by omega) (by omega), nI_clamp (by omega), hbm, isD_ok hb.1, crI_t, ifc_nb]
      by_cases hD : dgt (c a) = true
      · rw [if_pos hD]
        obtain ⟨j, g1, g2, g3, g4, g5, w, g6, g7, g8⟩ := cnum_ok (l := l) (s := s) (r := r) (p := p) hT (by omega) hT6
        rw [g1, crV_t]
        simp only [if_pos hD]
        refine ⟨j, rfl, fr_trans hF g2, g3, g4, g5.trans hT10, fun x => absurd x (by decide), fun x => ⟨w, g6, g7, ?_⟩, fun x => absurd x (by decide)⟩
        unfold tV
        rw [if_neg hL]
        exact g8
      · rw [if_neg hD, hT6, gd_in (by omega) (by omega), nI_clamp (by omega), hbm, csign_ok hb.1, crI_t, hT6, nI_add]
        simp only [if_neg hD]
        obtain ⟨j, g1, g2, g3, g4, g5, g6⟩ := clen_ok (i := u2 (u2 m 1 9 (nI (sg1 (c a)))) 1 6 (nI (a + 1))) (l := l) (s := s) (r := r) (p := p) (c := c) (e := e) (a := a) (x := c a) (TC_u (TC_u hT rfl) rfl) (by omega) (u2_s _ _ _ _) ((u2_k (by decide)).trans (u2_s _ _ _ _))
        rw [g1, crV_t]
        refine ⟨j, rfl, fr_trans hF (fr_trans (fr_trans (fr_u2 rfl) (fr_u2 rfl)) g2), g3, g4, ?_, fun x => ?_, fun x => ?_, fun x => ?_⟩
        · rw [g5, u2_k (by decide), u2_k (by decide), hT10]
        · exact absurd x (sgk_ne _ _).1
        · exact absurd x (sgk_ne _ _).2
        · exact absurd x (by have := sgk_28 (c a) (sgy c e a); omega)
end
end

section
/-! the reference tells a token apart: words -/
def wo : List Nat := [0, 5, 10, 15, 22, 27, 33, 37, 42, 47, 52, 57, 62, 66, 73, 80, 85, 89, 92, 96, 100, 106, 112, 118, 123, 128, 133]
def wl : List Nat := [4, 4, 4, 6, 4, 5, 3, 4, 4, 4, 4, 4, 3, 6, 6, 4, 3, 2, 3, 3, 5, 5, 5, 4, 4, 4]
def sw (k : Nat) : Nat := if k = 16 then 17 else if k = 17 then 16 else k
def wR (m q : Nat) : Nat := wdR.getD (wo.getD m 0 + q) 0
def TR (i : Nat → Nat → Int32) (c : Nat → Nat) (e : Nat) : Prop := i 82 6 = nI e ∧ e ≤ 700 ∧ (∀ k, k < e → c k < 256 ∧ i 83 k = nI (c k)) ∧ (∀ k, k < 133 → i 84 k = nI (wdR.getD k 0))
theorem wo_f : ∀ m, m < 26 → wo.getD m 0 + wl.getD m 0 < 133 ∧ wo.getD (m + 1) 0 = wo.getD m 0 + (wl.getD m 0 + 1) ∧ 1 ≤ wl.getD m 0 ∧ wl.getD m 0 ≤ 6 ∧ (∀ q, q < 7 → (q < wl.getD m 0 → 97 ≤ wR m q ∧ wR m q ≤ 122) ∧ (q = wl.getD m 0 → wR m q = 32)) ∧ wdC.getD (sw m) 0 = pkw (wR m) 0 (wl.getD m 0) := by decide +kernel
theorem wC_inj : ∀ m, m < 26 → ∀ k, k < 26 → wdC.getD m 0 = wdC.getD k 0 → m = k := by decide +kernel
theorem wC_lt : ∀ m, m < 26 → wdC.getD m 0 < 2 ^ 30 := by decide +kernel
theorem sw_sw : ∀ m, m < 26 → sw (sw m) = m ∧ sw m < 26 := by decide +kernel
theorem fnd_none {f : Nat → Int32} {x : Int32} : ∀ n k, fnd f x n k = none → ∀ j, k ≤ j → j < k + n → f j ≠ x
  | 0, _, _, j, h1, h2 => by omega
  | n + 1, k, h, j, h1, h2 => by
    unfold fnd at h
    split at h
    · exact absurd h (by simp)
    · rename_i hh
      by_cases e : j = k
      · rw [e]; exact hh
      · exact fnd_none n (k + 1) h j (by omega) (by omega)
theorem dg_lt {c : Nat → Nat} {a n : Nat} (h : ∀ q, q < n → 97 ≤ c (a + q) ∧ c (a + q) ≤ 122) (q : Nat) : dg c a n q < 32 := by
  unfold dg
  split
  · have := h q (by assumption); omega
  · omega
theorem pkw_lt {c : Nat → Nat} {a n : Nat} (h : ∀ q, q < n → 97 ≤ c (a + q) ∧ c (a + q) ≤ 122) : pkw c a n < 2 ^ 30 := by
  have h0 := dg_lt h 0
  have h1 := dg_lt h 1
  have h2 := dg_lt h 2
  have h3 := dg_lt h 3
  have h4 := dg_lt h 4
  have h5 := dg_lt h 5
  unfold pkw
  omega
theorem pkw_inj {c d : Nat → Nat} {a b n m : Nat} (hn : n ≤ 6) (hm : m ≤ 6) (h : ∀ q, q < n → 97 ≤ c (a + q) ∧ c (a + q) ≤ 122) (h' : ∀ q, q < m → 97 ≤ d (b + q) ∧ d (b + q) ≤ 122) (e : pkw c a n = pkw d b m) : n = m ∧ ∀ q, q < n → c (a + q) = d (b + q) := by
  have key : ∀ q, q < 6 → dg c a n q = dg d b m q := by
    have h0 := dg_lt h 0
    have h1 := dg_lt h 1
    have h2 := dg_lt h 2
    have h3 := dg_lt h 3
    have h4 := dg_lt h 4
    have h5 := dg_lt h 5
    have g0 := dg_lt h' 0
    have g1 := dg_lt h' 1
    have g2 := dg_lt h' 2
    have g3 := dg_lt h' 3
    have g4 := dg_lt h' 4
    have g5 := dg_lt h' 5
    unfold pkw at e
    intro q hq
    have : q = 0 ∨ q = 1 ∨ q = 2 ∨ q = 3 ∨ q = 4 ∨ q = 5 := by omega
    rcases this with rfl | rfl | rfl | rfl | rfl | rfl <;> omega
  have hnm : n = m := by
    by_cases c1 : n < m
    · have := key n (by omega)
      unfold dg at this
      rw [if_neg (by omega), if_pos c1] at this
      have := h' n c1
      omega
    · by_cases c2 : m < n
      · have := key m (by omega)
        unfold dg at this
        rw [if_neg (Nat.lt_irrefl m), if_pos c2] at this
        have := h m c2
        omega
      · omega
  refine ⟨hnm, fun q hq => ?_⟩
  have := key q (by omega)
  unfold dg at this
  rw [if_pos hq, if_pos (by omega)] at this
  have := h q hq
  have := h' q (by omega)
  omega
theorem pkw_cg {c d : Nat → Nat} {a b n : Nat} (h : ∀ q, q < n → c (a + q) = d (b + q)) : pkw c a n = pkw d b n := by
  have key : ∀ q, dg c a n q = dg d b n q := fun q => by
    unfold dg
    split
    · rw [h q (by assumption)]
    · rfl
  unfold pkw
  rw [key, key, key, key, key, key]
section
variable {i : Nat → Nat → Int32} {l : Nat → Nat → Int64} {s r p : Nat} {c : Nat → Nat} {e : Nat}
theorem wA57 {a b m o n : Nat} (h : TR i c e) (ho : o + n < 133) (hb : a + n ≤ e) (hw : ∀ q, q < n → i 84 (o + q) = nI (wdR.getD (o + q) 0)) (hd : ∀ q, q < n → wdR.getD (o + q) 0 < 256) : ∀ k q, q + k = n →
    Mo_wordAt_57 (nI a) (nI b) (nI m) (nI o) (nI n) (nI 1) (nI q) (i, l, Rp s r p) = if ∀ x, x < n → q ≤ x → wdR.getD (o + x) 0 = c (a + x) then some (some (.int (nI m)), (i, l, Rp s r p)) else Mo_wordAt_5 (nI a) (nI b) (nI (m + 1)) (nI (o + (n + 1))) (i, l, Rp s r p)
  | 0, q, hq => by
    have e700 := h.2.1
    rw [Mo_wordAt_57_eq, ifc_lt (by omega) (by omega), if_neg (by omega), ifc_f (by decide), if_pos (fun x h1 h2 => by omega)]
  | k + 1, q, hq => by
    have e700 := h.2.1
    have hc := h.2.2.1 (a + q) (by omega)
    rw [Mo_wordAt_57_eq, ifc_lt (by omega) (by omega), if_pos (by omega), ifc_f (by decide), nI_add, nI_add, gd_in (by omega) (by omega), gd_in (by omega) (by omega), nI_clamp (by omega), nI_clamp (by omega), hw q (by omega), hc.2, ifc_eq (by have := hd q (by omega); omega) (by omega), nI_add]
    by_cases he : wdR.getD (o + q) 0 = c (a + q)
    · rw [if_pos he, wA57 h ho hb hw hd k (q + 1) (by omega)]
      by_cases hx : ∀ x, x < n → q + 1 ≤ x → wdR.getD (o + x) 0 = c (a + x)
      · rw [if_pos hx, if_pos (fun x h1 h2 => by
          by_cases hxq : x = q
          · rw [hxq]; exact he
          · exact hx x h1 (by omega))]
      · rw [if_neg hx, if_neg (fun y => hx (fun x h1 h2 => y x h1 (by omega)))]
    · rw [if_neg he, if_neg (fun y => he (y q (by omega) (Nat.le_refl _))), Mo_wordAt_57_eq, ifc_t (c := nI 0 = 0) rfl, ifc_t (c := nI 0 = 0) rfl, ifc_lt (by omega) (by omega), ite_self, nI_add, nI_add, nI_add]
theorem wA5 {a n : Nat} (h : TR i c e) (hb : a + n ≤ e) (hs : ∀ q, q < n → 97 ≤ c (a + q) ∧ c (a + q) ≤ 122) : ∀ k m, m + k = 26 →
    Mo_wordAt_5 (nI a) (nI (a + n)) (nI m) (nI (wo.getD m 0)) (i, l, Rp s r p) = some (some (.int (if 6 < n then nM 1 else fnv (fnd (fun k => nI (wdC.getD (sw k) 0)) (nI (pkw c a n)) k m))), (i, l, Rp s r p))
  | 0, m, hm => by
    have : m = 26 := by omega
    subst this
    rw [Mo_wordAt_5_eq, ifc_lt (by decide) (by decide), if_neg (by decide)]
    unfold fnd fnv
    rw [ite_self]
  | k + 1, m, hm => by
    have e700 := h.2.1
    obtain ⟨w1, w2, w3, w4, w5, w6⟩ := wo_f m (by omega)
    have hlo : ∀ q, q < wl.getD m 0 → 97 ≤ wR m q ∧ wR m q ≤ 122 := fun q hq => (w5 q (by omega)).1 hq
    have h32 : wR m (wl.getD m 0) = 32 := (w5 _ (by omega)).2 rfl
    have ih := wA5 h hb hs k (m + 1) (by omega)
    rw [w2] at ih
    unfold wR at hlo h32 w6
    generalize wo.getD m 0 = o at *
    generalize wl.getD m 0 = n' at *
    have hup := upto (fun q => Mo_wordAt_18 (nI a) (nI (a + n)) (nI m) (nI o) (nI q) (i, l, Rp s r p)) n' (fun q hq => by
      show Mo_wordAt_18 _ _ _ _ _ _ = _
      have := hlo q hq
      rw [Mo_wordAt_18_eq, nI_add, gd_in (by omega) (by omega), nI_clamp (by omega), h.2.2.2 _ (by omega), ifc_eq (by omega) (by omega), if_neg (by omega), nI_add]) 0 (by omega)
    have h57 : Mo_wordAt_57 (nI a) (nI (a + n)) (nI m) (nI o) (nI n') (nI 0) (nI 0) (i, l, Rp s r p) = Mo_wordAt_5 (nI a) (nI (a + n)) (nI (m + 1)) (nI (o + (n' + 1))) (i, l, Rp s r p) := by
      rw [Mo_wordAt_57_eq, ifc_t (c := nI 0 = 0) rfl, ifc_t (c := nI 0 = 0) rfl, ifc_lt (by omega) (by omega), ite_self, nI_add, nI_add, nI_add]
    have hwl := wC_lt (sw m) (sw_sw m (by omega)).2
    rw [Mo_wordAt_5_eq, ifc_lt (by omega) (by omega), if_pos (by omega), hup]
    show Mo_wordAt_18 _ _ _ _ _ _ = _
    rw [Mo_wordAt_18_eq, nI_add, gd_in (by omega) (by omega), nI_clamp (by omega), h.2.2.2 _ (by omega), ifc_eq (by omega) (by omega), if_pos h32, pk_sub (by omega), show a + n - a = n by omega, ifc_eq (by omega) (by omega), h57, ih]
    by_cases h6 : 6 < n
    · rw [if_pos h6, if_pos h6, if_neg (by omega)]
    · rw [if_neg h6, if_neg h6]
      have hpl := pkw_lt hs
      conv => rhs; unfold fnd
      show _ = some (some (Value.int (fnv (if nI (wdC.getD (sw m) 0) = nI (pkw c a n) then some m else fnd (fun k => nI (wdC.getD (sw k) 0)) (nI (pkw c a n)) k (m + 1)))), (i, l, Rp s r p))
      by_cases hn : n' = n
      · subst hn
        rw [if_pos rfl, wA57 h w1 hb (fun q hq => h.2.2.2 _ (by omega)) (fun q hq => by have := hlo q hq; omega) n' 0 (by omega), ih]
        by_cases hx : ∀ x, x < n' → 0 ≤ x → wdR.getD (o + x) 0 = c (a + x)
        · rw [if_pos hx, if_pos]
          · rfl
          · rw [w6]
            congr 1
            exact pkw_cg (fun q hq => by rw [Nat.zero_add]; exact hx q hq (Nat.zero_le _))
        · rw [if_neg hx, if_neg h6, if_neg]
          intro he
          rw [nI_eq (by omega) (by omega), w6] at he
          have := (pkw_inj (by omega) (by omega) (by intro q hq; rw [Nat.zero_add]; exact hlo q hq) hs he).2
          exact hx (fun x h1 _ => by have := this x h1; rw [Nat.zero_add] at this; exact this)
      · rw [if_neg hn, if_neg]
        intro he
        rw [nI_eq (by omega) (by omega), w6] at he
        have := (pkw_inj (by omega) (by omega) (by intro q hq; rw [Nat.zero_add]; exact hlo q hq) hs he).1
        exact hn this
end
end

section
/-! the reference: letters, numbers, signs -/
def qRt (a k : Nat) : Bool := a == 82 && (k == 7 || k == 8 || k == 9 || k == 10)
theorem TR_fr {i j : Nat → Nat → Int32} {c : Nat → Nat} {e : Nat} (h : TR i c e) (hf : fr qRt i j) : TR j c e := ⟨(hf 82 6 rfl).trans h.1, h.2.1, fun k hk => ⟨(h.2.2.1 k hk).1, (hf 83 k rfl).trans (h.2.2.1 k hk).2⟩, fun k hk => (hf 84 k rfl).trans (h.2.2.2 k hk)⟩
theorem TR_u {i : Nat → Nat → Int32} {c : Nat → Nat} {e k : Nat} {x : Int32} (h : TR i c e) (hk : qRt 82 k = true) : TR (u2 i 82 k x) c e := TR_fr h (fr_u2 hk)
def rN (c : Nat → Nat) (a n : Nat) : Nat → Nat
  | 0 => 0
  | k + 1 => rN c a n k * 2 ^ 5 + dg c a n k
def rn (c : Nat → Nat) (a : Nat) : Nat → Nat
  | 0 => 0
  | k + 1 => if 99999 < rn c a k then rn c a k else 10 * rn c a k + (c (a + k) - 48)
theorem rn_le {c : Nat → Nat} {a : Nat} : ∀ k, (∀ q, q < k → dgt (c (a + q)) = true) → rn c a k ≤ 1000000
  | 0, _ => Nat.zero_le _
  | k + 1, h => by
    have ih := rn_le k (fun q hq => h q (by omega))
    have hd := h k (by omega)
    unfold dgt at hd
    simp at hd
    unfold rn
    split <;> omega
theorem rn_nv {c : Nat → Nat} {a : Nat} : ∀ k, (∀ q, q < k → dgt (c (a + q)) = true) → min 100000 (rn c a k) = nv c a k
  | 0, _ => rfl
  | k + 1, h => by
    have ih := rn_nv k (fun q hq => h q (by omega))
    have hd := h k (by omega)
    unfold dgt at hd
    simp at hd
    unfold rn nv
    rw [← ih]
    split <;> omega
section
variable {i : Nat → Nat → Int32} {l : Nat → Nat → Int64} {s r p : Nat} {c : Nat → Nat} {e : Nat}
theorem rS_ok {n : Nat} (h : TR i c e) (hn : n ≤ e) : Mo_isSmall (nI n) (i, l, Rp s r p) = some (some (.int (nI (decide (n < e) && sml (c n)).toNat)), (i, l, Rp s r p)) := by
  have e700 := h.2.1
  rw [Mo_isSmall_eq, h.1, ifc_lt (by omega) (by omega), gd_0, gd_1]
  by_cases hb : n < e
  · have hc := h.2.2.1 n hb
    rw [if_pos hb, gd_in (by omega) (by omega), gd_in (by omega) (by omega), nI_clamp (by omega), hc.2, ifc_lt (by omega) (by omega), ifc_lt (by omega) (by omega)]
    unfold sml
    by_cases h1 : c n < 97
    · rw [if_pos h1]
      have : (decide (n < e) && (decide (97 ≤ c n) && decide (c n ≤ 122))) = false := by simp; omega
      rw [this]; rfl
    · rw [if_neg h1]
      by_cases h2 : 122 < c n
      · rw [if_pos h2]
        have : (decide (n < e) && (decide (97 ≤ c n) && decide (c n ≤ 122))) = false := by simp; omega
        rw [this]; rfl
      · rw [if_neg h2]
        have : (decide (n < e) && (decide (97 ≤ c n) && decide (c n ≤ 122))) = true := by simp; omega
        rw [this]; rfl
  · rw [if_neg hb]
    have : (decide (n < e) && sml (c n)) = false := by simp [hb]
    rw [this]; rfl
theorem rD_ok {n : Nat} (h : TR i c e) (hn : n ≤ e) : Mo_isDigit (nI n) (i, l, Rp s r p) = some (some (.int (nI (decide (n < e) && dgt (c n)).toNat)), (i, l, Rp s r p)) := by
  have e700 := h.2.1
  rw [Mo_isDigit_eq, h.1, ifc_lt (by omega) (by omega), gd_0, gd_1]
  by_cases hb : n < e
  · have hc := h.2.2.1 n hb
    rw [if_pos hb, gd_in (by omega) (by omega), gd_in (by omega) (by omega), nI_clamp (by omega), hc.2, ifc_lt (by omega) (by omega), ifc_lt (by omega) (by omega)]
    unfold dgt
    by_cases h1 : c n < 48
    · rw [if_pos h1]
      have : (decide (n < e) && (decide (48 ≤ c n) && decide (c n ≤ 57))) = false := by simp; omega
      rw [this]; rfl
    · rw [if_neg h1]
      by_cases h2 : 57 < c n
      · rw [if_pos h2]
        have : (decide (n < e) && (decide (48 ≤ c n) && decide (c n ≤ 57))) = false := by simp; omega
        rw [this]; rfl
      · rw [if_neg h2]
        have : (decide (n < e) && (decide (48 ≤ c n) && decide (c n ≤ 57))) = true := by simp; omega
        rw [this]; rfl
  · rw [if_neg hb]
    have : (decide (n < e) && dgt (c n)) = false := by simp [hb]
    rw [this]; rfl
theorem packed_ok {a n : Nat} (h : TR i c e) (hb : a + n ≤ e) (hn : n ≤ 6) (hs : ∀ q, q < n → 97 ≤ c (a + q) ∧ c (a + q) ≤ 122) : Mo_packed (nI a) (nI (a + n)) (i, l, Rp s r p) = some (some (.int (nI (pkw c a n))), (i, l, Rp s r p)) := by
  have e700 := h.2.1
  have hup := upto (fun k => Mo_packed_5 (nI a) (nI (a + n)) (nI (rN c a n k)) (nI (a + k)) (i, l, Rp s r p)) 6 (fun k hk => by
    show Mo_packed_5 _ _ _ _ _ = Mo_packed_5 _ _ _ _ _
    rw [Mo_packed_5_eq, nI_add, ifc_lt (by omega) (by omega), if_pos (by omega), ifc_lt (by omega) (by omega)]
    conv => rhs; unfold rN
    have hd := dg_lt hs k
    by_cases hkn : k < n
    · have hc := h.2.2.1 (a + k) (by omega)
      have hl := hs k hkn
      rw [if_pos (by omega), gd_in (by omega) (by omega), nI_clamp (by omega), hc.2, pk_sub (by omega), shl_nI (by omega), or_nI (by omega), nI_add]
      unfold dg
      rw [if_pos hkn]
      rfl
    · rw [if_neg (by omega), shl_nI (by omega), or_nI (by omega), nI_add]
      unfold dg
      rw [if_neg hkn]
      rfl) 0 (by omega)
  rw [Mo_packed_eq]
  rw [show rN c a n 0 = 0 from rfl, Nat.add_zero] at hup
  rw [hup]
  show Mo_packed_5 _ _ _ _ _ = _
  rw [Mo_packed_5_eq, nI_add, ifc_lt (by omega) (by omega), if_neg (by omega)]
  congr 5
  unfold pkw
  simp [rN]
theorem rnum_ok {a : Nat} (h : TR i c e) (ha : a < e) (h6 : i 82 7 = nI a) (h9 : i 82 9 = nI 0) : ∃ j, Mo_token_213 (i, l, Rp s r p) = some (none, (j, l, Rp s r p)) ∧ fr qRt i j ∧ j 82 7 = nI (av (fun k => dgt (c k)) e a) ∧ j 82 8 = i 82 8 ∧ j 82 10 = i 82 10 ∧
    ∃ w, w ≤ 1000000 ∧ j 82 9 = nI w ∧ min 100000 w = nv c a (av (fun k => dgt (c k)) e a - a) := by
  have e700 := h.2.1
  have hT : ∀ x y, TR (u2 (u2 i 82 9 x) 82 7 y) c e := fun x y => TR_u (TR_u h rfl) rfl
  have hb1 : av (fun k => dgt (c k)) e a ≤ e := av_le (by omega)
  have hb2 : a ≤ av (fun k => dgt (c k)) e a := av_ge
  have hin : ∀ q, q < av (fun k => dgt (c k)) e a - a → dgt (c (a + q)) = true := fun q hq => av_in (f := fun k => dgt (c k)) (e := e) (n := a) (by omega) (by omega)
  have hend : ¬ (av (fun k => dgt (c k)) e a < e ∧ dgt (c (av (fun k => dgt (c k)) e a)) = true) := av_end (f := fun k => dgt (c k))
  have hl := upto (fun q => Mo_token_213 (u2 (u2 i 82 9 (nI (rn c a q))) 82 7 (nI (a + q)), l, Rp s r p)) (av (fun k => dgt (c k)) e a - a) (fun q hq => by
    have hd : dgt (c (a + q)) = true := hin q hq
    have hle := rn_le (c := c) (a := a) q (fun x hx => hin x (by omega))
    have hb := h.2.2.1 (a + q) (by omega)
    obtain ⟨_, d2, d3⟩ := sb_dig _ hb.1 hd
    show Mo_token_213 _ = Mo_token_213 _
    rw [Mo_token_213_eq]
    simp (disch := decide) only [u2_s, u2_i, u2_k]
    rw [rD_ok (hT _ _) (by omega), crI_t, show (decide (a + q < e) && dgt (c (a + q))) = true from by simp [hd]; omega, ifc_nb, if_pos rfl]
    simp (disch := decide) only [u2_s, u2_i, u2_k]
    rw [ifc_lt (by omega) (by omega), gd_in (by omega) (by omega), nI_clamp (by omega), hb.2, nI_mul, nI_add, nI_add, pk_sub (by omega)]
    conv => rhs; unfold rn
    by_cases h9 : 99999 < rn c a q
    · rw [if_pos h9, if_pos h9, u2_ck (k := 7) (j := 9) (by decide), u2_u2, u2_u2]; rfl
    · rw [if_neg h9, if_neg h9, show 10 * rn c a q + c (a + q) - 48 = 10 * rn c a q + (c (a + q) - 48) by omega, u2_ck (k := 7) (j := 9) (by decide), u2_u2, u2_u2]; rfl) 0 (Nat.zero_le _)
  rw [show rn c a 0 = 0 from rfl, Nat.add_zero, u2_self h9, u2_self h6] at hl
  rw [hl]
  have hab : a + (av (fun k => dgt (c k)) e a - a) = av (fun k => dgt (c k)) e a := by omega
  rw [hab]
  generalize av (fun k => dgt (c k)) e a = b at *
  have h74 : Mo_token_213 (u2 (u2 i 82 9 (nI (rn c a (b - a)))) 82 7 (nI b), l, Rp s r p) = some (none, (u2 (u2 i 82 9 (nI (rn c a (b - a)))) 82 7 (nI b), l, Rp s r p)) := by
    rw [Mo_token_213_eq]
    simp (disch := decide) only [u2_s, u2_i, u2_k]
    rw [rD_ok (hT _ _) (by omega), crI_t, show (decide (b < e) && dgt (c b)) = false from by
      cases hx : dgt (c b)
      · simp
      · simp
        by_cases hy : b < e
        · exact absurd ⟨hy, hx⟩ hend
        · omega]
    rw [ifc_nb, if_neg (by decide)]
  refine ⟨_, h74, fr_trans (fr_u2 rfl) (fr_u2 rfl), ?_, ?_, ?_, rn c a (b - a), rn_le _ hin, ?_, rn_nv _ hin⟩
  · simp (disch := decide) only [u2_s, u2_i, u2_k]
  · simp (disch := decide) only [u2_s, u2_i, u2_k]
  · simp (disch := decide) only [u2_s, u2_i, u2_k]
  · simp (disch := decide) only [u2_s, u2_i, u2_k]
end
end

section
/-! the reference: a token -/
def sgc (K : Nat) : Nat := if K = 28 then 59 else if K = 29 then 40 else if K = 30 then 41 else if K = 31 then 43 else if K = 32 then 45 else if K = 33 then 42 else 47
/-- how the reference holds a kind -/
def kOk (K : Nat) (kd wh : Int32) : Prop := K ≤ 42 ∧ (K = 41 → kd = nI 0) ∧ (K < 26 → kd = nI 1 ∧ wh = nI (sw K)) ∧ (K = 26 → kd = nI 2) ∧ (K = 27 → kd = nI 3) ∧ (28 ≤ K → K ≤ 34 → kd = nI 4 ∧ wh = nI (sgc K)) ∧ (35 ≤ K → K ≤ 40 → kd = nI 5 ∧ wh = nI (K - 35)) ∧ (K = 42 → kd = nI 6 ∨ kd = nI 4 ∧ wh = nI 37)
theorem kOk_s {K : Nat} {wh : Int32} (h1 : 28 ≤ K) (h2 : K ≤ 34) (h : wh = nI (sgc K)) : kOk K (nI 4) wh := ⟨by omega, fun x => by omega, fun x => by omega, fun x => by omega, fun x => by omega, fun _ _ => ⟨rfl, h⟩, fun x => by omega, fun x => by omega⟩
theorem kOk_c {K : Nat} {wh : Int32} (h1 : 35 ≤ K) (h2 : K ≤ 40) (h : wh = nI (K - 35)) : kOk K (nI 5) wh := ⟨by omega, fun x => by omega, fun x => by omega, fun x => by omega, fun x => by omega, fun _ x => by omega, fun _ _ => ⟨rfl, h⟩, fun x => by omega⟩
theorem kOk_b {kd wh : Int32} (h : kd = nI 6 ∨ kd = nI 4 ∧ wh = nI 37) : kOk 42 kd wh := ⟨by omega, fun x => by omega, fun x => by omega, fun x => by omega, fun x => by omega, fun _ x => by omega, fun _ x => by omega, fun _ => h⟩
theorem kOk_w {K : Nat} {wh : Int32} (h1 : K < 26) (h : wh = nI (sw K)) : kOk K (nI 1) wh := ⟨by omega, fun x => by omega, fun _ => ⟨rfl, h⟩, fun x => by omega, fun x => by omega, fun x => by omega, fun x => by omega, fun x => by omega⟩
section
variable {i : Nat → Nat → Int32} {l : Nat → Nat → Int64} {s r p : Nat} {c : Nat → Nat} {e : Nat}
theorem rcmp_ok {a x : Nat} (h : TR i c e) (ha : a + 1 ≤ e) (hx : x = 60 ∨ x = 61 ∨ x = 62) (h7 : i 82 7 = nI (a + 1)) (h9 : i 82 9 = nI x) : ∃ j, Mo_signToken_50 (i, l, Rp s r p) = some (none, (j, l, Rp s r p)) ∧ fr qRt i j ∧ j 82 7 = nI (a + sgn x (sgy c e a)) ∧ j 82 10 = i 82 10 ∧ kOk (sgk x (sgy c e a)) (j 82 8) (j 82 9) := by
  have e700 := h.2.1
  have hy : sgy c e a < 256 := by
    unfold sgy
    split
    · exact (h.2.2.1 (a + 1) (by assumption)).1
    · omega
  have h50 : Mo_signToken_50 (i, l, Rp s r p) = if x = 61 then Mo_signToken_95 (nI (sgy c e a)) (nI 0) (i, l, Rp s r p) else if sgy c e a = 61 then Mo_signToken_95 (nI (sgy c e a)) (nI 1) (i, l, Rp s r p) else Mo_signToken_95 (nI (sgy c e a)) (nI 0) (i, l, Rp s r p) := by
    rw [Mo_signToken_50_eq, h7, h9, h.1, ifc_lt (by omega) (by omega), ifc_eq (by omega) (by omega), ifc_eq (by omega) (by omega)]
    unfold sgy
    by_cases he : a + 1 < e
    · have hc := h.2.2.1 (a + 1) he
      simp only [if_pos he]
      rw [gd_in (by omega) (by omega), nI_clamp (by omega), hc.2, ifc_eq (by omega) (by omega)]
    · simp only [if_neg he]
      rw [ifc_f (by decide)]
      simp
  rw [h50]
  generalize sgy c e a = y at *
  have stay : ∀ w, sgn x y = 1 → sgk x y = 35 + w → w ≤ 5 → ∃ j, some ((none : Option Value), (u2 (u2 i 82 8 (nI 5)) 82 9 (nI w), l, Rp s r p)) = some (none, (j, l, Rp s r p)) ∧ fr qRt i j ∧ j 82 7 = nI (a + sgn x y) ∧ j 82 10 = i 82 10 ∧ kOk (sgk x y) (j 82 8) (j 82 9) := fun w g1 g2 g3 => by
    refine ⟨_, rfl, fr_trans (fr_u2 rfl) (fr_u2 rfl), ?_, ?_, ?_⟩
    · simp (disch := decide) only [u2_s, u2_i, u2_k]; rw [h7, g1]
    · simp (disch := decide) only [u2_s, u2_i, u2_k]
    · simp (disch := decide) only [u2_s, u2_i, u2_k]
      rw [g2]
      exact kOk_c (by omega) (by omega) (by congr 1; omega)
  have go : ∀ w, sgn x y = 2 → sgk x y = 35 + w → w ≤ 5 → ∃ j, some ((none : Option Value), (u2 (u2 (u2 i 82 7 (nI (a + 1) + nI 1)) 82 8 (nI 5)) 82 9 (nI w), l, Rp s r p)) = some (none, (j, l, Rp s r p)) ∧ fr qRt i j ∧ j 82 7 = nI (a + sgn x y) ∧ j 82 10 = i 82 10 ∧ kOk (sgk x y) (j 82 8) (j 82 9) := fun w g1 g2 g3 => by
    refine ⟨_, rfl, fr_trans (fr_trans (fr_u2 rfl) (fr_u2 rfl)) (fr_u2 rfl), ?_, ?_, ?_⟩
    · simp (disch := decide) only [u2_s, u2_i, u2_k]; rw [g1, nI_add]
    · simp (disch := decide) only [u2_s, u2_i, u2_k]
    · simp (disch := decide) only [u2_s, u2_i, u2_k]
      rw [g2]
      exact kOk_c (by omega) (by omega) (by congr 1; omega)
  have q1 : ¬ (nI 1 = 0) := by decide
  have q2 : (nI 0 = 0) := rfl
  have z60 : ¬ nI 61 = nI 60 := by decide
  have z61 : ¬ nI 60 = nI 61 := by decide
  have z62 : ¬ nI 62 = nI 60 := by decide
  have z63 : ¬ nI 62 = nI 61 := by decide
  have z64 : ¬ nI 61 = nI 62 := by decide
  rcases hx with rfl | rfl | rfl
  · rw [if_neg (by decide)]
    by_cases h1 : y = 61
    · subst h1
      rw [if_pos rfl, Mo_signToken_95_eq, h9, ifc_t rfl, ifc_f z64, ifc_f q1, h7, Mo_signToken_135_eq, u2_k (by decide), h9, ifc_f z61, ifc_t rfl, ifc_f q1, Mo_signToken_192_eq]
      exact go 1 rfl rfl (by omega)
    · rw [if_neg h1]
      by_cases h2 : y = 62
      · subst h2
        rw [Mo_signToken_95_eq, h9, ifc_t rfl, ifc_t rfl, ifc_t q2, ifc_f q1, h7, Mo_signToken_135_eq, u2_k (by decide), h9, ifc_f z61, ifc_t rfl, ifc_t q2, ifc_f q1, Mo_signToken_192_eq]
        exact go 3 rfl rfl (by omega)
      · rw [Mo_signToken_95_eq, h9, ifc_t rfl, ifc_eq (by omega) (by omega), if_neg h2, ifc_t q2, ifc_t q2, Mo_signToken_135_eq, h9, ifc_f z61, ifc_t rfl, ifc_t q2, ifc_t q2, Mo_signToken_192_eq]
        exact stay 0 (by unfold sgn; rw [if_neg (by omega)]) (by unfold sgk; simp [h1, h2]) (by omega)
  · rw [if_pos rfl, Mo_signToken_95_eq, h9, ifc_f z60, ifc_t q2, ifc_t q2, Mo_signToken_135_eq, h9, ifc_t rfl, Mo_signToken_192_eq]
    exact stay 2 (by unfold sgn; rw [if_neg (by omega)]) (by unfold sgk; simp) (by omega)
  · rw [if_neg (by decide)]
    by_cases h1 : y = 61
    · subst h1
      rw [if_pos rfl, Mo_signToken_95_eq, h9, ifc_f z62, ifc_f q1, h7, Mo_signToken_135_eq, u2_k (by decide), h9, ifc_f z63, ifc_f z62, ifc_f q1, Mo_signToken_192_eq]
      exact go 4 rfl rfl (by omega)
    · rw [if_neg h1, Mo_signToken_95_eq, h9, ifc_f z62, ifc_t q2, ifc_t q2, Mo_signToken_135_eq, h9, ifc_f z63, ifc_f z62, ifc_t q2, Mo_signToken_192_eq]
      exact stay 5 (by unfold sgn; rw [if_neg (by omega)]) (by unfold sgk; simp [h1]) (by omega)
theorem rsign_ok {a : Nat} (h : TR i c e) (ha : a < e) (h7 : i 82 7 = nI a) : ∃ j, Mo_signToken (i, l, Rp s r p) = some (none, (j, l, Rp s r p)) ∧ fr qRt i j ∧ j 82 7 = nI (a + sgn (c a) (sgy c e a)) ∧ j 82 10 = i 82 10 ∧ kOk (sgk (c a) (sgy c e a)) (j 82 8) (j 82 9) := by
  have e700 := h.2.1
  have hc := h.2.2.1 a ha
  rw [Mo_signToken_eq, h7, gd_in (by omega) (by omega), nI_clamp (by omega), hc.2, nI_add]
  have key : ∀ k, k < 2 ^ 31 → (nI (c a) = nI k) = (c a = k) := fun k hk => propext (nI_eq (by omega) hk)
  simp only [key 60 (by omega), key 62 (by omega), key 61 (by omega), key 59 (by omega), key 40 (by omega), key 41 (by omega), key 43 (by omega), key 45 (by omega), key 42 (by omega), key 47 (by omega), key 37 (by omega), ifc_n]
  have hm : TR (u2 (u2 i 82 9 (nI (c a))) 82 7 (nI (a + 1))) c e := TR_u (TR_u h rfl) rfl
  have m7 : u2 (u2 i 82 9 (nI (c a))) 82 7 (nI (a + 1)) 82 7 = nI (a + 1) := u2_s _ _ _ _
  have m9 : u2 (u2 i 82 9 (nI (c a))) 82 7 (nI (a + 1)) 82 9 = nI (c a) := by simp (disch := decide) only [u2_s, u2_k]
  have m10 : u2 (u2 i 82 9 (nI (c a))) 82 7 (nI (a + 1)) 82 10 = i 82 10 := by simp (disch := decide) only [u2_s, u2_k]
  have mf : fr qRt i (u2 (u2 i 82 9 (nI (c a))) 82 7 (nI (a + 1))) := fr_trans (fr_u2 rfl) (fr_u2 rfl)
  generalize u2 (u2 i 82 9 (nI (c a))) 82 7 (nI (a + 1)) = m at *
  generalize c a = x at *
  have hcmp : x = 60 ∨ x = 61 ∨ x = 62 → ∃ j, Mo_signToken_50 (m, l, Rp s r p) = some (none, (j, l, Rp s r p)) ∧ fr qRt i j ∧ j 82 7 = nI (a + sgn x (sgy c e a)) ∧ j 82 10 = i 82 10 ∧ kOk (sgk x (sgy c e a)) (j 82 8) (j 82 9) := fun hx => by
    obtain ⟨j, g1, g2, g3, g4, g5⟩ := rcmp_ok (l := l) (s := s) (r := r) (p := p) hm (by omega) hx m7 m9
    exact ⟨j, g1, fr_trans mf g2, g3, g4.trans m10, g5⟩
  have hsg : ∀ K, x ≠ 60 → x ≠ 62 → sg1 x = K → (28 ≤ K ∧ K ≤ 34 ∧ x = sgc K ∨ K = 42 ∧ x = 37) → ∃ j, Mo_signToken_270 (m, l, Rp s r p) = some (none, (j, l, Rp s r p)) ∧ fr qRt i j ∧ j 82 7 = nI (a + sgn x (sgy c e a)) ∧ j 82 10 = i 82 10 ∧ kOk (sgk x (sgy c e a)) (j 82 8) (j 82 9) := fun K h60 h62 h1 h2 => by
    obtain ⟨g1, g2, _, _⟩ := sg1_k (y := sgy c e a) h60 h62
    rw [Mo_signToken_270_eq, ifc_f (by decide)]
    refine ⟨_, rfl, fr_trans mf (fr_u2 rfl), ?_, ?_, ?_⟩
    · rw [u2_k (by decide), m7, g2]
    · rw [u2_k (by decide), m10]
    · rw [u2_s, u2_k (by decide), m9, g1, h1]
      rcases h2 with ⟨h2, h3, h4⟩ | ⟨h2, h4⟩
      · exact kOk_s h2 h3 (by rw [h4])
      · rw [h2]; exact kOk_b (Or.inr ⟨rfl, by rw [h4]⟩)
  by_cases x60 : x = 60
  · rw [if_pos x60]; exact hcmp (by omega)
  rw [if_neg x60]
  by_cases x62 : x = 62
  · rw [if_pos x62]; exact hcmp (by omega)
  rw [if_neg x62]
  by_cases x61 : x = 61
  · rw [if_pos x61]; exact hcmp (by omega)
  rw [if_neg x61]
  by_cases x59 : x = 59
  · rw [if_pos x59]; subst x59; exact hsg 28 (by omega) (by omega) rfl (Or.inl ⟨by omega, by omega, rfl⟩)
  rw [if_neg x59]
  by_cases x40 : x = 40
  · rw [if_pos x40]; subst x40; exact hsg 29 (by omega) (by omega) rfl (Or.inl ⟨by omega, by omega, rfl⟩)
  rw [if_neg x40]
  by_cases x41 : x = 41
  · rw [if_pos x41]; subst x41; exact hsg 30 (by omega) (by omega) rfl (Or.inl ⟨by omega, by omega, rfl⟩)
  rw [if_neg x41]
  by_cases x43 : x = 43
  · rw [if_pos x43]; subst x43; exact hsg 31 (by omega) (by omega) rfl (Or.inl ⟨by omega, by omega, rfl⟩)
  rw [if_neg x43]
  by_cases x45 : x = 45
  · rw [if_pos x45]; subst x45; exact hsg 32 (by omega) (by omega) rfl (Or.inl ⟨by omega, by omega, rfl⟩)
  rw [if_neg x45]
  by_cases x42 : x = 42
  · rw [if_pos x42]; subst x42; exact hsg 33 (by omega) (by omega) rfl (Or.inl ⟨by omega, by omega, rfl⟩)
  rw [if_neg x42]
  by_cases x47 : x = 47
  · rw [if_pos x47]; subst x47; exact hsg 34 (by omega) (by omega) rfl (Or.inl ⟨by omega, by omega, rfl⟩)
  rw [if_neg x47]
  by_cases x37 : x = 37
  · rw [if_pos x37]; subst x37; exact hsg 42 (by omega) (by omega) rfl (Or.inr ⟨by omega, rfl⟩)
  rw [if_neg x37]
  obtain ⟨g1, g2, _, _⟩ := sg1_k (y := sgy c e a) x60 x62
  rw [ifc_t (c := nI 0 = 0) rfl]
  refine ⟨_, rfl, fr_trans mf (fr_u2 rfl), ?_, ?_, ?_⟩
  · rw [u2_k (by decide), m7, g2]
  · rw [u2_k (by decide), m10]
  · rw [u2_s, g1, show sg1 x = 42 from by unfold sg1; simp (disch := omega) only [if_neg]]
    exact kOk_b (Or.inl rfl)
end
end

section
/-! the reference: a token from any byte on -/
section
variable {i : Nat → Nat → Int32} {l : Nat → Nat → Int64} {s r p : Nat} {c : Nat → Nat} {e : Nat}
theorem sml_r {x : Nat} (h : sml x = true) : 97 ≤ x ∧ x ≤ 122 := by
  unfold sml at h
  simp at h
  omega
theorem rword_ok {a : Nat} (h : TR i c e) (ha : a < e) (hs : sml (c a) = true) (h7 : i 82 7 = nI a) (h10 : i 82 10 = nI a) : ∃ j, Mo_token_90 (i, l, Rp s r p) = some (none, (j, l, Rp s r p)) ∧ fr qRt i j ∧ j 82 7 = nI (av (fun k => sml (c k)) e a) ∧ j 82 10 = nI a ∧ kOk (wk c a (av (fun k => sml (c k)) e a - a)) (j 82 8) (j 82 9) ∧
    (wk c a (av (fun k => sml (c k)) e a - a) = 26 → j 82 9 = nI (pkw c a (av (fun k => sml (c k)) e a - a))) := by
  have e700 := h.2.1
  have hT : ∀ y, TR (u2 i 82 7 y) c e := fun y => TR_u h rfl
  have hb1 : av (fun k => sml (c k)) e a ≤ e := av_le (by omega)
  have hb2 : a + 1 ≤ av (fun k => sml (c k)) e a := by rw [av_t ha hs]; exact av_ge
  have hin : ∀ q, q < av (fun k => sml (c k)) e a - a → 97 ≤ c (a + q) ∧ c (a + q) ≤ 122 := fun q hq => sml_r (av_in (f := fun k => sml (c k)) (e := e) (n := a) (by omega) (by omega))
  have hend : ¬ (av (fun k => sml (c k)) e a < e ∧ sml (c (av (fun k => sml (c k)) e a)) = true) := av_end (f := fun k => sml (c k))
  have hl := av_loop (f := fun k => sml (c k)) (e := e) (fun n => Mo_token_90 (u2 i 82 7 (nI n), l, Rp s r p)) a (fun n h1 h2 h3 => by
    show Mo_token_90 _ = Mo_token_90 _
    rw [Mo_token_90_eq]
    simp (disch := decide) only [u2_s, u2_i, u2_k]
    rw [rS_ok (hT _) (by omega), crI_t, show (decide (n < e) && sml (c n)) = true from by simp [h2]; exact h3, ifc_nb, if_pos rfl]
    simp (disch := decide) only [u2_s, u2_i, u2_k]
    rw [u2_u2, nI_add]) a (Nat.le_refl _)
  simp only [u2_self h7] at hl
  rw [hl]
  obtain ⟨n, hn⟩ : ∃ n, av (fun k => sml (c k)) e a = a + n := ⟨av (fun k => sml (c k)) e a - a, by omega⟩
  rw [hn] at hb1 hb2 hin hend
  simp only [hn]
  simp only [show a + n - a = n by omega] at hin ⊢
  rw [Mo_token_90_eq]
  simp (disch := decide) only [u2_s, u2_i, u2_k]
  rw [rS_ok (hT _) (by omega), crI_t, show (decide (a + n < e) && sml (c (a + n))) = false from by
      cases hx : sml (c (a + n))
      · simp
      · simp
        by_cases hy : a + n < e
        · exact absurd ⟨hy, hx⟩ hend
        · omega]
  rw [ifc_nb, if_neg (by decide)]
  simp (disch := decide) only [u2_s, u2_i, u2_k]
  rw [h10, Mo_wordAt_eq]
  have hw := wA5 (l := l) (s := s) (r := r) (p := p) (hT (nI (a + n))) hb1 hin 26 0 rfl
  rw [show wo.getD 0 0 = 0 from rfl] at hw
  rw [hw, crI_t]
  simp (disch := decide) only [u2_s, u2_i, u2_k]
  rw [h10, pk_sub (by omega), show a + n - a = n by omega, ifc_lt (by omega) (by omega)]
  unfold wk
  by_cases h6 : 6 < n
  · simp only [if_pos h6]
    rw [ifc_t (nM_neg (by omega) (by omega)), Mo_token_162_eq, ifc_f (by decide)]
    refine ⟨_, rfl, fr_trans (fr_trans (fr_u2 rfl) (fr_u2 rfl)) (fr_u2 rfl), ?_, ?_, ?_, fun x => by omega⟩
    · simp (disch := decide) only [u2_s, u2_i, u2_k]
    · simp (disch := decide) only [u2_s, u2_i, u2_k]; exact h10
    · simp (disch := decide) only [u2_s, u2_i, u2_k]; exact kOk_b (Or.inl rfl)
  · simp only [if_neg h6]
    have hpl := pkw_lt hin
    generalize h1 : fnd (fun k => nI (wdC.getD (sw k) 0)) (nI (pkw c a n)) 26 0 = o1
    generalize h2 : fnd (fun k => nI (wdC.getD k 0)) (nI (pkw c a n)) 26 0 = o2
    cases o1 with
    | none =>
      have f1 := fnd_none 26 0 h1
      have e2 : o2 = none := by
        cases o2 with
        | none => rfl
        | some q =>
          have f2 := fnd_lt 26 0 q h2
          have hq := sw_sw q (by omega)
          have := f1 (sw q) (by omega) (by omega)
          simp only [hq.1] at this
          exact absurd f2.2.2 this
      subst e2
      rw [show fnv none = nM 1 from rfl, ifc_t (nM_neg (by omega) (by omega)), Mo_token_162_eq, ifc_t rfl]
      simp (disch := decide) only [u2_s, u2_i, u2_k]
      rw [h10, packed_ok (TR_u (TR_u (hT _) rfl) rfl) hb1 (by omega) hin, crI_t]
      refine ⟨_, rfl, fr_trans (fr_trans (fr_trans (fr_u2 rfl) (fr_u2 rfl)) (fr_u2 rfl)) (fr_u2 rfl), ?_, ?_, ?_, fun x => ?_⟩
      · simp (disch := decide) only [u2_s, u2_i, u2_k]
      · simp (disch := decide) only [u2_s, u2_i, u2_k]; exact h10
      · simp (disch := decide) only [u2_s, u2_i, u2_k]
        show kOk 26 _ _
        exact ⟨by omega, fun x => by omega, fun x => by omega, fun _ => rfl, fun x => by omega, fun x => by omega, fun x => by omega, fun x => by omega⟩
      · simp (disch := decide) only [u2_s, u2_i, u2_k]
    | some m =>
      have f1 := fnd_lt 26 0 m h1
      have hm := sw_sw m (by omega)
      have e2 : o2 = some (sw m) := by
        cases o2 with
        | none => exact absurd f1.2.2 (fnd_none 26 0 h2 (sw m) (by omega) (by omega))
        | some q =>
          have f2 := fnd_lt 26 0 q h2
          have g : nI (wdC.getD q 0) = nI (wdC.getD (sw m) 0) := f2.2.2.trans f1.2.2.symm
          rw [nI_eq (by have := wC_lt q (by omega); omega) (by have := wC_lt (sw m) (by omega); omega)] at g
          rw [wC_inj q (by omega) (sw m) hm.2 g]
      subst e2
      rw [show fnv (some m) = nI m from rfl, ifc_neg (by omega), Mo_token_162_eq, ifc_f (by decide)]
      refine ⟨_, rfl, fr_trans (fr_trans (fr_u2 rfl) (fr_u2 rfl)) (fr_u2 rfl), ?_, ?_, ?_, fun x => ?_⟩
      · simp (disch := decide) only [u2_s, u2_i, u2_k]
      · simp (disch := decide) only [u2_s, u2_i, u2_k]; exact h10
      · simp (disch := decide) only [u2_s, u2_i, u2_k]
        exact kOk_w (K := sw m) hm.2 (by rw [hm.1])
      · have : sw m = 26 := x
        omega
theorem token_ok {n : Nat} (h : TR i c e) (hn : n ≤ e) (h7 : i 82 7 = nI n) : ∃ j, Mo_token (i, l, Rp s r p) = some (none, (j, l, Rp s r p)) ∧ fr qRt i j ∧ j 82 7 = nI (tE c e (tA c e n)) ∧ j 82 10 = nI (tA c e n) ∧ kOk (tK c e (tA c e n)) (j 82 8) (j 82 9) ∧ vOk c e (tA c e n) (j 82 9) := by
  have e700 := h.2.1
  have hl := av_loop (f := fun k => blk (c k)) (e := e) (fun n => Mo_token_0 (u2 i 82 7 (nI n), l, Rp s r p)) 0 (fun n _ h2 h3 => by
    have hb := h.2.2.1 n h2
    show Mo_token_0 _ = Mo_token_0 _
    rw [Mo_token_0_eq]
    simp (disch := decide) only [u2_s, u2_i, u2_k]
    rw [h.1, ifc_lt (by omega) (by omega), if_pos h2, gd_in (by omega) (by omega), gd_in (by omega) (by omega), nI_clamp (by omega), hb.2, ifc_eq (by omega) (by omega), ifc_eq (by omega) (by omega), u2_u2, nI_add]
    have h4 : blk (c n) = true := h3
    unfold blk at h4
    simp at h4
    by_cases c1 : c n = 10
    · rw [if_pos c1]
    · rw [if_neg c1, if_pos (by omega)]) n (Nat.zero_le _)
  simp only [u2_self h7] at hl
  have hb1 : tA c e n ≤ e := av_le hn
  have hend : ¬ (tA c e n < e ∧ blk (c (tA c e n)) = true) := av_end (f := fun k => blk (c k))
  rw [Mo_token_eq, ← Mo_token_0_eq, hl]
  show ∃ j, Mo_token_0 (u2 i 82 7 (nI (tA c e n)), l, Rp s r p) = _ ∧ _
  generalize tA c e n = a at *
  have h52 : Mo_token_0 (u2 i 82 7 (nI a), l, Rp s r p) = Mo_token_52 (u2 i 82 7 (nI a), l, Rp s r p) := by
    rw [Mo_token_0_eq]
    simp (disch := decide) only [u2_s, u2_i, u2_k]
    rw [h.1, ifc_lt (by omega) (by omega)]
    by_cases ha : a < e
    · have hb := h.2.2.1 a ha
      rw [if_pos ha, gd_in (by omega) (by omega), gd_in (by omega) (by omega), nI_clamp (by omega), hb.2, ifc_eq (by omega) (by omega), ifc_eq (by omega) (by omega)]
      have h4 : ¬ blk (c a) = true := fun x => hend ⟨ha, x⟩
      unfold blk at h4
      simp at h4
      rw [if_neg h4.2, if_neg h4.1]
    · rw [if_neg ha]
  rw [h52, Mo_token_52_eq]
  simp (disch := decide) only [u2_s, u2_i, u2_k]
  rw [h.1, ifc_eq (by omega) (by omega)]
  unfold tE tK vOk tK
  by_cases ha : e ≤ a
  · rw [if_pos (by omega)]
    simp only [if_pos ha]
    refine ⟨_, rfl, fr_trans (fr_trans (fr_u2 rfl) (fr_u2 rfl)) (fr_u2 rfl), ?_, ?_, ?_, fun x => absurd x (by decide), fun x => absurd x (by decide), fun x => absurd x (by decide)⟩
    · simp (disch := decide) only [u2_s, u2_i, u2_k]
    · simp (disch := decide) only [u2_s, u2_i, u2_k]
    · simp (disch := decide) only [u2_s, u2_i, u2_k]
      exact ⟨by omega, fun _ => rfl, fun x => by omega, fun x => by omega, fun x => by omega, fun _ x => by omega, fun _ x => by omega, fun x => by omega⟩
  · have hb := h.2.2.1 a (by omega)
    have hT : TR (u2 (u2 i 82 7 (nI a)) 82 10 (nI a)) c e := TR_u (TR_u h rfl) rfl
    have hT6 : u2 (u2 i 82 7 (nI a)) 82 10 (nI a) 82 7 = nI a := by simp (disch := decide) only [u2_s, u2_i, u2_k]
    have hT10 : u2 (u2 i 82 7 (nI a)) 82 10 (nI a) 82 10 = nI a := u2_s _ _ _ _
    have hF : fr qRt i (u2 (u2 i 82 7 (nI a)) 82 10 (nI a)) := fr_trans (fr_u2 rfl) (fr_u2 rfl)
    generalize u2 (u2 i 82 7 (nI a)) 82 10 (nI a) = m at *
    rw [if_neg (by omega), rS_ok hT (by omega), crI_t, ifc_nb]
    simp only [if_neg ha]
    by_cases hL : sml (c a) = true
    · rw [if_pos (show (decide (a < e) && sml (c a)) = true by simp [hL]; omega)]
      obtain ⟨j, g1, g2, g3, g4, g5, g6⟩ := rword_ok (l := l) (s := s) (r := r) (p := p) hT (by omega) hL hT6 hT10
      simp only [if_pos hL]
      refine ⟨j, g1, fr_trans hF g2, g3, g4, g5, fun x => ?_, fun x => ?_, fun x => ⟨_, ?_, (g5.2.2.1 (by omega)).2⟩⟩
      · unfold tV
        rw [if_pos hL]
        exact g6 x
      · exfalso
        unfold wk at x
        split at x
        · omega
        · generalize hg : fnd (fun k => nI (wdC.getD k 0)) (nI (pkw c a (av (fun k => sml (c k)) e a - a))) 26 0 = o at x
          cases o with
          | none => simp at x
          | some q =>
            have := fnd_lt 26 0 q hg
            simp at x
            omega
      · have := (sw_sw _ (show wk c a (av (fun k => sml (c k)) e a - a) < 26 by omega)).2
        omega
    · rw [if_neg (show ¬ (decide (a < e) && sml (c a)) = true by simp [hL])]
      simp only [if_neg hL]
      rw [hT6, rD_ok hT (by omega), crI_t, ifc_nb]
      by_cases hD : dgt (c a) = true
      · rw [if_pos (show (decide (a < e) && dgt (c a)) = true by simp [hD]; omega)]
        obtain ⟨j, g1, g2, g3, g4, g5, w, g6, g7, g8⟩ := rnum_ok (i := u2 (u2 m 82 8 (nI 3)) 82 9 (nI 0)) (l := l) (s := s) (r := r) (p := p) (TR_u (TR_u hT rfl) rfl) (show a < e by omega) (by simp (disch := decide) only [u2_k]; exact hT6) (u2_s _ _ _ _)
        simp only [if_pos hD]
        refine ⟨j, g1, fr_trans hF (fr_trans (fr_trans (fr_u2 rfl) (fr_u2 rfl)) g2), g3, ?_, ?_, fun x => absurd x (by decide), fun x => ⟨w, g6, g7, ?_⟩, fun x => absurd x (by decide)⟩
        · rw [g5]; simp (disch := decide) only [u2_k]; exact hT10
        · rw [g4, u2_k (by decide), u2_s]
          exact ⟨by omega, fun x => by omega, fun x => by omega, fun x => by omega, fun _ => rfl, fun x => by omega, fun x => by omega, fun x => by omega⟩
        · unfold tV
          rw [if_neg hL]
          exact g8
      · rw [if_neg (show ¬ (decide (a < e) && dgt (c a)) = true by simp [hD])]
        simp only [if_neg hD]
        obtain ⟨j, g1, g2, g3, g4, g5⟩ := rsign_ok (l := l) (s := s) (r := r) (p := p) hT (by omega) hT6
        rw [g1, crV_t]
        refine ⟨j, rfl, fr_trans hF g2, g3, g4.trans hT10, g5, fun x => ?_, fun x => ?_, fun x => ?_⟩
        · exact absurd x (sgk_ne _ _).1
        · exact absurd x (sgk_ne _ _).2
        · exact absurd x (by have := sgk_28 (c a) (sgy c e a); omega)
end
end

section
/-! the row of tokens -/
def sP (c : Nat → Nat) (e : Nat) : Nat → Nat
  | 0 => 0
  | k + 1 => tE c e (tA c e (sP c e k))
def sA (c : Nat → Nat) (e k : Nat) : Nat := tA c e (sP c e k)
def sK (c : Nat → Nat) (e k : Nat) : Nat := tK c e (sA c e k)
theorem wk_ne (c : Nat → Nat) (a n : Nat) : wk c a n ≠ 41 ∧ wk c a n ≠ 27 ∧ (wk c a n ≤ 26 ∨ wk c a n = 42) := by
  unfold wk
  split
  · omega
  · generalize hg : fnd (fun k => nI (wdC.getD k 0)) (nI (pkw c a n)) 26 0 = o
    cases o with
    | none => simp
    | some q =>
      have := fnd_lt 26 0 q hg
      simp
      omega
theorem sgk_n41 (x y : Nat) : sgk x y ≠ 41 ∧ sgk x y ≤ 42 ∧ 28 ≤ sgk x y := by
  unfold sgk
  refine ⟨?_, ?_, ?_⟩ <;> (repeat' split) <;> omega
theorem tK_41 {c : Nat → Nat} {e a : Nat} : tK c e a = 41 ↔ e ≤ a := by
  unfold tK
  by_cases h : e ≤ a
  · simp [h]
  · rw [if_neg h]
    have h1 := (wk_ne c a (av (fun k => sml (c k)) e a - a)).1
    have h2 := (sgk_n41 (c a) (sgy c e a)).1
    constructor
    · split
      · exact fun x => absurd x h1
      · split
        · omega
        · exact fun x => absurd x h2
    · exact fun x => absurd x h
theorem tK_le {c : Nat → Nat} {e a : Nat} : tK c e a ≤ 42 := by
  unfold tK
  split
  · omega
  · split
    · have := wk_ne c a (av (fun k => sml (c k)) e a - a); omega
    · split
      · omega
      · exact (sgk_n41 _ _).2.1
theorem tE_gt {c : Nat → Nat} {e a : Nat} (h : a < e) : a < tE c e a ∧ tE c e a ≤ e := by
  unfold tE
  rw [if_neg (by omega)]
  split
  · rename_i hs
    have h1 := av_t (f := fun k => sml (c k)) h hs
    have h2 : a + 1 ≤ av (fun k => sml (c k)) e (a + 1) := av_ge
    have h3 : av (fun k => sml (c k)) e a ≤ e := av_le (by omega)
    omega
  · split
    · rename_i hs
      have h1 := av_t (f := fun k => dgt (c k)) h hs
      have h2 : a + 1 ≤ av (fun k => dgt (c k)) e (a + 1) := av_ge
      have h3 : av (fun k => dgt (c k)) e a ≤ e := av_le (by omega)
      omega
    · unfold sgn sgy
      split <;> split at * <;> omega
theorem tE_e {c : Nat → Nat} {e a : Nat} (h : e ≤ a) : tE c e a = a := if_pos h
theorem sP_le {c : Nat → Nat} {e : Nat} : ∀ k, sP c e k ≤ e
  | 0 => Nat.zero_le _
  | k + 1 => by
    have h := sP_le (c := c) (e := e) k
    have h1 : tA c e (sP c e k) ≤ e := av_le h
    unfold sP
    by_cases h2 : tA c e (sP c e k) < e
    · exact (tE_gt h2).2
    · rw [tE_e (by omega)]; exact h1
theorem sA_le {c : Nat → Nat} {e k : Nat} : sA c e k ≤ e := av_le (sP_le k)
theorem sK_s {c : Nat → Nat} {e k : Nat} (h : sK c e k = 41) : sK c e (k + 1) = 41 ∧ sA c e (k + 1) = sA c e k := by
  have h1 := tK_41.mp h
  have h2 : sA c e k ≤ e := sA_le
  have h3 : sP c e (k + 1) = e := by
    show tE c e (sA c e k) = e
    rw [tE_e h1]; omega
  have h4 : sA c e (k + 1) = e := by
    unfold sA
    rw [h3]
    exact av_f (by omega)
  exact ⟨tK_41.mpr (by omega), by omega⟩
theorem sP_gt {c : Nat → Nat} {e k : Nat} (h : sK c e k ≠ 41) : sP c e k < sP c e (k + 1) := by
  have h1 : ¬ e ≤ sA c e k := fun x => h (tK_41.mpr x)
  have h2 : sP c e k ≤ sA c e k := av_ge
  have h3 := (tE_gt (c := c) (show sA c e k < e by omega)).1
  show sP c e k < tE c e (sA c e k)
  omega
theorem sK_end (c : Nat → Nat) (e : Nat) : ∃ m, m ≤ e ∧ sK c e m = 41 ∧ ∀ k, k < m → sK c e k ≠ 41 := by
  have key : ∀ n, (∃ m, m < n ∧ sK c e m = 41 ∧ ∀ k, k < m → sK c e k ≠ 41) ∨ (∀ k, k < n → sK c e k ≠ 41) ∧ n ≤ sP c e n := by
    intro n
    induction n with
    | zero => exact Or.inr ⟨fun k hk => by omega, Nat.zero_le _⟩
    | succ n ih =>
      rcases ih with ⟨m, h1, h2, h3⟩ | ⟨h1, h2⟩
      · exact Or.inl ⟨m, by omega, h2, h3⟩
      · by_cases h : sK c e n = 41
        · exact Or.inl ⟨n, by omega, h, h1⟩
        · refine Or.inr ⟨fun k hk => ?_, ?_⟩
          · by_cases e1 : k = n
            · rw [e1]; exact h
            · exact h1 k (by omega)
          · have := sP_gt h; omega
  rcases key (e + 1) with ⟨m, h1, h2, h3⟩ | ⟨_, h2⟩
  · exact ⟨m, by omega, h2, h3⟩
  · have := sP_le (c := c) (e := e) (e + 1)
    omega
theorem sK_ge {c : Nat → Nat} {e m : Nat} (h : sK c e m = 41) : ∀ d, sK c e (m + d) = 41 ∧ sA c e (m + d) = sA c e m
  | 0 => ⟨h, rfl⟩
  | d + 1 => by
    obtain ⟨h1, h2⟩ := sK_ge h d
    obtain ⟨h3, h4⟩ := sK_s h1
    exact ⟨h3, h4.trans h2⟩
/-- the component's row of tokens, the last at m; a token of it is the one at hand -/
def TS (i : Nat → Nat → Int32) (c : Nat → Nat) (e m : Nat) : Prop := m ≤ 700 ∧ sK c e m = 41 ∧ ((∀ k, k < m → sK c e k ≠ 41) ∧ i 23 8 = nI 0 ∧ i 23 9 = nM 1) ∧ ∀ k, k ≤ m → i 4 k = nI (sK c e k) ∧ i 5 k = nI (sA c e k) ∧ vOk c e (sA c e k) (i 6 k)
def CT (i : Nat → Nat → Int32) (c : Nat → Nat) (e m a : Nat) : Prop := TS i c e m ∧ i 1 7 = nI (min a m) ∧ i 1 9 = nI (sK c e a) ∧ i 1 10 = nI (sA c e a) ∧ vOk c e (sA c e a) (i 1 11)
def RT (i : Nat → Nat → Int32) (c : Nat → Nat) (e a : Nat) : Prop := (TR i c e ∧ i 82 4 = nI 0 ∧ i 82 5 = nM 1) ∧ i 82 7 = nI (sP c e (a + 1)) ∧ i 82 10 = nI (sA c e a) ∧ kOk (sK c e a) (i 82 8) (i 82 9) ∧ vOk c e (sA c e a) (i 82 9)
def qSt (a k : Nat) : Bool := a == 1 && (k == 7 || k == 9 || k == 10 || k == 11)
section
variable {i : Nat → Nat → Int32} {l : Nat → Nat → Int64} {s r p : Nat} {c : Nat → Nat} {e : Nat}
theorem rtok_ok {a : Nat} (h : RT i c e a) : ∃ j, Mo_token (i, l, Rp s r p) = some (none, (j, l, Rp s r p)) ∧ fr qRt i j ∧ RT j c e (a + 1) := by
  obtain ⟨j, g1, g2, g3, g4, g5, g6⟩ := token_ok (l := l) (s := s) (r := r) (p := p) h.1.1 (sP_le _) h.2.1
  exact ⟨j, g1, g2, ⟨TR_fr h.1.1 g2, (g2 82 4 rfl).trans h.1.2.1, (g2 82 5 rfl).trans h.1.2.2⟩, g3, g4, g5, g6⟩
theorem step36 {m a : Nat} (h : TS i c e m) (h7 : i 1 7 = nI (min a m)) : ∃ j, Tokens_step_36 (i, l, Rp s r p) = some (some (.int (nI 1)), (j, l, Rp s r p)) ∧ fr qSt i j ∧ CT j c e m a := by
  have hm := h.1
  have hmin : min a m ≤ m := Nat.min_le_right _ _
  obtain ⟨g1, g2, g3⟩ := h.2.2.2 (min a m) hmin
  have hk : sK c e a = sK c e (min a m) ∧ sA c e a = sA c e (min a m) := by
    by_cases ha : a ≤ m
    · rw [Nat.min_eq_left ha]; exact ⟨rfl, rfl⟩
    · rw [Nat.min_eq_right (by omega)]
      obtain ⟨x1, x2⟩ := sK_ge h.2.1 (a - m)
      rw [show m + (a - m) = a by omega] at x1 x2
      exact ⟨x1.trans h.2.1.symm, x2⟩
  rw [Tokens_step_36_eq, h7, gd_in (by omega) (by omega), gd_in (by omega) (by omega), gd_in (by omega) (by omega), gd_1, nI_clamp (by omega)]
  refine ⟨_, rfl, fr_trans (fr_trans (fr_u2 rfl) (fr_u2 rfl)) (fr_u2 rfl), ?_, ?_, ?_, ?_, ?_⟩
  · refine ⟨h.1, h.2.1, ⟨h.2.2.1.1, ?_, ?_⟩, fun k hk => ?_⟩
    · simp (disch := decide) only [u2_i]; exact h.2.2.1.2.1
    · simp (disch := decide) only [u2_i]; exact h.2.2.1.2.2
    simp (disch := decide) only [u2_i]
    exact h.2.2.2 k hk
  · simp (disch := decide) only [u2_s, u2_k]; exact h7
  · simp (disch := decide) only [u2_s, u2_k]; rw [g1, hk.1]
  · simp (disch := decide) only [u2_s, u2_k]; rw [g2, hk.2]
  · simp (disch := decide) only [u2_s, u2_k]; rw [hk.2]; exact g3
theorem step_ok {m a : Nat} (h : CT i c e m a) : ∃ j, Tokens_step (i, l, Rp s r p) = some (some (.int (nI 1)), (j, l, Rp s r p)) ∧ fr qSt i j ∧ CT j c e m (a + 1) := by
  have hm := h.1.1
  have hmin : min a m ≤ m := Nat.min_le_right _ _
  have hK : sK c e a ≤ 42 := tK_le
  rw [Tokens_step_eq, h.2.1, h.2.2.1, ifc_lt (by omega) (by omega), ifc_eq (by omega) (by omega), ifc_neg (by omega), nI_add]
  by_cases ha : a < m
  · rw [if_pos (by omega), if_neg (h.1.2.2.1.1 a ha)]
    obtain ⟨j, g1, g2, g3⟩ := step36 (i := u2 i 1 7 (nI (min a m + 1))) (l := l) (s := s) (r := r) (p := p) (c := c) (e := e) (m := m) (a := a + 1) ⟨h.1.1, h.1.2.1, ⟨h.1.2.2.1.1, (u2_i (by decide)).trans h.1.2.2.1.2.1, (u2_i (by decide)).trans h.1.2.2.1.2.2⟩, fun k hk => by
      simp (disch := decide) only [u2_i]
      exact h.1.2.2.2 k hk⟩ (by rw [u2_s]; congr 1; omega)
    exact ⟨j, g1, fr_trans (fr_u2 rfl) g2, g3⟩
  · have hKa : sK c e a = 41 := by
      have := (sK_ge h.1.2.1 (a - m)).1
      rw [show m + (a - m) = a by omega] at this
      exact this
    rw [if_pos hKa, ite_self]
    exact step36 h.1 (by rw [h.2.1]; congr 1; omega)
end
end

section
/-! the component tells all tokens apart first -/
def qBg (a k : Nat) : Bool := (a == 1 && (k == 5 || k == 6 || k == 7 || k == 9 || k == 10 || k == 11)) || a == 4 || a == 5 || a == 6
theorem qBg_K {i j : Nat → Nat → Int32} (h : fr qKc i j) : fr qBg i j := fr_mono (fun a k hq => by
  cases hn : qKc a k
  · rfl
  · exfalso
    unfold qKc at hn
    unfold qBg at hq
    simp at hn hq
    omega) h
theorem qBg_S {i j : Nat → Nat → Int32} (h : fr qSt i j) : fr qBg i j := fr_mono (fun a k hq => by
  cases hn : qSt a k
  · rfl
  · exfalso
    unfold qSt at hn
    unfold qBg at hq
    simp at hn hq
    omega) h
section
variable {l : Nat → Nat → Int64} {s r p : Nat} {c : Nat → Nat} {e m : Nat}
theorem begin25 (hm : m ≤ 700) (h41 : sK c e m = 41) (hne : ∀ k, k < m → sK c e k ≠ 41) : ∀ d x (i : Nat → Nat → Int32), x + d = m + 1 → i 23 8 = nI 0 ∧ i 23 9 = nM 1 → TC i c e → i 1 6 = nI (sP c e x) → (∀ y, x = y + 1 → i 1 9 = nI (sK c e y)) → (x = 0 → i 1 9 = nI 42) → (∀ k, k < x → i 4 k = nI (sK c e k) ∧ i 5 k = nI (sA c e k) ∧ vOk c e (sA c e k) (i 6 k)) →
    ∃ j, Tokens_begin_25 (nI x) (i, l, Rp s r p) = some (none, (j, l, Rp s r p)) ∧ CT j c e m 0 ∧ fr qBg i j
  | 0, x, i, hx, hN, hT, h6, h9, h0, hr => by
    have e9 := h9 m (by omega)
    rw [h41] at e9
    have hs : ∃ j, Tokens_step (u2 i 1 7 (nM 1), l, Rp s r p) = some (some (.int (nI 1)), (j, l, Rp s r p)) ∧ fr qSt (u2 (u2 i 1 7 (nM 1)) 1 7 (nM 1 + nI 1)) j ∧ CT j c e m 0 := by
      rw [Tokens_step_eq, u2_s, u2_k (by decide), e9, ifc_t (by decide), ifc_t rfl, ifc_t (by decide)]
      exact step36 (i := u2 (u2 i 1 7 (nM 1)) 1 7 (nM 1 + nI 1)) (a := 0) ⟨hm, h41, ⟨hne, by simp (disch := decide) only [u2_i]; exact hN.1, by simp (disch := decide) only [u2_i]; exact hN.2⟩, fun k hk => by
        simp (disch := decide) only [u2_i]
        exact hr k (by omega)⟩ (by rw [u2_s, Nat.zero_min]; decide)
    obtain ⟨j, g1, g2, g3⟩ := hs
    have key : Tokens_begin_25 (nI x) (i, l, Rp s r p) = crI (Tokens_step (u2 i 1 7 (nM 1), l, Rp s r p)) (u2 i 1 7 (nM 1), l, Rp s r p) (fun x_1 i_1 l_1 => some (none, (i_1, l_1, Rp s r p))) := by
      rw [Tokens_begin_25_eq, e9, ifc_t (c := nI 41 = nI 41) rfl]
      by_cases h7 : 700 < x
      · rw [ifc_t (nI_lt h7 (by omega))]
      · rw [ifc_f (nI_nlt (by omega) (by omega))]
    rw [key, g1, crI_t]
    exact ⟨j, rfl, g3, fr_trans (fr_trans (fr_u2 rfl) (fr_u2 rfl)) (qBg_S g2)⟩
  | d + 1, x, i, hx, hN, hT, h6, h9, h0, hr => by
    have e9 : ∃ K, i 1 9 = nI K ∧ K ≠ 41 ∧ K ≤ 42 := by
      match x, h9, h0 with
      | 0, _, h0 => exact ⟨42, h0 rfl, by omega, by omega⟩
      | y + 1, h9, _ => exact ⟨sK c e y, h9 y rfl, hne y (by omega), tK_le⟩
    obtain ⟨K, k1, k2, k3⟩ := e9
    obtain ⟨j, g1, g2, g3, g4, g5, g6⟩ := scan_ok (l := l) (s := s) (r := r) (p := p) hT (sP_le x) h6
    rw [Tokens_begin_25_eq, ifc_lt (by omega) (by omega), if_neg (by omega), k1, ifc_eq (by omega) (by omega), if_neg k2, g1, crV_t, gd_in (by omega) (by omega), gd_in (by omega) (by omega), gd_in (by omega) (by omega), nI_clamp (by omega), nI_add]
    have hf : fr qBg i (u2 (u2 (u2 j 4 x (j 1 9)) 5 x (j 1 10)) 6 x (j 1 11)) := fr_trans (qBg_K g2) (fr_trans (fr_trans (fr_u2 rfl) (fr_u2 rfl)) (fr_u2 rfl))
    have q1 : ∀ k, u2 (u2 (u2 j 4 x (j 1 9)) 5 x (j 1 10)) 6 x (j 1 11) 1 k = j 1 k := fun k => by simp (disch := decide) only [u2_i]
    have q2 : ∀ a k, a < 4 → u2 (u2 (u2 j 4 x (j 1 9)) 5 x (j 1 10)) 6 x (j 1 11) a k = j a k := fun a k ha => by simp (disch := omega) only [u2_i]
    have q3 : ∀ k, k < x → ∀ a, 4 ≤ a → u2 (u2 (u2 j 4 x (j 1 9)) 5 x (j 1 10)) 6 x (j 1 11) a k = i a k := fun k hk a ha => by
      have e1 : j a k = i a k := g2 a k (by unfold qKc; simp; omega)
      rw [← e1]
      unfold u2
      repeat' split
      all_goals first | rfl | omega
    have q4 : u2 (u2 (u2 j 4 x (j 1 9)) 5 x (j 1 10)) 6 x (j 1 11) 4 x = j 1 9 ∧ u2 (u2 (u2 j 4 x (j 1 9)) 5 x (j 1 10)) 6 x (j 1 11) 5 x = j 1 10 ∧ u2 (u2 (u2 j 4 x (j 1 9)) 5 x (j 1 10)) 6 x (j 1 11) 6 x = j 1 11 := by
      refine ⟨?_, ?_, ?_⟩ <;> simp (disch := decide) only [u2_s, u2_i]
    generalize u2 (u2 (u2 j 4 x (j 1 9)) 5 x (j 1 10)) 6 x (j 1 11) = M at *
    obtain ⟨j', f1, f2, f3⟩ := begin25 hm h41 hne d (x + 1) M (by omega) ⟨(hf 23 8 rfl).trans hN.1, (hf 23 9 rfl).trans hN.2⟩ ⟨(q1 5).trans ((g2 1 5 rfl).trans hT.1), hT.2.1, fun k hk => ⟨(hT.2.2.1 k hk).1, (q2 2 k (by omega)).trans ((g2 2 k rfl).trans (hT.2.2.1 k hk).2)⟩, fun k hk => (q2 3 k (by omega)).trans ((g2 3 k rfl).trans (hT.2.2.2 k hk))⟩ ((q1 6).trans g3) (fun y hy => by
        have : y = x := by omega
        subst this
        exact (q1 9).trans g4) (fun x => by omega) (fun k hk => by
        by_cases hkx : k < x
        · rw [q3 k hkx 4 (by omega), q3 k hkx 5 (by omega), q3 k hkx 6 (by omega)]
          exact hr k hkx
        · have : k = x := by omega
          subst this
          rw [q4.1, q4.2.1, q4.2.2]
          exact ⟨g4, g5, g6⟩)
    exact ⟨j', f1, f2, fr_trans hf f3⟩
/-- the bytes of a tape -/
def TY (i : Nat → Nat → Int32) (c : Nat → Nat) (n : Nat) : Prop := n ≤ 700 ∧ i 1 8 = nI n ∧ i 82 1 = nI n ∧ ∀ k, k < n → c k < 256 ∧ i 83 k = nI (c k) ∧ i 2 k = sb (c k)
theorem TP_TY {i : Nat → Nat → Int32} (h : TP i) : ∃ n c, TY i c n := by
  obtain ⟨n, h1, h2, h3, h4⟩ := h
  have : ∀ k, ∃ c, k < n → c < 256 ∧ i 83 k = nI c ∧ i 2 k = sb c := fun k => by
    by_cases hk : k < n
    · obtain ⟨c, x⟩ := h4 k hk
      exact ⟨c, fun _ => x⟩
    · exact ⟨0, fun x => absurd x hk⟩
  exact ⟨n, fun k => Classical.choose (this k), h1, h2, h3, fun k hk => Classical.choose_spec (this k) hk⟩
theorem begin_ok {i : Nat → Nat → Int32} {n n' : Nat} (hY : TY i c n') (hW : WD i) (hn : n ≤ n') (hN : i 23 8 = nI 0 ∧ i 23 9 = nM 1) : ∃ j m, Tokens_begin (nI n) (i, l, Rp s r p) = some (none, (j, l, Rp s r p)) ∧ CT j c n m 0 ∧ m ≤ n ∧ fr qBg i j := by
  obtain ⟨m, h1, h2, h3⟩ := sK_end c n
  have hY1 := hY.1
  rw [Tokens_begin_eq, hY.2.1, mnI_n (by omega) (by omega), Nat.min_eq_left hn]
  have hT : TC (u2 (u2 (u2 i 1 5 (nI n)) 1 6 (nI 0)) 1 9 (nI 42)) c n := by
    refine ⟨?_, by omega, fun k hk => ⟨(hY.2.2.2 k (by omega)).1, ?_⟩, fun k hk => ?_⟩
    · simp (disch := decide) only [u2_s, u2_k]
    · simp (disch := decide) only [u2_i]; exact (hY.2.2.2 k (by omega)).2.2
    · simp (disch := decide) only [u2_i]; exact hW.1 k hk
  obtain ⟨j, f1, f2, f3⟩ := begin25 (l := l) (s := s) (r := r) (p := p) (by omega) h2 h3 (m + 1) 0 _ (by omega) ⟨by simp (disch := decide) only [u2_i]; exact hN.1, by simp (disch := decide) only [u2_i]; exact hN.2⟩ hT (by simp (disch := decide) only [u2_s, u2_k]; rfl) (fun y hy => by omega) (fun _ => u2_s _ _ _ _) (fun k hk => by omega)
  exact ⟨j, m, f1, f2, h1, fr_trans (fr_trans (fr_trans (fr_u2 rfl) (fr_u2 rfl)) (fr_u2 rfl)) f3⟩
end
end
