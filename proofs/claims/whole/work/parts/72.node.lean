/-! GroupTrees.node where it returns (by program) -/
noncomputable def C_GT_node : MC := (3, 1, [(0, 9, 2, mD C_GT_isNode), (0, 7, 2, mD C_State_switchedTo)], [(0, [0, 1, 2], [(.aload_n 0, 1, 0, 0), (.iload_n 1, 1, 0, 0), (.invokevirtual 145, 3, 0, 1), (.ifCond .ne 13, 3, 18, 0)]), (18, [0, 1, 2], [(.iload_n 2, 1, 0, 0), (.tableswitch 84 0 4 #[33, 45, 54, 64, 74], 33, 0, 0)]), (52, [0, 1], [(.aload_n 0, 1, 0, 0), (.getfield 55, 3, 9, 5), (.getfield 156, 3, 7, 7), (.iload_n 1, 1, 0, 0), (.ishr, 1, 0, 0), (.iconst 1, 1, 0, 0), (.iand, 1, 0, 0), (.ireturn, 1, 0, 0)]), (64, [0, 1], [(.aload_n 0, 1, 0, 0), (.getfield 55, 3, 9, 5), (.iload_n 1, 1, 0, 0), (.invokevirtual 159, 3, 1, 1), (.ireturn, 1, 0, 0)]), (73, [0, 1], [(.aload_n 0, 1, 0, 0), (.getfield 55, 3, 9, 5), (.getfield 163, 3, 7, 1), (.iload_n 1, 1, 0, 0), (.iaload, 1, 0, 0), (.ireturn, 1, 0, 0)]), (83, [0, 1], [(.aload_n 0, 1, 0, 0), (.getfield 55, 3, 9, 5), (.getfield 166, 3, 7, 2), (.iload_n 1, 1, 0, 0), (.iaload, 1, 0, 0), (.ireturn, 1, 0, 0)]), (93, [0, 1], [(.aload_n 0, 1, 0, 0), (.getfield 55, 3, 9, 5), (.getfield 169, 3, 7, 3), (.iload_n 1, 1, 0, 0), (.iaload, 1, 0, 0), (.ireturn, 1, 0, 0)])], none)
noncomputable def GT_node (x1 : Int32) (x2 : Int32) (M : AM) : Option (Option Value × AM) := mD C_GT_node [.ref 0, .int x1, .int x2] M
set_option maxRecDepth 10000 in
theorem GT_node_eq (x1 x2 : Int32) (i : Nat → Nat → Int32) (l : Nat → Nat → Int64) (s r p : Nat) : GT_node x1 x2 (i, l, Rp s r p) = crI (GT_isNode x1 (i, l, Rp s r p)) (i, l, Rp s r p) (fun x_1 i_1 l_1 => ifc (x_1 = 0) none (ifc (x2 = nI 0) (some (some (.int (((i_1 51 7) >>> (x1 &&& 31)) &&& (nI 1))), (i_1, l_1, Rp s r p))) (ifc (x2 = nI 1) (crI (State_switchedTo x1 (i_1, l_1, Rp s r p)) (i_1, l_1, Rp s r p) (fun x_2 i_2 l_2 => some (some (.int x_2), (i_2, l_2, Rp s r p)))) (ifc (x2 = nI 2) (gd (inB x1 7) (some (some (.int (i_1 53 (x1).toNatClampNeg)), (i_1, l_1, Rp s r p)))) (ifc (x2 = nI 3) (gd (inB x1 7) (some (some (.int (i_1 54 (x1).toNatClampNeg)), (i_1, l_1, Rp s r p)))) (ifc (x2 = nI 4) (gd (inB x1 7) (some (some (.int (i_1 55 (x1).toNatClampNeg)), (i_1, l_1, Rp s r p)))) none)))))) := by
  exact (mD_it rfl).trans ((ev_it C_GT_node [] 6 0 _ _ _).symm.trans rfl)
def FLn_GT : List (Nat × Nat × Nat) := [(55, 9, 5), (156, 7, 7), (163, 7, 1), (166, 7, 2), (169, 7, 3)]
set_option maxRecDepth 20000 in
theorem FLn_GT_ok : ∀ q ∈ FLn_GT, FO RX9 q.1 q.2.1 q.2.2 := FO_all [672, 554, 534, 538, 542] (by decide +kernel) (by decide +kernel) (by decide +kernel)
set_option maxRecDepth 20000 in
theorem ck_GT_node : chkM cX9_node FLn_GT [] [] [145, 159] C_GT_node.2.2.2.1 = true := by decide +kernel
set_option maxRecDepth 20000 in
theorem ct_GT_node (l : Launch) : Ct l yX9_node cX9_node 3 (some .int) ({ frames := 1, cells := 0, slots := 0, locals := 23 } : Room) (mD C_GT_node) := sound_of (C := C_GT_node) (FL := FLn_GT) (KI := []) (KL := []) (CL := [145, 159]) cf_all (by decide +kernel) rfl FLn_GT_ok (fun q hq => by cases hq) (fun q hq => by cases hq) (co_cons (show CO l ({ frames := 1, cells := 0, slots := 0, locals := 23 } : Room) RX9 145 (0, 9, 2, mD C_GT_isNode) from ⟨yX9_isNode, cX9_isNode, 2, some .boolean, ({ frames := 0, cells := 0, slots := 0, locals := 0 } : Room), (RX9, TX9, 14), ct_GT_isNode l, ⟨rfl, rfl, by decide, by decide⟩, yf_GT_isNode.1, yf_GT_isNode.2.1, tw4 (i := 72) rfl rfl, yd_GT_isNode, yf_GT_isNode.2.2.1, rfl, yf_GT_isNode.2.2.2⟩) (co_cons (show CO l ({ frames := 1, cells := 0, slots := 0, locals := 23 } : Room) RX9 159 (0, 7, 2, mD C_State_switchedTo) from ⟨yX7_switchedTo, cX7_switchedTo, 4, some .int, ({ frames := 0, cells := 0, slots := 0, locals := 0 } : Room), (RX7, TX7, 13), ct_State_switchedTo l, ⟨rfl, rfl, by decide, by decide⟩, yf_State_switchedTo.1, yf_State_switchedTo.2.1, tw6 (i := 73) rfl rfl, yd_State_switchedTo, yf_State_switchedTo.2.2.1, rfl, yf_State_switchedTo.2.2.2⟩) co_nil)) rfl ck_GT_node
section
variable {i : Nat → Nat → Int32} {l : Nat → Nat → Int64} {s r p : Nat} {P : PL}
/-- the sources to whose trees a node has switched, as a row of bits -/
theorem swt_eq (h : INV P i l s r p) {n : Nat} (hn : n < 7) : ∃ v, State_switchedTo (nI n) (i, l, Rp s r p) = some (some (.int v), (i, l, Rp s r p)) ∧ Mo_node_70 (nI n) (nI 0) (nI 0) (u2 i 82 2 (nI 0), l, Rp s r p) = some (some (.int v), (u2 i 82 2 (nI 0), l, Rp s r p)) := by
  obtain ⟨hp0, hr, hw, hPC, hPM, hNI, hs, hS, hdr, hco, hrest⟩ := id h
  have h3 := hw.1.2.2.1
  have hz : ∀ k, k < 3 → pS P ≤ k → ((i 52 k) >>> (nI n &&& 31)) &&& nI 1 = 0 := fun k hk hk2 => by
    have hb : bt (i 52 k) n = false := by
      cases hx : bt (i 52 k) n
      · rfl
      · have := (hs.2.2.2.2.2.1 k hk n (by omega) hx).1
        omega
    exact (bit1_0 _ (by omega)).mpr hb
  have c52 : ∀ k, k < 3 → i 110 k = i 52 k := fun k hk => by
    have := hS.2.2.1 k hk
    rw [show 3 * 0 + k = k by omega] at this
    exact this
  have e14 : i 82 14 = nI (pS P) := hPM.1.2.2.1
  have st : ∀ k x, k < 3 → State_switchedTo_4 (nI n) x (nI k) (i, l, Rp s r p) = State_switchedTo_4 (nI n) (x ||| ((((i 52 k) >>> (nI n &&& 31)) &&& nI 1) <<< (nI k &&& 31))) (nI (k + 1)) (i, l, Rp s r p) := fun k x hk => by
    rw [State_switchedTo_4_eq, ifc_lt (by omega) (by omega), if_pos hk, gd_in hk (by omega), nI_clamp (by omega), nI_add]
  have mt : ∀ k x, k < pS P → Mo_node_70 (nI n) x (nI k) (u2 i 82 2 (nI 0), l, Rp s r p) = Mo_node_70 (nI n) (x ||| ((((i 52 k) >>> (nI n &&& 31)) &&& nI 1) <<< (nI k &&& 31))) (nI (k + 1)) (u2 i 82 2 (nI 0), l, Rp s r p) := fun k x hk => by
    rw [Mo_node_70_eq, u2_k (by decide), e14, ifc_lt (by omega) (by omega), if_pos hk, gd_in (by omega) (by omega), nI_clamp (by omega), u2_i (by decide), c52 k (by omega), nI_add]
  have me : ∀ k x, k = pS P → Mo_node_70 (nI n) x (nI k) (u2 i 82 2 (nI 0), l, Rp s r p) = some (some (.int x), (u2 i 82 2 (nI 0), l, Rp s r p)) := fun k x hk => by
    rw [Mo_node_70_eq, u2_k (by decide), e14, ifc_lt (by omega) (by omega), if_neg (by omega)]
  have fz : ∀ k (x : Int32), k < 3 → pS P ≤ k → x ||| ((((i 52 k) >>> (nI n &&& 31)) &&& nI 1) <<< (nI k &&& 31)) = x := fun k x hk hk2 => by
    rw [hz k hk hk2]
    have : k = 0 ∨ k = 1 ∨ k = 2 := by omega
    rcases this with y | y | y <;> subst y <;> simp
  have ss : State_switchedTo (nI n) (i, l, Rp s r p) = some (some (.int (((nI 0 ||| ((((i 52 0) >>> (nI n &&& 31)) &&& nI 1) <<< (nI 0 &&& 31))) ||| ((((i 52 1) >>> (nI n &&& 31)) &&& nI 1) <<< (nI 1 &&& 31))) ||| ((((i 52 2) >>> (nI n &&& 31)) &&& nI 1) <<< (nI 2 &&& 31)))), (i, l, Rp s r p)) := by
    rw [State_switchedTo_eq, st 0 _ (by omega), st 1 _ (by omega), st 2 _ (by omega), State_switchedTo_4_eq, ifc_lt (by omega) (by omega), if_neg (by omega)]
  refine ⟨_, ss, ?_⟩
  have : pS P = 0 ∨ pS P = 1 ∨ pS P = 2 ∨ pS P = 3 := by omega
  rcases this with y | y | y | y
  · rw [me 0 _ y.symm, fz 2 _ (by omega) (by omega), fz 1 _ (by omega) (by omega), fz 0 _ (by omega) (by omega)]
  · rw [mt 0 _ (by omega), me 1 _ y.symm, fz 2 _ (by omega) (by omega), fz 1 _ (by omega) (by omega)]
  · rw [mt 0 _ (by omega), mt 1 _ (by omega), me 2 _ y.symm, fz 2 _ (by omega) (by omega)]
  · rw [mt 0 _ (by omega), mt 1 _ (by omega), mt 2 _ (by omega), me 3 _ y.symm]
theorem INV_82 (h : INV P i l s r p) (x : Int32) : INV P (u2 i 82 2 x) l s r p := INV_S h (SCR_ref h (fr_u2 rfl) (fun a ha => u2_r (by omega)) ((u2_k (by decide)).trans h.2.2.2.2.2.2.2.2.2.1) (lS_refl _))
/-- a node's answer, by both: it returns, or there is no such node, or no such what -/
theorem node_pr (h : INV P i l s r p) (x1 x2 : Int32) :
    (∃ v, GT_node x1 x2 (i, l, Rp s r p) = some (some (.int v), (i, l, Rp s r p)) ∧ Mo_node x1 x2 (i, l, Rp s r p) = some (some (.int v), (u2 i 82 2 (nI 0), l, Rp s r p))) ∨
    (GT_isNode x1 (i, l, Rp s r p) = some (some (.int (nI 0)), (i, l, Rp s r p)) ∧ ∃ w, Mo_node x1 x2 (i, l, Rp s r p) = some (some (.int w), (u2 (u2 i 82 2 (nI 0)) 82 2 (nI 1), l, Rp s r p))) ∨
    (GT_isNode x1 (i, l, Rp s r p) = some (some (.int (nI 1)), (i, l, Rp s r p)) ∧ (∀ k, k < 5 → x2 ≠ nI k) ∧ ∃ w, Mo_node x1 x2 (i, l, Rp s r p) = some (some (.int w), (u2 (u2 i 82 2 (nI 0)) 82 2 (nI 2), l, Rp s r p))) := by
  obtain ⟨hp0, hr, hw, hPC, hPM, hNI, hs, hS, hdr, hco, hrest⟩ := id h
  have h7 := hw.1.1
  have hp : p = 7 ∨ p = 27 := by omega
  have hc := cNode_ok (l := l) (s := s) (r := r) hp hw hPC x1
  have hm := rNode_ok (l := l) (s := s) (r := r) (p := p) hw (INV_82 h (nI 0)).2.2.2.2.1 x1
  cases hb : isn (pN P) x1 with
  | false =>
    rw [hb] at hc hm
    refine Or.inr (Or.inl ⟨hc, nI 0, ?_⟩)
    rw [Mo_node_eq, hm, crI_t, ifc_t (c := nI false.toNat = 0) rfl, Mo_fails_eq, crI_t]
  | true =>
    rw [hb] at hc hm
    obtain ⟨n, hn, rfl⟩ := isn_t hb
    have hn7 : n < 7 := by omega
    rw [GT_node_eq, hc, crI_t, ifc_f (c := nI true.toNat = 0) (by decide), Mo_node_eq, hm, crI_t, ifc_f (c := nI true.toNat = 0) (by decide)]
    have r5 := fun k hk => hS.2.2.2.2.1 k hk
    have r0 := hS.2.1
    by_cases q0 : x2 = nI 0
    · refine Or.inl ⟨_, ifc_t q0, ?_⟩
      rw [ifc_t q0, gd_in (by omega) (by omega), nI_clamp (by omega), u2_i (by decide), r0]
      rfl
    rw [ifc_f q0, ifc_f q0]
    by_cases q1 : x2 = nI 1
    · obtain ⟨v, a1, a2⟩ := swt_eq h hn7
      refine Or.inl ⟨v, ?_, ?_⟩
      · rw [ifc_t q1, a1, crI_t]
      · rw [ifc_t q1, a2]
    rw [ifc_f q1, ifc_f q1]
    by_cases q2 : x2 = nI 2
    · refine Or.inl ⟨i 53 n, ?_, ?_⟩
      · rw [ifc_t q2, gd_in (by omega) (by omega), nI_clamp (by omega)]
      · rw [ifc_t q2, gd_in (by omega) (by omega), nI_clamp (by omega), u2_i (by decide)]
        have := (r5 n hn7).1
        rw [show 7 * 0 + n = n by omega] at this
        rw [this]
        rfl
    rw [ifc_f q2, ifc_f q2]
    by_cases q3 : x2 = nI 3
    · refine Or.inl ⟨i 54 n, ?_, ?_⟩
      · rw [ifc_t q3, gd_in (by omega) (by omega), nI_clamp (by omega)]
      · rw [ifc_t q3, gd_in (by omega) (by omega), nI_clamp (by omega), u2_i (by decide)]
        have := (r5 n hn7).2.1
        rw [show 7 * 0 + n = n by omega] at this
        rw [this]
        rfl
    rw [ifc_f q3, ifc_f q3]
    by_cases q4 : x2 = nI 4
    · refine Or.inl ⟨i 55 n, ?_, ?_⟩
      · rw [ifc_t q4, gd_in (by omega) (by omega), nI_clamp (by omega)]
      · rw [ifc_t q4, gd_in (by omega) (by omega), nI_clamp (by omega), u2_i (by decide)]
        have := (r5 n hn7).2.2
        rw [show 7 * 0 + n = n by omega] at this
        rw [this]
        rfl
    rw [ifc_f q4, ifc_f q4]
    refine Or.inr (Or.inr ⟨rfl, fun k hk => ?_, nI 0, ?_⟩)
    · have : k = 0 ∨ k = 1 ∨ k = 2 ∨ k = 3 ∨ k = 4 := by omega
      rcases this with y | y | y | y | y <;> subst y <;> assumption
    · rw [Mo_fails_eq, crI_t]
end
