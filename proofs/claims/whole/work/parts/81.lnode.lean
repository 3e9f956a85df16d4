/-! the law's case of node (by program) -/
def El_node : List Ent := [(.aload_n 1, 1, 0, 0), (.aload_n 0, 1, 0, 0), (.iload 4, 2, 0, 0), (.iconst 1, 1, 0, 0), (.iadd, 1, 0, 0), (.iaload, 1, 0, 0), (.aload_n 0, 1, 0, 0), (.iload 4, 2, 0, 0), (.iconst 2, 1, 0, 0), (.iadd, 1, 0, 0), (.iaload, 1, 0, 0), (.aload_n 3, 1, 0, 0), (.invokestatic 39, 3, 0, 0), (.istore 5, 2, 0, 0), (.aload_n 2, 1, 0, 0), (.aload_n 0, 1, 0, 0), (.iload 4, 2, 0, 0), (.iconst 1, 1, 0, 0), (.iadd, 1, 0, 0), (.iaload, 1, 0, 0), (.aload_n 0, 1, 0, 0), (.iload 4, 2, 0, 0), (.iconst 2, 1, 0, 0), (.iadd, 1, 0, 0), (.iaload, 1, 0, 0), (.invokevirtual 44, 3, 0, 0), (.istore 6, 2, 0, 0), (.aload_n 2, 1, 0, 0), (.invokevirtual 45, 3, 0, 0), (.iload 5, 2, 0, 0), (.if_icmp .eq 5, 3, 0, 0), (.iconst 0, 1, 0, 0), (.ireturn, 1, 0, 0), (.iload 5, 2, 0, 0), (.ifCond .ne 15, 3, 0, 0), (.aload_n 3, 1, 0, 0), (.iconst 0, 1, 0, 0), (.laload, 1, 0, 0), (.iload 6, 2, 0, 0), (.i2l, 1, 0, 0), (.lcmp, 1, 0, 0), (.ifCond .eq 5, 3, 0, 0), (.iconst 0, 1, 0, 0), (.ireturn, 1, 0, 0), (.goto 1122, 3, 0, 0)]
set_option maxRecDepth 20000 in
theorem dl_node : bD code El_node 368 = true := by decide +kernel
set_option maxRecDepth 20000 in
theorem lc_node {p : Program} {l : Launch} {e : Env} {s : State} {m : MethodId} {args : Array Value} {below : List Frame} {meth : Method} {c : Code} {Q : State → Prop} {D : va_G} {cy : Nat → ClassId} {base b L : Nat} {xs : Nat → Int32}
    (hfl : l.stackTraces = false) (hC : LC p s m args c D cy base b L xs) (hsz : s.heap.size = base) (hN : NCs s) (hZ : TSt base s) : NCase p l e s m args below meth c D cy base b L Q := by
  intro H ls k cells slots P i0 l0 s0 r0 p0 hI hR h0 hout hl hk hc1 hc2 kk
  obtain ⟨hx, hb, hml, hts, hown, hK, hbb, hX, hL⟩ := id hC
  have hws : WS D cy base b H (i0, l0, Rp s0 r0 p0) H [] := ⟨hR, fun _ _ => rfl, fun z hz => by cases hz⟩
  obtain ⟨kn, v, i', w, hM, hMo, hi2, hkn, hvw, hI2⟩ := nl_met l hfl D cy base b hI (xs (k + 1)) (xs (k + 2))
  refine lv_aload_n hx hb (bD_get dl_node 0 rfl rfl) rfl (lv_at hl 3 rfl) ?_
  refine ld5 (j := 1) hC h0 hws hl (by omega) (by decide) (bD_get dl_node 1 rfl rfl) (bD_get dl_node 2 rfl rfl) (bD_get dl_node 3 rfl rfl) (bD_get dl_node 4 rfl rfl) (bD_get dl_node 5 rfl rfl) ?_
  refine ld5 (j := 2) hC h0 hws hl (by omega) (by decide) (bD_get dl_node 6 rfl rfl) (bD_get dl_node 7 rfl rfl) (bD_get dl_node 8 rfl rfl) (bD_get dl_node 9 rfl rfl) (bD_get dl_node 10 rfl rfl) ?_
  refine lv_aload_n hx hb (bD_get dl_node 11 rfl rfl) rfl (lv_at hl 1 rfl) ?_
  refine nl_after (g := F0 m 382 ls [.ref (base + 128), .int (xs (k + 2)), .int (xs (k + 1)), .ref (adr base b 0)]) (rest := []) (nl_runW (n := 0) (cc := code) (Ts := TBg) (own := RL) (index := 39) (bytes := cL_node) (maxL := 5) (ret := some .int) (hh := HHn) (As := [.ref (adr base b 0), .int (xs (k + 1)), .int (xs (k + 2)), .ref (base + 128)]) ⟨hx, hb, hml.trans hl.1.symm, hown, hts⟩ hM rfl rfl (by decide) (by decide) (pay_in hts (good_tb (tw6 (i := 0) rfl rfl))) List.mem_cons_self (hts _ (tw1 (i := 0) rfl rfl)) (hts _ (tw5 (i := 238) rfl rfl)) (hts _ (tw5 (i := 239) rfl rfl)) (hts _ (tw6 (i := 0) rfl rfl)) ⟨by decide +kernel, by decide +kernel⟩ (show (parseMethodDescriptor yL_node.desc).map (fun d => d.parameters.length) = some 4 by decide +kernel)
    ⟨blind_pcl, fun U hU hW => ⟨rfl, by rw [hU]; exact hR, hK.moved hW, hN.moved hW, hZ.kept hW (fun q hq => by rw [hU]; exact h0 q hq), by rw [hU]; exact hout⟩⟩ rfl rfl rfl (lv_room (by simp)) (bD_get dl_node 12 rfl rfl) ⟨hc1, hc2⟩) (fun H1 locs1 wo hR1 hq1 ho1 hk0 hl1 => ?_)
  refine va_forget (fun z hz => by rw [hsz]; exact hl1 z hz) ?_
  have h01 : ∀ q, q < base → H1[q]? = s.heap[q]? := fun q hq => (hq1 q hq).trans (h0 q hq)
  have hws1 : WS D cy base b H1 (i0, l0, Rp s0 r0 p0) H1 [] := ⟨hR1, fun _ _ => rfl, fun z hz => by cases hz⟩
  refine lv_istore (lv' := (5, .int (nI kn)) :: LL base b k) hx hb (bD_get dl_node 13 rfl rfl) hl (by decide) rfl (fun ls1 hv1 => ?_)
  have hv1' : lv_has ls1 7 (LL base b k) := ⟨hv1.1, hv1.2.1, fun q hq => hv1.2.2 q (List.mem_cons_of_mem _ hq)⟩
  refine lv_aload_n hx hb (bD_get dl_node 14 rfl rfl) rfl (lv_at hv1 3 rfl) ?_
  refine ld5 (j := 1) hC h01 hws1 hv1' (by omega) (by decide) (bD_get dl_node 15 rfl rfl) (bD_get dl_node 16 rfl rfl) (bD_get dl_node 17 rfl rfl) (bD_get dl_node 18 rfl rfl) (bD_get dl_node 19 rfl rfl) ?_
  refine ld5 (j := 2) hC h01 hws1 hv1' (by omega) (by decide) (bD_get dl_node 20 rfl rfl) (bD_get dl_node 21 rfl rfl) (bD_get dl_node 22 rfl rfl) (bD_get dl_node 23 rfl rfl) (bD_get dl_node 24 rfl rfl) ?_
  refine rw_callV (As := [.int (xs (k + 1)), .int (xs (k + 2))]) (rest := []) hx hb (hml.trans hv1.1.symm) hts cf_all hown hK hws1 ⟨hc1, hc2⟩ (show CO l room_1 RL 44 (0, 10, 3, mD C_Mo_node) from ⟨yX10_node, cX10_node, 5, some .int, ({ frames := 1, cells := 0, slots := 0, locals := 21 } : Room), (RX10, TX10, 91), ct_Mo_node l, ⟨rfl, rfl, by decide, by decide⟩, yf_Mo_node.1, yf_Mo_node.2.1, tw8 (i := 62) rfl rfl, yd_Mo_node, yf_Mo_node.2.2.1, rfl, yf_Mo_node.2.2.2⟩) (by decide) rfl hMo (by decide) (bD_get dl_node 25 rfl rfl) (fun H2 locs2 hws2 => ?_)
  refine lv_istore (lv' := (6, .int w) :: (5, .int (nI kn)) :: LL base b k) hx hb (bD_get dl_node 26 rfl rfl) hv1 (by decide) rfl (fun ls2 hv2 => ?_)
  refine lv_aload_n hx hb (bD_get dl_node 27 rfl rfl) rfl (lv_at hv2 4 rfl) ?_
  refine rw_callV (As := []) (rest := []) hx hb (hml.trans hv2.1.symm) hts cf_all hown hK hws2 ⟨hc1, hc2⟩ (show CO l room_1 RL 45 (0, 10, 1, mD C_Mo_thrown) from ⟨yX10_thrown, cX10_thrown, 1, some .int, ({ frames := 0, cells := 0, slots := 0, locals := 0 } : Room), (RX10, TX10, 91), ct_Mo_thrown l, ⟨rfl, rfl, by decide, by decide⟩, yf_Mo_thrown.1, yf_Mo_thrown.2.1, tw7 (i := 153) rfl rfl, yd_Mo_thrown, yf_Mo_thrown.2.2.1, rfl, yf_Mo_thrown.2.2.2⟩) (by decide) rfl (Mo_thrown_eq i' l0 s0 r0 p0) (by decide) (bD_get dl_node 28 rfl rfl) (fun H3 locs3 hws3 => ?_)
  refine lv_iload hx hb (bD_get dl_node 29 rfl rfl) (lv_at hv2 1 rfl) ?_
  refine lv_icmp_eq hx hb (bD_get dl_node 30 rfl rfl) (tgt := 416) rfl (fun _ => ?_) (fun q => absurd hi2 q)
  have ho3 : H3[base + 128]? = some (arrV (cy 13) 1 (fun _ => .long wo)) := (hws3.2.1 (base + 128) (Or.inr (Nat.le_refl _))).trans ho1
  have fin : W p l e room_1 s m args below meth c H3 locs3 (cells + 1) (slots + 6) Q (F0 m 433 ls2 []) := by
    refine lv_goto hx hb (bD_get dl_node 44 rfl rfl) (tgt := 1555) rfl ?_
    exact kk H3 locs3 ls2 P i' l0 s0 r0 p0 hI2 hws3.1 (fun q hq => (hws3.2.1 q (Or.inl hq)).trans (h01 q hq)) ⟨wo, ho3⟩ (fun z hz => (hws3.2.2 z hz).1) ⟨hv2.1, hv2.2.1, fun q hq => hv2.2.2 q (List.mem_cons_of_mem _ (List.mem_cons_of_mem _ hq))⟩
  refine lv_iload hx hb (bD_get dl_node 33 rfl rfl) (lv_at hv2 1 rfl) ?_
  refine lv_if_ne hx hb (bD_get dl_node 34 rfl rfl) (tgt := 433) rfl (fun _ => fin) (fun q => ?_)
  have hz := hkn q
  refine lv_aload_n hx hb (bD_get dl_node 35 rfl rfl) rfl (lv_at hv2 3 rfl) ?_
  refine lv_iconst (v := 0) hx hb (bD_get dl_node 36 rfl rfl) (by decide) ?_
  refine W.lald (v := .long wo) hx hb ho3 ((hK.2.1 13 (by omega) (by omega)).1 _ _) (fun q => by cases q) (by rw [arrV_size]; decide) (arrV_read _ _ (by decide)) rfl rfl (bD_get dl_node 37 rfl rfl) ?_
  refine lv_iload hx hb (bD_get dl_node 38 rfl rfl) (lv_at hv2 0 rfl) ?_
  refine lv_i2l (v := wo) hx hb (bD_get dl_node 39 rfl rfl) (by rw [hvw hz, hk0 hz]) ?_
  refine W.lcmp hx hb (bD_get dl_node 40 rfl rfl) ?_
  exact lv_if_eq hx hb (bD_get dl_node 41 rfl rfl) (tgt := 433) rfl (fun _ => fin) (fun q => absurd (lcmp_eq wo) q)
