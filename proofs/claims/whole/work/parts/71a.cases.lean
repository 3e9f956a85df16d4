/-! the law's cases (by program) -/
section
variable {p : Program} {l : Launch} {e : Env} {s : State} {m : MethodId} {args : Array Value} {below : List Frame} {meth : Method} {c : Code} {H : Heap} {locs : List Loc} {cells slots : Nat} {Q : State → Prop}
variable {D : va_G} {cy : Nat → ClassId} {base b L : Nat} {xs : Nat → Int32} {H0 : Heap} {ls : Array Slot} {k : Nat} {P : PL} {i0 : Nat → Nat → Int32} {l0 : Nat → Nat → Int64} {s0 r0 p0 : Nat}
def El_feed : List Ent := [(.aload_n 1, 1, 0, 0), (.aload_n 0, 1, 0, 0), (.iload 4, 2, 0, 0), (.iconst 1, 1, 0, 0), (.iadd, 1, 0, 0), (.iaload, 1, 0, 0), (.aload_n 0, 1, 0, 0), (.iload 4, 2, 0, 0), (.iconst 2, 1, 0, 0), (.iadd, 1, 0, 0), (.iaload, 1, 0, 0), (.aload_n 0, 1, 0, 0), (.iload 4, 2, 0, 0), (.iconst 3, 1, 0, 0), (.iadd, 1, 0, 0), (.iaload, 1, 0, 0), (.aload_n 0, 1, 0, 0), (.iload 4, 2, 0, 0), (.iconst 4, 1, 0, 0), (.iadd, 1, 0, 0), (.iaload, 1, 0, 0), (.aload_n 0, 1, 0, 0), (.iload 4, 2, 0, 0), (.iconst 5, 1, 0, 0), (.iadd, 1, 0, 0), (.iaload, 1, 0, 0), (.invokevirtual 21, 3, 0, 0), (.aload_n 2, 1, 0, 0), (.aload_n 0, 1, 0, 0), (.iload 4, 2, 0, 0), (.iconst 1, 1, 0, 0), (.iadd, 1, 0, 0), (.iaload, 1, 0, 0), (.aload_n 0, 1, 0, 0), (.iload 4, 2, 0, 0), (.iconst 2, 1, 0, 0), (.iadd, 1, 0, 0), (.iaload, 1, 0, 0), (.aload_n 0, 1, 0, 0), (.iload 4, 2, 0, 0), (.iconst 3, 1, 0, 0), (.iadd, 1, 0, 0), (.iaload, 1, 0, 0), (.aload_n 0, 1, 0, 0), (.iload 4, 2, 0, 0), (.iconst 4, 1, 0, 0), (.iadd, 1, 0, 0), (.iaload, 1, 0, 0), (.aload_n 0, 1, 0, 0), (.iload 4, 2, 0, 0), (.iconst 5, 1, 0, 0), (.iadd, 1, 0, 0), (.iaload, 1, 0, 0), (.invokevirtual 25, 3, 0, 0), (.if_icmp .eq 1279, 3, 0, 0), (.iconst 0, 1, 0, 0), (.ireturn, 1, 0, 0)]
set_option maxRecDepth 20000 in
theorem dl_feed : bD code El_feed 208 = true := by decide +kernel
set_option maxRecDepth 20000 in
theorem lc_feed (hC : LC p s m args c D cy base b L xs) (h0 : ∀ q, q < base → H0[q]? = s.heap[q]?) (hI : INV P i0 l0 s0 r0 p0) (hws : WS D cy base b H0 (i0, l0, Rp s0 r0 p0) H locs) (hl : lv_has ls 7 (LL base b k)) (hk : k + 6 ≤ L) (hcs : cells ≤ room_1.cells ∧ slots ≤ room_1.slots)
    (kk : ∀ (H' : Heap) (locs' : List Loc) (P' : PL) (i' : Nat → Nat → Int32) (l' : Nat → Nat → Int64) (s' r' p' : Nat), INV P' i' l' s' r' p' → WS D cy base b H0 (i', l', Rp s' r' p') H' locs' → W p l e room_1 s m args below meth c H' locs' cells slots Q (F0 m 1555 ls [])) :
    W p l e room_1 s m args below meth c H locs cells slots Q (F0 m 208 ls []) := by
  obtain ⟨hx, hb, hml, hts, hown, hK, hbb, hX, hL⟩ := id hC
  obtain ⟨v, j1, l1, j2, l2, e1, e2, hI2⟩ := feed_pr hI (xs (k + 1)) (xs (k + 2)) (xs (k + 3)) (xs (k + 4)) (xs (k + 5))
  refine lv_aload_n hx hb (bD_get dl_feed 0 rfl rfl) rfl (lv_at hl 3 rfl) ?_
  refine ld5 (j := 1) hC h0 hws hl (by omega) (by decide) (bD_get dl_feed 1 rfl rfl) (bD_get dl_feed 2 rfl rfl) (bD_get dl_feed 3 rfl rfl) (bD_get dl_feed 4 rfl rfl) (bD_get dl_feed 5 rfl rfl) ?_
  refine ld5 (j := 2) hC h0 hws hl (by omega) (by decide) (bD_get dl_feed 6 rfl rfl) (bD_get dl_feed 7 rfl rfl) (bD_get dl_feed 8 rfl rfl) (bD_get dl_feed 9 rfl rfl) (bD_get dl_feed 10 rfl rfl) ?_
  refine ld5 (j := 3) hC h0 hws hl (by omega) (by decide) (bD_get dl_feed 11 rfl rfl) (bD_get dl_feed 12 rfl rfl) (bD_get dl_feed 13 rfl rfl) (bD_get dl_feed 14 rfl rfl) (bD_get dl_feed 15 rfl rfl) ?_
  refine ld5 (j := 4) hC h0 hws hl (by omega) (by decide) (bD_get dl_feed 16 rfl rfl) (bD_get dl_feed 17 rfl rfl) (bD_get dl_feed 18 rfl rfl) (bD_get dl_feed 19 rfl rfl) (bD_get dl_feed 20 rfl rfl) ?_
  refine ld5 (j := 5) hC h0 hws hl (by omega) (by decide) (bD_get dl_feed 21 rfl rfl) (bD_get dl_feed 22 rfl rfl) (bD_get dl_feed 23 rfl rfl) (bD_get dl_feed 24 rfl rfl) (bD_get dl_feed 25 rfl rfl) ?_
  refine rw_callV (As := [.int (xs (k + 1)), .int (xs (k + 2)), .int (xs (k + 3)), .int (xs (k + 4)), .int (xs (k + 5))]) (rest := []) hx hb (hml.trans hl.1.symm) hts cf_all hown hK hws hcs (show CO l room_1 RL 21 (0, 9, 6, mD C_GT_feed) from ⟨yX9_feed, cX9_feed, 6, some .int, ({ frames := 1, cells := 0, slots := 0, locals := 22 } : Room), (RX9, TX9, 14), ct_GT_feed l, ⟨rfl, rfl, by decide, by decide⟩, yf_GT_feed.1, yf_GT_feed.2.1, tw3 (i := 97) rfl rfl, yd_GT_feed, yf_GT_feed.2.2.1, rfl, yf_GT_feed.2.2.2⟩) (by decide) rfl e1 (by decide) (bD_get dl_feed 26 rfl rfl) (fun H1 locs1 hws => ?_)
  refine lv_aload_n hx hb (bD_get dl_feed 27 rfl rfl) rfl (lv_at hl 2 rfl) ?_
  refine ld5 (j := 1) hC h0 hws hl (by omega) (by decide) (bD_get dl_feed 28 rfl rfl) (bD_get dl_feed 29 rfl rfl) (bD_get dl_feed 30 rfl rfl) (bD_get dl_feed 31 rfl rfl) (bD_get dl_feed 32 rfl rfl) ?_
  refine ld5 (j := 2) hC h0 hws hl (by omega) (by decide) (bD_get dl_feed 33 rfl rfl) (bD_get dl_feed 34 rfl rfl) (bD_get dl_feed 35 rfl rfl) (bD_get dl_feed 36 rfl rfl) (bD_get dl_feed 37 rfl rfl) ?_
  refine ld5 (j := 3) hC h0 hws hl (by omega) (by decide) (bD_get dl_feed 38 rfl rfl) (bD_get dl_feed 39 rfl rfl) (bD_get dl_feed 40 rfl rfl) (bD_get dl_feed 41 rfl rfl) (bD_get dl_feed 42 rfl rfl) ?_
  refine ld5 (j := 4) hC h0 hws hl (by omega) (by decide) (bD_get dl_feed 43 rfl rfl) (bD_get dl_feed 44 rfl rfl) (bD_get dl_feed 45 rfl rfl) (bD_get dl_feed 46 rfl rfl) (bD_get dl_feed 47 rfl rfl) ?_
  refine ld5 (j := 5) hC h0 hws hl (by omega) (by decide) (bD_get dl_feed 48 rfl rfl) (bD_get dl_feed 49 rfl rfl) (bD_get dl_feed 50 rfl rfl) (bD_get dl_feed 51 rfl rfl) (bD_get dl_feed 52 rfl rfl) ?_
  refine rw_callV (As := [.int (xs (k + 1)), .int (xs (k + 2)), .int (xs (k + 3)), .int (xs (k + 4)), .int (xs (k + 5))]) (rest := [.int v]) hx hb (hml.trans hl.1.symm) hts cf_all hown hK hws hcs (show CO l room_1 RL 25 (0, 10, 6, mD C_Mo_feed) from ⟨yX10_feed, cX10_feed, 8, some .int, ({ frames := 0, cells := 0, slots := 0, locals := 0 } : Room), (RX10, TX10, 91), ct_Mo_feed l, ⟨rfl, rfl, by decide, by decide⟩, yf_Mo_feed.1, yf_Mo_feed.2.1, tw7 (i := 157) rfl rfl, yd_Mo_feed, yf_Mo_feed.2.2.1, rfl, yf_Mo_feed.2.2.2⟩) (by decide) rfl e2 (Nat.le_of_ble_eq_true rfl) (bD_get dl_feed 53 rfl rfl) (fun H2 locs2 hws => ?_)
  refine lv_icmp_eq hx hb (bD_get dl_feed 54 rfl rfl) (tgt := 1555) rfl (fun _ => ?_) (fun q => absurd rfl q)
  exact kk _ _ _ _ _ _ _ _ hI2 hws
def El_text : List Ent := [(.aload_n 1, 1, 0, 0), (.aload_n 0, 1, 0, 0), (.iload 4, 2, 0, 0), (.iconst 1, 1, 0, 0), (.iadd, 1, 0, 0), (.iaload, 1, 0, 0), (.invokevirtual 26, 3, 0, 0), (.aload_n 2, 1, 0, 0), (.aload_n 0, 1, 0, 0), (.iload 4, 2, 0, 0), (.iconst 1, 1, 0, 0), (.iadd, 1, 0, 0), (.iaload, 1, 0, 0), (.invokevirtual 30, 3, 0, 0), (.if_icmp .eq 1254, 3, 0, 0), (.iconst 0, 1, 0, 0), (.ireturn, 1, 0, 0)]
set_option maxRecDepth 20000 in
theorem dl_text : bD code El_text 281 = true := by decide +kernel
set_option maxRecDepth 20000 in
theorem lc_text (hC : LC p s m args c D cy base b L xs) (h0 : ∀ q, q < base → H0[q]? = s.heap[q]?) (hI : INV P i0 l0 s0 r0 p0) (hws : WS D cy base b H0 (i0, l0, Rp s0 r0 p0) H locs) (hl : lv_has ls 7 (LL base b k)) (hk : k + 6 ≤ L) (hcs : cells ≤ room_1.cells ∧ slots ≤ room_1.slots)
    (kk : ∀ (H' : Heap) (locs' : List Loc) (P' : PL) (i' : Nat → Nat → Int32) (l' : Nat → Nat → Int64) (s' r' p' : Nat), INV P' i' l' s' r' p' → WS D cy base b H0 (i', l', Rp s' r' p') H' locs' → W p l e room_1 s m args below meth c H' locs' cells slots Q (F0 m 1555 ls [])) :
    W p l e room_1 s m args below meth c H locs cells slots Q (F0 m 281 ls []) := by
  obtain ⟨hx, hb, hml, hts, hown, hK, hbb, hX, hL⟩ := id hC
  obtain ⟨v, j1, l1, j2, l2, P2, s2, r2, p2, e1, e2, hI2⟩ := text_pr hI (xs (k + 1))
  refine lv_aload_n hx hb (bD_get dl_text 0 rfl rfl) rfl (lv_at hl 3 rfl) ?_
  refine ld5 (j := 1) hC h0 hws hl (by omega) (by decide) (bD_get dl_text 1 rfl rfl) (bD_get dl_text 2 rfl rfl) (bD_get dl_text 3 rfl rfl) (bD_get dl_text 4 rfl rfl) (bD_get dl_text 5 rfl rfl) ?_
  refine rw_callV (As := [.int (xs (k + 1))]) (rest := []) hx hb (hml.trans hl.1.symm) hts cf_all hown hK hws hcs (show CO l room_1 RL 26 (0, 9, 2, mD C_GT_text) from ⟨yX9_text, cX9_text, 4, some .int, ({ frames := 6, cells := 0, slots := 0, locals := 132 } : Room), (RX9, TX9, 14), ct_GT_text l, ⟨rfl, rfl, by decide, by decide⟩, yf_GT_text.1, yf_GT_text.2.1, tw3 (i := 105) rfl rfl, yd_GT_text, yf_GT_text.2.2.1, rfl, yf_GT_text.2.2.2⟩) (by decide) rfl e1 (by decide) (bD_get dl_text 6 rfl rfl) (fun H1 locs1 hws => ?_)
  refine lv_aload_n hx hb (bD_get dl_text 7 rfl rfl) rfl (lv_at hl 2 rfl) ?_
  refine ld5 (j := 1) hC h0 hws hl (by omega) (by decide) (bD_get dl_text 8 rfl rfl) (bD_get dl_text 9 rfl rfl) (bD_get dl_text 10 rfl rfl) (bD_get dl_text 11 rfl rfl) (bD_get dl_text 12 rfl rfl) ?_
  refine rw_callV (As := [.int (xs (k + 1))]) (rest := [.int v]) hx hb (hml.trans hl.1.symm) hts cf_all hown hK hws hcs (show CO l room_1 RL 30 (0, 10, 2, mD C_Mo_text) from ⟨yX10_text, cX10_text, 3, some .int, ({ frames := 5, cells := 0, slots := 0, locals := 116 } : Room), (RX10, TX10, 91), ct_Mo_text l, ⟨rfl, rfl, by decide, by decide⟩, yf_Mo_text.1, yf_Mo_text.2.1, tw7 (i := 161) rfl rfl, yd_Mo_text, yf_Mo_text.2.2.1, rfl, yf_Mo_text.2.2.2⟩) (by decide) rfl e2 (Nat.le_of_ble_eq_true rfl) (bD_get dl_text 13 rfl rfl) (fun H2 locs2 hws => ?_)
  refine lv_icmp_eq hx hb (bD_get dl_text 14 rfl rfl) (tgt := 1555) rfl (fun _ => ?_) (fun q => absurd rfl q)
  exact kk _ _ _ _ _ _ _ _ hI2 hws
def El_fault : List Ent := [(.aload_n 1, 1, 0, 0), (.aload_n 0, 1, 0, 0), (.iload 4, 2, 0, 0), (.iconst 1, 1, 0, 0), (.iadd, 1, 0, 0), (.iaload, 1, 0, 0), (.invokevirtual 31, 3, 0, 0), (.aload_n 2, 1, 0, 0), (.aload_n 0, 1, 0, 0), (.iload 4, 2, 0, 0), (.iconst 1, 1, 0, 0), (.iadd, 1, 0, 0), (.iaload, 1, 0, 0), (.invokevirtual 34, 3, 0, 0), (.if_icmp .eq 1229, 3, 0, 0), (.iconst 0, 1, 0, 0), (.ireturn, 1, 0, 0)]
set_option maxRecDepth 20000 in
theorem dl_fault : bD code El_fault 306 = true := by decide +kernel
set_option maxRecDepth 20000 in
theorem lc_fault (hC : LC p s m args c D cy base b L xs) (h0 : ∀ q, q < base → H0[q]? = s.heap[q]?) (hI : INV P i0 l0 s0 r0 p0) (hws : WS D cy base b H0 (i0, l0, Rp s0 r0 p0) H locs) (hl : lv_has ls 7 (LL base b k)) (hk : k + 6 ≤ L) (hcs : cells ≤ room_1.cells ∧ slots ≤ room_1.slots)
    (kk : ∀ (H' : Heap) (locs' : List Loc) (P' : PL) (i' : Nat → Nat → Int32) (l' : Nat → Nat → Int64) (s' r' p' : Nat), INV P' i' l' s' r' p' → WS D cy base b H0 (i', l', Rp s' r' p') H' locs' → W p l e room_1 s m args below meth c H' locs' cells slots Q (F0 m 1555 ls [])) :
    W p l e room_1 s m args below meth c H locs cells slots Q (F0 m 306 ls []) := by
  obtain ⟨hx, hb, hml, hts, hown, hK, hbb, hX, hL⟩ := id hC
  obtain ⟨v, j1, l1, j2, l2, e1, e2, hI2⟩ := fault_pr hI (xs (k + 1))
  refine lv_aload_n hx hb (bD_get dl_fault 0 rfl rfl) rfl (lv_at hl 3 rfl) ?_
  refine ld5 (j := 1) hC h0 hws hl (by omega) (by decide) (bD_get dl_fault 1 rfl rfl) (bD_get dl_fault 2 rfl rfl) (bD_get dl_fault 3 rfl rfl) (bD_get dl_fault 4 rfl rfl) (bD_get dl_fault 5 rfl rfl) ?_
  refine rw_callV (As := [.int (xs (k + 1))]) (rest := []) hx hb (hml.trans hl.1.symm) hts cf_all hown hK hws hcs (show CO l room_1 RL 31 (0, 9, 2, mD C_GT_fault) from ⟨yX9_fault, cX9_fault, 2, some .int, ({ frames := 0, cells := 0, slots := 0, locals := 0 } : Room), (RX9, TX9, 14), ct_GT_fault l, ⟨rfl, rfl, by decide, by decide⟩, yf_GT_fault.1, yf_GT_fault.2.1, tw4 (i := 47) rfl rfl, yd_GT_fault, yf_GT_fault.2.2.1, rfl, yf_GT_fault.2.2.2⟩) (by decide) rfl e1 (by decide) (bD_get dl_fault 6 rfl rfl) (fun H1 locs1 hws => ?_)
  refine lv_aload_n hx hb (bD_get dl_fault 7 rfl rfl) rfl (lv_at hl 2 rfl) ?_
  refine ld5 (j := 1) hC h0 hws hl (by omega) (by decide) (bD_get dl_fault 8 rfl rfl) (bD_get dl_fault 9 rfl rfl) (bD_get dl_fault 10 rfl rfl) (bD_get dl_fault 11 rfl rfl) (bD_get dl_fault 12 rfl rfl) ?_
  refine rw_callV (As := [.int (xs (k + 1))]) (rest := [.int v]) hx hb (hml.trans hl.1.symm) hts cf_all hown hK hws hcs (show CO l room_1 RL 34 (0, 10, 2, mD C_Mo_fault) from ⟨yX10_fault, cX10_fault, 2, some .int, ({ frames := 0, cells := 0, slots := 0, locals := 0 } : Room), (RX10, TX10, 91), ct_Mo_fault l, ⟨rfl, rfl, by decide, by decide⟩, yf_Mo_fault.1, yf_Mo_fault.2.1, tw8 (i := 54) rfl rfl, yd_Mo_fault, yf_Mo_fault.2.2.1, rfl, yf_Mo_fault.2.2.2⟩) (by decide) rfl e2 (Nat.le_of_ble_eq_true rfl) (bD_get dl_fault 13 rfl rfl) (fun H2 locs2 hws => ?_)
  refine lv_icmp_eq hx hb (bD_get dl_fault 14 rfl rfl) (tgt := 1555) rfl (fun _ => ?_) (fun q => absurd rfl q)
  exact kk _ _ _ _ _ _ _ _ hI2 hws
def El_named : List Ent := [(.aload_n 1, 1, 0, 0), (.aload_n 0, 1, 0, 0), (.iload 4, 2, 0, 0), (.iconst 1, 1, 0, 0), (.iadd, 1, 0, 0), (.iaload, 1, 0, 0), (.aload_n 0, 1, 0, 0), (.iload 4, 2, 0, 0), (.iconst 2, 1, 0, 0), (.iadd, 1, 0, 0), (.iaload, 1, 0, 0), (.invokevirtual 35, 3, 0, 0), (.aload_n 2, 1, 0, 0), (.aload_n 0, 1, 0, 0), (.iload 4, 2, 0, 0), (.iconst 1, 1, 0, 0), (.iadd, 1, 0, 0), (.iaload, 1, 0, 0), (.aload_n 0, 1, 0, 0), (.iload 4, 2, 0, 0), (.iconst 2, 1, 0, 0), (.iadd, 1, 0, 0), (.iaload, 1, 0, 0), (.invokevirtual 38, 3, 0, 0), (.if_icmp .eq 1192, 3, 0, 0), (.iconst 0, 1, 0, 0), (.ireturn, 1, 0, 0)]
set_option maxRecDepth 20000 in
theorem dl_named : bD code El_named 331 = true := by decide +kernel
set_option maxRecDepth 20000 in
theorem lc_named (hC : LC p s m args c D cy base b L xs) (h0 : ∀ q, q < base → H0[q]? = s.heap[q]?) (hI : INV P i0 l0 s0 r0 p0) (hws : WS D cy base b H0 (i0, l0, Rp s0 r0 p0) H locs) (hl : lv_has ls 7 (LL base b k)) (hk : k + 6 ≤ L) (hcs : cells ≤ room_1.cells ∧ slots ≤ room_1.slots)
    (kk : ∀ (H' : Heap) (locs' : List Loc) (P' : PL) (i' : Nat → Nat → Int32) (l' : Nat → Nat → Int64) (s' r' p' : Nat), INV P' i' l' s' r' p' → WS D cy base b H0 (i', l', Rp s' r' p') H' locs' → W p l e room_1 s m args below meth c H' locs' cells slots Q (F0 m 1555 ls [])) :
    W p l e room_1 s m args below meth c H locs cells slots Q (F0 m 331 ls []) := by
  obtain ⟨hx, hb, hml, hts, hown, hK, hbb, hX, hL⟩ := id hC
  obtain ⟨v, j1, l1, j2, l2, e1, e2, hI2⟩ := named_pr hI (xs (k + 1)) (xs (k + 2))
  refine lv_aload_n hx hb (bD_get dl_named 0 rfl rfl) rfl (lv_at hl 3 rfl) ?_
  refine ld5 (j := 1) hC h0 hws hl (by omega) (by decide) (bD_get dl_named 1 rfl rfl) (bD_get dl_named 2 rfl rfl) (bD_get dl_named 3 rfl rfl) (bD_get dl_named 4 rfl rfl) (bD_get dl_named 5 rfl rfl) ?_
  refine ld5 (j := 2) hC h0 hws hl (by omega) (by decide) (bD_get dl_named 6 rfl rfl) (bD_get dl_named 7 rfl rfl) (bD_get dl_named 8 rfl rfl) (bD_get dl_named 9 rfl rfl) (bD_get dl_named 10 rfl rfl) ?_
  refine rw_callV (As := [.int (xs (k + 1)), .int (xs (k + 2))]) (rest := []) hx hb (hml.trans hl.1.symm) hts cf_all hown hK hws hcs (show CO l room_1 RL 35 (0, 9, 3, mD C_GT_named) from ⟨yX9_named, cX9_named, 4, some .int, ({ frames := 1, cells := 0, slots := 0, locals := 23 } : Room), (RX9, TX9, 14), ct_GT_named l, ⟨rfl, rfl, by decide, by decide⟩, yf_GT_named.1, yf_GT_named.2.1, tw4 (i := 51) rfl rfl, yd_GT_named, yf_GT_named.2.2.1, rfl, yf_GT_named.2.2.2⟩) (by decide) rfl e1 (by decide) (bD_get dl_named 11 rfl rfl) (fun H1 locs1 hws => ?_)
  refine lv_aload_n hx hb (bD_get dl_named 12 rfl rfl) rfl (lv_at hl 2 rfl) ?_
  refine ld5 (j := 1) hC h0 hws hl (by omega) (by decide) (bD_get dl_named 13 rfl rfl) (bD_get dl_named 14 rfl rfl) (bD_get dl_named 15 rfl rfl) (bD_get dl_named 16 rfl rfl) (bD_get dl_named 17 rfl rfl) ?_
  refine ld5 (j := 2) hC h0 hws hl (by omega) (by decide) (bD_get dl_named 18 rfl rfl) (bD_get dl_named 19 rfl rfl) (bD_get dl_named 20 rfl rfl) (bD_get dl_named 21 rfl rfl) (bD_get dl_named 22 rfl rfl) ?_
  refine rw_callV (As := [.int (xs (k + 1)), .int (xs (k + 2))]) (rest := [.int v]) hx hb (hml.trans hl.1.symm) hts cf_all hown hK hws hcs (show CO l room_1 RL 38 (0, 10, 3, mD C_Mo_named) from ⟨yX10_named, cX10_named, 3, some .int, ({ frames := 1, cells := 0, slots := 0, locals := 24 } : Room), (RX10, TX10, 91), ct_Mo_named l, ⟨rfl, rfl, by decide, by decide⟩, yf_Mo_named.1, yf_Mo_named.2.1, tw8 (i := 58) rfl rfl, yd_Mo_named, yf_Mo_named.2.2.1, rfl, yf_Mo_named.2.2.2⟩) (by decide) rfl e2 (Nat.le_of_ble_eq_true rfl) (bD_get dl_named 23 rfl rfl) (fun H2 locs2 hws => ?_)
  refine lv_icmp_eq hx hb (bD_get dl_named 24 rfl rfl) (tgt := 1555) rfl (fun _ => ?_) (fun q => absurd rfl q)
  exact kk _ _ _ _ _ _ _ _ hI2 hws
def El_link : List Ent := [(.aload_n 1, 1, 0, 0), (.aload_n 0, 1, 0, 0), (.iload 4, 2, 0, 0), (.iconst 1, 1, 0, 0), (.iadd, 1, 0, 0), (.iaload, 1, 0, 0), (.aload_n 0, 1, 0, 0), (.iload 4, 2, 0, 0), (.iconst 2, 1, 0, 0), (.iadd, 1, 0, 0), (.iaload, 1, 0, 0), (.invokevirtual 49, 3, 0, 0), (.aload_n 2, 1, 0, 0), (.aload_n 0, 1, 0, 0), (.iload 4, 2, 0, 0), (.iconst 1, 1, 0, 0), (.iadd, 1, 0, 0), (.iaload, 1, 0, 0), (.aload_n 0, 1, 0, 0), (.iload 4, 2, 0, 0), (.iconst 2, 1, 0, 0), (.iadd, 1, 0, 0), (.iaload, 1, 0, 0), (.invokevirtual 52, 3, 0, 0), (.if_icmp .eq 1087, 3, 0, 0), (.iconst 0, 1, 0, 0), (.ireturn, 1, 0, 0)]
set_option maxRecDepth 20000 in
theorem dl_link : bD code El_link 436 = true := by decide +kernel
set_option maxRecDepth 20000 in
theorem lc_link (hC : LC p s m args c D cy base b L xs) (h0 : ∀ q, q < base → H0[q]? = s.heap[q]?) (hI : INV P i0 l0 s0 r0 p0) (hws : WS D cy base b H0 (i0, l0, Rp s0 r0 p0) H locs) (hl : lv_has ls 7 (LL base b k)) (hk : k + 6 ≤ L) (hcs : cells ≤ room_1.cells ∧ slots ≤ room_1.slots)
    (kk : ∀ (H' : Heap) (locs' : List Loc) (P' : PL) (i' : Nat → Nat → Int32) (l' : Nat → Nat → Int64) (s' r' p' : Nat), INV P' i' l' s' r' p' → WS D cy base b H0 (i', l', Rp s' r' p') H' locs' → W p l e room_1 s m args below meth c H' locs' cells slots Q (F0 m 1555 ls [])) :
    W p l e room_1 s m args below meth c H locs cells slots Q (F0 m 436 ls []) := by
  obtain ⟨hx, hb, hml, hts, hown, hK, hbb, hX, hL⟩ := id hC
  obtain ⟨v, j1, l1, j2, l2, e1, e2, hI2⟩ := link_pr hI (xs (k + 1)) (xs (k + 2))
  refine lv_aload_n hx hb (bD_get dl_link 0 rfl rfl) rfl (lv_at hl 3 rfl) ?_
  refine ld5 (j := 1) hC h0 hws hl (by omega) (by decide) (bD_get dl_link 1 rfl rfl) (bD_get dl_link 2 rfl rfl) (bD_get dl_link 3 rfl rfl) (bD_get dl_link 4 rfl rfl) (bD_get dl_link 5 rfl rfl) ?_
  refine ld5 (j := 2) hC h0 hws hl (by omega) (by decide) (bD_get dl_link 6 rfl rfl) (bD_get dl_link 7 rfl rfl) (bD_get dl_link 8 rfl rfl) (bD_get dl_link 9 rfl rfl) (bD_get dl_link 10 rfl rfl) ?_
  refine rw_callV (As := [.int (xs (k + 1)), .int (xs (k + 2))]) (rest := []) hx hb (hml.trans hl.1.symm) hts cf_all hown hK hws hcs (show CO l room_1 RL 49 (0, 9, 3, mD C_GT_link) from ⟨yX9_link, cX9_link, 3, some .int, ({ frames := 1, cells := 0, slots := 0, locals := 21 } : Room), (RX9, TX9, 14), ct_GT_link l, ⟨rfl, rfl, by decide, by decide⟩, yf_GT_link.1, yf_GT_link.2.1, tw4 (i := 56) rfl rfl, yd_GT_link, yf_GT_link.2.2.1, rfl, yf_GT_link.2.2.2⟩) (by decide) rfl e1 (by decide) (bD_get dl_link 11 rfl rfl) (fun H1 locs1 hws => ?_)
  refine lv_aload_n hx hb (bD_get dl_link 12 rfl rfl) rfl (lv_at hl 2 rfl) ?_
  refine ld5 (j := 1) hC h0 hws hl (by omega) (by decide) (bD_get dl_link 13 rfl rfl) (bD_get dl_link 14 rfl rfl) (bD_get dl_link 15 rfl rfl) (bD_get dl_link 16 rfl rfl) (bD_get dl_link 17 rfl rfl) ?_
  refine ld5 (j := 2) hC h0 hws hl (by omega) (by decide) (bD_get dl_link 18 rfl rfl) (bD_get dl_link 19 rfl rfl) (bD_get dl_link 20 rfl rfl) (bD_get dl_link 21 rfl rfl) (bD_get dl_link 22 rfl rfl) ?_
  refine rw_callV (As := [.int (xs (k + 1)), .int (xs (k + 2))]) (rest := [.int v]) hx hb (hml.trans hl.1.symm) hts cf_all hown hK hws hcs (show CO l room_1 RL 52 (0, 10, 3, mD C_Mo_link) from ⟨yX10_link, cX10_link, 3, some .int, ({ frames := 1, cells := 0, slots := 0, locals := 21 } : Room), (RX10, TX10, 91), ct_Mo_link l, ⟨rfl, rfl, by decide, by decide⟩, yf_Mo_link.1, yf_Mo_link.2.1, tw8 (i := 74) rfl rfl, yd_Mo_link, yf_Mo_link.2.2.1, rfl, yf_Mo_link.2.2.2⟩) (by decide) rfl e2 (Nat.le_of_ble_eq_true rfl) (bD_get dl_link 23 rfl rfl) (fun H2 locs2 hws => ?_)
  refine lv_icmp_eq hx hb (bD_get dl_link 24 rfl rfl) (tgt := 1555) rfl (fun _ => ?_) (fun q => absurd rfl q)
  exact kk _ _ _ _ _ _ _ _ hI2 hws
def El_far : List Ent := [(.aload_n 1, 1, 0, 0), (.aload_n 0, 1, 0, 0), (.iload 4, 2, 0, 0), (.iconst 1, 1, 0, 0), (.iadd, 1, 0, 0), (.iaload, 1, 0, 0), (.aload_n 0, 1, 0, 0), (.iload 4, 2, 0, 0), (.iconst 2, 1, 0, 0), (.iadd, 1, 0, 0), (.iaload, 1, 0, 0), (.invokevirtual 53, 3, 0, 0), (.aload_n 2, 1, 0, 0), (.aload_n 0, 1, 0, 0), (.iload 4, 2, 0, 0), (.iconst 1, 1, 0, 0), (.iadd, 1, 0, 0), (.iaload, 1, 0, 0), (.aload_n 0, 1, 0, 0), (.iload 4, 2, 0, 0), (.iconst 2, 1, 0, 0), (.iadd, 1, 0, 0), (.iaload, 1, 0, 0), (.invokevirtual 56, 3, 0, 0), (.if_icmp .eq 1050, 3, 0, 0), (.iconst 0, 1, 0, 0), (.ireturn, 1, 0, 0)]
set_option maxRecDepth 20000 in
theorem dl_far : bD code El_far 473 = true := by decide +kernel
set_option maxRecDepth 20000 in
theorem lc_far (hC : LC p s m args c D cy base b L xs) (h0 : ∀ q, q < base → H0[q]? = s.heap[q]?) (hI : INV P i0 l0 s0 r0 p0) (hws : WS D cy base b H0 (i0, l0, Rp s0 r0 p0) H locs) (hl : lv_has ls 7 (LL base b k)) (hk : k + 6 ≤ L) (hcs : cells ≤ room_1.cells ∧ slots ≤ room_1.slots)
    (kk : ∀ (H' : Heap) (locs' : List Loc) (P' : PL) (i' : Nat → Nat → Int32) (l' : Nat → Nat → Int64) (s' r' p' : Nat), INV P' i' l' s' r' p' → WS D cy base b H0 (i', l', Rp s' r' p') H' locs' → W p l e room_1 s m args below meth c H' locs' cells slots Q (F0 m 1555 ls [])) :
    W p l e room_1 s m args below meth c H locs cells slots Q (F0 m 473 ls []) := by
  obtain ⟨hx, hb, hml, hts, hown, hK, hbb, hX, hL⟩ := id hC
  obtain ⟨v, j1, l1, j2, l2, e1, e2, hI2⟩ := far_pr hI (xs (k + 1)) (xs (k + 2))
  refine lv_aload_n hx hb (bD_get dl_far 0 rfl rfl) rfl (lv_at hl 3 rfl) ?_
  refine ld5 (j := 1) hC h0 hws hl (by omega) (by decide) (bD_get dl_far 1 rfl rfl) (bD_get dl_far 2 rfl rfl) (bD_get dl_far 3 rfl rfl) (bD_get dl_far 4 rfl rfl) (bD_get dl_far 5 rfl rfl) ?_
  refine ld5 (j := 2) hC h0 hws hl (by omega) (by decide) (bD_get dl_far 6 rfl rfl) (bD_get dl_far 7 rfl rfl) (bD_get dl_far 8 rfl rfl) (bD_get dl_far 9 rfl rfl) (bD_get dl_far 10 rfl rfl) ?_
  refine rw_callV (As := [.int (xs (k + 1)), .int (xs (k + 2))]) (rest := []) hx hb (hml.trans hl.1.symm) hts cf_all hown hK hws hcs (show CO l room_1 RL 53 (0, 9, 3, mD C_GT_far) from ⟨yX9_far, cX9_far, 3, some .int, ({ frames := 4, cells := 0, slots := 0, locals := 122 } : Room), (RX9, TX9, 14), ct_GT_far l, ⟨rfl, rfl, by decide, by decide⟩, yf_GT_far.1, yf_GT_far.2.1, tw4 (i := 64) rfl rfl, yd_GT_far, yf_GT_far.2.2.1, rfl, yf_GT_far.2.2.2⟩) (by decide) rfl e1 (by decide) (bD_get dl_far 11 rfl rfl) (fun H1 locs1 hws => ?_)
  refine lv_aload_n hx hb (bD_get dl_far 12 rfl rfl) rfl (lv_at hl 2 rfl) ?_
  refine ld5 (j := 1) hC h0 hws hl (by omega) (by decide) (bD_get dl_far 13 rfl rfl) (bD_get dl_far 14 rfl rfl) (bD_get dl_far 15 rfl rfl) (bD_get dl_far 16 rfl rfl) (bD_get dl_far 17 rfl rfl) ?_
  refine ld5 (j := 2) hC h0 hws hl (by omega) (by decide) (bD_get dl_far 18 rfl rfl) (bD_get dl_far 19 rfl rfl) (bD_get dl_far 20 rfl rfl) (bD_get dl_far 21 rfl rfl) (bD_get dl_far 22 rfl rfl) ?_
  refine rw_callV (As := [.int (xs (k + 1)), .int (xs (k + 2))]) (rest := [.int v]) hx hb (hml.trans hl.1.symm) hts cf_all hown hK hws hcs (show CO l room_1 RL 56 (0, 10, 3, mD C_Mo_far) from ⟨yX10_far, cX10_far, 3, some .int, ({ frames := 3, cells := 0, slots := 0, locals := 70 } : Room), (RX10, TX10, 91), ct_Mo_far l, ⟨rfl, rfl, by decide, by decide⟩, yf_Mo_far.1, yf_Mo_far.2.1, tw8 (i := 82) rfl rfl, yd_Mo_far, yf_Mo_far.2.2.1, rfl, yf_Mo_far.2.2.2⟩) (by decide) rfl e2 (Nat.le_of_ble_eq_true rfl) (bD_get dl_far 23 rfl rfl) (fun H2 locs2 hws => ?_)
  refine lv_icmp_eq hx hb (bD_get dl_far 24 rfl rfl) (tgt := 1555) rfl (fun _ => ?_) (fun q => absurd rfl q)
  exact kk _ _ _ _ _ _ _ _ hI2 hws
def El_up : List Ent := [(.aload_n 1, 1, 0, 0), (.aload_n 0, 1, 0, 0), (.iload 4, 2, 0, 0), (.iconst 1, 1, 0, 0), (.iadd, 1, 0, 0), (.iaload, 1, 0, 0), (.aload_n 0, 1, 0, 0), (.iload 4, 2, 0, 0), (.iconst 2, 1, 0, 0), (.iadd, 1, 0, 0), (.iaload, 1, 0, 0), (.aload_n 0, 1, 0, 0), (.iload 4, 2, 0, 0), (.iconst 3, 1, 0, 0), (.iadd, 1, 0, 0), (.iaload, 1, 0, 0), (.invokevirtual 57, 3, 0, 0), (.aload_n 2, 1, 0, 0), (.aload_n 0, 1, 0, 0), (.iload 4, 2, 0, 0), (.iconst 1, 1, 0, 0), (.iadd, 1, 0, 0), (.iaload, 1, 0, 0), (.aload_n 0, 1, 0, 0), (.iload 4, 2, 0, 0), (.iconst 2, 1, 0, 0), (.iadd, 1, 0, 0), (.iaload, 1, 0, 0), (.aload_n 0, 1, 0, 0), (.iload 4, 2, 0, 0), (.iconst 3, 1, 0, 0), (.iadd, 1, 0, 0), (.iaload, 1, 0, 0), (.invokevirtual 61, 3, 0, 0), (.if_icmp .eq 1001, 3, 0, 0), (.iconst 0, 1, 0, 0), (.ireturn, 1, 0, 0)]
set_option maxRecDepth 20000 in
theorem dl_up : bD code El_up 510 = true := by decide +kernel
set_option maxRecDepth 20000 in
theorem lc_up (hC : LC p s m args c D cy base b L xs) (h0 : ∀ q, q < base → H0[q]? = s.heap[q]?) (hI : INV P i0 l0 s0 r0 p0) (hws : WS D cy base b H0 (i0, l0, Rp s0 r0 p0) H locs) (hl : lv_has ls 7 (LL base b k)) (hk : k + 6 ≤ L) (hcs : cells ≤ room_1.cells ∧ slots ≤ room_1.slots)
    (kk : ∀ (H' : Heap) (locs' : List Loc) (P' : PL) (i' : Nat → Nat → Int32) (l' : Nat → Nat → Int64) (s' r' p' : Nat), INV P' i' l' s' r' p' → WS D cy base b H0 (i', l', Rp s' r' p') H' locs' → W p l e room_1 s m args below meth c H' locs' cells slots Q (F0 m 1555 ls [])) :
    W p l e room_1 s m args below meth c H locs cells slots Q (F0 m 510 ls []) := by
  obtain ⟨hx, hb, hml, hts, hown, hK, hbb, hX, hL⟩ := id hC
  obtain ⟨v, j1, l1, j2, l2, e1, e2, hI2⟩ := up_pr hI (xs (k + 1)) (xs (k + 2)) (xs (k + 3))
  refine lv_aload_n hx hb (bD_get dl_up 0 rfl rfl) rfl (lv_at hl 3 rfl) ?_
  refine ld5 (j := 1) hC h0 hws hl (by omega) (by decide) (bD_get dl_up 1 rfl rfl) (bD_get dl_up 2 rfl rfl) (bD_get dl_up 3 rfl rfl) (bD_get dl_up 4 rfl rfl) (bD_get dl_up 5 rfl rfl) ?_
  refine ld5 (j := 2) hC h0 hws hl (by omega) (by decide) (bD_get dl_up 6 rfl rfl) (bD_get dl_up 7 rfl rfl) (bD_get dl_up 8 rfl rfl) (bD_get dl_up 9 rfl rfl) (bD_get dl_up 10 rfl rfl) ?_
  refine ld5 (j := 3) hC h0 hws hl (by omega) (by decide) (bD_get dl_up 11 rfl rfl) (bD_get dl_up 12 rfl rfl) (bD_get dl_up 13 rfl rfl) (bD_get dl_up 14 rfl rfl) (bD_get dl_up 15 rfl rfl) ?_
  refine rw_callV (As := [.int (xs (k + 1)), .int (xs (k + 2)), .int (xs (k + 3))]) (rest := []) hx hb (hml.trans hl.1.symm) hts cf_all hown hK hws hcs (show CO l room_1 RL 57 (0, 9, 4, mD C_GT_up) from ⟨yX9_up, cX9_up, 5, some .int, ({ frames := 5, cells := 0, slots := 0, locals := 132 } : Room), (RX9, TX9, 14), ct_GT_up l, ⟨rfl, rfl, by decide, by decide⟩, yf_GT_up.1, yf_GT_up.2.1, tw4 (i := 108) rfl rfl, yd_GT_up, yf_GT_up.2.2.1, rfl, yf_GT_up.2.2.2⟩) (by decide) rfl e1 (by decide) (bD_get dl_up 16 rfl rfl) (fun H1 locs1 hws => ?_)
  refine lv_aload_n hx hb (bD_get dl_up 17 rfl rfl) rfl (lv_at hl 2 rfl) ?_
  refine ld5 (j := 1) hC h0 hws hl (by omega) (by decide) (bD_get dl_up 18 rfl rfl) (bD_get dl_up 19 rfl rfl) (bD_get dl_up 20 rfl rfl) (bD_get dl_up 21 rfl rfl) (bD_get dl_up 22 rfl rfl) ?_
  refine ld5 (j := 2) hC h0 hws hl (by omega) (by decide) (bD_get dl_up 23 rfl rfl) (bD_get dl_up 24 rfl rfl) (bD_get dl_up 25 rfl rfl) (bD_get dl_up 26 rfl rfl) (bD_get dl_up 27 rfl rfl) ?_
  refine ld5 (j := 3) hC h0 hws hl (by omega) (by decide) (bD_get dl_up 28 rfl rfl) (bD_get dl_up 29 rfl rfl) (bD_get dl_up 30 rfl rfl) (bD_get dl_up 31 rfl rfl) (bD_get dl_up 32 rfl rfl) ?_
  refine rw_callV (As := [.int (xs (k + 1)), .int (xs (k + 2)), .int (xs (k + 3))]) (rest := [.int v]) hx hb (hml.trans hl.1.symm) hts cf_all hown hK hws hcs (show CO l room_1 RL 61 (0, 10, 4, mD C_Mo_up) from ⟨yX10_up, cX10_up, 5, some .int, ({ frames := 4, cells := 0, slots := 0, locals := 105 } : Room), (RX10, TX10, 91), ct_Mo_up l, ⟨rfl, rfl, by decide, by decide⟩, yf_Mo_up.1, yf_Mo_up.2.1, tw8 (i := 106) rfl rfl, yd_Mo_up, yf_Mo_up.2.2.1, rfl, yf_Mo_up.2.2.2⟩) (by decide) rfl e2 (Nat.le_of_ble_eq_true rfl) (bD_get dl_up 33 rfl rfl) (fun H2 locs2 hws => ?_)
  refine lv_icmp_eq hx hb (bD_get dl_up 34 rfl rfl) (tgt := 1555) rfl (fun _ => ?_) (fun q => absurd rfl q)
  exact kk _ _ _ _ _ _ _ _ hI2 hws
def El_held : List Ent := [(.aload_n 1, 1, 0, 0), (.aload_n 0, 1, 0, 0), (.iload 4, 2, 0, 0), (.iconst 1, 1, 0, 0), (.iadd, 1, 0, 0), (.iaload, 1, 0, 0), (.aload_n 0, 1, 0, 0), (.iload 4, 2, 0, 0), (.iconst 2, 1, 0, 0), (.iadd, 1, 0, 0), (.iaload, 1, 0, 0), (.aload_n 0, 1, 0, 0), (.iload 4, 2, 0, 0), (.iconst 3, 1, 0, 0), (.iadd, 1, 0, 0), (.iaload, 1, 0, 0), (.invokevirtual 62, 3, 0, 0), (.aload_n 2, 1, 0, 0), (.aload_n 0, 1, 0, 0), (.iload 4, 2, 0, 0), (.iconst 1, 1, 0, 0), (.iadd, 1, 0, 0), (.iaload, 1, 0, 0), (.aload_n 0, 1, 0, 0), (.iload 4, 2, 0, 0), (.iconst 2, 1, 0, 0), (.iadd, 1, 0, 0), (.iaload, 1, 0, 0), (.aload_n 0, 1, 0, 0), (.iload 4, 2, 0, 0), (.iconst 3, 1, 0, 0), (.iadd, 1, 0, 0), (.iaload, 1, 0, 0), (.invokevirtual 65, 3, 0, 0), (.if_icmp .eq 952, 3, 0, 0), (.iconst 0, 1, 0, 0), (.ireturn, 1, 0, 0)]
set_option maxRecDepth 20000 in
theorem dl_held : bD code El_held 559 = true := by decide +kernel
set_option maxRecDepth 20000 in
theorem lc_held (hC : LC p s m args c D cy base b L xs) (h0 : ∀ q, q < base → H0[q]? = s.heap[q]?) (hI : INV P i0 l0 s0 r0 p0) (hws : WS D cy base b H0 (i0, l0, Rp s0 r0 p0) H locs) (hl : lv_has ls 7 (LL base b k)) (hk : k + 6 ≤ L) (hcs : cells ≤ room_1.cells ∧ slots ≤ room_1.slots)
    (kk : ∀ (H' : Heap) (locs' : List Loc) (P' : PL) (i' : Nat → Nat → Int32) (l' : Nat → Nat → Int64) (s' r' p' : Nat), INV P' i' l' s' r' p' → WS D cy base b H0 (i', l', Rp s' r' p') H' locs' → W p l e room_1 s m args below meth c H' locs' cells slots Q (F0 m 1555 ls [])) :
    W p l e room_1 s m args below meth c H locs cells slots Q (F0 m 559 ls []) := by
  obtain ⟨hx, hb, hml, hts, hown, hK, hbb, hX, hL⟩ := id hC
  obtain ⟨v, j1, l1, j2, l2, e1, e2, hI2⟩ := held_pr hI (xs (k + 1)) (xs (k + 2)) (xs (k + 3))
  refine lv_aload_n hx hb (bD_get dl_held 0 rfl rfl) rfl (lv_at hl 3 rfl) ?_
  refine ld5 (j := 1) hC h0 hws hl (by omega) (by decide) (bD_get dl_held 1 rfl rfl) (bD_get dl_held 2 rfl rfl) (bD_get dl_held 3 rfl rfl) (bD_get dl_held 4 rfl rfl) (bD_get dl_held 5 rfl rfl) ?_
  refine ld5 (j := 2) hC h0 hws hl (by omega) (by decide) (bD_get dl_held 6 rfl rfl) (bD_get dl_held 7 rfl rfl) (bD_get dl_held 8 rfl rfl) (bD_get dl_held 9 rfl rfl) (bD_get dl_held 10 rfl rfl) ?_
  refine ld5 (j := 3) hC h0 hws hl (by omega) (by decide) (bD_get dl_held 11 rfl rfl) (bD_get dl_held 12 rfl rfl) (bD_get dl_held 13 rfl rfl) (bD_get dl_held 14 rfl rfl) (bD_get dl_held 15 rfl rfl) ?_
  refine rw_callV (As := [.int (xs (k + 1)), .int (xs (k + 2)), .int (xs (k + 3))]) (rest := []) hx hb (hml.trans hl.1.symm) hts cf_all hown hK hws hcs (show CO l room_1 RL 62 (0, 9, 4, mD C_GT_held) from ⟨yX9_held, cX9_held, 4, some .int, ({ frames := 1, cells := 0, slots := 0, locals := 21 } : Room), (RX9, TX9, 14), ct_GT_held l, ⟨rfl, rfl, by decide, by decide⟩, yf_GT_held.1, yf_GT_held.2.1, tw4 (i := 143) rfl rfl, yd_GT_held, yf_GT_held.2.2.1, rfl, yf_GT_held.2.2.2⟩) (by decide) rfl e1 (by decide) (bD_get dl_held 16 rfl rfl) (fun H1 locs1 hws => ?_)
  refine lv_aload_n hx hb (bD_get dl_held 17 rfl rfl) rfl (lv_at hl 2 rfl) ?_
  refine ld5 (j := 1) hC h0 hws hl (by omega) (by decide) (bD_get dl_held 18 rfl rfl) (bD_get dl_held 19 rfl rfl) (bD_get dl_held 20 rfl rfl) (bD_get dl_held 21 rfl rfl) (bD_get dl_held 22 rfl rfl) ?_
  refine ld5 (j := 2) hC h0 hws hl (by omega) (by decide) (bD_get dl_held 23 rfl rfl) (bD_get dl_held 24 rfl rfl) (bD_get dl_held 25 rfl rfl) (bD_get dl_held 26 rfl rfl) (bD_get dl_held 27 rfl rfl) ?_
  refine ld5 (j := 3) hC h0 hws hl (by omega) (by decide) (bD_get dl_held 28 rfl rfl) (bD_get dl_held 29 rfl rfl) (bD_get dl_held 30 rfl rfl) (bD_get dl_held 31 rfl rfl) (bD_get dl_held 32 rfl rfl) ?_
  refine rw_callV (As := [.int (xs (k + 1)), .int (xs (k + 2)), .int (xs (k + 3))]) (rest := [.int v]) hx hb (hml.trans hl.1.symm) hts cf_all hown hK hws hcs (show CO l room_1 RL 65 (0, 10, 4, mD C_Mo_held) from ⟨yX10_held, cX10_held, 4, some .int, ({ frames := 1, cells := 0, slots := 0, locals := 24 } : Room), (RX10, TX10, 91), ct_Mo_held l, ⟨rfl, rfl, by decide, by decide⟩, yf_Mo_held.1, yf_Mo_held.2.1, tw8 (i := 147) rfl rfl, yd_Mo_held, yf_Mo_held.2.2.1, rfl, yf_Mo_held.2.2.2⟩) (by decide) rfl e2 (Nat.le_of_ble_eq_true rfl) (bD_get dl_held 33 rfl rfl) (fun H2 locs2 hws => ?_)
  refine lv_icmp_eq hx hb (bD_get dl_held 34 rfl rfl) (tgt := 1555) rfl (fun _ => ?_) (fun q => absurd rfl q)
  exact kk _ _ _ _ _ _ _ _ hI2 hws
def El_wants : List Ent := [(.aload_n 1, 1, 0, 0), (.aload_n 0, 1, 0, 0), (.iload 4, 2, 0, 0), (.iconst 1, 1, 0, 0), (.iadd, 1, 0, 0), (.iaload, 1, 0, 0), (.aload_n 0, 1, 0, 0), (.iload 4, 2, 0, 0), (.iconst 2, 1, 0, 0), (.iadd, 1, 0, 0), (.iaload, 1, 0, 0), (.invokevirtual 66, 3, 0, 0), (.aload_n 2, 1, 0, 0), (.aload_n 0, 1, 0, 0), (.iload 4, 2, 0, 0), (.iconst 1, 1, 0, 0), (.iadd, 1, 0, 0), (.iaload, 1, 0, 0), (.aload_n 0, 1, 0, 0), (.iload 4, 2, 0, 0), (.iconst 2, 1, 0, 0), (.iadd, 1, 0, 0), (.iaload, 1, 0, 0), (.invokevirtual 69, 3, 0, 0), (.if_icmp .eq 915, 3, 0, 0), (.iconst 0, 1, 0, 0), (.ireturn, 1, 0, 0)]
set_option maxRecDepth 20000 in
theorem dl_wants : bD code El_wants 608 = true := by decide +kernel
set_option maxRecDepth 20000 in
theorem lc_wants (hC : LC p s m args c D cy base b L xs) (h0 : ∀ q, q < base → H0[q]? = s.heap[q]?) (hI : INV P i0 l0 s0 r0 p0) (hws : WS D cy base b H0 (i0, l0, Rp s0 r0 p0) H locs) (hl : lv_has ls 7 (LL base b k)) (hk : k + 6 ≤ L) (hcs : cells ≤ room_1.cells ∧ slots ≤ room_1.slots)
    (kk : ∀ (H' : Heap) (locs' : List Loc) (P' : PL) (i' : Nat → Nat → Int32) (l' : Nat → Nat → Int64) (s' r' p' : Nat), INV P' i' l' s' r' p' → WS D cy base b H0 (i', l', Rp s' r' p') H' locs' → W p l e room_1 s m args below meth c H' locs' cells slots Q (F0 m 1555 ls [])) :
    W p l e room_1 s m args below meth c H locs cells slots Q (F0 m 608 ls []) := by
  obtain ⟨hx, hb, hml, hts, hown, hK, hbb, hX, hL⟩ := id hC
  obtain ⟨v, j1, l1, j2, l2, e1, e2, hI2⟩ := wants_pr hI (xs (k + 1)) (xs (k + 2))
  refine lv_aload_n hx hb (bD_get dl_wants 0 rfl rfl) rfl (lv_at hl 3 rfl) ?_
  refine ld5 (j := 1) hC h0 hws hl (by omega) (by decide) (bD_get dl_wants 1 rfl rfl) (bD_get dl_wants 2 rfl rfl) (bD_get dl_wants 3 rfl rfl) (bD_get dl_wants 4 rfl rfl) (bD_get dl_wants 5 rfl rfl) ?_
  refine ld5 (j := 2) hC h0 hws hl (by omega) (by decide) (bD_get dl_wants 6 rfl rfl) (bD_get dl_wants 7 rfl rfl) (bD_get dl_wants 8 rfl rfl) (bD_get dl_wants 9 rfl rfl) (bD_get dl_wants 10 rfl rfl) ?_
  refine rw_callV (As := [.int (xs (k + 1)), .int (xs (k + 2))]) (rest := []) hx hb (hml.trans hl.1.symm) hts cf_all hown hK hws hcs (show CO l room_1 RL 66 (0, 9, 3, mD C_GT_wants) from ⟨yX9_wants, cX9_wants, 3, some .int, ({ frames := 2, cells := 0, slots := 0, locals := 47 } : Room), (RX9, TX9, 14), ct_GT_wants l, ⟨rfl, rfl, by decide, by decide⟩, yf_GT_wants.1, yf_GT_wants.2.1, tw4 (i := 147) rfl rfl, yd_GT_wants, yf_GT_wants.2.2.1, rfl, yf_GT_wants.2.2.2⟩) (by decide) rfl e1 (by decide) (bD_get dl_wants 11 rfl rfl) (fun H1 locs1 hws => ?_)
  refine lv_aload_n hx hb (bD_get dl_wants 12 rfl rfl) rfl (lv_at hl 2 rfl) ?_
  refine ld5 (j := 1) hC h0 hws hl (by omega) (by decide) (bD_get dl_wants 13 rfl rfl) (bD_get dl_wants 14 rfl rfl) (bD_get dl_wants 15 rfl rfl) (bD_get dl_wants 16 rfl rfl) (bD_get dl_wants 17 rfl rfl) ?_
  refine ld5 (j := 2) hC h0 hws hl (by omega) (by decide) (bD_get dl_wants 18 rfl rfl) (bD_get dl_wants 19 rfl rfl) (bD_get dl_wants 20 rfl rfl) (bD_get dl_wants 21 rfl rfl) (bD_get dl_wants 22 rfl rfl) ?_
  refine rw_callV (As := [.int (xs (k + 1)), .int (xs (k + 2))]) (rest := [.int v]) hx hb (hml.trans hl.1.symm) hts cf_all hown hK hws hcs (show CO l room_1 RL 69 (0, 10, 3, mD C_Mo_wants) from ⟨yX10_wants, cX10_wants, 3, some .int, ({ frames := 3, cells := 0, slots := 0, locals := 72 } : Room), (RX10, TX10, 91), ct_Mo_wants l, ⟨rfl, rfl, by decide, by decide⟩, yf_Mo_wants.1, yf_Mo_wants.2.1, tw8 (i := 151) rfl rfl, yd_Mo_wants, yf_Mo_wants.2.2.1, rfl, yf_Mo_wants.2.2.2⟩) (by decide) rfl e2 (Nat.le_of_ble_eq_true rfl) (bD_get dl_wants 23 rfl rfl) (fun H2 locs2 hws => ?_)
  refine lv_icmp_eq hx hb (bD_get dl_wants 24 rfl rfl) (tgt := 1555) rfl (fun _ => ?_) (fun q => absurd rfl q)
  exact kk _ _ _ _ _ _ _ _ hI2 hws
def El_law : List Ent := [(.aload_n 1, 1, 0, 0), (.aload_n 0, 1, 0, 0), (.iload 4, 2, 0, 0), (.iconst 1, 1, 0, 0), (.iadd, 1, 0, 0), (.iaload, 1, 0, 0), (.aload_n 0, 1, 0, 0), (.iload 4, 2, 0, 0), (.iconst 2, 1, 0, 0), (.iadd, 1, 0, 0), (.iaload, 1, 0, 0), (.aload_n 0, 1, 0, 0), (.iload 4, 2, 0, 0), (.iconst 3, 1, 0, 0), (.iadd, 1, 0, 0), (.iaload, 1, 0, 0), (.invokevirtual 70, 3, 0, 0), (.aload_n 2, 1, 0, 0), (.aload_n 0, 1, 0, 0), (.iload 4, 2, 0, 0), (.iconst 1, 1, 0, 0), (.iadd, 1, 0, 0), (.iaload, 1, 0, 0), (.aload_n 0, 1, 0, 0), (.iload 4, 2, 0, 0), (.iconst 2, 1, 0, 0), (.iadd, 1, 0, 0), (.iaload, 1, 0, 0), (.aload_n 0, 1, 0, 0), (.iload 4, 2, 0, 0), (.iconst 3, 1, 0, 0), (.iadd, 1, 0, 0), (.iaload, 1, 0, 0), (.invokevirtual 74, 3, 0, 0), (.lcmp, 1, 0, 0), (.ifCond .eq 865, 3, 0, 0), (.iconst 0, 1, 0, 0), (.ireturn, 1, 0, 0)]
set_option maxRecDepth 20000 in
theorem dl_law : bD code El_law 645 = true := by decide +kernel
set_option maxRecDepth 20000 in
theorem lc_law (hC : LC p s m args c D cy base b L xs) (h0 : ∀ q, q < base → H0[q]? = s.heap[q]?) (hI : INV P i0 l0 s0 r0 p0) (hws : WS D cy base b H0 (i0, l0, Rp s0 r0 p0) H locs) (hl : lv_has ls 7 (LL base b k)) (hk : k + 6 ≤ L) (hcs : cells ≤ room_1.cells ∧ slots ≤ room_1.slots)
    (kk : ∀ (H' : Heap) (locs' : List Loc) (P' : PL) (i' : Nat → Nat → Int32) (l' : Nat → Nat → Int64) (s' r' p' : Nat), INV P' i' l' s' r' p' → WS D cy base b H0 (i', l', Rp s' r' p') H' locs' → W p l e room_1 s m args below meth c H' locs' cells slots Q (F0 m 1555 ls [])) :
    W p l e room_1 s m args below meth c H locs cells slots Q (F0 m 645 ls []) := by
  obtain ⟨hx, hb, hml, hts, hown, hK, hbb, hX, hL⟩ := id hC
  obtain ⟨v, j1, l1, j2, l2, e1, e2, hI2⟩ := law_pr hI (xs (k + 1)) (xs (k + 2)) (xs (k + 3))
  refine lv_aload_n hx hb (bD_get dl_law 0 rfl rfl) rfl (lv_at hl 3 rfl) ?_
  refine ld5 (j := 1) hC h0 hws hl (by omega) (by decide) (bD_get dl_law 1 rfl rfl) (bD_get dl_law 2 rfl rfl) (bD_get dl_law 3 rfl rfl) (bD_get dl_law 4 rfl rfl) (bD_get dl_law 5 rfl rfl) ?_
  refine ld5 (j := 2) hC h0 hws hl (by omega) (by decide) (bD_get dl_law 6 rfl rfl) (bD_get dl_law 7 rfl rfl) (bD_get dl_law 8 rfl rfl) (bD_get dl_law 9 rfl rfl) (bD_get dl_law 10 rfl rfl) ?_
  refine ld5 (j := 3) hC h0 hws hl (by omega) (by decide) (bD_get dl_law 11 rfl rfl) (bD_get dl_law 12 rfl rfl) (bD_get dl_law 13 rfl rfl) (bD_get dl_law 14 rfl rfl) (bD_get dl_law 15 rfl rfl) ?_
  refine rw_callV (As := [.int (xs (k + 1)), .int (xs (k + 2)), .int (xs (k + 3))]) (rest := []) hx hb (hml.trans hl.1.symm) hts cf_all hown hK hws hcs (show CO l room_1 RL 70 (0, 9, 4, mD C_GT_law) from ⟨yX9_law, cX9_law, 4, some .long, ({ frames := 4, cells := 0, slots := 0, locals := 122 } : Room), (RX9, TX9, 14), ct_GT_law l, ⟨rfl, rfl, by decide, by decide⟩, yf_GT_law.1, yf_GT_law.2.1, tw4 (i := 159) rfl rfl, yd_GT_law, yf_GT_law.2.2.1, rfl, yf_GT_law.2.2.2⟩) (by decide) rfl e1 (by decide) (bD_get dl_law 16 rfl rfl) (fun H1 locs1 hws => ?_)
  refine lv_aload_n hx hb (bD_get dl_law 17 rfl rfl) rfl (lv_at hl 2 rfl) ?_
  refine ld5 (j := 1) hC h0 hws hl (by omega) (by decide) (bD_get dl_law 18 rfl rfl) (bD_get dl_law 19 rfl rfl) (bD_get dl_law 20 rfl rfl) (bD_get dl_law 21 rfl rfl) (bD_get dl_law 22 rfl rfl) ?_
  refine ld5 (j := 2) hC h0 hws hl (by omega) (by decide) (bD_get dl_law 23 rfl rfl) (bD_get dl_law 24 rfl rfl) (bD_get dl_law 25 rfl rfl) (bD_get dl_law 26 rfl rfl) (bD_get dl_law 27 rfl rfl) ?_
  refine ld5 (j := 3) hC h0 hws hl (by omega) (by decide) (bD_get dl_law 28 rfl rfl) (bD_get dl_law 29 rfl rfl) (bD_get dl_law 30 rfl rfl) (bD_get dl_law 31 rfl rfl) (bD_get dl_law 32 rfl rfl) ?_
  refine rw_callV (As := [.int (xs (k + 1)), .int (xs (k + 2)), .int (xs (k + 3))]) (rest := [.long v]) hx hb (hml.trans hl.1.symm) hts cf_all hown hK hws hcs (show CO l room_1 RL 74 (0, 10, 4, mD C_Mo_law) from ⟨yX10_law, cX10_law, 6, some .long, ({ frames := 3, cells := 0, slots := 0, locals := 73 } : Room), (RX10, TX10, 91), ct_Mo_law l, ⟨rfl, rfl, by decide, by decide⟩, yf_Mo_law.1, yf_Mo_law.2.1, tw8 (i := 159) rfl rfl, yd_Mo_law, yf_Mo_law.2.2.1, rfl, yf_Mo_law.2.2.2⟩) (by decide) rfl e2 (Nat.le_of_ble_eq_true rfl) (bD_get dl_law 33 rfl rfl) (fun H2 locs2 hws => ?_)
  refine W.lcmp hx hb (bD_get dl_law 34 rfl rfl) ?_
  refine lv_if_eq hx hb (bD_get dl_law 35 rfl rfl) (tgt := 1555) rfl (fun _ => ?_) (fun q => absurd (lcmp_eq v) q)
  exact kk _ _ _ _ _ _ _ _ hI2 hws
def El_listen : List Ent := [(.aload_n 1, 1, 0, 0), (.aload_n 0, 1, 0, 0), (.iload 4, 2, 0, 0), (.iconst 1, 1, 0, 0), (.iadd, 1, 0, 0), (.iaload, 1, 0, 0), (.invokevirtual 75, 3, 0, 0), (.aload_n 2, 1, 0, 0), (.aload_n 0, 1, 0, 0), (.iload 4, 2, 0, 0), (.iconst 1, 1, 0, 0), (.iadd, 1, 0, 0), (.iaload, 1, 0, 0), (.invokevirtual 78, 3, 0, 0), (.if_icmp .eq 840, 3, 0, 0), (.iconst 0, 1, 0, 0), (.ireturn, 1, 0, 0)]
set_option maxRecDepth 20000 in
theorem dl_listen : bD code El_listen 695 = true := by decide +kernel
set_option maxRecDepth 20000 in
theorem lc_listen (hC : LC p s m args c D cy base b L xs) (h0 : ∀ q, q < base → H0[q]? = s.heap[q]?) (hI : INV P i0 l0 s0 r0 p0) (hws : WS D cy base b H0 (i0, l0, Rp s0 r0 p0) H locs) (hl : lv_has ls 7 (LL base b k)) (hk : k + 6 ≤ L) (hcs : cells ≤ room_1.cells ∧ slots ≤ room_1.slots)
    (kk : ∀ (H' : Heap) (locs' : List Loc) (P' : PL) (i' : Nat → Nat → Int32) (l' : Nat → Nat → Int64) (s' r' p' : Nat), INV P' i' l' s' r' p' → WS D cy base b H0 (i', l', Rp s' r' p') H' locs' → W p l e room_1 s m args below meth c H' locs' cells slots Q (F0 m 1555 ls [])) :
    W p l e room_1 s m args below meth c H locs cells slots Q (F0 m 695 ls []) := by
  obtain ⟨hx, hb, hml, hts, hown, hK, hbb, hX, hL⟩ := id hC
  obtain ⟨v, j1, l1, j2, l2, e1, e2, hI2⟩ := listen_pr hI (xs (k + 1))
  refine lv_aload_n hx hb (bD_get dl_listen 0 rfl rfl) rfl (lv_at hl 3 rfl) ?_
  refine ld5 (j := 1) hC h0 hws hl (by omega) (by decide) (bD_get dl_listen 1 rfl rfl) (bD_get dl_listen 2 rfl rfl) (bD_get dl_listen 3 rfl rfl) (bD_get dl_listen 4 rfl rfl) (bD_get dl_listen 5 rfl rfl) ?_
  refine rw_callV (As := [.int (xs (k + 1))]) (rest := []) hx hb (hml.trans hl.1.symm) hts cf_all hown hK hws hcs (show CO l room_1 RL 75 (0, 9, 2, mD C_GT_listen) from ⟨yX9_listen, cX9_listen, 2, some .int, ({ frames := 3, cells := 0, slots := 0, locals := 88 } : Room), (RX9, TX9, 14), ct_GT_listen l, ⟨rfl, rfl, by decide, by decide⟩, yf_GT_listen.1, yf_GT_listen.2.1, tw4 (i := 165) rfl rfl, yd_GT_listen, yf_GT_listen.2.2.1, rfl, yf_GT_listen.2.2.2⟩) (by decide) rfl e1 (by decide) (bD_get dl_listen 6 rfl rfl) (fun H1 locs1 hws => ?_)
  refine lv_aload_n hx hb (bD_get dl_listen 7 rfl rfl) rfl (lv_at hl 2 rfl) ?_
  refine ld5 (j := 1) hC h0 hws hl (by omega) (by decide) (bD_get dl_listen 8 rfl rfl) (bD_get dl_listen 9 rfl rfl) (bD_get dl_listen 10 rfl rfl) (bD_get dl_listen 11 rfl rfl) (bD_get dl_listen 12 rfl rfl) ?_
  refine rw_callV (As := [.int (xs (k + 1))]) (rest := [.int v]) hx hb (hml.trans hl.1.symm) hts cf_all hown hK hws hcs (show CO l room_1 RL 78 (0, 10, 2, mD C_Mo_listen) from ⟨yX10_listen, cX10_listen, 2, some .int, ({ frames := 2, cells := 0, slots := 0, locals := 44 } : Room), (RX10, TX10, 91), ct_Mo_listen l, ⟨rfl, rfl, by decide, by decide⟩, yf_Mo_listen.1, yf_Mo_listen.2.1, tw8 (i := 164) rfl rfl, yd_Mo_listen, yf_Mo_listen.2.2.1, rfl, yf_Mo_listen.2.2.2⟩) (by decide) rfl e2 (Nat.le_of_ble_eq_true rfl) (bD_get dl_listen 13 rfl rfl) (fun H2 locs2 hws => ?_)
  refine lv_icmp_eq hx hb (bD_get dl_listen 14 rfl rfl) (tgt := 1555) rfl (fun _ => ?_) (fun q => absurd rfl q)
  exact kk _ _ _ _ _ _ _ _ hI2 hws
def El_cut : List Ent := [(.aload_n 1, 1, 0, 0), (.aload_n 0, 1, 0, 0), (.iload 4, 2, 0, 0), (.iconst 1, 1, 0, 0), (.iadd, 1, 0, 0), (.iaload, 1, 0, 0), (.invokevirtual 79, 3, 0, 0), (.aload_n 2, 1, 0, 0), (.aload_n 0, 1, 0, 0), (.iload 4, 2, 0, 0), (.iconst 1, 1, 0, 0), (.iadd, 1, 0, 0), (.iaload, 1, 0, 0), (.invokevirtual 82, 3, 0, 0), (.if_icmp .eq 815, 3, 0, 0), (.iconst 0, 1, 0, 0), (.ireturn, 1, 0, 0)]
set_option maxRecDepth 20000 in
theorem dl_cut : bD code El_cut 720 = true := by decide +kernel
set_option maxRecDepth 20000 in
theorem lc_cut (hC : LC p s m args c D cy base b L xs) (h0 : ∀ q, q < base → H0[q]? = s.heap[q]?) (hI : INV P i0 l0 s0 r0 p0) (hws : WS D cy base b H0 (i0, l0, Rp s0 r0 p0) H locs) (hl : lv_has ls 7 (LL base b k)) (hk : k + 6 ≤ L) (hcs : cells ≤ room_1.cells ∧ slots ≤ room_1.slots)
    (kk : ∀ (H' : Heap) (locs' : List Loc) (P' : PL) (i' : Nat → Nat → Int32) (l' : Nat → Nat → Int64) (s' r' p' : Nat), INV P' i' l' s' r' p' → WS D cy base b H0 (i', l', Rp s' r' p') H' locs' → W p l e room_1 s m args below meth c H' locs' cells slots Q (F0 m 1555 ls [])) :
    W p l e room_1 s m args below meth c H locs cells slots Q (F0 m 720 ls []) := by
  obtain ⟨hx, hb, hml, hts, hown, hK, hbb, hX, hL⟩ := id hC
  obtain ⟨v, j1, l1, j2, l2, e1, e2, hI2⟩ := cut_pr hI (xs (k + 1))
  refine lv_aload_n hx hb (bD_get dl_cut 0 rfl rfl) rfl (lv_at hl 3 rfl) ?_
  refine ld5 (j := 1) hC h0 hws hl (by omega) (by decide) (bD_get dl_cut 1 rfl rfl) (bD_get dl_cut 2 rfl rfl) (bD_get dl_cut 3 rfl rfl) (bD_get dl_cut 4 rfl rfl) (bD_get dl_cut 5 rfl rfl) ?_
  refine rw_callV (As := [.int (xs (k + 1))]) (rest := []) hx hb (hml.trans hl.1.symm) hts cf_all hown hK hws hcs (show CO l room_1 RL 79 (0, 9, 2, mD C_GT_cut) from ⟨yX9_cut, cX9_cut, 2, some .int, ({ frames := 3, cells := 0, slots := 0, locals := 88 } : Room), (RX9, TX9, 14), ct_GT_cut l, ⟨rfl, rfl, by decide, by decide⟩, yf_GT_cut.1, yf_GT_cut.2.1, tw4 (i := 185) rfl rfl, yd_GT_cut, yf_GT_cut.2.2.1, rfl, yf_GT_cut.2.2.2⟩) (by decide) rfl e1 (by decide) (bD_get dl_cut 6 rfl rfl) (fun H1 locs1 hws => ?_)
  refine lv_aload_n hx hb (bD_get dl_cut 7 rfl rfl) rfl (lv_at hl 2 rfl) ?_
  refine ld5 (j := 1) hC h0 hws hl (by omega) (by decide) (bD_get dl_cut 8 rfl rfl) (bD_get dl_cut 9 rfl rfl) (bD_get dl_cut 10 rfl rfl) (bD_get dl_cut 11 rfl rfl) (bD_get dl_cut 12 rfl rfl) ?_
  refine rw_callV (As := [.int (xs (k + 1))]) (rest := [.int v]) hx hb (hml.trans hl.1.symm) hts cf_all hown hK hws hcs (show CO l room_1 RL 82 (0, 10, 2, mD C_Mo_cut) from ⟨yX10_cut, cX10_cut, 2, some .int, ({ frames := 2, cells := 0, slots := 0, locals := 44 } : Room), (RX10, TX10, 91), ct_Mo_cut l, ⟨rfl, rfl, by decide, by decide⟩, yf_Mo_cut.1, yf_Mo_cut.2.1, tw8 (i := 180) rfl rfl, yd_Mo_cut, yf_Mo_cut.2.2.1, rfl, yf_Mo_cut.2.2.2⟩) (by decide) rfl e2 (Nat.le_of_ble_eq_true rfl) (bD_get dl_cut 13 rfl rfl) (fun H2 locs2 hws => ?_)
  refine lv_icmp_eq hx hb (bD_get dl_cut 14 rfl rfl) (tgt := 1555) rfl (fun _ => ?_) (fun q => absurd rfl q)
  exact kk _ _ _ _ _ _ _ _ hI2 hws
def El_send : List Ent := [(.aload_n 1, 1, 0, 0), (.aload_n 0, 1, 0, 0), (.iload 4, 2, 0, 0), (.iconst 1, 1, 0, 0), (.iadd, 1, 0, 0), (.iaload, 1, 0, 0), (.invokevirtual 83, 3, 0, 0), (.aload_n 2, 1, 0, 0), (.aload_n 0, 1, 0, 0), (.iload 4, 2, 0, 0), (.iconst 1, 1, 0, 0), (.iadd, 1, 0, 0), (.iaload, 1, 0, 0), (.invokevirtual 86, 3, 0, 0), (.if_icmp .eq 790, 3, 0, 0), (.iconst 0, 1, 0, 0), (.ireturn, 1, 0, 0)]
set_option maxRecDepth 20000 in
theorem dl_send : bD code El_send 745 = true := by decide +kernel
set_option maxRecDepth 20000 in
theorem lc_send (hC : LC p s m args c D cy base b L xs) (h0 : ∀ q, q < base → H0[q]? = s.heap[q]?) (hI : INV P i0 l0 s0 r0 p0) (hws : WS D cy base b H0 (i0, l0, Rp s0 r0 p0) H locs) (hl : lv_has ls 7 (LL base b k)) (hk : k + 6 ≤ L) (hcs : cells ≤ room_1.cells ∧ slots ≤ room_1.slots)
    (kk : ∀ (H' : Heap) (locs' : List Loc) (P' : PL) (i' : Nat → Nat → Int32) (l' : Nat → Nat → Int64) (s' r' p' : Nat), INV P' i' l' s' r' p' → WS D cy base b H0 (i', l', Rp s' r' p') H' locs' → W p l e room_1 s m args below meth c H' locs' cells slots Q (F0 m 1555 ls [])) :
    W p l e room_1 s m args below meth c H locs cells slots Q (F0 m 745 ls []) := by
  obtain ⟨hx, hb, hml, hts, hown, hK, hbb, hX, hL⟩ := id hC
  obtain ⟨v, j1, l1, j2, l2, e1, e2, hI2⟩ := send_pr hI (xs (k + 1))
  refine lv_aload_n hx hb (bD_get dl_send 0 rfl rfl) rfl (lv_at hl 3 rfl) ?_
  refine ld5 (j := 1) hC h0 hws hl (by omega) (by decide) (bD_get dl_send 1 rfl rfl) (bD_get dl_send 2 rfl rfl) (bD_get dl_send 3 rfl rfl) (bD_get dl_send 4 rfl rfl) (bD_get dl_send 5 rfl rfl) ?_
  refine rw_callV (As := [.int (xs (k + 1))]) (rest := []) hx hb (hml.trans hl.1.symm) hts cf_all hown hK hws hcs (show CO l room_1 RL 83 (0, 9, 2, mD C_GT_send) from ⟨yX9_send, cX9_send, 2, some .int, ({ frames := 6, cells := 0, slots := 0, locals := 159 } : Room), (RX9, TX9, 14), ct_GT_send l, ⟨rfl, rfl, by decide, by decide⟩, yf_GT_send.1, yf_GT_send.2.1, tw4 (i := 189) rfl rfl, yd_GT_send, yf_GT_send.2.2.1, rfl, yf_GT_send.2.2.2⟩) (by decide) rfl e1 (by decide) (bD_get dl_send 6 rfl rfl) (fun H1 locs1 hws => ?_)
  refine lv_aload_n hx hb (bD_get dl_send 7 rfl rfl) rfl (lv_at hl 2 rfl) ?_
  refine ld5 (j := 1) hC h0 hws hl (by omega) (by decide) (bD_get dl_send 8 rfl rfl) (bD_get dl_send 9 rfl rfl) (bD_get dl_send 10 rfl rfl) (bD_get dl_send 11 rfl rfl) (bD_get dl_send 12 rfl rfl) ?_
  refine rw_callV (As := [.int (xs (k + 1))]) (rest := [.int v]) hx hb (hml.trans hl.1.symm) hts cf_all hown hK hws hcs (show CO l room_1 RL 86 (0, 10, 2, mD C_Mo_send) from ⟨yX10_send, cX10_send, 2, some .int, ({ frames := 7, cells := 0, slots := 0, locals := 186 } : Room), (RX10, TX10, 91), ct_Mo_send l, ⟨rfl, rfl, by decide, by decide⟩, yf_Mo_send.1, yf_Mo_send.2.1, tw8 (i := 184) rfl rfl, yd_Mo_send, yf_Mo_send.2.2.1, rfl, yf_Mo_send.2.2.2⟩) (by decide) rfl e2 (Nat.le_of_ble_eq_true rfl) (bD_get dl_send 13 rfl rfl) (fun H2 locs2 hws => ?_)
  refine lv_icmp_eq hx hb (bD_get dl_send 14 rfl rfl) (tgt := 1555) rfl (fun _ => ?_) (fun q => absurd rfl q)
  exact kk _ _ _ _ _ _ _ _ hI2 hws
end
