/-! the law's cases (by program) -/
section
variable {p : Program} {l : Launch} {e : Env} {s : State} {m : MethodId} {args : Array Value} {below : List Frame} {meth : Method} {c : Code} {H : Heap} {locs : List Loc} {cells slots : Nat} {Q : State → Prop}
variable {D : va_G} {cy : Nat → ClassId} {base b L : Nat} {xs : Nat → Int32} {H0 : Heap} {ls : Array Slot} {k : Nat} {P : PL} {i0 : Nat → Nat → Int32} {l0 : Nat → Nat → Int64} {s0 r0 p0 : Nat}
def El_go : List Ent := [(.aload_n 1, 1, 0, 0), (.aload_n 0, 1, 0, 0), (.iload 4, 2, 0, 0), (.iconst 1, 1, 0, 0), (.iadd, 1, 0, 0), (.iaload, 1, 0, 0), (.invokevirtual 87, 3, 0, 0), (.aload_n 2, 1, 0, 0), (.aload_n 0, 1, 0, 0), (.iload 4, 2, 0, 0), (.iconst 1, 1, 0, 0), (.iadd, 1, 0, 0), (.iaload, 1, 0, 0), (.invokevirtual 90, 3, 0, 0), (.if_icmp .eq 765, 3, 0, 0), (.iconst 0, 1, 0, 0), (.ireturn, 1, 0, 0)]
set_option maxRecDepth 20000 in
theorem dl_go : bD code El_go 770 = true := by decide +kernel
set_option maxRecDepth 20000 in
theorem lc_go (hC : LC p s m args c D cy base b L xs) (h0 : ∀ q, q < base → H0[q]? = s.heap[q]?) (hI : INV P i0 l0 s0 r0 p0) (hws : WS D cy base b H0 (i0, l0, Rp s0 r0 p0) H locs) (hl : lv_has ls 7 (LL base b k)) (hk : k + 6 ≤ L) (hcs : cells ≤ room_1.cells ∧ slots ≤ room_1.slots)
    (kk : ∀ (H' : Heap) (locs' : List Loc) (P' : PL) (i' : Nat → Nat → Int32) (l' : Nat → Nat → Int64) (s' r' p' : Nat), INV P' i' l' s' r' p' → WS D cy base b H0 (i', l', Rp s' r' p') H' locs' → W p l e room_1 s m args below meth c H' locs' cells slots Q (F0 m 1555 ls [])) :
    W p l e room_1 s m args below meth c H locs cells slots Q (F0 m 770 ls []) := by
  obtain ⟨hx, hb, hml, hts, hown, hK, hbb, hX, hL⟩ := id hC
  obtain ⟨v, j1, l1, j2, l2, e1, e2, hI2⟩ := go_pr hI (xs (k + 1))
  refine lv_aload_n hx hb (bD_get dl_go 0 rfl rfl) rfl (lv_at hl 3 rfl) ?_
  refine ld5 (j := 1) hC h0 hws hl (by omega) (by decide) (bD_get dl_go 1 rfl rfl) (bD_get dl_go 2 rfl rfl) (bD_get dl_go 3 rfl rfl) (bD_get dl_go 4 rfl rfl) (bD_get dl_go 5 rfl rfl) ?_
  refine rw_callV (As := [.int (xs (k + 1))]) (rest := []) hx hb (hml.trans hl.1.symm) hts cf_all hown hK hws hcs (show CO l room_1 RL 87 (0, 9, 2, mD C_GT_go) from ⟨yX9_go, cX9_go, 2, some .int, ({ frames := 7, cells := 0, slots := 0, locals := 185 } : Room), (RX9, TX9, 14), ct_GT_go l, ⟨rfl, rfl, by decide, by decide⟩, yf_GT_go.1, yf_GT_go.2.1, tw4 (i := 232) rfl rfl, yd_GT_go, yf_GT_go.2.2.1, rfl, yf_GT_go.2.2.2⟩) (by decide) rfl e1 (by decide) (bD_get dl_go 6 rfl rfl) (fun H1 locs1 hws => ?_)
  refine lv_aload_n hx hb (bD_get dl_go 7 rfl rfl) rfl (lv_at hl 2 rfl) ?_
  refine ld5 (j := 1) hC h0 hws hl (by omega) (by decide) (bD_get dl_go 8 rfl rfl) (bD_get dl_go 9 rfl rfl) (bD_get dl_go 10 rfl rfl) (bD_get dl_go 11 rfl rfl) (bD_get dl_go 12 rfl rfl) ?_
  refine rw_callV (As := [.int (xs (k + 1))]) (rest := [.int v]) hx hb (hml.trans hl.1.symm) hts cf_all hown hK hws hcs (show CO l room_1 RL 90 (0, 10, 2, mD C_Mo_go) from ⟨yX10_go, cX10_go, 3, some .int, ({ frames := 8, cells := 0, slots := 0, locals := 208 } : Room), (RX10, TX10, 91), ct_Mo_go l, ⟨rfl, rfl, by decide, by decide⟩, yf_Mo_go.1, yf_Mo_go.2.1, tw8 (i := 220) rfl rfl, yd_Mo_go, yf_Mo_go.2.2.1, rfl, yf_Mo_go.2.2.2⟩) (by decide) rfl e2 (Nat.le_of_ble_eq_true rfl) (bD_get dl_go 13 rfl rfl) (fun H2 locs2 hws => ?_)
  refine lv_icmp_eq hx hb (bD_get dl_go 14 rfl rfl) (tgt := 1555) rfl (fun _ => ?_) (fun q => absurd rfl q)
  exact kk _ _ _ _ _ _ _ _ hI2 hws
def El_ahead : List Ent := [(.aload_n 1, 1, 0, 0), (.aload_n 0, 1, 0, 0), (.iload 4, 2, 0, 0), (.iconst 1, 1, 0, 0), (.iadd, 1, 0, 0), (.iaload, 1, 0, 0), (.aload_n 0, 1, 0, 0), (.iload 4, 2, 0, 0), (.iconst 2, 1, 0, 0), (.iadd, 1, 0, 0), (.iaload, 1, 0, 0), (.invokevirtual 91, 3, 0, 0), (.aload_n 2, 1, 0, 0), (.aload_n 0, 1, 0, 0), (.iload 4, 2, 0, 0), (.iconst 1, 1, 0, 0), (.iadd, 1, 0, 0), (.iaload, 1, 0, 0), (.aload_n 0, 1, 0, 0), (.iload 4, 2, 0, 0), (.iconst 2, 1, 0, 0), (.iadd, 1, 0, 0), (.iaload, 1, 0, 0), (.invokevirtual 94, 3, 0, 0), (.if_icmp .eq 728, 3, 0, 0), (.iconst 0, 1, 0, 0), (.ireturn, 1, 0, 0)]
set_option maxRecDepth 20000 in
theorem dl_ahead : bD code El_ahead 795 = true := by decide +kernel
set_option maxRecDepth 20000 in
theorem lc_ahead (hC : LC p s m args c D cy base b L xs) (h0 : ∀ q, q < base → H0[q]? = s.heap[q]?) (hI : INV P i0 l0 s0 r0 p0) (hws : WS D cy base b H0 (i0, l0, Rp s0 r0 p0) H locs) (hl : lv_has ls 7 (LL base b k)) (hk : k + 6 ≤ L) (hcs : cells ≤ room_1.cells ∧ slots ≤ room_1.slots)
    (kk : ∀ (H' : Heap) (locs' : List Loc) (P' : PL) (i' : Nat → Nat → Int32) (l' : Nat → Nat → Int64) (s' r' p' : Nat), INV P' i' l' s' r' p' → WS D cy base b H0 (i', l', Rp s' r' p') H' locs' → W p l e room_1 s m args below meth c H' locs' cells slots Q (F0 m 1555 ls [])) :
    W p l e room_1 s m args below meth c H locs cells slots Q (F0 m 795 ls []) := by
  obtain ⟨hx, hb, hml, hts, hown, hK, hbb, hX, hL⟩ := id hC
  obtain ⟨v, j1, l1, j2, l2, e1, e2, hI2⟩ := ahead_pr hI (xs (k + 1)) (xs (k + 2))
  refine lv_aload_n hx hb (bD_get dl_ahead 0 rfl rfl) rfl (lv_at hl 3 rfl) ?_
  refine ld5 (j := 1) hC h0 hws hl (by omega) (by decide) (bD_get dl_ahead 1 rfl rfl) (bD_get dl_ahead 2 rfl rfl) (bD_get dl_ahead 3 rfl rfl) (bD_get dl_ahead 4 rfl rfl) (bD_get dl_ahead 5 rfl rfl) ?_
  refine ld5 (j := 2) hC h0 hws hl (by omega) (by decide) (bD_get dl_ahead 6 rfl rfl) (bD_get dl_ahead 7 rfl rfl) (bD_get dl_ahead 8 rfl rfl) (bD_get dl_ahead 9 rfl rfl) (bD_get dl_ahead 10 rfl rfl) ?_
  refine rw_callV (As := [.int (xs (k + 1)), .int (xs (k + 2))]) (rest := []) hx hb (hml.trans hl.1.symm) hts cf_all hown hK hws hcs (show CO l room_1 RL 91 (0, 9, 3, mD C_GT_ahead) from ⟨yX9_ahead, cX9_ahead, 3, some .int, ({ frames := 7, cells := 0, slots := 0, locals := 185 } : Room), (RX9, TX9, 14), ct_GT_ahead l, ⟨rfl, rfl, by decide, by decide⟩, yf_GT_ahead.1, yf_GT_ahead.2.1, tw5 (i := 42) rfl rfl, yd_GT_ahead, yf_GT_ahead.2.2.1, rfl, yf_GT_ahead.2.2.2⟩) (by decide) rfl e1 (by decide) (bD_get dl_ahead 11 rfl rfl) (fun H1 locs1 hws => ?_)
  refine lv_aload_n hx hb (bD_get dl_ahead 12 rfl rfl) rfl (lv_at hl 2 rfl) ?_
  refine ld5 (j := 1) hC h0 hws hl (by omega) (by decide) (bD_get dl_ahead 13 rfl rfl) (bD_get dl_ahead 14 rfl rfl) (bD_get dl_ahead 15 rfl rfl) (bD_get dl_ahead 16 rfl rfl) (bD_get dl_ahead 17 rfl rfl) ?_
  refine ld5 (j := 2) hC h0 hws hl (by omega) (by decide) (bD_get dl_ahead 18 rfl rfl) (bD_get dl_ahead 19 rfl rfl) (bD_get dl_ahead 20 rfl rfl) (bD_get dl_ahead 21 rfl rfl) (bD_get dl_ahead 22 rfl rfl) ?_
  refine rw_callV (As := [.int (xs (k + 1)), .int (xs (k + 2))]) (rest := [.int v]) hx hb (hml.trans hl.1.symm) hts cf_all hown hK hws hcs (show CO l room_1 RL 94 (0, 10, 3, mD C_Mo_ahead) from ⟨yX10_ahead, cX10_ahead, 3, some .int, ({ frames := 9, cells := 0, slots := 0, locals := 230 } : Room), (RX10, TX10, 91), ct_Mo_ahead l, ⟨rfl, rfl, by decide, by decide⟩, yf_Mo_ahead.1, yf_Mo_ahead.2.1, tw9 (i := 1) rfl rfl, yd_Mo_ahead, yf_Mo_ahead.2.2.1, rfl, yf_Mo_ahead.2.2.2⟩) (by decide) rfl e2 (Nat.le_of_ble_eq_true rfl) (bD_get dl_ahead 23 rfl rfl) (fun H2 locs2 hws => ?_)
  refine lv_icmp_eq hx hb (bD_get dl_ahead 24 rfl rfl) (tgt := 1555) rfl (fun _ => ?_) (fun q => absurd rfl q)
  exact kk _ _ _ _ _ _ _ _ hI2 hws
def El_quiet : List Ent := [(.aload_n 1, 1, 0, 0), (.aload_n 0, 1, 0, 0), (.iload 4, 2, 0, 0), (.iconst 1, 1, 0, 0), (.iadd, 1, 0, 0), (.iaload, 1, 0, 0), (.invokevirtual 95, 3, 0, 0), (.aload_n 2, 1, 0, 0), (.aload_n 0, 1, 0, 0), (.iload 4, 2, 0, 0), (.iconst 1, 1, 0, 0), (.iadd, 1, 0, 0), (.iaload, 1, 0, 0), (.invokevirtual 98, 3, 0, 0), (.if_icmp .eq 703, 3, 0, 0), (.iconst 0, 1, 0, 0), (.ireturn, 1, 0, 0)]
set_option maxRecDepth 20000 in
theorem dl_quiet : bD code El_quiet 832 = true := by decide +kernel
set_option maxRecDepth 20000 in
theorem lc_quiet (hC : LC p s m args c D cy base b L xs) (h0 : ∀ q, q < base → H0[q]? = s.heap[q]?) (hI : INV P i0 l0 s0 r0 p0) (hws : WS D cy base b H0 (i0, l0, Rp s0 r0 p0) H locs) (hl : lv_has ls 7 (LL base b k)) (hk : k + 6 ≤ L) (hcs : cells ≤ room_1.cells ∧ slots ≤ room_1.slots)
    (kk : ∀ (H' : Heap) (locs' : List Loc) (P' : PL) (i' : Nat → Nat → Int32) (l' : Nat → Nat → Int64) (s' r' p' : Nat), INV P' i' l' s' r' p' → WS D cy base b H0 (i', l', Rp s' r' p') H' locs' → W p l e room_1 s m args below meth c H' locs' cells slots Q (F0 m 1555 ls [])) :
    W p l e room_1 s m args below meth c H locs cells slots Q (F0 m 832 ls []) := by
  obtain ⟨hx, hb, hml, hts, hown, hK, hbb, hX, hL⟩ := id hC
  obtain ⟨v, j1, l1, j2, l2, e1, e2, hI2⟩ := quiet_pr hI (xs (k + 1))
  refine lv_aload_n hx hb (bD_get dl_quiet 0 rfl rfl) rfl (lv_at hl 3 rfl) ?_
  refine ld5 (j := 1) hC h0 hws hl (by omega) (by decide) (bD_get dl_quiet 1 rfl rfl) (bD_get dl_quiet 2 rfl rfl) (bD_get dl_quiet 3 rfl rfl) (bD_get dl_quiet 4 rfl rfl) (bD_get dl_quiet 5 rfl rfl) ?_
  refine rw_callV (As := [.int (xs (k + 1))]) (rest := []) hx hb (hml.trans hl.1.symm) hts cf_all hown hK hws hcs (show CO l room_1 RL 95 (0, 9, 2, mD C_GT_quiet) from ⟨yX9_quiet, cX9_quiet, 3, some .int, ({ frames := 7, cells := 0, slots := 0, locals := 185 } : Room), (RX9, TX9, 14), ct_GT_quiet l, ⟨rfl, rfl, by decide, by decide⟩, yf_GT_quiet.1, yf_GT_quiet.2.1, tw5 (i := 53) rfl rfl, yd_GT_quiet, yf_GT_quiet.2.2.1, rfl, yf_GT_quiet.2.2.2⟩) (by decide) rfl e1 (by decide) (bD_get dl_quiet 6 rfl rfl) (fun H1 locs1 hws => ?_)
  refine lv_aload_n hx hb (bD_get dl_quiet 7 rfl rfl) rfl (lv_at hl 2 rfl) ?_
  refine ld5 (j := 1) hC h0 hws hl (by omega) (by decide) (bD_get dl_quiet 8 rfl rfl) (bD_get dl_quiet 9 rfl rfl) (bD_get dl_quiet 10 rfl rfl) (bD_get dl_quiet 11 rfl rfl) (bD_get dl_quiet 12 rfl rfl) ?_
  refine rw_callV (As := [.int (xs (k + 1))]) (rest := [.int v]) hx hb (hml.trans hl.1.symm) hts cf_all hown hK hws hcs (show CO l room_1 RL 98 (0, 10, 2, mD C_Mo_quiet) from ⟨yX10_quiet, cX10_quiet, 3, some .int, ({ frames := 8, cells := 0, slots := 0, locals := 208 } : Room), (RX10, TX10, 91), ct_Mo_quiet l, ⟨rfl, rfl, by decide, by decide⟩, yf_Mo_quiet.1, yf_Mo_quiet.2.1, tw9 (i := 16) rfl rfl, yd_Mo_quiet, yf_Mo_quiet.2.2.1, rfl, yf_Mo_quiet.2.2.2⟩) (by decide) rfl e2 (Nat.le_of_ble_eq_true rfl) (bD_get dl_quiet 13 rfl rfl) (fun H2 locs2 hws => ?_)
  refine lv_icmp_eq hx hb (bD_get dl_quiet 14 rfl rfl) (tgt := 1555) rfl (fun _ => ?_) (fun q => absurd rfl q)
  exact kk _ _ _ _ _ _ _ _ hI2 hws
def El_settled : List Ent := [(.aload_n 1, 1, 0, 0), (.invokevirtual 99, 3, 0, 0), (.aload_n 2, 1, 0, 0), (.invokevirtual 102, 3, 0, 0), (.if_icmp .eq 690, 3, 0, 0), (.iconst 0, 1, 0, 0), (.ireturn, 1, 0, 0)]
set_option maxRecDepth 20000 in
theorem dl_settled : bD code El_settled 857 = true := by decide +kernel
set_option maxRecDepth 20000 in
theorem lc_settled (hC : LC p s m args c D cy base b L xs) (h0 : ∀ q, q < base → H0[q]? = s.heap[q]?) (hI : INV P i0 l0 s0 r0 p0) (hws : WS D cy base b H0 (i0, l0, Rp s0 r0 p0) H locs) (hl : lv_has ls 7 (LL base b k)) (hk : k + 6 ≤ L) (hcs : cells ≤ room_1.cells ∧ slots ≤ room_1.slots)
    (kk : ∀ (H' : Heap) (locs' : List Loc) (P' : PL) (i' : Nat → Nat → Int32) (l' : Nat → Nat → Int64) (s' r' p' : Nat), INV P' i' l' s' r' p' → WS D cy base b H0 (i', l', Rp s' r' p') H' locs' → W p l e room_1 s m args below meth c H' locs' cells slots Q (F0 m 1555 ls [])) :
    W p l e room_1 s m args below meth c H locs cells slots Q (F0 m 857 ls []) := by
  obtain ⟨hx, hb, hml, hts, hown, hK, hbb, hX, hL⟩ := id hC
  obtain ⟨v, j1, l1, j2, l2, e1, e2, hI2⟩ := settled_pr hI 
  refine lv_aload_n hx hb (bD_get dl_settled 0 rfl rfl) rfl (lv_at hl 3 rfl) ?_
  refine rw_callV (As := []) (rest := []) hx hb (hml.trans hl.1.symm) hts cf_all hown hK hws hcs (show CO l room_1 RL 99 (0, 9, 1, mD C_GT_settled) from ⟨yX9_settled, cX9_settled, 2, some .int, ({ frames := 7, cells := 0, slots := 0, locals := 185 } : Room), (RX9, TX9, 14), ct_GT_settled l, ⟨rfl, rfl, by decide, by decide⟩, yf_GT_settled.1, yf_GT_settled.2.1, tw5 (i := 62) rfl rfl, yd_GT_settled, yf_GT_settled.2.2.1, rfl, yf_GT_settled.2.2.2⟩) (by decide) rfl e1 (by decide) (bD_get dl_settled 1 rfl rfl) (fun H1 locs1 hws => ?_)
  refine lv_aload_n hx hb (bD_get dl_settled 2 rfl rfl) rfl (lv_at hl 2 rfl) ?_
  refine rw_callV (As := []) (rest := [.int v]) hx hb (hml.trans hl.1.symm) hts cf_all hown hK hws hcs (show CO l room_1 RL 102 (0, 10, 1, mD C_Mo_settled) from ⟨yX10_settled, cX10_settled, 2, some .int, ({ frames := 8, cells := 0, slots := 0, locals := 208 } : Room), (RX10, TX10, 91), ct_Mo_settled l, ⟨rfl, rfl, by decide, by decide⟩, yf_Mo_settled.1, yf_Mo_settled.2.1, tw9 (i := 24) rfl rfl, yd_Mo_settled, yf_Mo_settled.2.2.1, rfl, yf_Mo_settled.2.2.2⟩) (by decide) rfl e2 (Nat.le_of_ble_eq_true rfl) (bD_get dl_settled 3 rfl rfl) (fun H2 locs2 hws => ?_)
  refine lv_icmp_eq hx hb (bD_get dl_settled 4 rfl rfl) (tgt := 1555) rfl (fun _ => ?_) (fun q => absurd rfl q)
  exact kk _ _ _ _ _ _ _ _ hI2 hws
def El_way : List Ent := [(.aload_n 1, 1, 0, 0), (.aload_n 0, 1, 0, 0), (.iload 4, 2, 0, 0), (.iconst 1, 1, 0, 0), (.iadd, 1, 0, 0), (.iaload, 1, 0, 0), (.aload_n 0, 1, 0, 0), (.iload 4, 2, 0, 0), (.iconst 2, 1, 0, 0), (.iadd, 1, 0, 0), (.iaload, 1, 0, 0), (.invokevirtual 103, 3, 0, 0), (.aload_n 2, 1, 0, 0), (.aload_n 0, 1, 0, 0), (.iload 4, 2, 0, 0), (.iconst 1, 1, 0, 0), (.iadd, 1, 0, 0), (.iaload, 1, 0, 0), (.aload_n 0, 1, 0, 0), (.iload 4, 2, 0, 0), (.iconst 2, 1, 0, 0), (.iadd, 1, 0, 0), (.iaload, 1, 0, 0), (.invokevirtual 106, 3, 0, 0), (.if_icmp .eq 653, 3, 0, 0), (.iconst 0, 1, 0, 0), (.ireturn, 1, 0, 0)]
set_option maxRecDepth 20000 in
theorem dl_way : bD code El_way 870 = true := by decide +kernel
set_option maxRecDepth 20000 in
theorem lc_way (hC : LC p s m args c D cy base b L xs) (h0 : ∀ q, q < base → H0[q]? = s.heap[q]?) (hI : INV P i0 l0 s0 r0 p0) (hws : WS D cy base b H0 (i0, l0, Rp s0 r0 p0) H locs) (hl : lv_has ls 7 (LL base b k)) (hk : k + 6 ≤ L) (hcs : cells ≤ room_1.cells ∧ slots ≤ room_1.slots)
    (kk : ∀ (H' : Heap) (locs' : List Loc) (P' : PL) (i' : Nat → Nat → Int32) (l' : Nat → Nat → Int64) (s' r' p' : Nat), INV P' i' l' s' r' p' → WS D cy base b H0 (i', l', Rp s' r' p') H' locs' → W p l e room_1 s m args below meth c H' locs' cells slots Q (F0 m 1555 ls [])) :
    W p l e room_1 s m args below meth c H locs cells slots Q (F0 m 870 ls []) := by
  obtain ⟨hx, hb, hml, hts, hown, hK, hbb, hX, hL⟩ := id hC
  obtain ⟨v, j1, l1, j2, l2, e1, e2, hI2⟩ := way_pr hI (xs (k + 1)) (xs (k + 2))
  refine lv_aload_n hx hb (bD_get dl_way 0 rfl rfl) rfl (lv_at hl 3 rfl) ?_
  refine ld5 (j := 1) hC h0 hws hl (by omega) (by decide) (bD_get dl_way 1 rfl rfl) (bD_get dl_way 2 rfl rfl) (bD_get dl_way 3 rfl rfl) (bD_get dl_way 4 rfl rfl) (bD_get dl_way 5 rfl rfl) ?_
  refine ld5 (j := 2) hC h0 hws hl (by omega) (by decide) (bD_get dl_way 6 rfl rfl) (bD_get dl_way 7 rfl rfl) (bD_get dl_way 8 rfl rfl) (bD_get dl_way 9 rfl rfl) (bD_get dl_way 10 rfl rfl) ?_
  refine rw_callV (As := [.int (xs (k + 1)), .int (xs (k + 2))]) (rest := []) hx hb (hml.trans hl.1.symm) hts cf_all hown hK hws hcs (show CO l room_1 RL 103 (0, 9, 3, mD C_GT_way) from ⟨yX9_way, cX9_way, 6, some .int, ({ frames := 5, cells := 0, slots := 0, locals := 132 } : Room), (RX9, TX9, 14), ct_GT_way l, ⟨rfl, rfl, by decide, by decide⟩, yf_GT_way.1, yf_GT_way.2.1, tw5 (i := 72) rfl rfl, yd_GT_way, yf_GT_way.2.2.1, rfl, yf_GT_way.2.2.2⟩) (by decide) rfl e1 (by decide) (bD_get dl_way 11 rfl rfl) (fun H1 locs1 hws => ?_)
  refine lv_aload_n hx hb (bD_get dl_way 12 rfl rfl) rfl (lv_at hl 2 rfl) ?_
  refine ld5 (j := 1) hC h0 hws hl (by omega) (by decide) (bD_get dl_way 13 rfl rfl) (bD_get dl_way 14 rfl rfl) (bD_get dl_way 15 rfl rfl) (bD_get dl_way 16 rfl rfl) (bD_get dl_way 17 rfl rfl) ?_
  refine ld5 (j := 2) hC h0 hws hl (by omega) (by decide) (bD_get dl_way 18 rfl rfl) (bD_get dl_way 19 rfl rfl) (bD_get dl_way 20 rfl rfl) (bD_get dl_way 21 rfl rfl) (bD_get dl_way 22 rfl rfl) ?_
  refine rw_callV (As := [.int (xs (k + 1)), .int (xs (k + 2))]) (rest := [.int v]) hx hb (hml.trans hl.1.symm) hts cf_all hown hK hws hcs (show CO l room_1 RL 106 (0, 10, 3, mD C_Mo_way) from ⟨yX10_way, cX10_way, 5, some .int, ({ frames := 4, cells := 0, slots := 0, locals := 105 } : Room), (RX10, TX10, 91), ct_Mo_way l, ⟨rfl, rfl, by decide, by decide⟩, yf_Mo_way.1, yf_Mo_way.2.1, tw9 (i := 32) rfl rfl, yd_Mo_way, yf_Mo_way.2.2.1, rfl, yf_Mo_way.2.2.2⟩) (by decide) rfl e2 (Nat.le_of_ble_eq_true rfl) (bD_get dl_way 23 rfl rfl) (fun H2 locs2 hws => ?_)
  refine lv_icmp_eq hx hb (bD_get dl_way 24 rfl rfl) (tgt := 1555) rfl (fun _ => ?_) (fun q => absurd rfl q)
  exact kk _ _ _ _ _ _ _ _ hI2 hws
def El_best : List Ent := [(.aload_n 1, 1, 0, 0), (.aload_n 0, 1, 0, 0), (.iload 4, 2, 0, 0), (.iconst 1, 1, 0, 0), (.iadd, 1, 0, 0), (.iaload, 1, 0, 0), (.invokevirtual 107, 3, 0, 0), (.aload_n 2, 1, 0, 0), (.aload_n 0, 1, 0, 0), (.iload 4, 2, 0, 0), (.iconst 1, 1, 0, 0), (.iadd, 1, 0, 0), (.iaload, 1, 0, 0), (.invokevirtual 110, 3, 0, 0), (.if_icmp .eq 628, 3, 0, 0), (.iconst 0, 1, 0, 0), (.ireturn, 1, 0, 0)]
set_option maxRecDepth 20000 in
theorem dl_best : bD code El_best 907 = true := by decide +kernel
set_option maxRecDepth 20000 in
theorem lc_best (hC : LC p s m args c D cy base b L xs) (h0 : ∀ q, q < base → H0[q]? = s.heap[q]?) (hI : INV P i0 l0 s0 r0 p0) (hws : WS D cy base b H0 (i0, l0, Rp s0 r0 p0) H locs) (hl : lv_has ls 7 (LL base b k)) (hk : k + 6 ≤ L) (hcs : cells ≤ room_1.cells ∧ slots ≤ room_1.slots)
    (kk : ∀ (H' : Heap) (locs' : List Loc) (P' : PL) (i' : Nat → Nat → Int32) (l' : Nat → Nat → Int64) (s' r' p' : Nat), INV P' i' l' s' r' p' → WS D cy base b H0 (i', l', Rp s' r' p') H' locs' → W p l e room_1 s m args below meth c H' locs' cells slots Q (F0 m 1555 ls [])) :
    W p l e room_1 s m args below meth c H locs cells slots Q (F0 m 907 ls []) := by
  obtain ⟨hx, hb, hml, hts, hown, hK, hbb, hX, hL⟩ := id hC
  obtain ⟨v, j1, l1, j2, l2, e1, e2, hI2⟩ := best_pr hI (xs (k + 1))
  refine lv_aload_n hx hb (bD_get dl_best 0 rfl rfl) rfl (lv_at hl 3 rfl) ?_
  refine ld5 (j := 1) hC h0 hws hl (by omega) (by decide) (bD_get dl_best 1 rfl rfl) (bD_get dl_best 2 rfl rfl) (bD_get dl_best 3 rfl rfl) (bD_get dl_best 4 rfl rfl) (bD_get dl_best 5 rfl rfl) ?_
  refine rw_callV (As := [.int (xs (k + 1))]) (rest := []) hx hb (hml.trans hl.1.symm) hts cf_all hown hK hws hcs (show CO l room_1 RL 107 (0, 9, 2, mD C_GT_best) from ⟨yX9_best, cX9_best, 7, some .int, ({ frames := 3, cells := 0, slots := 0, locals := 99 } : Room), (RX9, TX9, 14), ct_GT_best l, ⟨rfl, rfl, by decide, by decide⟩, yf_GT_best.1, yf_GT_best.2.1, tw5 (i := 76) rfl rfl, yd_GT_best, yf_GT_best.2.2.1, rfl, yf_GT_best.2.2.2⟩) (by decide) rfl e1 (by decide) (bD_get dl_best 6 rfl rfl) (fun H1 locs1 hws => ?_)
  refine lv_aload_n hx hb (bD_get dl_best 7 rfl rfl) rfl (lv_at hl 2 rfl) ?_
  refine ld5 (j := 1) hC h0 hws hl (by omega) (by decide) (bD_get dl_best 8 rfl rfl) (bD_get dl_best 9 rfl rfl) (bD_get dl_best 10 rfl rfl) (bD_get dl_best 11 rfl rfl) (bD_get dl_best 12 rfl rfl) ?_
  refine rw_callV (As := [.int (xs (k + 1))]) (rest := [.int v]) hx hb (hml.trans hl.1.symm) hts cf_all hown hK hws hcs (show CO l room_1 RL 110 (0, 10, 2, mD C_Mo_best) from ⟨yX10_best, cX10_best, 7, some .int, ({ frames := 2, cells := 0, slots := 0, locals := 47 } : Room), (RX10, TX10, 91), ct_Mo_best l, ⟨rfl, rfl, by decide, by decide⟩, yf_Mo_best.1, yf_Mo_best.2.1, tw9 (i := 36) rfl rfl, yd_Mo_best, yf_Mo_best.2.2.1, rfl, yf_Mo_best.2.2.2⟩) (by decide) rfl e2 (Nat.le_of_ble_eq_true rfl) (bD_get dl_best 13 rfl rfl) (fun H2 locs2 hws => ?_)
  refine lv_icmp_eq hx hb (bD_get dl_best 14 rfl rfl) (tgt := 1555) rfl (fun _ => ?_) (fun q => absurd rfl q)
  exact kk _ _ _ _ _ _ _ _ hI2 hws
def El_least : List Ent := [(.aload_n 1, 1, 0, 0), (.aload_n 0, 1, 0, 0), (.iload 4, 2, 0, 0), (.iconst 1, 1, 0, 0), (.iadd, 1, 0, 0), (.iaload, 1, 0, 0), (.aload_n 0, 1, 0, 0), (.iload 4, 2, 0, 0), (.iconst 2, 1, 0, 0), (.iadd, 1, 0, 0), (.iaload, 1, 0, 0), (.invokevirtual 111, 3, 0, 0), (.aload_n 2, 1, 0, 0), (.aload_n 0, 1, 0, 0), (.iload 4, 2, 0, 0), (.iconst 1, 1, 0, 0), (.iadd, 1, 0, 0), (.iaload, 1, 0, 0), (.aload_n 0, 1, 0, 0), (.iload 4, 2, 0, 0), (.iconst 2, 1, 0, 0), (.iadd, 1, 0, 0), (.iaload, 1, 0, 0), (.invokevirtual 114, 3, 0, 0), (.if_icmp .eq 591, 3, 0, 0), (.iconst 0, 1, 0, 0), (.ireturn, 1, 0, 0)]
set_option maxRecDepth 20000 in
theorem dl_least : bD code El_least 932 = true := by decide +kernel
set_option maxRecDepth 20000 in
theorem lc_least (hC : LC p s m args c D cy base b L xs) (h0 : ∀ q, q < base → H0[q]? = s.heap[q]?) (hI : INV P i0 l0 s0 r0 p0) (hws : WS D cy base b H0 (i0, l0, Rp s0 r0 p0) H locs) (hl : lv_has ls 7 (LL base b k)) (hk : k + 6 ≤ L) (hcs : cells ≤ room_1.cells ∧ slots ≤ room_1.slots)
    (kk : ∀ (H' : Heap) (locs' : List Loc) (P' : PL) (i' : Nat → Nat → Int32) (l' : Nat → Nat → Int64) (s' r' p' : Nat), INV P' i' l' s' r' p' → WS D cy base b H0 (i', l', Rp s' r' p') H' locs' → W p l e room_1 s m args below meth c H' locs' cells slots Q (F0 m 1555 ls [])) :
    W p l e room_1 s m args below meth c H locs cells slots Q (F0 m 932 ls []) := by
  obtain ⟨hx, hb, hml, hts, hown, hK, hbb, hX, hL⟩ := id hC
  obtain ⟨v, j1, l1, j2, l2, e1, e2, hI2⟩ := least_pr hI (xs (k + 1)) (xs (k + 2))
  refine lv_aload_n hx hb (bD_get dl_least 0 rfl rfl) rfl (lv_at hl 3 rfl) ?_
  refine ld5 (j := 1) hC h0 hws hl (by omega) (by decide) (bD_get dl_least 1 rfl rfl) (bD_get dl_least 2 rfl rfl) (bD_get dl_least 3 rfl rfl) (bD_get dl_least 4 rfl rfl) (bD_get dl_least 5 rfl rfl) ?_
  refine ld5 (j := 2) hC h0 hws hl (by omega) (by decide) (bD_get dl_least 6 rfl rfl) (bD_get dl_least 7 rfl rfl) (bD_get dl_least 8 rfl rfl) (bD_get dl_least 9 rfl rfl) (bD_get dl_least 10 rfl rfl) ?_
  refine rw_callV (As := [.int (xs (k + 1)), .int (xs (k + 2))]) (rest := []) hx hb (hml.trans hl.1.symm) hts cf_all hown hK hws hcs (show CO l room_1 RL 111 (0, 9, 3, mD C_GT_least) from ⟨yX9_least, cX9_least, 9, some .int, ({ frames := 1, cells := 0, slots := 0, locals := 25 } : Room), (RX9, TX9, 14), ct_GT_least l, ⟨rfl, rfl, by decide, by decide⟩, yf_GT_least.1, yf_GT_least.2.1, tw5 (i := 81) rfl rfl, yd_GT_least, yf_GT_least.2.2.1, rfl, yf_GT_least.2.2.2⟩) (by decide) rfl e1 (by decide) (bD_get dl_least 11 rfl rfl) (fun H1 locs1 hws => ?_)
  refine lv_aload_n hx hb (bD_get dl_least 12 rfl rfl) rfl (lv_at hl 2 rfl) ?_
  refine ld5 (j := 1) hC h0 hws hl (by omega) (by decide) (bD_get dl_least 13 rfl rfl) (bD_get dl_least 14 rfl rfl) (bD_get dl_least 15 rfl rfl) (bD_get dl_least 16 rfl rfl) (bD_get dl_least 17 rfl rfl) ?_
  refine ld5 (j := 2) hC h0 hws hl (by omega) (by decide) (bD_get dl_least 18 rfl rfl) (bD_get dl_least 19 rfl rfl) (bD_get dl_least 20 rfl rfl) (bD_get dl_least 21 rfl rfl) (bD_get dl_least 22 rfl rfl) ?_
  refine rw_callV (As := [.int (xs (k + 1)), .int (xs (k + 2))]) (rest := [.int v]) hx hb (hml.trans hl.1.symm) hts cf_all hown hK hws hcs (show CO l room_1 RL 114 (0, 10, 3, mD C_Mo_least) from ⟨yX10_least, cX10_least, 7, some .int, ({ frames := 2, cells := 0, slots := 0, locals := 47 } : Room), (RX10, TX10, 91), ct_Mo_least l, ⟨rfl, rfl, by decide, by decide⟩, yf_Mo_least.1, yf_Mo_least.2.1, tw9 (i := 40) rfl rfl, yd_Mo_least, yf_Mo_least.2.2.1, rfl, yf_Mo_least.2.2.2⟩) (by decide) rfl e2 (Nat.le_of_ble_eq_true rfl) (bD_get dl_least 23 rfl rfl) (fun H2 locs2 hws => ?_)
  refine lv_icmp_eq hx hb (bD_get dl_least 24 rfl rfl) (tgt := 1555) rfl (fun _ => ?_) (fun q => absurd rfl q)
  exact kk _ _ _ _ _ _ _ _ hI2 hws
def El_needed : List Ent := [(.aload_n 1, 1, 0, 0), (.aload_n 0, 1, 0, 0), (.iload 4, 2, 0, 0), (.iconst 1, 1, 0, 0), (.iadd, 1, 0, 0), (.iaload, 1, 0, 0), (.invokevirtual 115, 3, 0, 0), (.aload_n 2, 1, 0, 0), (.aload_n 0, 1, 0, 0), (.iload 4, 2, 0, 0), (.iconst 1, 1, 0, 0), (.iadd, 1, 0, 0), (.iaload, 1, 0, 0), (.invokevirtual 118, 3, 0, 0), (.if_icmp .eq 566, 3, 0, 0), (.iconst 0, 1, 0, 0), (.ireturn, 1, 0, 0)]
set_option maxRecDepth 20000 in
theorem dl_needed : bD code El_needed 969 = true := by decide +kernel
set_option maxRecDepth 20000 in
theorem lc_needed (hC : LC p s m args c D cy base b L xs) (h0 : ∀ q, q < base → H0[q]? = s.heap[q]?) (hI : INV P i0 l0 s0 r0 p0) (hws : WS D cy base b H0 (i0, l0, Rp s0 r0 p0) H locs) (hl : lv_has ls 7 (LL base b k)) (hk : k + 6 ≤ L) (hcs : cells ≤ room_1.cells ∧ slots ≤ room_1.slots)
    (kk : ∀ (H' : Heap) (locs' : List Loc) (P' : PL) (i' : Nat → Nat → Int32) (l' : Nat → Nat → Int64) (s' r' p' : Nat), INV P' i' l' s' r' p' → WS D cy base b H0 (i', l', Rp s' r' p') H' locs' → W p l e room_1 s m args below meth c H' locs' cells slots Q (F0 m 1555 ls [])) :
    W p l e room_1 s m args below meth c H locs cells slots Q (F0 m 969 ls []) := by
  obtain ⟨hx, hb, hml, hts, hown, hK, hbb, hX, hL⟩ := id hC
  obtain ⟨v, j1, l1, j2, l2, e1, e2, hI2⟩ := needed_pr hI (xs (k + 1))
  refine lv_aload_n hx hb (bD_get dl_needed 0 rfl rfl) rfl (lv_at hl 3 rfl) ?_
  refine ld5 (j := 1) hC h0 hws hl (by omega) (by decide) (bD_get dl_needed 1 rfl rfl) (bD_get dl_needed 2 rfl rfl) (bD_get dl_needed 3 rfl rfl) (bD_get dl_needed 4 rfl rfl) (bD_get dl_needed 5 rfl rfl) ?_
  refine rw_callV (As := [.int (xs (k + 1))]) (rest := []) hx hb (hml.trans hl.1.symm) hts cf_all hown hK hws hcs (show CO l room_1 RL 115 (0, 9, 2, mD C_GT_needed) from ⟨yX9_needed, cX9_needed, 9, some .int, ({ frames := 1, cells := 0, slots := 0, locals := 25 } : Room), (RX9, TX9, 14), ct_GT_needed l, ⟨rfl, rfl, by decide, by decide⟩, yf_GT_needed.1, yf_GT_needed.2.1, tw5 (i := 93) rfl rfl, yd_GT_needed, yf_GT_needed.2.2.1, rfl, yf_GT_needed.2.2.2⟩) (by decide) rfl e1 (by decide) (bD_get dl_needed 6 rfl rfl) (fun H1 locs1 hws => ?_)
  refine lv_aload_n hx hb (bD_get dl_needed 7 rfl rfl) rfl (lv_at hl 2 rfl) ?_
  refine ld5 (j := 1) hC h0 hws hl (by omega) (by decide) (bD_get dl_needed 8 rfl rfl) (bD_get dl_needed 9 rfl rfl) (bD_get dl_needed 10 rfl rfl) (bD_get dl_needed 11 rfl rfl) (bD_get dl_needed 12 rfl rfl) ?_
  refine rw_callV (As := [.int (xs (k + 1))]) (rest := [.int v]) hx hb (hml.trans hl.1.symm) hts cf_all hown hK hws hcs (show CO l room_1 RL 118 (0, 10, 2, mD C_Mo_needed) from ⟨yX10_needed, cX10_needed, 5, some .int, ({ frames := 3, cells := 0, slots := 0, locals := 71 } : Room), (RX10, TX10, 91), ct_Mo_needed l, ⟨rfl, rfl, by decide, by decide⟩, yf_Mo_needed.1, yf_Mo_needed.2.1, tw9 (i := 48) rfl rfl, yd_Mo_needed, yf_Mo_needed.2.2.1, rfl, yf_Mo_needed.2.2.2⟩) (by decide) rfl e2 (Nat.le_of_ble_eq_true rfl) (bD_get dl_needed 13 rfl rfl) (fun H2 locs2 hws => ?_)
  refine lv_icmp_eq hx hb (bD_get dl_needed 14 rfl rfl) (tgt := 1555) rfl (fun _ => ?_) (fun q => absurd rfl q)
  exact kk _ _ _ _ _ _ _ _ hI2 hws
def El_wide : List Ent := [(.aload_n 1, 1, 0, 0), (.aload_n 0, 1, 0, 0), (.iload 4, 2, 0, 0), (.iconst 1, 1, 0, 0), (.iadd, 1, 0, 0), (.iaload, 1, 0, 0), (.invokevirtual 119, 3, 0, 0), (.aload_n 2, 1, 0, 0), (.aload_n 0, 1, 0, 0), (.iload 4, 2, 0, 0), (.iconst 1, 1, 0, 0), (.iadd, 1, 0, 0), (.iaload, 1, 0, 0), (.invokevirtual 122, 3, 0, 0), (.if_icmp .eq 541, 3, 0, 0), (.iconst 0, 1, 0, 0), (.ireturn, 1, 0, 0)]
set_option maxRecDepth 20000 in
theorem dl_wide : bD code El_wide 994 = true := by decide +kernel
set_option maxRecDepth 20000 in
theorem lc_wide (hC : LC p s m args c D cy base b L xs) (h0 : ∀ q, q < base → H0[q]? = s.heap[q]?) (hI : INV P i0 l0 s0 r0 p0) (hws : WS D cy base b H0 (i0, l0, Rp s0 r0 p0) H locs) (hl : lv_has ls 7 (LL base b k)) (hk : k + 6 ≤ L) (hcs : cells ≤ room_1.cells ∧ slots ≤ room_1.slots)
    (kk : ∀ (H' : Heap) (locs' : List Loc) (P' : PL) (i' : Nat → Nat → Int32) (l' : Nat → Nat → Int64) (s' r' p' : Nat), INV P' i' l' s' r' p' → WS D cy base b H0 (i', l', Rp s' r' p') H' locs' → W p l e room_1 s m args below meth c H' locs' cells slots Q (F0 m 1555 ls [])) :
    W p l e room_1 s m args below meth c H locs cells slots Q (F0 m 994 ls []) := by
  obtain ⟨hx, hb, hml, hts, hown, hK, hbb, hX, hL⟩ := id hC
  obtain ⟨v, j1, l1, j2, l2, e1, e2, hI2⟩ := wide_pr hI (xs (k + 1))
  refine lv_aload_n hx hb (bD_get dl_wide 0 rfl rfl) rfl (lv_at hl 3 rfl) ?_
  refine ld5 (j := 1) hC h0 hws hl (by omega) (by decide) (bD_get dl_wide 1 rfl rfl) (bD_get dl_wide 2 rfl rfl) (bD_get dl_wide 3 rfl rfl) (bD_get dl_wide 4 rfl rfl) (bD_get dl_wide 5 rfl rfl) ?_
  refine rw_callV (As := [.int (xs (k + 1))]) (rest := []) hx hb (hml.trans hl.1.symm) hts cf_all hown hK hws hcs (show CO l room_1 RL 119 (0, 9, 2, mD C_GT_wide) from ⟨yX9_wide, cX9_wide, 5, some .int, ({ frames := 4, cells := 0, slots := 0, locals := 122 } : Room), (RX9, TX9, 14), ct_GT_wide l, ⟨rfl, rfl, by decide, by decide⟩, yf_GT_wide.1, yf_GT_wide.2.1, tw5 (i := 98) rfl rfl, yd_GT_wide, yf_GT_wide.2.2.1, rfl, yf_GT_wide.2.2.2⟩) (by decide) rfl e1 (by decide) (bD_get dl_wide 6 rfl rfl) (fun H1 locs1 hws => ?_)
  refine lv_aload_n hx hb (bD_get dl_wide 7 rfl rfl) rfl (lv_at hl 2 rfl) ?_
  refine ld5 (j := 1) hC h0 hws hl (by omega) (by decide) (bD_get dl_wide 8 rfl rfl) (bD_get dl_wide 9 rfl rfl) (bD_get dl_wide 10 rfl rfl) (bD_get dl_wide 11 rfl rfl) (bD_get dl_wide 12 rfl rfl) ?_
  refine rw_callV (As := [.int (xs (k + 1))]) (rest := [.int v]) hx hb (hml.trans hl.1.symm) hts cf_all hown hK hws hcs (show CO l room_1 RL 122 (0, 10, 2, mD C_Mo_wide) from ⟨yX10_wide, cX10_wide, 4, some .int, ({ frames := 2, cells := 0, slots := 0, locals := 47 } : Room), (RX10, TX10, 91), ct_Mo_wide l, ⟨rfl, rfl, by decide, by decide⟩, yf_Mo_wide.1, yf_Mo_wide.2.1, tw9 (i := 56) rfl rfl, yd_Mo_wide, yf_Mo_wide.2.2.1, rfl, yf_Mo_wide.2.2.2⟩) (by decide) rfl e2 (Nat.le_of_ble_eq_true rfl) (bD_get dl_wide 13 rfl rfl) (fun H2 locs2 hws => ?_)
  refine lv_icmp_eq hx hb (bD_get dl_wide 14 rfl rfl) (tgt := 1555) rfl (fun _ => ?_) (fun q => absurd rfl q)
  exact kk _ _ _ _ _ _ _ _ hI2 hws
def El_used : List Ent := [(.aload_n 1, 1, 0, 0), (.aload_n 0, 1, 0, 0), (.iload 4, 2, 0, 0), (.iconst 1, 1, 0, 0), (.iadd, 1, 0, 0), (.iaload, 1, 0, 0), (.invokevirtual 123, 3, 0, 0), (.aload_n 2, 1, 0, 0), (.aload_n 0, 1, 0, 0), (.iload 4, 2, 0, 0), (.iconst 1, 1, 0, 0), (.iadd, 1, 0, 0), (.iaload, 1, 0, 0), (.invokevirtual 126, 3, 0, 0), (.if_icmp .eq 516, 3, 0, 0), (.iconst 0, 1, 0, 0), (.ireturn, 1, 0, 0)]
set_option maxRecDepth 20000 in
theorem dl_used : bD code El_used 1019 = true := by decide +kernel
set_option maxRecDepth 20000 in
theorem lc_used (hC : LC p s m args c D cy base b L xs) (h0 : ∀ q, q < base → H0[q]? = s.heap[q]?) (hI : INV P i0 l0 s0 r0 p0) (hws : WS D cy base b H0 (i0, l0, Rp s0 r0 p0) H locs) (hl : lv_has ls 7 (LL base b k)) (hk : k + 6 ≤ L) (hcs : cells ≤ room_1.cells ∧ slots ≤ room_1.slots)
    (kk : ∀ (H' : Heap) (locs' : List Loc) (P' : PL) (i' : Nat → Nat → Int32) (l' : Nat → Nat → Int64) (s' r' p' : Nat), INV P' i' l' s' r' p' → WS D cy base b H0 (i', l', Rp s' r' p') H' locs' → W p l e room_1 s m args below meth c H' locs' cells slots Q (F0 m 1555 ls [])) :
    W p l e room_1 s m args below meth c H locs cells slots Q (F0 m 1019 ls []) := by
  obtain ⟨hx, hb, hml, hts, hown, hK, hbb, hX, hL⟩ := id hC
  obtain ⟨v, j1, l1, j2, l2, e1, e2, hI2⟩ := used_pr hI (xs (k + 1))
  refine lv_aload_n hx hb (bD_get dl_used 0 rfl rfl) rfl (lv_at hl 3 rfl) ?_
  refine ld5 (j := 1) hC h0 hws hl (by omega) (by decide) (bD_get dl_used 1 rfl rfl) (bD_get dl_used 2 rfl rfl) (bD_get dl_used 3 rfl rfl) (bD_get dl_used 4 rfl rfl) (bD_get dl_used 5 rfl rfl) ?_
  refine rw_callV (As := [.int (xs (k + 1))]) (rest := []) hx hb (hml.trans hl.1.symm) hts cf_all hown hK hws hcs (show CO l room_1 RL 123 (0, 9, 2, mD C_GT_used) from ⟨yX9_used, cX9_used, 2, some .int, ({ frames := 1, cells := 0, slots := 0, locals := 23 } : Room), (RX9, TX9, 14), ct_GT_used l, ⟨rfl, rfl, by decide, by decide⟩, yf_GT_used.1, yf_GT_used.2.1, tw5 (i := 105) rfl rfl, yd_GT_used, yf_GT_used.2.2.1, rfl, yf_GT_used.2.2.2⟩) (by decide) rfl e1 (by decide) (bD_get dl_used 6 rfl rfl) (fun H1 locs1 hws => ?_)
  refine lv_aload_n hx hb (bD_get dl_used 7 rfl rfl) rfl (lv_at hl 2 rfl) ?_
  refine ld5 (j := 1) hC h0 hws hl (by omega) (by decide) (bD_get dl_used 8 rfl rfl) (bD_get dl_used 9 rfl rfl) (bD_get dl_used 10 rfl rfl) (bD_get dl_used 11 rfl rfl) (bD_get dl_used 12 rfl rfl) ?_
  refine rw_callV (As := [.int (xs (k + 1))]) (rest := [.int v]) hx hb (hml.trans hl.1.symm) hts cf_all hown hK hws hcs (show CO l room_1 RL 126 (0, 10, 2, mD C_Mo_used) from ⟨yX10_used, cX10_used, 2, some .int, ({ frames := 2, cells := 0, slots := 0, locals := 49 } : Room), (RX10, TX10, 91), ct_Mo_used l, ⟨rfl, rfl, by decide, by decide⟩, yf_Mo_used.1, yf_Mo_used.2.1, tw9 (i := 60) rfl rfl, yd_Mo_used, yf_Mo_used.2.2.1, rfl, yf_Mo_used.2.2.2⟩) (by decide) rfl e2 (Nat.le_of_ble_eq_true rfl) (bD_get dl_used 13 rfl rfl) (fun H2 locs2 hws => ?_)
  refine lv_icmp_eq hx hb (bD_get dl_used 14 rfl rfl) (tgt := 1555) rfl (fun _ => ?_) (fun q => absurd rfl q)
  exact kk _ _ _ _ _ _ _ _ hI2 hws
def El_rests : List Ent := [(.aload_n 1, 1, 0, 0), (.aload_n 0, 1, 0, 0), (.iload 4, 2, 0, 0), (.iconst 1, 1, 0, 0), (.iadd, 1, 0, 0), (.iaload, 1, 0, 0), (.aload_n 0, 1, 0, 0), (.iload 4, 2, 0, 0), (.iconst 2, 1, 0, 0), (.iadd, 1, 0, 0), (.iaload, 1, 0, 0), (.aload_n 0, 1, 0, 0), (.iload 4, 2, 0, 0), (.iconst 3, 1, 0, 0), (.iadd, 1, 0, 0), (.iaload, 1, 0, 0), (.invokevirtual 127, 3, 0, 0), (.aload_n 2, 1, 0, 0), (.aload_n 0, 1, 0, 0), (.iload 4, 2, 0, 0), (.iconst 1, 1, 0, 0), (.iadd, 1, 0, 0), (.iaload, 1, 0, 0), (.aload_n 0, 1, 0, 0), (.iload 4, 2, 0, 0), (.iconst 2, 1, 0, 0), (.iadd, 1, 0, 0), (.iaload, 1, 0, 0), (.aload_n 0, 1, 0, 0), (.iload 4, 2, 0, 0), (.iconst 3, 1, 0, 0), (.iadd, 1, 0, 0), (.iaload, 1, 0, 0), (.invokevirtual 130, 3, 0, 0), (.if_icmp .eq 467, 3, 0, 0), (.iconst 0, 1, 0, 0), (.ireturn, 1, 0, 0)]
set_option maxRecDepth 20000 in
theorem dl_rests : bD code El_rests 1044 = true := by decide +kernel
set_option maxRecDepth 20000 in
theorem lc_rests (hC : LC p s m args c D cy base b L xs) (h0 : ∀ q, q < base → H0[q]? = s.heap[q]?) (hI : INV P i0 l0 s0 r0 p0) (hws : WS D cy base b H0 (i0, l0, Rp s0 r0 p0) H locs) (hl : lv_has ls 7 (LL base b k)) (hk : k + 6 ≤ L) (hcs : cells ≤ room_1.cells ∧ slots ≤ room_1.slots)
    (kk : ∀ (H' : Heap) (locs' : List Loc) (P' : PL) (i' : Nat → Nat → Int32) (l' : Nat → Nat → Int64) (s' r' p' : Nat), INV P' i' l' s' r' p' → WS D cy base b H0 (i', l', Rp s' r' p') H' locs' → W p l e room_1 s m args below meth c H' locs' cells slots Q (F0 m 1555 ls [])) :
    W p l e room_1 s m args below meth c H locs cells slots Q (F0 m 1044 ls []) := by
  obtain ⟨hx, hb, hml, hts, hown, hK, hbb, hX, hL⟩ := id hC
  obtain ⟨v, j1, l1, j2, l2, e1, e2, hI2⟩ := rests_pr hI (xs (k + 1)) (xs (k + 2)) (xs (k + 3))
  refine lv_aload_n hx hb (bD_get dl_rests 0 rfl rfl) rfl (lv_at hl 3 rfl) ?_
  refine ld5 (j := 1) hC h0 hws hl (by omega) (by decide) (bD_get dl_rests 1 rfl rfl) (bD_get dl_rests 2 rfl rfl) (bD_get dl_rests 3 rfl rfl) (bD_get dl_rests 4 rfl rfl) (bD_get dl_rests 5 rfl rfl) ?_
  refine ld5 (j := 2) hC h0 hws hl (by omega) (by decide) (bD_get dl_rests 6 rfl rfl) (bD_get dl_rests 7 rfl rfl) (bD_get dl_rests 8 rfl rfl) (bD_get dl_rests 9 rfl rfl) (bD_get dl_rests 10 rfl rfl) ?_
  refine ld5 (j := 3) hC h0 hws hl (by omega) (by decide) (bD_get dl_rests 11 rfl rfl) (bD_get dl_rests 12 rfl rfl) (bD_get dl_rests 13 rfl rfl) (bD_get dl_rests 14 rfl rfl) (bD_get dl_rests 15 rfl rfl) ?_
  refine rw_callV (As := [.int (xs (k + 1)), .int (xs (k + 2)), .int (xs (k + 3))]) (rest := []) hx hb (hml.trans hl.1.symm) hts cf_all hown hK hws hcs (show CO l room_1 RL 127 (0, 9, 4, mD C_GT_rests) from ⟨yX9_rests, cX9_rests, 4, some .int, ({ frames := 5, cells := 0, slots := 0, locals := 151 } : Room), (RX9, TX9, 14), ct_GT_rests l, ⟨rfl, rfl, by decide, by decide⟩, yf_GT_rests.1, yf_GT_rests.2.1, tw5 (i := 109) rfl rfl, yd_GT_rests, yf_GT_rests.2.2.1, rfl, yf_GT_rests.2.2.2⟩) (by decide) rfl e1 (by decide) (bD_get dl_rests 16 rfl rfl) (fun H1 locs1 hws => ?_)
  refine lv_aload_n hx hb (bD_get dl_rests 17 rfl rfl) rfl (lv_at hl 2 rfl) ?_
  refine ld5 (j := 1) hC h0 hws hl (by omega) (by decide) (bD_get dl_rests 18 rfl rfl) (bD_get dl_rests 19 rfl rfl) (bD_get dl_rests 20 rfl rfl) (bD_get dl_rests 21 rfl rfl) (bD_get dl_rests 22 rfl rfl) ?_
  refine ld5 (j := 2) hC h0 hws hl (by omega) (by decide) (bD_get dl_rests 23 rfl rfl) (bD_get dl_rests 24 rfl rfl) (bD_get dl_rests 25 rfl rfl) (bD_get dl_rests 26 rfl rfl) (bD_get dl_rests 27 rfl rfl) ?_
  refine ld5 (j := 3) hC h0 hws hl (by omega) (by decide) (bD_get dl_rests 28 rfl rfl) (bD_get dl_rests 29 rfl rfl) (bD_get dl_rests 30 rfl rfl) (bD_get dl_rests 31 rfl rfl) (bD_get dl_rests 32 rfl rfl) ?_
  refine rw_callV (As := [.int (xs (k + 1)), .int (xs (k + 2)), .int (xs (k + 3))]) (rest := [.int v]) hx hb (hml.trans hl.1.symm) hts cf_all hown hK hws hcs (show CO l room_1 RL 130 (0, 10, 4, mD C_Mo_rests) from ⟨yX10_rests, cX10_rests, 4, some .int, ({ frames := 5, cells := 0, slots := 0, locals := 123 } : Room), (RX10, TX10, 91), ct_Mo_rests l, ⟨rfl, rfl, by decide, by decide⟩, yf_Mo_rests.1, yf_Mo_rests.2.1, tw9 (i := 64) rfl rfl, yd_Mo_rests, yf_Mo_rests.2.2.1, rfl, yf_Mo_rests.2.2.2⟩) (by decide) rfl e2 (Nat.le_of_ble_eq_true rfl) (bD_get dl_rests 33 rfl rfl) (fun H2 locs2 hws => ?_)
  refine lv_icmp_eq hx hb (bD_get dl_rests 34 rfl rfl) (tgt := 1555) rfl (fun _ => ?_) (fun q => absurd rfl q)
  exact kk _ _ _ _ _ _ _ _ hI2 hws
def El_rest : List Ent := [(.aload_n 1, 1, 0, 0), (.aload_n 0, 1, 0, 0), (.iload 4, 2, 0, 0), (.iconst 1, 1, 0, 0), (.iadd, 1, 0, 0), (.iaload, 1, 0, 0), (.aload_n 0, 1, 0, 0), (.iload 4, 2, 0, 0), (.iconst 2, 1, 0, 0), (.iadd, 1, 0, 0), (.iaload, 1, 0, 0), (.aload_n 0, 1, 0, 0), (.iload 4, 2, 0, 0), (.iconst 3, 1, 0, 0), (.iadd, 1, 0, 0), (.iaload, 1, 0, 0), (.aload_n 0, 1, 0, 0), (.iload 4, 2, 0, 0), (.iconst 4, 1, 0, 0), (.iadd, 1, 0, 0), (.iaload, 1, 0, 0), (.invokevirtual 131, 3, 0, 0), (.aload_n 2, 1, 0, 0), (.aload_n 0, 1, 0, 0), (.iload 4, 2, 0, 0), (.iconst 1, 1, 0, 0), (.iadd, 1, 0, 0), (.iaload, 1, 0, 0), (.aload_n 0, 1, 0, 0), (.iload 4, 2, 0, 0), (.iconst 2, 1, 0, 0), (.iadd, 1, 0, 0), (.iaload, 1, 0, 0), (.aload_n 0, 1, 0, 0), (.iload 4, 2, 0, 0), (.iconst 3, 1, 0, 0), (.iadd, 1, 0, 0), (.iaload, 1, 0, 0), (.aload_n 0, 1, 0, 0), (.iload 4, 2, 0, 0), (.iconst 4, 1, 0, 0), (.iadd, 1, 0, 0), (.iaload, 1, 0, 0), (.invokevirtual 135, 3, 0, 0), (.if_icmp .eq 406, 3, 0, 0), (.iconst 0, 1, 0, 0), (.ireturn, 1, 0, 0)]
set_option maxRecDepth 20000 in
theorem dl_rest : bD code El_rest 1093 = true := by decide +kernel
set_option maxRecDepth 20000 in
theorem lc_rest (hC : LC p s m args c D cy base b L xs) (h0 : ∀ q, q < base → H0[q]? = s.heap[q]?) (hI : INV P i0 l0 s0 r0 p0) (hws : WS D cy base b H0 (i0, l0, Rp s0 r0 p0) H locs) (hl : lv_has ls 7 (LL base b k)) (hk : k + 6 ≤ L) (hcs : cells ≤ room_1.cells ∧ slots ≤ room_1.slots)
    (kk : ∀ (H' : Heap) (locs' : List Loc) (P' : PL) (i' : Nat → Nat → Int32) (l' : Nat → Nat → Int64) (s' r' p' : Nat), INV P' i' l' s' r' p' → WS D cy base b H0 (i', l', Rp s' r' p') H' locs' → W p l e room_1 s m args below meth c H' locs' cells slots Q (F0 m 1555 ls [])) :
    W p l e room_1 s m args below meth c H locs cells slots Q (F0 m 1093 ls []) := by
  obtain ⟨hx, hb, hml, hts, hown, hK, hbb, hX, hL⟩ := id hC
  obtain ⟨v, j1, l1, j2, l2, e1, e2, hI2⟩ := rest_pr hI (xs (k + 1)) (xs (k + 2)) (xs (k + 3)) (xs (k + 4))
  refine lv_aload_n hx hb (bD_get dl_rest 0 rfl rfl) rfl (lv_at hl 3 rfl) ?_
  refine ld5 (j := 1) hC h0 hws hl (by omega) (by decide) (bD_get dl_rest 1 rfl rfl) (bD_get dl_rest 2 rfl rfl) (bD_get dl_rest 3 rfl rfl) (bD_get dl_rest 4 rfl rfl) (bD_get dl_rest 5 rfl rfl) ?_
  refine ld5 (j := 2) hC h0 hws hl (by omega) (by decide) (bD_get dl_rest 6 rfl rfl) (bD_get dl_rest 7 rfl rfl) (bD_get dl_rest 8 rfl rfl) (bD_get dl_rest 9 rfl rfl) (bD_get dl_rest 10 rfl rfl) ?_
  refine ld5 (j := 3) hC h0 hws hl (by omega) (by decide) (bD_get dl_rest 11 rfl rfl) (bD_get dl_rest 12 rfl rfl) (bD_get dl_rest 13 rfl rfl) (bD_get dl_rest 14 rfl rfl) (bD_get dl_rest 15 rfl rfl) ?_
  refine ld5 (j := 4) hC h0 hws hl (by omega) (by decide) (bD_get dl_rest 16 rfl rfl) (bD_get dl_rest 17 rfl rfl) (bD_get dl_rest 18 rfl rfl) (bD_get dl_rest 19 rfl rfl) (bD_get dl_rest 20 rfl rfl) ?_
  refine rw_callV (As := [.int (xs (k + 1)), .int (xs (k + 2)), .int (xs (k + 3)), .int (xs (k + 4))]) (rest := []) hx hb (hml.trans hl.1.symm) hts cf_all hown hK hws hcs (show CO l room_1 RL 131 (0, 9, 5, mD C_GT_rest) from ⟨yX9_rest, cX9_rest, 8, some .int, ({ frames := 5, cells := 0, slots := 0, locals := 151 } : Room), (RX9, TX9, 14), ct_GT_rest l, ⟨rfl, rfl, by decide, by decide⟩, yf_GT_rest.1, yf_GT_rest.2.1, tw5 (i := 125) rfl rfl, yd_GT_rest, yf_GT_rest.2.2.1, rfl, yf_GT_rest.2.2.2⟩) (by decide) rfl e1 (by decide) (bD_get dl_rest 21 rfl rfl) (fun H1 locs1 hws => ?_)
  refine lv_aload_n hx hb (bD_get dl_rest 22 rfl rfl) rfl (lv_at hl 2 rfl) ?_
  refine ld5 (j := 1) hC h0 hws hl (by omega) (by decide) (bD_get dl_rest 23 rfl rfl) (bD_get dl_rest 24 rfl rfl) (bD_get dl_rest 25 rfl rfl) (bD_get dl_rest 26 rfl rfl) (bD_get dl_rest 27 rfl rfl) ?_
  refine ld5 (j := 2) hC h0 hws hl (by omega) (by decide) (bD_get dl_rest 28 rfl rfl) (bD_get dl_rest 29 rfl rfl) (bD_get dl_rest 30 rfl rfl) (bD_get dl_rest 31 rfl rfl) (bD_get dl_rest 32 rfl rfl) ?_
  refine ld5 (j := 3) hC h0 hws hl (by omega) (by decide) (bD_get dl_rest 33 rfl rfl) (bD_get dl_rest 34 rfl rfl) (bD_get dl_rest 35 rfl rfl) (bD_get dl_rest 36 rfl rfl) (bD_get dl_rest 37 rfl rfl) ?_
  refine ld5 (j := 4) hC h0 hws hl (by omega) (by decide) (bD_get dl_rest 38 rfl rfl) (bD_get dl_rest 39 rfl rfl) (bD_get dl_rest 40 rfl rfl) (bD_get dl_rest 41 rfl rfl) (bD_get dl_rest 42 rfl rfl) ?_
  refine rw_callV (As := [.int (xs (k + 1)), .int (xs (k + 2)), .int (xs (k + 3)), .int (xs (k + 4))]) (rest := [.int v]) hx hb (hml.trans hl.1.symm) hts cf_all hown hK hws hcs (show CO l room_1 RL 135 (0, 10, 5, mD C_Mo_rest) from ⟨yX10_rest, cX10_rest, 5, some .int, ({ frames := 5, cells := 0, slots := 0, locals := 123 } : Room), (RX10, TX10, 91), ct_Mo_rest l, ⟨rfl, rfl, by decide, by decide⟩, yf_Mo_rest.1, yf_Mo_rest.2.1, tw9 (i := 83) rfl rfl, yd_Mo_rest, yf_Mo_rest.2.2.1, rfl, yf_Mo_rest.2.2.2⟩) (by decide) rfl e2 (Nat.le_of_ble_eq_true rfl) (bD_get dl_rest 43 rfl rfl) (fun H2 locs2 hws => ?_)
  refine lv_icmp_eq hx hb (bD_get dl_rest 44 rfl rfl) (tgt := 1555) rfl (fun _ => ?_) (fun q => absurd rfl q)
  exact kk _ _ _ _ _ _ _ _ hI2 hws
end
