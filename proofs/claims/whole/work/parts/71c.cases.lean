/-! the law's cases (by program) -/
section
variable {p : Program} {l : Launch} {e : Env} {s : State} {m : MethodId} {args : Array Value} {below : List Frame} {meth : Method} {c : Code} {H : Heap} {locs : List Loc} {cells slots : Nat} {Q : State → Prop}
variable {D : va_G} {cy : Nat → ClassId} {base b L : Nat} {xs : Nat → Int32} {H0 : Heap} {ls : Array Slot} {k : Nat} {P : PL} {i0 : Nat → Nat → Int32} {l0 : Nat → Nat → Int64} {s0 r0 p0 : Nat}
def El_holds : List Ent := [(.aload_n 1, 1, 0, 0), (.aload_n 0, 1, 0, 0), (.iload 4, 2, 0, 0), (.iconst 1, 1, 0, 0), (.iadd, 1, 0, 0), (.iaload, 1, 0, 0), (.aload_n 0, 1, 0, 0), (.iload 4, 2, 0, 0), (.iconst 2, 1, 0, 0), (.iadd, 1, 0, 0), (.iaload, 1, 0, 0), (.invokevirtual 136, 3, 0, 0), (.aload_n 2, 1, 0, 0), (.aload_n 0, 1, 0, 0), (.iload 4, 2, 0, 0), (.iconst 1, 1, 0, 0), (.iadd, 1, 0, 0), (.iaload, 1, 0, 0), (.aload_n 0, 1, 0, 0), (.iload 4, 2, 0, 0), (.iconst 2, 1, 0, 0), (.iadd, 1, 0, 0), (.iaload, 1, 0, 0), (.invokevirtual 140, 3, 0, 0), (.lcmp, 1, 0, 0), (.ifCond .eq 368, 3, 0, 0), (.iconst 0, 1, 0, 0), (.ireturn, 1, 0, 0)]
set_option maxRecDepth 20000 in
theorem dl_holds : bD code El_holds 1154 = true := by decide +kernel
set_option maxRecDepth 20000 in
theorem lc_holds (hC : LC p s m args c D cy base b L xs) (h0 : ∀ q, q < base → H0[q]? = s.heap[q]?) (hI : INV P i0 l0 s0 r0 p0) (hws : WS D cy base b H0 (i0, l0, Rp s0 r0 p0) H locs) (hl : lv_has ls 7 (LL base b k)) (hk : k + 6 ≤ L) (hcs : cells ≤ room_1.cells ∧ slots ≤ room_1.slots)
    (kk : ∀ (H' : Heap) (locs' : List Loc) (P' : PL) (i' : Nat → Nat → Int32) (l' : Nat → Nat → Int64) (s' r' p' : Nat), INV P' i' l' s' r' p' → WS D cy base b H0 (i', l', Rp s' r' p') H' locs' → W p l e room_1 s m args below meth c H' locs' cells slots Q (F0 m 1555 ls [])) :
    W p l e room_1 s m args below meth c H locs cells slots Q (F0 m 1154 ls []) := by
  obtain ⟨hx, hb, hml, hts, hown, hK, hbb, hX, hL⟩ := id hC
  obtain ⟨v, j1, l1, j2, l2, e1, e2, hI2⟩ := holds_pr hI (xs (k + 1)) (xs (k + 2))
  refine lv_aload_n hx hb (bD_get dl_holds 0 rfl rfl) rfl (lv_at hl 3 rfl) ?_
  refine ld5 (j := 1) hC h0 hws hl (by omega) (by decide) (bD_get dl_holds 1 rfl rfl) (bD_get dl_holds 2 rfl rfl) (bD_get dl_holds 3 rfl rfl) (bD_get dl_holds 4 rfl rfl) (bD_get dl_holds 5 rfl rfl) ?_
  refine ld5 (j := 2) hC h0 hws hl (by omega) (by decide) (bD_get dl_holds 6 rfl rfl) (bD_get dl_holds 7 rfl rfl) (bD_get dl_holds 8 rfl rfl) (bD_get dl_holds 9 rfl rfl) (bD_get dl_holds 10 rfl rfl) ?_
  refine rw_callV (As := [.int (xs (k + 1)), .int (xs (k + 2))]) (rest := []) hx hb (hml.trans hl.1.symm) hts cf_all hown hK hws hcs (show CO l room_1 RL 136 (0, 9, 3, mD C_GT_holds) from ⟨yX9_holds, cX9_holds, 10, some .long, ({ frames := 1, cells := 0, slots := 0, locals := 25 } : Room), (RX9, TX9, 14), ct_GT_holds l, ⟨rfl, rfl, by decide, by decide⟩, yf_GT_holds.1, yf_GT_holds.2.1, tw5 (i := 129) rfl rfl, yd_GT_holds, yf_GT_holds.2.2.1, rfl, yf_GT_holds.2.2.2⟩) (by decide) rfl e1 (by decide) (bD_get dl_holds 11 rfl rfl) (fun H1 locs1 hws => ?_)
  refine lv_aload_n hx hb (bD_get dl_holds 12 rfl rfl) rfl (lv_at hl 2 rfl) ?_
  refine ld5 (j := 1) hC h0 hws hl (by omega) (by decide) (bD_get dl_holds 13 rfl rfl) (bD_get dl_holds 14 rfl rfl) (bD_get dl_holds 15 rfl rfl) (bD_get dl_holds 16 rfl rfl) (bD_get dl_holds 17 rfl rfl) ?_
  refine ld5 (j := 2) hC h0 hws hl (by omega) (by decide) (bD_get dl_holds 18 rfl rfl) (bD_get dl_holds 19 rfl rfl) (bD_get dl_holds 20 rfl rfl) (bD_get dl_holds 21 rfl rfl) (bD_get dl_holds 22 rfl rfl) ?_
  refine rw_callV (As := [.int (xs (k + 1)), .int (xs (k + 2))]) (rest := [.long v]) hx hb (hml.trans hl.1.symm) hts cf_all hown hK hws hcs (show CO l room_1 RL 140 (0, 10, 3, mD C_Mo_holds) from ⟨yX10_holds, cX10_holds, 13, some .long, ({ frames := 1, cells := 0, slots := 0, locals := 22 } : Room), (RX10, TX10, 91), ct_Mo_holds l, ⟨rfl, rfl, by decide, by decide⟩, yf_Mo_holds.1, yf_Mo_holds.2.1, tw9 (i := 87) rfl rfl, yd_Mo_holds, yf_Mo_holds.2.2.1, rfl, yf_Mo_holds.2.2.2⟩) (by decide) rfl e2 (Nat.le_of_ble_eq_true rfl) (bD_get dl_holds 23 rfl rfl) (fun H2 locs2 hws => ?_)
  refine W.lcmp hx hb (bD_get dl_holds 24 rfl rfl) ?_
  refine lv_if_eq hx hb (bD_get dl_holds 25 rfl rfl) (tgt := 1555) rfl (fun _ => ?_) (fun q => absurd (lcmp_eq v) q)
  exact kk _ _ _ _ _ _ _ _ hI2 hws
def El_note : List Ent := [(.aload_n 1, 1, 0, 0), (.aload_n 0, 1, 0, 0), (.iload 4, 2, 0, 0), (.iconst 1, 1, 0, 0), (.iadd, 1, 0, 0), (.iaload, 1, 0, 0), (.aload_n 0, 1, 0, 0), (.iload 4, 2, 0, 0), (.iconst 2, 1, 0, 0), (.iadd, 1, 0, 0), (.iaload, 1, 0, 0), (.aload_n 0, 1, 0, 0), (.iload 4, 2, 0, 0), (.iconst 3, 1, 0, 0), (.iadd, 1, 0, 0), (.iaload, 1, 0, 0), (.aload_n 0, 1, 0, 0), (.iload 4, 2, 0, 0), (.iconst 4, 1, 0, 0), (.iadd, 1, 0, 0), (.iaload, 1, 0, 0), (.ifCond .eq 7, 3, 0, 0), (.iconst 1, 1, 0, 0), (.goto 4, 3, 0, 0), (.iconst 0, 1, 0, 0), (.invokevirtual 141, 3, 0, 0), (.aload_n 2, 1, 0, 0), (.aload_n 0, 1, 0, 0), (.iload 4, 2, 0, 0), (.iconst 1, 1, 0, 0), (.iadd, 1, 0, 0), (.iaload, 1, 0, 0), (.aload_n 0, 1, 0, 0), (.iload 4, 2, 0, 0), (.iconst 2, 1, 0, 0), (.iadd, 1, 0, 0), (.iaload, 1, 0, 0), (.aload_n 0, 1, 0, 0), (.iload 4, 2, 0, 0), (.iconst 3, 1, 0, 0), (.iadd, 1, 0, 0), (.iaload, 1, 0, 0), (.aload_n 0, 1, 0, 0), (.iload 4, 2, 0, 0), (.iconst 4, 1, 0, 0), (.iadd, 1, 0, 0), (.iaload, 1, 0, 0), (.ifCond .eq 7, 3, 0, 0), (.iconst 1, 1, 0, 0), (.goto 4, 3, 0, 0), (.iconst 0, 1, 0, 0), (.invokevirtual 145, 3, 0, 0), (.if_icmp .eq 291, 3, 0, 0), (.iconst 0, 1, 0, 0), (.ireturn, 1, 0, 0)]
set_option maxRecDepth 20000 in
theorem dl_note : bD code El_note 1192 = true := by decide +kernel
set_option maxRecDepth 20000 in
theorem lc_note (hC : LC p s m args c D cy base b L xs) (h0 : ∀ q, q < base → H0[q]? = s.heap[q]?) (hI : INV P i0 l0 s0 r0 p0) (hws : WS D cy base b H0 (i0, l0, Rp s0 r0 p0) H locs) (hl : lv_has ls 7 (LL base b k)) (hk : k + 6 ≤ L) (hcs : cells ≤ room_1.cells ∧ slots ≤ room_1.slots)
    (kk : ∀ (H' : Heap) (locs' : List Loc) (P' : PL) (i' : Nat → Nat → Int32) (l' : Nat → Nat → Int64) (s' r' p' : Nat), INV P' i' l' s' r' p' → WS D cy base b H0 (i', l', Rp s' r' p') H' locs' → W p l e room_1 s m args below meth c H' locs' cells slots Q (F0 m 1555 ls [])) :
    W p l e room_1 s m args below meth c H locs cells slots Q (F0 m 1192 ls []) := by
  obtain ⟨hx, hb, hml, hts, hown, hK, hbb, hX, hL⟩ := id hC
  obtain ⟨v, j1, l1, j2, l2, e1, e2, hI2⟩ := note_pr hI (xs (k + 1)) (xs (k + 2)) (xs (k + 3)) (decide (xs (k + 4) ≠ 0))
  refine lv_aload_n hx hb (bD_get dl_note 0 rfl rfl) rfl (lv_at hl 3 rfl) ?_
  refine ld5 (j := 1) hC h0 hws hl (by omega) (by decide) (bD_get dl_note 1 rfl rfl) (bD_get dl_note 2 rfl rfl) (bD_get dl_note 3 rfl rfl) (bD_get dl_note 4 rfl rfl) (bD_get dl_note 5 rfl rfl) ?_
  refine ld5 (j := 2) hC h0 hws hl (by omega) (by decide) (bD_get dl_note 6 rfl rfl) (bD_get dl_note 7 rfl rfl) (bD_get dl_note 8 rfl rfl) (bD_get dl_note 9 rfl rfl) (bD_get dl_note 10 rfl rfl) ?_
  refine ld5 (j := 3) hC h0 hws hl (by omega) (by decide) (bD_get dl_note 11 rfl rfl) (bD_get dl_note 12 rfl rfl) (bD_get dl_note 13 rfl rfl) (bD_get dl_note 14 rfl rfl) (bD_get dl_note 15 rfl rfl) ?_
  refine ld5 (j := 4) hC h0 hws hl (by omega) (by decide) (bD_get dl_note 16 rfl rfl) (bD_get dl_note 17 rfl rfl) (bD_get dl_note 18 rfl rfl) (bD_get dl_note 19 rfl rfl) (bD_get dl_note 20 rfl rfl) ?_
  refine lw_bool hx hb (bD_get dl_note 21 rfl rfl) (bD_get dl_note 22 rfl rfl) (bD_get dl_note 23 rfl rfl) (bD_get dl_note 24 rfl rfl) rfl rfl ?_
  refine rw_callV (As := [.int (xs (k + 1)), .int (xs (k + 2)), .int (xs (k + 3)), .int (nI (decide (xs (k + 4) ≠ 0)).toNat)]) (rest := []) hx hb (hml.trans hl.1.symm) hts cf_all hown hK hws hcs (show CO l room_1 RL 141 (0, 9, 5, mD C_GT_note) from ⟨yX9_note, cX9_note, 5, some .int, ({ frames := 1, cells := 0, slots := 0, locals := 24 } : Room), (RX9, TX9, 14), ct_GT_note l, ⟨rfl, rfl, by decide, by decide⟩, yf_GT_note.1, yf_GT_note.2.1, tw5 (i := 137) rfl rfl, yd_GT_note, yf_GT_note.2.2.1, rfl, yf_GT_note.2.2.2⟩) (by decide) rfl e1 (by decide) (bD_get dl_note 25 rfl rfl) (fun H1 locs1 hws => ?_)
  refine lv_aload_n hx hb (bD_get dl_note 26 rfl rfl) rfl (lv_at hl 2 rfl) ?_
  refine ld5 (j := 1) hC h0 hws hl (by omega) (by decide) (bD_get dl_note 27 rfl rfl) (bD_get dl_note 28 rfl rfl) (bD_get dl_note 29 rfl rfl) (bD_get dl_note 30 rfl rfl) (bD_get dl_note 31 rfl rfl) ?_
  refine ld5 (j := 2) hC h0 hws hl (by omega) (by decide) (bD_get dl_note 32 rfl rfl) (bD_get dl_note 33 rfl rfl) (bD_get dl_note 34 rfl rfl) (bD_get dl_note 35 rfl rfl) (bD_get dl_note 36 rfl rfl) ?_
  refine ld5 (j := 3) hC h0 hws hl (by omega) (by decide) (bD_get dl_note 37 rfl rfl) (bD_get dl_note 38 rfl rfl) (bD_get dl_note 39 rfl rfl) (bD_get dl_note 40 rfl rfl) (bD_get dl_note 41 rfl rfl) ?_
  refine ld5 (j := 4) hC h0 hws hl (by omega) (by decide) (bD_get dl_note 42 rfl rfl) (bD_get dl_note 43 rfl rfl) (bD_get dl_note 44 rfl rfl) (bD_get dl_note 45 rfl rfl) (bD_get dl_note 46 rfl rfl) ?_
  refine lw_bool hx hb (bD_get dl_note 47 rfl rfl) (bD_get dl_note 48 rfl rfl) (bD_get dl_note 49 rfl rfl) (bD_get dl_note 50 rfl rfl) rfl rfl ?_
  refine rw_callV (As := [.int (xs (k + 1)), .int (xs (k + 2)), .int (xs (k + 3)), .int (nI (decide (xs (k + 4) ≠ 0)).toNat)]) (rest := [.int v]) hx hb (hml.trans hl.1.symm) hts cf_all hown hK hws hcs (show CO l room_1 RL 145 (0, 10, 5, mD C_Mo_note) from ⟨yX10_note, cX10_note, 5, some .int, ({ frames := 1, cells := 0, slots := 0, locals := 25 } : Room), (RX10, TX10, 91), ct_Mo_note l, ⟨rfl, rfl, by decide, by decide⟩, yf_Mo_note.1, yf_Mo_note.2.1, tw9 (i := 93) rfl rfl, yd_Mo_note, yf_Mo_note.2.2.1, rfl, yf_Mo_note.2.2.2⟩) (by decide) rfl e2 (Nat.le_of_ble_eq_true rfl) (bD_get dl_note 51 rfl rfl) (fun H2 locs2 hws => ?_)
  refine lv_icmp_eq hx hb (bD_get dl_note 52 rfl rfl) (tgt := 1555) rfl (fun _ => ?_) (fun q => absurd rfl q)
  exact kk _ _ _ _ _ _ _ _ hI2 hws
def El_strike : List Ent := [(.aload_n 1, 1, 0, 0), (.aload_n 0, 1, 0, 0), (.iload 4, 2, 0, 0), (.iconst 1, 1, 0, 0), (.iadd, 1, 0, 0), (.iaload, 1, 0, 0), (.invokevirtual 146, 3, 0, 0), (.aload_n 2, 1, 0, 0), (.aload_n 0, 1, 0, 0), (.iload 4, 2, 0, 0), (.iconst 1, 1, 0, 0), (.iadd, 1, 0, 0), (.iaload, 1, 0, 0), (.invokevirtual 149, 3, 0, 0), (.if_icmp .eq 266, 3, 0, 0), (.iconst 0, 1, 0, 0), (.ireturn, 1, 0, 0)]
set_option maxRecDepth 20000 in
theorem dl_strike : bD code El_strike 1269 = true := by decide +kernel
set_option maxRecDepth 20000 in
theorem lc_strike (hC : LC p s m args c D cy base b L xs) (h0 : ∀ q, q < base → H0[q]? = s.heap[q]?) (hI : INV P i0 l0 s0 r0 p0) (hws : WS D cy base b H0 (i0, l0, Rp s0 r0 p0) H locs) (hl : lv_has ls 7 (LL base b k)) (hk : k + 6 ≤ L) (hcs : cells ≤ room_1.cells ∧ slots ≤ room_1.slots)
    (kk : ∀ (H' : Heap) (locs' : List Loc) (P' : PL) (i' : Nat → Nat → Int32) (l' : Nat → Nat → Int64) (s' r' p' : Nat), INV P' i' l' s' r' p' → WS D cy base b H0 (i', l', Rp s' r' p') H' locs' → W p l e room_1 s m args below meth c H' locs' cells slots Q (F0 m 1555 ls [])) :
    W p l e room_1 s m args below meth c H locs cells slots Q (F0 m 1269 ls []) := by
  obtain ⟨hx, hb, hml, hts, hown, hK, hbb, hX, hL⟩ := id hC
  obtain ⟨v, j1, l1, j2, l2, e1, e2, hI2⟩ := strike_pr hI (xs (k + 1))
  refine lv_aload_n hx hb (bD_get dl_strike 0 rfl rfl) rfl (lv_at hl 3 rfl) ?_
  refine ld5 (j := 1) hC h0 hws hl (by omega) (by decide) (bD_get dl_strike 1 rfl rfl) (bD_get dl_strike 2 rfl rfl) (bD_get dl_strike 3 rfl rfl) (bD_get dl_strike 4 rfl rfl) (bD_get dl_strike 5 rfl rfl) ?_
  refine rw_callV (As := [.int (xs (k + 1))]) (rest := []) hx hb (hml.trans hl.1.symm) hts cf_all hown hK hws hcs (show CO l room_1 RL 146 (0, 9, 2, mD C_GT_strike) from ⟨yX9_strike, cX9_strike, 2, some .int, ({ frames := 1, cells := 0, slots := 0, locals := 24 } : Room), (RX9, TX9, 14), ct_GT_strike l, ⟨rfl, rfl, by decide, by decide⟩, yf_GT_strike.1, yf_GT_strike.2.1, tw5 (i := 145) rfl rfl, yd_GT_strike, yf_GT_strike.2.2.1, rfl, yf_GT_strike.2.2.2⟩) (by decide) rfl e1 (by decide) (bD_get dl_strike 6 rfl rfl) (fun H1 locs1 hws => ?_)
  refine lv_aload_n hx hb (bD_get dl_strike 7 rfl rfl) rfl (lv_at hl 2 rfl) ?_
  refine ld5 (j := 1) hC h0 hws hl (by omega) (by decide) (bD_get dl_strike 8 rfl rfl) (bD_get dl_strike 9 rfl rfl) (bD_get dl_strike 10 rfl rfl) (bD_get dl_strike 11 rfl rfl) (bD_get dl_strike 12 rfl rfl) ?_
  refine rw_callV (As := [.int (xs (k + 1))]) (rest := [.int v]) hx hb (hml.trans hl.1.symm) hts cf_all hown hK hws hcs (show CO l room_1 RL 149 (0, 10, 2, mD C_Mo_strike) from ⟨yX10_strike, cX10_strike, 2, some .int, ({ frames := 1, cells := 0, slots := 0, locals := 25 } : Room), (RX10, TX10, 91), ct_Mo_strike l, ⟨rfl, rfl, by decide, by decide⟩, yf_Mo_strike.1, yf_Mo_strike.2.1, tw9 (i := 101) rfl rfl, yd_Mo_strike, yf_Mo_strike.2.2.1, rfl, yf_Mo_strike.2.2.2⟩) (by decide) rfl e2 (Nat.le_of_ble_eq_true rfl) (bD_get dl_strike 13 rfl rfl) (fun H2 locs2 hws => ?_)
  refine lv_icmp_eq hx hb (bD_get dl_strike 14 rfl rfl) (tgt := 1555) rfl (fun _ => ?_) (fun q => absurd rfl q)
  exact kk _ _ _ _ _ _ _ _ hI2 hws
def El_known : List Ent := [(.aload_n 1, 1, 0, 0), (.aload_n 0, 1, 0, 0), (.iload 4, 2, 0, 0), (.iconst 1, 1, 0, 0), (.iadd, 1, 0, 0), (.iaload, 1, 0, 0), (.invokevirtual 150, 3, 0, 0), (.aload_n 2, 1, 0, 0), (.aload_n 0, 1, 0, 0), (.iload 4, 2, 0, 0), (.iconst 1, 1, 0, 0), (.iadd, 1, 0, 0), (.iaload, 1, 0, 0), (.invokevirtual 154, 3, 0, 0), (.if_icmp .eq 241, 3, 0, 0), (.iconst 0, 1, 0, 0), (.ireturn, 1, 0, 0)]
set_option maxRecDepth 20000 in
theorem dl_known : bD code El_known 1294 = true := by decide +kernel
set_option maxRecDepth 20000 in
theorem lc_known (hC : LC p s m args c D cy base b L xs) (h0 : ∀ q, q < base → H0[q]? = s.heap[q]?) (hI : INV P i0 l0 s0 r0 p0) (hws : WS D cy base b H0 (i0, l0, Rp s0 r0 p0) H locs) (hl : lv_has ls 7 (LL base b k)) (hk : k + 6 ≤ L) (hcs : cells ≤ room_1.cells ∧ slots ≤ room_1.slots)
    (kk : ∀ (H' : Heap) (locs' : List Loc) (P' : PL) (i' : Nat → Nat → Int32) (l' : Nat → Nat → Int64) (s' r' p' : Nat), INV P' i' l' s' r' p' → WS D cy base b H0 (i', l', Rp s' r' p') H' locs' → W p l e room_1 s m args below meth c H' locs' cells slots Q (F0 m 1555 ls [])) :
    W p l e room_1 s m args below meth c H locs cells slots Q (F0 m 1294 ls []) := by
  obtain ⟨hx, hb, hml, hts, hown, hK, hbb, hX, hL⟩ := id hC
  obtain ⟨v, j1, l1, j2, l2, e1, e2, hI2⟩ := known_pr hI (xs (k + 1))
  refine lv_aload_n hx hb (bD_get dl_known 0 rfl rfl) rfl (lv_at hl 3 rfl) ?_
  refine ld5 (j := 1) hC h0 hws hl (by omega) (by decide) (bD_get dl_known 1 rfl rfl) (bD_get dl_known 2 rfl rfl) (bD_get dl_known 3 rfl rfl) (bD_get dl_known 4 rfl rfl) (bD_get dl_known 5 rfl rfl) ?_
  refine rw_callV (As := [.int (xs (k + 1))]) (rest := []) hx hb (hml.trans hl.1.symm) hts cf_all hown hK hws hcs (show CO l room_1 RL 150 (0, 9, 2, mD C_GT_known) from ⟨yX9_known, cX9_known, 2, some .boolean, ({ frames := 0, cells := 0, slots := 0, locals := 0 } : Room), (RX9, TX9, 14), ct_GT_known l, ⟨rfl, rfl, by decide, by decide⟩, yf_GT_known.1, yf_GT_known.2.1, tw5 (i := 149) rfl rfl, yd_GT_known, yf_GT_known.2.2.1, rfl, yf_GT_known.2.2.2⟩) (by decide) rfl e1 (by decide) (bD_get dl_known 6 rfl rfl) (fun H1 locs1 hws => ?_)
  refine lv_aload_n hx hb (bD_get dl_known 7 rfl rfl) rfl (lv_at hl 2 rfl) ?_
  refine ld5 (j := 1) hC h0 hws hl (by omega) (by decide) (bD_get dl_known 8 rfl rfl) (bD_get dl_known 9 rfl rfl) (bD_get dl_known 10 rfl rfl) (bD_get dl_known 11 rfl rfl) (bD_get dl_known 12 rfl rfl) ?_
  refine rw_callV (As := [.int (xs (k + 1))]) (rest := [.int v]) hx hb (hml.trans hl.1.symm) hts cf_all hown hK hws hcs (show CO l room_1 RL 154 (0, 10, 2, mD C_Mo_known) from ⟨yX10_known, cX10_known, 2, some .boolean, ({ frames := 1, cells := 0, slots := 0, locals := 22 } : Room), (RX10, TX10, 91), ct_Mo_known l, ⟨rfl, rfl, by decide, by decide⟩, yf_Mo_known.1, yf_Mo_known.2.1, tw9 (i := 105) rfl rfl, yd_Mo_known, yf_Mo_known.2.2.1, rfl, yf_Mo_known.2.2.2⟩) (by decide) rfl e2 (Nat.le_of_ble_eq_true rfl) (bD_get dl_known 13 rfl rfl) (fun H2 locs2 hws => ?_)
  refine lv_icmp_eq hx hb (bD_get dl_known 14 rfl rfl) (tgt := 1555) rfl (fun _ => ?_) (fun q => absurd rfl q)
  exact kk _ _ _ _ _ _ _ _ hI2 hws
def El_costs : List Ent := [(.aload_n 1, 1, 0, 0), (.aload_n 0, 1, 0, 0), (.iload 4, 2, 0, 0), (.iconst 1, 1, 0, 0), (.iadd, 1, 0, 0), (.iaload, 1, 0, 0), (.invokevirtual 155, 3, 0, 0), (.aload_n 2, 1, 0, 0), (.aload_n 0, 1, 0, 0), (.iload 4, 2, 0, 0), (.iconst 1, 1, 0, 0), (.iadd, 1, 0, 0), (.iaload, 1, 0, 0), (.invokevirtual 158, 3, 0, 0), (.if_icmp .eq 216, 3, 0, 0), (.iconst 0, 1, 0, 0), (.ireturn, 1, 0, 0)]
set_option maxRecDepth 20000 in
theorem dl_costs : bD code El_costs 1319 = true := by decide +kernel
set_option maxRecDepth 20000 in
theorem lc_costs (hC : LC p s m args c D cy base b L xs) (h0 : ∀ q, q < base → H0[q]? = s.heap[q]?) (hI : INV P i0 l0 s0 r0 p0) (hws : WS D cy base b H0 (i0, l0, Rp s0 r0 p0) H locs) (hl : lv_has ls 7 (LL base b k)) (hk : k + 6 ≤ L) (hcs : cells ≤ room_1.cells ∧ slots ≤ room_1.slots)
    (kk : ∀ (H' : Heap) (locs' : List Loc) (P' : PL) (i' : Nat → Nat → Int32) (l' : Nat → Nat → Int64) (s' r' p' : Nat), INV P' i' l' s' r' p' → WS D cy base b H0 (i', l', Rp s' r' p') H' locs' → W p l e room_1 s m args below meth c H' locs' cells slots Q (F0 m 1555 ls [])) :
    W p l e room_1 s m args below meth c H locs cells slots Q (F0 m 1319 ls []) := by
  obtain ⟨hx, hb, hml, hts, hown, hK, hbb, hX, hL⟩ := id hC
  obtain ⟨v, j1, l1, j2, l2, e1, e2, hI2⟩ := costs_pr hI (xs (k + 1))
  refine lv_aload_n hx hb (bD_get dl_costs 0 rfl rfl) rfl (lv_at hl 3 rfl) ?_
  refine ld5 (j := 1) hC h0 hws hl (by omega) (by decide) (bD_get dl_costs 1 rfl rfl) (bD_get dl_costs 2 rfl rfl) (bD_get dl_costs 3 rfl rfl) (bD_get dl_costs 4 rfl rfl) (bD_get dl_costs 5 rfl rfl) ?_
  refine rw_callV (As := [.int (xs (k + 1))]) (rest := []) hx hb (hml.trans hl.1.symm) hts cf_all hown hK hws hcs (show CO l room_1 RL 155 (0, 9, 2, mD C_GT_costs) from ⟨yX9_costs, cX9_costs, 2, some .int, ({ frames := 5, cells := 0, slots := 0, locals := 147 } : Room), (RX9, TX9, 14), ct_GT_costs l, ⟨rfl, rfl, by decide, by decide⟩, yf_GT_costs.1, yf_GT_costs.2.1, tw5 (i := 153) rfl rfl, yd_GT_costs, yf_GT_costs.2.2.1, rfl, yf_GT_costs.2.2.2⟩) (by decide) rfl e1 (by decide) (bD_get dl_costs 6 rfl rfl) (fun H1 locs1 hws => ?_)
  refine lv_aload_n hx hb (bD_get dl_costs 7 rfl rfl) rfl (lv_at hl 2 rfl) ?_
  refine ld5 (j := 1) hC h0 hws hl (by omega) (by decide) (bD_get dl_costs 8 rfl rfl) (bD_get dl_costs 9 rfl rfl) (bD_get dl_costs 10 rfl rfl) (bD_get dl_costs 11 rfl rfl) (bD_get dl_costs 12 rfl rfl) ?_
  refine rw_callV (As := [.int (xs (k + 1))]) (rest := [.int v]) hx hb (hml.trans hl.1.symm) hts cf_all hown hK hws hcs (show CO l room_1 RL 158 (0, 10, 2, mD C_Mo_costs) from ⟨yX10_costs, cX10_costs, 2, some .int, ({ frames := 4, cells := 0, slots := 0, locals := 94 } : Room), (RX10, TX10, 91), ct_Mo_costs l, ⟨rfl, rfl, by decide, by decide⟩, yf_Mo_costs.1, yf_Mo_costs.2.1, tw9 (i := 109) rfl rfl, yd_Mo_costs, yf_Mo_costs.2.2.1, rfl, yf_Mo_costs.2.2.2⟩) (by decide) rfl e2 (Nat.le_of_ble_eq_true rfl) (bD_get dl_costs 13 rfl rfl) (fun H2 locs2 hws => ?_)
  refine lv_icmp_eq hx hb (bD_get dl_costs 14 rfl rfl) (tgt := 1555) rfl (fun _ => ?_) (fun q => absurd rfl q)
  exact kk _ _ _ _ _ _ _ _ hI2 hws
def El_ask : List Ent := [(.aload_n 1, 1, 0, 0), (.aload_n 0, 1, 0, 0), (.iload 4, 2, 0, 0), (.iconst 1, 1, 0, 0), (.iadd, 1, 0, 0), (.iaload, 1, 0, 0), (.aload_n 0, 1, 0, 0), (.iload 4, 2, 0, 0), (.iconst 2, 1, 0, 0), (.iadd, 1, 0, 0), (.iaload, 1, 0, 0), (.invokevirtual 159, 3, 0, 0), (.aload_n 2, 1, 0, 0), (.aload_n 0, 1, 0, 0), (.iload 4, 2, 0, 0), (.iconst 1, 1, 0, 0), (.iadd, 1, 0, 0), (.iaload, 1, 0, 0), (.aload_n 0, 1, 0, 0), (.iload 4, 2, 0, 0), (.iconst 2, 1, 0, 0), (.iadd, 1, 0, 0), (.iaload, 1, 0, 0), (.invokevirtual 162, 3, 0, 0), (.if_icmp .eq 179, 3, 0, 0), (.iconst 0, 1, 0, 0), (.ireturn, 1, 0, 0)]
set_option maxRecDepth 20000 in
theorem dl_ask : bD code El_ask 1344 = true := by decide +kernel
set_option maxRecDepth 20000 in
theorem lc_ask (hC : LC p s m args c D cy base b L xs) (h0 : ∀ q, q < base → H0[q]? = s.heap[q]?) (hI : INV P i0 l0 s0 r0 p0) (hws : WS D cy base b H0 (i0, l0, Rp s0 r0 p0) H locs) (hl : lv_has ls 7 (LL base b k)) (hk : k + 6 ≤ L) (hcs : cells ≤ room_1.cells ∧ slots ≤ room_1.slots)
    (kk : ∀ (H' : Heap) (locs' : List Loc) (P' : PL) (i' : Nat → Nat → Int32) (l' : Nat → Nat → Int64) (s' r' p' : Nat), INV P' i' l' s' r' p' → WS D cy base b H0 (i', l', Rp s' r' p') H' locs' → W p l e room_1 s m args below meth c H' locs' cells slots Q (F0 m 1555 ls [])) :
    W p l e room_1 s m args below meth c H locs cells slots Q (F0 m 1344 ls []) := by
  obtain ⟨hx, hb, hml, hts, hown, hK, hbb, hX, hL⟩ := id hC
  obtain ⟨v, j1, l1, j2, l2, e1, e2, hI2⟩ := ask_pr hI (xs (k + 1)) (xs (k + 2))
  refine lv_aload_n hx hb (bD_get dl_ask 0 rfl rfl) rfl (lv_at hl 3 rfl) ?_
  refine ld5 (j := 1) hC h0 hws hl (by omega) (by decide) (bD_get dl_ask 1 rfl rfl) (bD_get dl_ask 2 rfl rfl) (bD_get dl_ask 3 rfl rfl) (bD_get dl_ask 4 rfl rfl) (bD_get dl_ask 5 rfl rfl) ?_
  refine ld5 (j := 2) hC h0 hws hl (by omega) (by decide) (bD_get dl_ask 6 rfl rfl) (bD_get dl_ask 7 rfl rfl) (bD_get dl_ask 8 rfl rfl) (bD_get dl_ask 9 rfl rfl) (bD_get dl_ask 10 rfl rfl) ?_
  refine rw_callV (As := [.int (xs (k + 1)), .int (xs (k + 2))]) (rest := []) hx hb (hml.trans hl.1.symm) hts cf_all hown hK hws hcs (show CO l room_1 RL 159 (0, 9, 3, mD C_GT_ask) from ⟨yX9_ask, cX9_ask, 3, some .int, ({ frames := 6, cells := 0, slots := 0, locals := 172 } : Room), (RX9, TX9, 14), ct_GT_ask l, ⟨rfl, rfl, by decide, by decide⟩, yf_GT_ask.1, yf_GT_ask.2.1, tw5 (i := 182) rfl rfl, yd_GT_ask, yf_GT_ask.2.2.1, rfl, yf_GT_ask.2.2.2⟩) (by decide) rfl e1 (by decide) (bD_get dl_ask 11 rfl rfl) (fun H1 locs1 hws => ?_)
  refine lv_aload_n hx hb (bD_get dl_ask 12 rfl rfl) rfl (lv_at hl 2 rfl) ?_
  refine ld5 (j := 1) hC h0 hws hl (by omega) (by decide) (bD_get dl_ask 13 rfl rfl) (bD_get dl_ask 14 rfl rfl) (bD_get dl_ask 15 rfl rfl) (bD_get dl_ask 16 rfl rfl) (bD_get dl_ask 17 rfl rfl) ?_
  refine ld5 (j := 2) hC h0 hws hl (by omega) (by decide) (bD_get dl_ask 18 rfl rfl) (bD_get dl_ask 19 rfl rfl) (bD_get dl_ask 20 rfl rfl) (bD_get dl_ask 21 rfl rfl) (bD_get dl_ask 22 rfl rfl) ?_
  refine rw_callV (As := [.int (xs (k + 1)), .int (xs (k + 2))]) (rest := [.int v]) hx hb (hml.trans hl.1.symm) hts cf_all hown hK hws hcs (show CO l room_1 RL 162 (0, 10, 3, mD C_Mo_ask) from ⟨yX10_ask, cX10_ask, 10, some .int, ({ frames := 4, cells := 0, slots := 0, locals := 94 } : Room), (RX10, TX10, 91), ct_Mo_ask l, ⟨rfl, rfl, by decide, by decide⟩, yf_Mo_ask.1, yf_Mo_ask.2.1, tw9 (i := 125) rfl rfl, yd_Mo_ask, yf_Mo_ask.2.2.1, rfl, yf_Mo_ask.2.2.2⟩) (by decide) rfl e2 (Nat.le_of_ble_eq_true rfl) (bD_get dl_ask 23 rfl rfl) (fun H2 locs2 hws => ?_)
  refine lv_icmp_eq hx hb (bD_get dl_ask 24 rfl rfl) (tgt := 1555) rfl (fun _ => ?_) (fun q => absurd rfl q)
  exact kk _ _ _ _ _ _ _ _ hI2 hws
def El_chance : List Ent := [(.aload_n 1, 1, 0, 0), (.aload_n 0, 1, 0, 0), (.iload 4, 2, 0, 0), (.iconst 1, 1, 0, 0), (.iadd, 1, 0, 0), (.iaload, 1, 0, 0), (.aload_n 0, 1, 0, 0), (.iload 4, 2, 0, 0), (.iconst 2, 1, 0, 0), (.iadd, 1, 0, 0), (.iaload, 1, 0, 0), (.aload_n 0, 1, 0, 0), (.iload 4, 2, 0, 0), (.iconst 3, 1, 0, 0), (.iadd, 1, 0, 0), (.iaload, 1, 0, 0), (.aload_n 0, 1, 0, 0), (.iload 4, 2, 0, 0), (.iconst 4, 1, 0, 0), (.iadd, 1, 0, 0), (.iaload, 1, 0, 0), (.invokevirtual 163, 3, 0, 0), (.aload_n 2, 1, 0, 0), (.aload_n 0, 1, 0, 0), (.iload 4, 2, 0, 0), (.iconst 1, 1, 0, 0), (.iadd, 1, 0, 0), (.iaload, 1, 0, 0), (.aload_n 0, 1, 0, 0), (.iload 4, 2, 0, 0), (.iconst 2, 1, 0, 0), (.iadd, 1, 0, 0), (.iaload, 1, 0, 0), (.aload_n 0, 1, 0, 0), (.iload 4, 2, 0, 0), (.iconst 3, 1, 0, 0), (.iadd, 1, 0, 0), (.iaload, 1, 0, 0), (.aload_n 0, 1, 0, 0), (.iload 4, 2, 0, 0), (.iconst 4, 1, 0, 0), (.iadd, 1, 0, 0), (.iaload, 1, 0, 0), (.invokevirtual 166, 3, 0, 0), (.if_icmp .eq 118, 3, 0, 0), (.iconst 0, 1, 0, 0), (.ireturn, 1, 0, 0)]
set_option maxRecDepth 20000 in
theorem dl_chance : bD code El_chance 1381 = true := by decide +kernel
set_option maxRecDepth 20000 in
theorem lc_chance (hC : LC p s m args c D cy base b L xs) (h0 : ∀ q, q < base → H0[q]? = s.heap[q]?) (hI : INV P i0 l0 s0 r0 p0) (hws : WS D cy base b H0 (i0, l0, Rp s0 r0 p0) H locs) (hl : lv_has ls 7 (LL base b k)) (hk : k + 6 ≤ L) (hcs : cells ≤ room_1.cells ∧ slots ≤ room_1.slots)
    (kk : ∀ (H' : Heap) (locs' : List Loc) (P' : PL) (i' : Nat → Nat → Int32) (l' : Nat → Nat → Int64) (s' r' p' : Nat), INV P' i' l' s' r' p' → WS D cy base b H0 (i', l', Rp s' r' p') H' locs' → W p l e room_1 s m args below meth c H' locs' cells slots Q (F0 m 1555 ls [])) :
    W p l e room_1 s m args below meth c H locs cells slots Q (F0 m 1381 ls []) := by
  obtain ⟨hx, hb, hml, hts, hown, hK, hbb, hX, hL⟩ := id hC
  obtain ⟨v, j1, l1, j2, l2, e1, e2, hI2⟩ := chance_pr hI (xs (k + 1)) (xs (k + 2)) (xs (k + 3)) (xs (k + 4))
  refine lv_aload_n hx hb (bD_get dl_chance 0 rfl rfl) rfl (lv_at hl 3 rfl) ?_
  refine ld5 (j := 1) hC h0 hws hl (by omega) (by decide) (bD_get dl_chance 1 rfl rfl) (bD_get dl_chance 2 rfl rfl) (bD_get dl_chance 3 rfl rfl) (bD_get dl_chance 4 rfl rfl) (bD_get dl_chance 5 rfl rfl) ?_
  refine ld5 (j := 2) hC h0 hws hl (by omega) (by decide) (bD_get dl_chance 6 rfl rfl) (bD_get dl_chance 7 rfl rfl) (bD_get dl_chance 8 rfl rfl) (bD_get dl_chance 9 rfl rfl) (bD_get dl_chance 10 rfl rfl) ?_
  refine ld5 (j := 3) hC h0 hws hl (by omega) (by decide) (bD_get dl_chance 11 rfl rfl) (bD_get dl_chance 12 rfl rfl) (bD_get dl_chance 13 rfl rfl) (bD_get dl_chance 14 rfl rfl) (bD_get dl_chance 15 rfl rfl) ?_
  refine ld5 (j := 4) hC h0 hws hl (by omega) (by decide) (bD_get dl_chance 16 rfl rfl) (bD_get dl_chance 17 rfl rfl) (bD_get dl_chance 18 rfl rfl) (bD_get dl_chance 19 rfl rfl) (bD_get dl_chance 20 rfl rfl) ?_
  refine rw_callV (As := [.int (xs (k + 1)), .int (xs (k + 2)), .int (xs (k + 3)), .int (xs (k + 4))]) (rest := []) hx hb (hml.trans hl.1.symm) hts cf_all hown hK hws hcs (show CO l room_1 RL 163 (0, 9, 5, mD C_GT_chance) from ⟨yX9_chance, cX9_chance, 10, some .int, ({ frames := 7, cells := 0, slots := 0, locals := 185 } : Room), (RX9, TX9, 14), ct_GT_chance l, ⟨rfl, rfl, by decide, by decide⟩, yf_GT_chance.1, yf_GT_chance.2.1, tw5 (i := 196) rfl rfl, yd_GT_chance, yf_GT_chance.2.2.1, rfl, yf_GT_chance.2.2.2⟩) (by decide) rfl e1 (by decide) (bD_get dl_chance 21 rfl rfl) (fun H1 locs1 hws => ?_)
  refine lv_aload_n hx hb (bD_get dl_chance 22 rfl rfl) rfl (lv_at hl 2 rfl) ?_
  refine ld5 (j := 1) hC h0 hws hl (by omega) (by decide) (bD_get dl_chance 23 rfl rfl) (bD_get dl_chance 24 rfl rfl) (bD_get dl_chance 25 rfl rfl) (bD_get dl_chance 26 rfl rfl) (bD_get dl_chance 27 rfl rfl) ?_
  refine ld5 (j := 2) hC h0 hws hl (by omega) (by decide) (bD_get dl_chance 28 rfl rfl) (bD_get dl_chance 29 rfl rfl) (bD_get dl_chance 30 rfl rfl) (bD_get dl_chance 31 rfl rfl) (bD_get dl_chance 32 rfl rfl) ?_
  refine ld5 (j := 3) hC h0 hws hl (by omega) (by decide) (bD_get dl_chance 33 rfl rfl) (bD_get dl_chance 34 rfl rfl) (bD_get dl_chance 35 rfl rfl) (bD_get dl_chance 36 rfl rfl) (bD_get dl_chance 37 rfl rfl) ?_
  refine ld5 (j := 4) hC h0 hws hl (by omega) (by decide) (bD_get dl_chance 38 rfl rfl) (bD_get dl_chance 39 rfl rfl) (bD_get dl_chance 40 rfl rfl) (bD_get dl_chance 41 rfl rfl) (bD_get dl_chance 42 rfl rfl) ?_
  refine rw_callV (As := [.int (xs (k + 1)), .int (xs (k + 2)), .int (xs (k + 3)), .int (xs (k + 4))]) (rest := [.int v]) hx hb (hml.trans hl.1.symm) hts cf_all hown hK hws hcs (show CO l room_1 RL 166 (0, 10, 5, mD C_Mo_chance) from ⟨yX10_chance, cX10_chance, 9, some .int, ({ frames := 9, cells := 0, slots := 0, locals := 230 } : Room), (RX10, TX10, 91), ct_Mo_chance l, ⟨rfl, rfl, by decide, by decide⟩, yf_Mo_chance.1, yf_Mo_chance.2.1, tw9 (i := 133) rfl rfl, yd_Mo_chance, yf_Mo_chance.2.2.1, rfl, yf_Mo_chance.2.2.2⟩) (by decide) rfl e2 (Nat.le_of_ble_eq_true rfl) (bD_get dl_chance 43 rfl rfl) (fun H2 locs2 hws => ?_)
  refine lv_icmp_eq hx hb (bD_get dl_chance 44 rfl rfl) (tgt := 1555) rfl (fun _ => ?_) (fun q => absurd rfl q)
  exact kk _ _ _ _ _ _ _ _ hI2 hws
def El_tried : List Ent := [(.aload_n 1, 1, 0, 0), (.aload_n 0, 1, 0, 0), (.iload 4, 2, 0, 0), (.iconst 1, 1, 0, 0), (.iadd, 1, 0, 0), (.iaload, 1, 0, 0), (.aload_n 0, 1, 0, 0), (.iload 4, 2, 0, 0), (.iconst 2, 1, 0, 0), (.iadd, 1, 0, 0), (.iaload, 1, 0, 0), (.aload_n 0, 1, 0, 0), (.iload 4, 2, 0, 0), (.iconst 3, 1, 0, 0), (.iadd, 1, 0, 0), (.iaload, 1, 0, 0), (.invokevirtual 167, 3, 0, 0), (.aload_n 2, 1, 0, 0), (.aload_n 0, 1, 0, 0), (.iload 4, 2, 0, 0), (.iconst 1, 1, 0, 0), (.iadd, 1, 0, 0), (.iaload, 1, 0, 0), (.aload_n 0, 1, 0, 0), (.iload 4, 2, 0, 0), (.iconst 2, 1, 0, 0), (.iadd, 1, 0, 0), (.iaload, 1, 0, 0), (.aload_n 0, 1, 0, 0), (.iload 4, 2, 0, 0), (.iconst 3, 1, 0, 0), (.iadd, 1, 0, 0), (.iaload, 1, 0, 0), (.invokevirtual 170, 3, 0, 0), (.if_icmp .eq 69, 3, 0, 0), (.iconst 0, 1, 0, 0), (.ireturn, 1, 0, 0)]
set_option maxRecDepth 20000 in
theorem dl_tried : bD code El_tried 1442 = true := by decide +kernel
set_option maxRecDepth 20000 in
theorem lc_tried (hC : LC p s m args c D cy base b L xs) (h0 : ∀ q, q < base → H0[q]? = s.heap[q]?) (hI : INV P i0 l0 s0 r0 p0) (hws : WS D cy base b H0 (i0, l0, Rp s0 r0 p0) H locs) (hl : lv_has ls 7 (LL base b k)) (hk : k + 6 ≤ L) (hcs : cells ≤ room_1.cells ∧ slots ≤ room_1.slots)
    (kk : ∀ (H' : Heap) (locs' : List Loc) (P' : PL) (i' : Nat → Nat → Int32) (l' : Nat → Nat → Int64) (s' r' p' : Nat), INV P' i' l' s' r' p' → WS D cy base b H0 (i', l', Rp s' r' p') H' locs' → W p l e room_1 s m args below meth c H' locs' cells slots Q (F0 m 1555 ls [])) :
    W p l e room_1 s m args below meth c H locs cells slots Q (F0 m 1442 ls []) := by
  obtain ⟨hx, hb, hml, hts, hown, hK, hbb, hX, hL⟩ := id hC
  obtain ⟨v, j1, l1, j2, l2, e1, e2, hI2⟩ := tried_pr hI (xs (k + 1)) (xs (k + 2)) (xs (k + 3))
  refine lv_aload_n hx hb (bD_get dl_tried 0 rfl rfl) rfl (lv_at hl 3 rfl) ?_
  refine ld5 (j := 1) hC h0 hws hl (by omega) (by decide) (bD_get dl_tried 1 rfl rfl) (bD_get dl_tried 2 rfl rfl) (bD_get dl_tried 3 rfl rfl) (bD_get dl_tried 4 rfl rfl) (bD_get dl_tried 5 rfl rfl) ?_
  refine ld5 (j := 2) hC h0 hws hl (by omega) (by decide) (bD_get dl_tried 6 rfl rfl) (bD_get dl_tried 7 rfl rfl) (bD_get dl_tried 8 rfl rfl) (bD_get dl_tried 9 rfl rfl) (bD_get dl_tried 10 rfl rfl) ?_
  refine ld5 (j := 3) hC h0 hws hl (by omega) (by decide) (bD_get dl_tried 11 rfl rfl) (bD_get dl_tried 12 rfl rfl) (bD_get dl_tried 13 rfl rfl) (bD_get dl_tried 14 rfl rfl) (bD_get dl_tried 15 rfl rfl) ?_
  refine rw_callV (As := [.int (xs (k + 1)), .int (xs (k + 2)), .int (xs (k + 3))]) (rest := []) hx hb (hml.trans hl.1.symm) hts cf_all hown hK hws hcs (show CO l room_1 RL 167 (0, 9, 4, mD C_GT_tried) from ⟨yX9_tried, cX9_tried, 4, some .int, ({ frames := 7, cells := 0, slots := 0, locals := 185 } : Room), (RX9, TX9, 14), ct_GT_tried l, ⟨rfl, rfl, by decide, by decide⟩, yf_GT_tried.1, yf_GT_tried.2.1, tw5 (i := 200) rfl rfl, yd_GT_tried, yf_GT_tried.2.2.1, rfl, yf_GT_tried.2.2.2⟩) (by decide) rfl e1 (by decide) (bD_get dl_tried 16 rfl rfl) (fun H1 locs1 hws => ?_)
  refine lv_aload_n hx hb (bD_get dl_tried 17 rfl rfl) rfl (lv_at hl 2 rfl) ?_
  refine ld5 (j := 1) hC h0 hws hl (by omega) (by decide) (bD_get dl_tried 18 rfl rfl) (bD_get dl_tried 19 rfl rfl) (bD_get dl_tried 20 rfl rfl) (bD_get dl_tried 21 rfl rfl) (bD_get dl_tried 22 rfl rfl) ?_
  refine ld5 (j := 2) hC h0 hws hl (by omega) (by decide) (bD_get dl_tried 23 rfl rfl) (bD_get dl_tried 24 rfl rfl) (bD_get dl_tried 25 rfl rfl) (bD_get dl_tried 26 rfl rfl) (bD_get dl_tried 27 rfl rfl) ?_
  refine ld5 (j := 3) hC h0 hws hl (by omega) (by decide) (bD_get dl_tried 28 rfl rfl) (bD_get dl_tried 29 rfl rfl) (bD_get dl_tried 30 rfl rfl) (bD_get dl_tried 31 rfl rfl) (bD_get dl_tried 32 rfl rfl) ?_
  refine rw_callV (As := [.int (xs (k + 1)), .int (xs (k + 2)), .int (xs (k + 3))]) (rest := [.int v]) hx hb (hml.trans hl.1.symm) hts cf_all hown hK hws hcs (show CO l room_1 RL 170 (0, 10, 4, mD C_Mo_tried) from ⟨yX10_tried, cX10_tried, 4, some .int, ({ frames := 9, cells := 0, slots := 0, locals := 230 } : Room), (RX10, TX10, 91), ct_Mo_tried l, ⟨rfl, rfl, by decide, by decide⟩, yf_Mo_tried.1, yf_Mo_tried.2.1, tw9 (i := 137) rfl rfl, yd_Mo_tried, yf_Mo_tried.2.2.1, rfl, yf_Mo_tried.2.2.2⟩) (by decide) rfl e2 (Nat.le_of_ble_eq_true rfl) (bD_get dl_tried 33 rfl rfl) (fun H2 locs2 hws => ?_)
  refine lv_icmp_eq hx hb (bD_get dl_tried 34 rfl rfl) (tgt := 1555) rfl (fun _ => ?_) (fun q => absurd rfl q)
  exact kk _ _ _ _ _ _ _ _ hI2 hws
def El_undo : List Ent := [(.aload_n 1, 1, 0, 0), (.invokevirtual 171, 3, 0, 0), (.aload_n 2, 1, 0, 0), (.invokevirtual 174, 3, 0, 0), (.if_icmp .eq 56, 3, 0, 0), (.iconst 0, 1, 0, 0), (.ireturn, 1, 0, 0)]
set_option maxRecDepth 20000 in
theorem dl_undo : bD code El_undo 1491 = true := by decide +kernel
set_option maxRecDepth 20000 in
theorem lc_undo (hC : LC p s m args c D cy base b L xs) (h0 : ∀ q, q < base → H0[q]? = s.heap[q]?) (hI : INV P i0 l0 s0 r0 p0) (hws : WS D cy base b H0 (i0, l0, Rp s0 r0 p0) H locs) (hl : lv_has ls 7 (LL base b k)) (hk : k + 6 ≤ L) (hcs : cells ≤ room_1.cells ∧ slots ≤ room_1.slots)
    (kk : ∀ (H' : Heap) (locs' : List Loc) (P' : PL) (i' : Nat → Nat → Int32) (l' : Nat → Nat → Int64) (s' r' p' : Nat), INV P' i' l' s' r' p' → WS D cy base b H0 (i', l', Rp s' r' p') H' locs' → W p l e room_1 s m args below meth c H' locs' cells slots Q (F0 m 1555 ls [])) :
    W p l e room_1 s m args below meth c H locs cells slots Q (F0 m 1491 ls []) := by
  obtain ⟨hx, hb, hml, hts, hown, hK, hbb, hX, hL⟩ := id hC
  obtain ⟨v, j1, l1, j2, l2, e1, e2, hI2⟩ := undo_pr hI 
  refine lv_aload_n hx hb (bD_get dl_undo 0 rfl rfl) rfl (lv_at hl 3 rfl) ?_
  refine rw_callV (As := []) (rest := []) hx hb (hml.trans hl.1.symm) hts cf_all hown hK hws hcs (show CO l room_1 RL 171 (0, 9, 1, mD C_GT_undo) from ⟨yX9_undo, cX9_undo, 1, some .int, ({ frames := 3, cells := 0, slots := 0, locals := 88 } : Room), (RX9, TX9, 14), ct_GT_undo l, ⟨rfl, rfl, by decide, by decide⟩, yf_GT_undo.1, yf_GT_undo.2.1, tw5 (i := 208) rfl rfl, yd_GT_undo, yf_GT_undo.2.2.1, rfl, yf_GT_undo.2.2.2⟩) (by decide) rfl e1 (by decide) (bD_get dl_undo 1 rfl rfl) (fun H1 locs1 hws => ?_)
  refine lv_aload_n hx hb (bD_get dl_undo 2 rfl rfl) rfl (lv_at hl 2 rfl) ?_
  refine rw_callV (As := []) (rest := [.int v]) hx hb (hml.trans hl.1.symm) hts cf_all hown hK hws hcs (show CO l room_1 RL 174 (0, 10, 1, mD C_Mo_undo) from ⟨yX10_undo, cX10_undo, 1, some .int, ({ frames := 1, cells := 0, slots := 0, locals := 23 } : Room), (RX10, TX10, 91), ct_Mo_undo l, ⟨rfl, rfl, by decide, by decide⟩, yf_Mo_undo.1, yf_Mo_undo.2.1, tw9 (i := 141) rfl rfl, yd_Mo_undo, yf_Mo_undo.2.2.1, rfl, yf_Mo_undo.2.2.2⟩) (by decide) rfl e2 (Nat.le_of_ble_eq_true rfl) (bD_get dl_undo 3 rfl rfl) (fun H2 locs2 hws => ?_)
  refine lv_icmp_eq hx hb (bD_get dl_undo 4 rfl rfl) (tgt := 1555) rfl (fun _ => ?_) (fun q => absurd rfl q)
  exact kk _ _ _ _ _ _ _ _ hI2 hws
def El_keep : List Ent := [(.aload_n 1, 1, 0, 0), (.invokevirtual 175, 3, 0, 0), (.aload_n 2, 1, 0, 0), (.invokevirtual 178, 3, 0, 0), (.if_icmp .eq 43, 3, 0, 0), (.iconst 0, 1, 0, 0), (.ireturn, 1, 0, 0)]
set_option maxRecDepth 20000 in
theorem dl_keep : bD code El_keep 1504 = true := by decide +kernel
set_option maxRecDepth 20000 in
theorem lc_keep (hC : LC p s m args c D cy base b L xs) (h0 : ∀ q, q < base → H0[q]? = s.heap[q]?) (hI : INV P i0 l0 s0 r0 p0) (hws : WS D cy base b H0 (i0, l0, Rp s0 r0 p0) H locs) (hl : lv_has ls 7 (LL base b k)) (hk : k + 6 ≤ L) (hcs : cells ≤ room_1.cells ∧ slots ≤ room_1.slots)
    (kk : ∀ (H' : Heap) (locs' : List Loc) (P' : PL) (i' : Nat → Nat → Int32) (l' : Nat → Nat → Int64) (s' r' p' : Nat), INV P' i' l' s' r' p' → WS D cy base b H0 (i', l', Rp s' r' p') H' locs' → W p l e room_1 s m args below meth c H' locs' cells slots Q (F0 m 1555 ls [])) :
    W p l e room_1 s m args below meth c H locs cells slots Q (F0 m 1504 ls []) := by
  obtain ⟨hx, hb, hml, hts, hown, hK, hbb, hX, hL⟩ := id hC
  obtain ⟨v, j1, l1, j2, l2, e1, e2, hI2⟩ := keep_pr hI 
  refine lv_aload_n hx hb (bD_get dl_keep 0 rfl rfl) rfl (lv_at hl 3 rfl) ?_
  refine rw_callV (As := []) (rest := []) hx hb (hml.trans hl.1.symm) hts cf_all hown hK hws hcs (show CO l room_1 RL 175 (0, 9, 1, mD C_GT_keep) from ⟨yX9_keep, cX9_keep, 1, some .int, ({ frames := 2, cells := 0, slots := 0, locals := 65 } : Room), (RX9, TX9, 14), ct_GT_keep l, ⟨rfl, rfl, by decide, by decide⟩, yf_GT_keep.1, yf_GT_keep.2.1, tw5 (i := 220) rfl rfl, yd_GT_keep, yf_GT_keep.2.2.1, rfl, yf_GT_keep.2.2.2⟩) (by decide) rfl e1 (by decide) (bD_get dl_keep 1 rfl rfl) (fun H1 locs1 hws => ?_)
  refine lv_aload_n hx hb (bD_get dl_keep 2 rfl rfl) rfl (lv_at hl 2 rfl) ?_
  refine rw_callV (As := []) (rest := [.int v]) hx hb (hml.trans hl.1.symm) hts cf_all hown hK hws hcs (show CO l room_1 RL 178 (0, 10, 1, mD C_Mo_keep) from ⟨yX10_keep, cX10_keep, 1, some .int, ({ frames := 1, cells := 0, slots := 0, locals := 23 } : Room), (RX10, TX10, 91), ct_Mo_keep l, ⟨rfl, rfl, by decide, by decide⟩, yf_Mo_keep.1, yf_Mo_keep.2.1, tw9 (i := 149) rfl rfl, yd_Mo_keep, yf_Mo_keep.2.2.1, rfl, yf_Mo_keep.2.2.2⟩) (by decide) rfl e2 (Nat.le_of_ble_eq_true rfl) (bD_get dl_keep 3 rfl rfl) (fun H2 locs2 hws => ?_)
  refine lv_icmp_eq hx hb (bD_get dl_keep 4 rfl rfl) (tgt := 1555) rfl (fun _ => ?_) (fun q => absurd rfl q)
  exact kk _ _ _ _ _ _ _ _ hI2 hws
def El_back : List Ent := [(.aload_n 1, 1, 0, 0), (.invokevirtual 179, 3, 0, 0), (.aload_n 2, 1, 0, 0), (.invokevirtual 182, 3, 0, 0), (.if_icmp .eq 30, 3, 0, 0), (.iconst 0, 1, 0, 0), (.ireturn, 1, 0, 0)]
set_option maxRecDepth 20000 in
theorem dl_back : bD code El_back 1517 = true := by decide +kernel
set_option maxRecDepth 20000 in
theorem lc_back (hC : LC p s m args c D cy base b L xs) (h0 : ∀ q, q < base → H0[q]? = s.heap[q]?) (hI : INV P i0 l0 s0 r0 p0) (hws : WS D cy base b H0 (i0, l0, Rp s0 r0 p0) H locs) (hl : lv_has ls 7 (LL base b k)) (hk : k + 6 ≤ L) (hcs : cells ≤ room_1.cells ∧ slots ≤ room_1.slots)
    (kk : ∀ (H' : Heap) (locs' : List Loc) (P' : PL) (i' : Nat → Nat → Int32) (l' : Nat → Nat → Int64) (s' r' p' : Nat), INV P' i' l' s' r' p' → WS D cy base b H0 (i', l', Rp s' r' p') H' locs' → W p l e room_1 s m args below meth c H' locs' cells slots Q (F0 m 1555 ls [])) :
    W p l e room_1 s m args below meth c H locs cells slots Q (F0 m 1517 ls []) := by
  obtain ⟨hx, hb, hml, hts, hown, hK, hbb, hX, hL⟩ := id hC
  obtain ⟨v, j1, l1, j2, l2, e1, e2, hI2⟩ := back_pr hI 
  refine lv_aload_n hx hb (bD_get dl_back 0 rfl rfl) rfl (lv_at hl 3 rfl) ?_
  refine rw_callV (As := []) (rest := []) hx hb (hml.trans hl.1.symm) hts cf_all hown hK hws hcs (show CO l room_1 RL 179 (0, 9, 1, mD C_GT_back) from ⟨yX9_back, cX9_back, 1, some .int, ({ frames := 2, cells := 0, slots := 0, locals := 65 } : Room), (RX9, TX9, 14), ct_GT_back l, ⟨rfl, rfl, by decide, by decide⟩, yf_GT_back.1, yf_GT_back.2.1, tw5 (i := 224) rfl rfl, yd_GT_back, yf_GT_back.2.2.1, rfl, yf_GT_back.2.2.2⟩) (by decide) rfl e1 (by decide) (bD_get dl_back 1 rfl rfl) (fun H1 locs1 hws => ?_)
  refine lv_aload_n hx hb (bD_get dl_back 2 rfl rfl) rfl (lv_at hl 2 rfl) ?_
  refine rw_callV (As := []) (rest := [.int v]) hx hb (hml.trans hl.1.symm) hts cf_all hown hK hws hcs (show CO l room_1 RL 182 (0, 10, 1, mD C_Mo_back) from ⟨yX10_back, cX10_back, 1, some .int, ({ frames := 1, cells := 0, slots := 0, locals := 23 } : Room), (RX10, TX10, 91), ct_Mo_back l, ⟨rfl, rfl, by decide, by decide⟩, yf_Mo_back.1, yf_Mo_back.2.1, tw9 (i := 153) rfl rfl, yd_Mo_back, yf_Mo_back.2.2.1, rfl, yf_Mo_back.2.2.2⟩) (by decide) rfl e2 (Nat.le_of_ble_eq_true rfl) (bD_get dl_back 3 rfl rfl) (fun H2 locs2 hws => ?_)
  refine lv_icmp_eq hx hb (bD_get dl_back 4 rfl rfl) (tgt := 1555) rfl (fun _ => ?_) (fun q => absurd rfl q)
  exact kk _ _ _ _ _ _ _ _ hI2 hws
def El_count : List Ent := [(.aload_n 1, 1, 0, 0), (.aload_n 0, 1, 0, 0), (.iload 4, 2, 0, 0), (.iconst 1, 1, 0, 0), (.iadd, 1, 0, 0), (.iaload, 1, 0, 0), (.invokevirtual 183, 3, 0, 0), (.aload_n 2, 1, 0, 0), (.aload_n 0, 1, 0, 0), (.iload 4, 2, 0, 0), (.iconst 1, 1, 0, 0), (.iadd, 1, 0, 0), (.iaload, 1, 0, 0), (.invokevirtual 186, 3, 0, 0), (.if_icmp .eq 5, 3, 0, 0), (.iconst 0, 1, 0, 0), (.ireturn, 1, 0, 0)]
set_option maxRecDepth 20000 in
theorem dl_count : bD code El_count 1530 = true := by decide +kernel
set_option maxRecDepth 20000 in
theorem lc_count (hC : LC p s m args c D cy base b L xs) (h0 : ∀ q, q < base → H0[q]? = s.heap[q]?) (hI : INV P i0 l0 s0 r0 p0) (hws : WS D cy base b H0 (i0, l0, Rp s0 r0 p0) H locs) (hl : lv_has ls 7 (LL base b k)) (hk : k + 6 ≤ L) (hcs : cells ≤ room_1.cells ∧ slots ≤ room_1.slots)
    (kk : ∀ (H' : Heap) (locs' : List Loc) (P' : PL) (i' : Nat → Nat → Int32) (l' : Nat → Nat → Int64) (s' r' p' : Nat), INV P' i' l' s' r' p' → WS D cy base b H0 (i', l', Rp s' r' p') H' locs' → W p l e room_1 s m args below meth c H' locs' cells slots Q (F0 m 1555 ls [])) :
    W p l e room_1 s m args below meth c H locs cells slots Q (F0 m 1530 ls []) := by
  obtain ⟨hx, hb, hml, hts, hown, hK, hbb, hX, hL⟩ := id hC
  obtain ⟨v, j1, l1, j2, l2, e1, e2, hI2⟩ := count_pr hI (xs (k + 1))
  refine lv_aload_n hx hb (bD_get dl_count 0 rfl rfl) rfl (lv_at hl 3 rfl) ?_
  refine ld5 (j := 1) hC h0 hws hl (by omega) (by decide) (bD_get dl_count 1 rfl rfl) (bD_get dl_count 2 rfl rfl) (bD_get dl_count 3 rfl rfl) (bD_get dl_count 4 rfl rfl) (bD_get dl_count 5 rfl rfl) ?_
  refine rw_callV (As := [.int (xs (k + 1))]) (rest := []) hx hb (hml.trans hl.1.symm) hts cf_all hown hK hws hcs (show CO l room_1 RL 183 (0, 9, 2, mD C_GT_count) from ⟨yX9_count, cX9_count, 2, some .int, ({ frames := 2, cells := 0, slots := 0, locals := 42 } : Room), (RX9, TX9, 14), ct_GT_count l, ⟨rfl, rfl, by decide, by decide⟩, yf_GT_count.1, yf_GT_count.2.1, tw5 (i := 228) rfl rfl, yd_GT_count, yf_GT_count.2.2.1, rfl, yf_GT_count.2.2.2⟩) (by decide) rfl e1 (by decide) (bD_get dl_count 6 rfl rfl) (fun H1 locs1 hws => ?_)
  refine lv_aload_n hx hb (bD_get dl_count 7 rfl rfl) rfl (lv_at hl 2 rfl) ?_
  refine ld5 (j := 1) hC h0 hws hl (by omega) (by decide) (bD_get dl_count 8 rfl rfl) (bD_get dl_count 9 rfl rfl) (bD_get dl_count 10 rfl rfl) (bD_get dl_count 11 rfl rfl) (bD_get dl_count 12 rfl rfl) ?_
  refine rw_callV (As := [.int (xs (k + 1))]) (rest := [.int v]) hx hb (hml.trans hl.1.symm) hts cf_all hown hK hws hcs (show CO l room_1 RL 186 (0, 10, 2, mD C_Mo_count) from ⟨yX10_count, cX10_count, 4, some .int, ({ frames := 1, cells := 0, slots := 0, locals := 23 } : Room), (RX10, TX10, 91), ct_Mo_count l, ⟨rfl, rfl, by decide, by decide⟩, yf_Mo_count.1, yf_Mo_count.2.1, tw9 (i := 157) rfl rfl, yd_Mo_count, yf_Mo_count.2.2.1, rfl, yf_Mo_count.2.2.2⟩) (by decide) rfl e2 (Nat.le_of_ble_eq_true rfl) (bD_get dl_count 13 rfl rfl) (fun H2 locs2 hws => ?_)
  refine lv_icmp_eq hx hb (bD_get dl_count 14 rfl rfl) (tgt := 1555) rfl (fun _ => ?_) (fun q => absurd rfl q)
  exact kk _ _ _ _ _ _ _ _ hI2 hws
end
