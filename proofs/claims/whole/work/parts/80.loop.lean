/-! the law's loop (by program) -/
def NCase (p : Program) (l : Launch) (e : Env) (s : State) (m : MethodId) (args : Array Value) (below : List Frame) (meth : Method) (c : Code) (D : va_G) (cy : Nat → ClassId) (base b L : Nat) (Q : State → Prop) : Prop :=
  ∀ (H : Heap) (ls : Array Slot) (k cells slots : Nat) (P : PL) (i0 : Nat → Nat → Int32) (l0 : Nat → Nat → Int64) (s0 r0 p0 : Nat), INV P i0 l0 s0 r0 p0 → Rep D cy base b (i0, l0, Rp s0 r0 p0) H → (∀ q, q < base → H[q]? = s.heap[q]?) → (∃ v, H[base + 128]? = some (arrV (cy 13) 1 (fun _ => .long v))) → lv_has ls 7 (LL base b k) → k + 6 ≤ L → cells + 1 ≤ room_1.cells → slots + 6 ≤ room_1.slots →
    (∀ (H' : Heap) (locs' : List Loc) (ls' : Array Slot) (P' : PL) (i' : Nat → Nat → Int32) (l' : Nat → Nat → Int64) (s' r' p' : Nat), INV P' i' l' s' r' p' → Rep D cy base b (i', l', Rp s' r' p') H' → (∀ q, q < base → H'[q]? = s.heap[q]?) → (∃ v, H'[base + 128]? = some (arrV (cy 13) 1 (fun _ => .long v))) → (∀ z ∈ locs', base ≤ z.base) → lv_has ls' 7 (LL base b k) → W p l e room_1 s m args below meth c H' locs' (cells + 1) (slots + 6) Q (F0 m 1555 ls' [])) →
    W p l e room_1 s m args below meth c H [] cells slots Q (F0 m 368 ls [])
theorem and63 (x : Int32) : ∃ c, c < 64 ∧ x &&& nI 63 = nI c := by
  refine ⟨(x &&& nI 63).toBitVec.toNat, ?_, ?_⟩
  · rw [Int32.toBitVec_and, BitVec.toNat_and]
    exact Nat.lt_of_le_of_lt Nat.and_le_right (by decide)
  · apply Int32.toBitVec_inj.mp
    show _ = BitVec.ofNat 32 _
    rw [BitVec.ofNat_toNat, BitVec.setWidth_eq]
theorem sub6 : ∀ n, n < 6 → nI n - nI 6 < 0 := by decide
section
variable {p : Program} {l : Launch} {e : Env} {s : State} {m : MethodId} {args : Array Value} {below : List Frame} {meth : Method} {c : Code} {Q : State → Prop}
variable {D : va_G} {cy : Nat → ClassId} {base b L : Nat} {xs : Nat → Int32}
set_option maxRecDepth 20000 in
theorem law_loop (hC : LC p s m args c D cy base b L xs) (hsz : s.heap.size = base) (hN : NCase p l e s m args below meth c D cy base b L Q)
    (kend : ∀ (H : Heap) (ls : Array Slot) (cells slots : Nat), cells ≤ 1155 → slots ≤ 22001 → W p l e room_1 s m args below meth c H [] cells slots Q (F0 m 1561 ls [])) :
    ∀ (d t : Nat), t + d = 512 → ∀ (H : Heap) (ls : Array Slot) (P : PL) (i0 : Nat → Nat → Int32) (l0 : Nat → Nat → Int64) (s0 r0 p0 : Nat), INV P i0 l0 s0 r0 p0 → Rep D cy base b (i0, l0, Rp s0 r0 p0) H → (∀ q, q < base → H[q]? = s.heap[q]?) → (∃ v, H[base + 128]? = some (arrV (cy 13) 1 (fun _ => .long v))) → lv_has ls 7 (LL base b (6 * t)) →
      W p l e room_1 s m args below meth c H [] (129 + t) (13797 + 6 * t) Q (F0 m 23 ls [])
  | d, t, hd, H, ls, P, i0, l0, s0, r0, p0, hI, hRep, hq, hout, hl => by
    obtain ⟨hx, hb, hml, hts, hown, hK, hbb, hX, hL⟩ := id hC
    obtain ⟨scr, g1, g2, g3, g4, g5⟩ := id hX
    have hws : WS D cy base b H (i0, l0, Rp s0 r0 p0) H [] := ⟨hRep, fun _ _ => rfl, fun z hz => by cases hz⟩
    refine lv_iload hx hb (by decide +kernel : decode code 23 = .ok (.iload 4, 2)) (lv_at hl 0 rfl) ?_
    refine lv_aload_n hx hb (by decide +kernel : decode code 25 = .ok (.aload_n 0, 1)) rfl (lv_at hl 4 rfl) ?_
    refine W.alen (n := nI L) hx hb (by rw [hq b hbb]; exact g1) g2 (by rw [g4]; rfl) rfl rfl (by decide +kernel : decode code 26 = .ok (.arraylength, 1)) ?_
    refine lv_bipush (v := nI 6) hx hb (by decide +kernel : decode code 27 = .ok (.bipush 6, 2)) (by decide) ?_
    refine lv_isub hx hb (by decide +kernel : decode code 29 = .ok (.isub, 1)) ?_
    by_cases hk : 6 * t + 6 ≤ L
    · rw [show nI L - nI 6 = nI (L - 6) from pk_sub (by omega)]
      refine lv_icmp_gt hx hb (by decide +kernel : decode code 30 = .ok (.if_icmp .gt 1531, 3)) (tgt := 1561) rfl (fun q => absurd q (nI_nlt (by omega) (by omega))) (fun _ => ?_)
      obtain ⟨d, rfl⟩ : ∃ d', d = d' + 1 := ⟨d - 1, by omega⟩
      have tail : ∀ (H' : Heap) (locs' : List Loc) (ls' : Array Slot) (P' : PL) (i' : Nat → Nat → Int32) (l' : Nat → Nat → Int64) (s' r' p' : Nat), INV P' i' l' s' r' p' → Rep D cy base b (i', l', Rp s' r' p') H' → (∀ q, q < base → H'[q]? = s.heap[q]?) → (∃ v, H'[base + 128]? = some (arrV (cy 13) 1 (fun _ => .long v))) → (∀ z ∈ locs', base ≤ z.base) → lv_has ls' 7 (LL base b (6 * t)) → W p l e room_1 s m args below meth c H' locs' (129 + t + 1) (13797 + 6 * t + 6) Q (F0 m 1555 ls' []) := fun H' locs' ls' P' i' l' s' r' p' a1 a2 a3 a4 a5 a6 => by
        refine va_forget (fun z hz => by rw [hsz]; exact a5 z hz) ?_
        refine lv_iinc (k := 0) (v := nI (6 * (t + 1))) hx hb (by decide +kernel : decode code 1555 = .ok (.iinc 4 6, 3)) a6 rfl (by rw [show Int32.ofInt 6 = nI 6 by decide, nI_add]; rfl) (by decide) rfl (fun ls2 hl2 => ?_)
        refine lv_goto hx hb (by decide +kernel : decode code 1558 = .ok (.goto (-1535), 3)) (tgt := 23) rfl ?_
        exact W.cs (by omega) (by omega) (law_loop hC hsz hN kend d (t + 1) (by omega) H' ls2 P' i' l' s' r' p' a1 a2 a3 a4 hl2)
      have kkc : ∀ (H' : Heap) (locs' : List Loc) (P' : PL) (i' : Nat → Nat → Int32) (l' : Nat → Nat → Int64) (s' r' p' : Nat), INV P' i' l' s' r' p' → WS D cy base b H (i', l', Rp s' r' p') H' locs' → W p l e room_1 s m args below meth c H' locs' (129 + t) (13797 + 6 * t) Q (F0 m 1555 ls []) := fun H' locs' P' i' l' s' r' p' a1 a2 => by
        obtain ⟨v, hv⟩ := hout
        exact W.widen (k := 129 + t + 1) (n := 13797 + 6 * t + 6) (by omega) (by omega) (tail H' locs' ls P' i' l' s' r' p' a1 a2.1 (fun q hq9 => (a2.2.1 q (Or.inl hq9)).trans (hq q hq9)) ⟨v, (a2.2.1 (base + 128) (Or.inr (Nat.le_refl _))).trans hv⟩ (fun z hz => (a2.2.2 z hz).1) hl)
      have hcs : 129 + t ≤ room_1.cells ∧ 13797 + 6 * t ≤ room_1.slots := ⟨show 129 + t ≤ 1155 by omega, show 13797 + 6 * t ≤ 22001 by omega⟩
      refine lv_aload_n hx hb (by decide +kernel : decode code 33 = .ok (.aload_n 0, 1)) rfl (lv_at hl 4 rfl) ?_
      refine lv_iload hx hb (by decide +kernel : decode code 34 = .ok (.iload 4, 2)) (lv_at hl 0 rfl) ?_
      refine W.iald (v := .int (xs (6 * t))) hx hb (by rw [hq b hbb]; exact g1) g2 g3 (by rw [g4]; exact nI_in (by omega) (by omega)) (by rw [nI_clamp (by omega)]; exact g5 _ (by omega)) rfl rfl (by decide +kernel : decode code 36 = .ok (.iaload, 1)) ?_
      refine lv_bipush (v := nI 63) hx hb (by decide +kernel : decode code 37 = .ok (.bipush 63, 2)) (by decide) ?_
      refine lv_iand hx hb (by decide +kernel : decode code 39 = .ok (.iand, 1)) ?_
      obtain ⟨x, hx64, hxe⟩ := and63 (xs (6 * t))
      rw [hxe]
      have dts := (by decide +kernel : decode code 40 = .ok (.tableswitch 1515 0 37 #[168, 241, 266, 291, 328, 396, 433, 470, 519, 568, 605, 655, 680, 705, 730, 755, 792, 817, 830, 867, 892, 929, 954, 979, 1004, 1053, 1114, 1152, 1229, 1254, 1279, 1304, 1341, 1402, 1451, 1464, 1477, 1490], 168))
      have : x = 0 ∨ x = 1 ∨ x = 2 ∨ x = 3 ∨ x = 4 ∨ x = 5 ∨ x = 6 ∨ x = 7 ∨ x = 8 ∨ x = 9 ∨ x = 10 ∨ x = 11 ∨ x = 12 ∨ x = 13 ∨ x = 14 ∨ x = 15 ∨ x = 16 ∨ x = 17 ∨ x = 18 ∨ x = 19 ∨ x = 20 ∨ x = 21 ∨ x = 22 ∨ x = 23 ∨ x = 24 ∨ x = 25 ∨ x = 26 ∨ x = 27 ∨ x = 28 ∨ x = 29 ∨ x = 30 ∨ x = 31 ∨ x = 32 ∨ x = 33 ∨ x = 34 ∨ x = 35 ∨ x = 36 ∨ x = 37 ∨ 38 ≤ x := by omega
      rcases this with y | y | y | y | y | y | y | y | y | y | y | y | y | y | y | y | y | y | y | y | y | y | y | y | y | y | y | y | y | y | y | y | y | y | y | y | y | y | y
      · subst y
        refine lv_tableIn hx hb dts (by decide) (by decide) (off := 168) (by decide) (tgt := 208) rfl ?_
        exact lc_feed hC hq hI hws hl hk hcs kkc
      · subst y
        refine lv_tableIn hx hb dts (by decide) (by decide) (off := 241) (by decide) (tgt := 281) rfl ?_
        exact lc_text hC hq hI hws hl hk hcs kkc
      · subst y
        refine lv_tableIn hx hb dts (by decide) (by decide) (off := 266) (by decide) (tgt := 306) rfl ?_
        exact lc_fault hC hq hI hws hl hk hcs kkc
      · subst y
        refine lv_tableIn hx hb dts (by decide) (by decide) (off := 291) (by decide) (tgt := 331) rfl ?_
        exact lc_named hC hq hI hws hl hk hcs kkc
      · subst y
        refine lv_tableIn hx hb dts (by decide) (by decide) (off := 328) (by decide) (tgt := 368) rfl ?_
        exact hN H ls (6 * t) _ _ P i0 l0 s0 r0 p0 hI hRep hq hout hl hk (show 129 + t + 1 ≤ 1155 by omega) (show 13797 + 6 * t + 6 ≤ 22001 by omega) tail
      · subst y
        refine lv_tableIn hx hb dts (by decide) (by decide) (off := 396) (by decide) (tgt := 436) rfl ?_
        exact lc_link hC hq hI hws hl hk hcs kkc
      · subst y
        refine lv_tableIn hx hb dts (by decide) (by decide) (off := 433) (by decide) (tgt := 473) rfl ?_
        exact lc_far hC hq hI hws hl hk hcs kkc
      · subst y
        refine lv_tableIn hx hb dts (by decide) (by decide) (off := 470) (by decide) (tgt := 510) rfl ?_
        exact lc_up hC hq hI hws hl hk hcs kkc
      · subst y
        refine lv_tableIn hx hb dts (by decide) (by decide) (off := 519) (by decide) (tgt := 559) rfl ?_
        exact lc_held hC hq hI hws hl hk hcs kkc
      · subst y
        refine lv_tableIn hx hb dts (by decide) (by decide) (off := 568) (by decide) (tgt := 608) rfl ?_
        exact lc_wants hC hq hI hws hl hk hcs kkc
      · subst y
        refine lv_tableIn hx hb dts (by decide) (by decide) (off := 605) (by decide) (tgt := 645) rfl ?_
        exact lc_law hC hq hI hws hl hk hcs kkc
      · subst y
        refine lv_tableIn hx hb dts (by decide) (by decide) (off := 655) (by decide) (tgt := 695) rfl ?_
        exact lc_listen hC hq hI hws hl hk hcs kkc
      · subst y
        refine lv_tableIn hx hb dts (by decide) (by decide) (off := 680) (by decide) (tgt := 720) rfl ?_
        exact lc_cut hC hq hI hws hl hk hcs kkc
      · subst y
        refine lv_tableIn hx hb dts (by decide) (by decide) (off := 705) (by decide) (tgt := 745) rfl ?_
        exact lc_send hC hq hI hws hl hk hcs kkc
      · subst y
        refine lv_tableIn hx hb dts (by decide) (by decide) (off := 730) (by decide) (tgt := 770) rfl ?_
        exact lc_go hC hq hI hws hl hk hcs kkc
      · subst y
        refine lv_tableIn hx hb dts (by decide) (by decide) (off := 755) (by decide) (tgt := 795) rfl ?_
        exact lc_ahead hC hq hI hws hl hk hcs kkc
      · subst y
        refine lv_tableIn hx hb dts (by decide) (by decide) (off := 792) (by decide) (tgt := 832) rfl ?_
        exact lc_quiet hC hq hI hws hl hk hcs kkc
      · subst y
        refine lv_tableIn hx hb dts (by decide) (by decide) (off := 817) (by decide) (tgt := 857) rfl ?_
        exact lc_settled hC hq hI hws hl hk hcs kkc
      · subst y
        refine lv_tableIn hx hb dts (by decide) (by decide) (off := 830) (by decide) (tgt := 870) rfl ?_
        exact lc_way hC hq hI hws hl hk hcs kkc
      · subst y
        refine lv_tableIn hx hb dts (by decide) (by decide) (off := 867) (by decide) (tgt := 907) rfl ?_
        exact lc_best hC hq hI hws hl hk hcs kkc
      · subst y
        refine lv_tableIn hx hb dts (by decide) (by decide) (off := 892) (by decide) (tgt := 932) rfl ?_
        exact lc_least hC hq hI hws hl hk hcs kkc
      · subst y
        refine lv_tableIn hx hb dts (by decide) (by decide) (off := 929) (by decide) (tgt := 969) rfl ?_
        exact lc_needed hC hq hI hws hl hk hcs kkc
      · subst y
        refine lv_tableIn hx hb dts (by decide) (by decide) (off := 954) (by decide) (tgt := 994) rfl ?_
        exact lc_wide hC hq hI hws hl hk hcs kkc
      · subst y
        refine lv_tableIn hx hb dts (by decide) (by decide) (off := 979) (by decide) (tgt := 1019) rfl ?_
        exact lc_used hC hq hI hws hl hk hcs kkc
      · subst y
        refine lv_tableIn hx hb dts (by decide) (by decide) (off := 1004) (by decide) (tgt := 1044) rfl ?_
        exact lc_rests hC hq hI hws hl hk hcs kkc
      · subst y
        refine lv_tableIn hx hb dts (by decide) (by decide) (off := 1053) (by decide) (tgt := 1093) rfl ?_
        exact lc_rest hC hq hI hws hl hk hcs kkc
      · subst y
        refine lv_tableIn hx hb dts (by decide) (by decide) (off := 1114) (by decide) (tgt := 1154) rfl ?_
        exact lc_holds hC hq hI hws hl hk hcs kkc
      · subst y
        refine lv_tableIn hx hb dts (by decide) (by decide) (off := 1152) (by decide) (tgt := 1192) rfl ?_
        exact lc_note hC hq hI hws hl hk hcs kkc
      · subst y
        refine lv_tableIn hx hb dts (by decide) (by decide) (off := 1229) (by decide) (tgt := 1269) rfl ?_
        exact lc_strike hC hq hI hws hl hk hcs kkc
      · subst y
        refine lv_tableIn hx hb dts (by decide) (by decide) (off := 1254) (by decide) (tgt := 1294) rfl ?_
        exact lc_known hC hq hI hws hl hk hcs kkc
      · subst y
        refine lv_tableIn hx hb dts (by decide) (by decide) (off := 1279) (by decide) (tgt := 1319) rfl ?_
        exact lc_costs hC hq hI hws hl hk hcs kkc
      · subst y
        refine lv_tableIn hx hb dts (by decide) (by decide) (off := 1304) (by decide) (tgt := 1344) rfl ?_
        exact lc_ask hC hq hI hws hl hk hcs kkc
      · subst y
        refine lv_tableIn hx hb dts (by decide) (by decide) (off := 1341) (by decide) (tgt := 1381) rfl ?_
        exact lc_chance hC hq hI hws hl hk hcs kkc
      · subst y
        refine lv_tableIn hx hb dts (by decide) (by decide) (off := 1402) (by decide) (tgt := 1442) rfl ?_
        exact lc_tried hC hq hI hws hl hk hcs kkc
      · subst y
        refine lv_tableIn hx hb dts (by decide) (by decide) (off := 1451) (by decide) (tgt := 1491) rfl ?_
        exact lc_undo hC hq hI hws hl hk hcs kkc
      · subst y
        refine lv_tableIn hx hb dts (by decide) (by decide) (off := 1464) (by decide) (tgt := 1504) rfl ?_
        exact lc_keep hC hq hI hws hl hk hcs kkc
      · subst y
        refine lv_tableIn hx hb dts (by decide) (by decide) (off := 1477) (by decide) (tgt := 1517) rfl ?_
        exact lc_back hC hq hI hws hl hk hcs kkc
      · subst y
        refine lv_tableIn hx hb dts (by decide) (by decide) (off := 1490) (by decide) (tgt := 1530) rfl ?_
        exact lc_count hC hq hI hws hl hk hcs kkc
      · refine lv_tableOut hx hb dts (Or.inr (by rw [nI_toInt (by omega)]; omega)) (tgt := 1555) rfl ?_
        exact kkc H [] P i0 l0 s0 r0 p0 hI hws
    · refine lv_icmp_gt hx hb (by decide +kernel : decode code 30 = .ok (.if_icmp .gt 1531, 3)) (tgt := 1561) rfl (fun _ => kend H ls _ _ (by omega) (by omega)) (fun q => absurd ?_ q)
      by_cases h6 : L < 6
      · exact Int32.lt_of_lt_of_le (sub6 L h6) (nI_pos' (by omega))
      · rw [show nI L - nI 6 = nI (L - 6) from pk_sub (by omega)]
        exact nI_lt (by omega) (by omega)
  termination_by d => d
end
