/-! the words of the language, as the component lays them (by program) -/
def tk : Nat → Nat × Nat × Nat
  | 0 => (0, 0, 0)
  | k + 1 => if txS.getD k 0 = 32 then ((tk k).1 + 1, 0, 0) else ((tk k).1, (tk k).2.1 * 32 + (txS.getD k 0 - 96), (tk k).2.2 + 1)
def tkC (k : Nat) : Bool := decide ((tk k).1 < 26) && (if txS.getD k 0 = 32 then decide (nI (tk k).2.1 <<< ((nI 5 * (nI 6 - nI (tk k).2.2)) &&& 31) = nI (wdC.getD (tk k).1 0)) else decide (((nI (tk k).2.1 <<< (nI 5 &&& 31)) ||| (nI (txS.getD k 0) - nI 97 + nI 1)) = nI (tk (k + 1)).2.1))
set_option maxRecDepth 20000 in
theorem tk_all : (List.range 133).all tkC = true := by decide +kernel
set_option maxRecDepth 20000 in
theorem tk_end : (tk 133).1 = 26 := by decide +kernel
theorem tk_ok {k : Nat} (hk : k < 133) : (tk k).1 < 26 ∧ (txS.getD k 0 = 32 → nI (tk k).2.1 <<< ((nI 5 * (nI 6 - nI (tk k).2.2)) &&& 31) = nI (wdC.getD (tk k).1 0)) ∧ (txS.getD k 0 ≠ 32 → ((nI (tk k).2.1 <<< (nI 5 &&& 31)) ||| (nI (txS.getD k 0) - nI 97 + nI 1)) = nI (tk (k + 1)).2.1) := by
  have h := List.all_eq_true.mp tk_all k (List.mem_range.mpr hk)
  unfold tkC at h
  rw [Bool.and_eq_true] at h
  refine ⟨of_decide_eq_true h.1, fun x => ?_, fun x => ?_⟩
  · have h2 := h.2
    rw [if_pos x] at h2
    exact of_decide_eq_true h2
  · have h2 := h.2
    rw [if_neg x] at h2
    exact of_decide_eq_true h2
theorem tk_s1 {k : Nat} (h : txS.getD k 0 = 32) : tk (k + 1) = ((tk k).1 + 1, 0, 0) := by
  show (if _ then _ else _) = _
  rw [if_pos h]
theorem tk_s2 {k : Nat} (h : txS.getD k 0 ≠ 32) : (tk (k + 1)).1 = (tk k).1 ∧ (tk (k + 1)).2.2 = (tk k).2.2 + 1 := by
  have : tk (k + 1) = ((tk k).1, (tk k).2.1 * 32 + (txS.getD k 0 - 96), (tk k).2.2 + 1) := by
    show (if _ then _ else _) = _
    rw [if_neg h]
  rw [this]
  exact ⟨rfl, rfl⟩
def MT (M : AM) (w : Nat) : AM := (oi (M1_Tokens M).1 3 0 w (fun k => nI (wdC.getD k 0)), (M1_Tokens M).2.1, (M1_Tokens M).2.2)
theorem MT_0 (M : AM) : MT M 0 = M1_Tokens M := by unfold MT; rw [oi_00]
theorem MT_s (M : AM) {w : Nat} {x : Int32} (h : x = nI (wdC.getD w 0)) : (u2 (MT M w).1 3 w x, (MT M w).2.1, (MT M w).2.2) = MT M (w + 1) := by
  show (u2 (oi (M1_Tokens M).1 3 0 w (fun k => nI (wdC.getD k 0))) 3 w x, (M1_Tokens M).2.1, (M1_Tokens M).2.2) = _
  rw [oi_s (f := fun k => nI (wdC.getD k 0)) (k := w) h.symm]
  rfl
theorem MT_r (M : AM) (w : Nat) : (MT M w).2.2 1 1 = some 3 := rfl
theorem one32 (n : Nat) : nI n + Int32.ofInt 1 = nI (n + 1) := by rw [show Int32.ofInt 1 = nI 1 by decide, nI_add]
section
variable {p : Program} {l : Launch} {e : Env} {s : State} {m : MethodId} {args : Array Value} {below : List Frame} {meth : Method} {c : Code} {Q : State → Prop} {D : va_G} {cy : Nat → ClassId} {base b aS aV : Nat} {fo : Option Nat} {M : AM}
set_option maxRecDepth 20000 in
theorem tok_loop (hx : p.tables.exec = Jvm.exec) (hb : c.code = cX8_init) (hml : c.maxLocals = 6) (hts : ∀ w ∈ TBg, w.before args s = true) (hown : s.vm.findClass RX8 = some m.cls) (hK : Kn D cy s) (hSK : SKx base aS aV fo s)
    (hrec : ∀ H : Heap, (∀ q, q < base → H[q]? = s.heap[q]?) → ∃ cell : Cell, H[aS]? = some cell ∧ cell.vm.isStatics = false ∧ s.vm.findClass "java/lang/String" = some cell.cls)
    (kk : ∀ (H : Heap) (locs : List Loc) (ls : Array Slot), WB D cy base b s.heap 7 (MT M 26) H locs → W p l e ({ frames := 6, cells := 5, slots := 2829, locals := 140 } : Room) s m args below meth c H locs 5 2829 Q (F0 m 170 ls [])) :
    ∀ (d k : Nat), k + d = 133 → ∀ (ls : Array Slot) (H : Heap) (locs : List Loc), lv_has ls 6 [(4, .int (nI k)), (3, .int (nI (tk k).2.2)), (2, .int (nI (tk k).2.1)), (1, .int (nI (tk k).1)), (0, .ref (adr base b 1))] → WB D cy base b s.heap 7 (MT M (tk k).1) H locs → W p l e ({ frames := 6, cells := 5, slots := 2829, locals := 140 } : Room) s m args below meth c H locs 5 2829 Q (F0 m 93 ls [])
  | d, k, hd, ls, H, locs, hl, hws => by
    refine lv_iload hx hb (by decide +kernel : decode cX8_init 93 = .ok (.iload 4, 2)) (lv_at hl 0 rfl) ?_
    refine va_ldcS hx hb hown hSK.1 (by decide +kernel : decode cX8_init 95 = .ok (.ldc 50, 2)) ?_
    refine jw_after (va_runV (Ts := TBg) (own := RX8) (C := "java/lang/String") (b := aS) (As := []) (rest := [.int (nI k)]) (n := 0) ⟨hx, hb, hml.trans hl.1.symm, hown, hts⟩ (cj_length l base aS aV fo) ⟨callB_of 0 hts (good_tb (tw1 (i := 43) rfl rfl)) rfl rfl rfl (hts _ (tw1 (i := 3) rfl rfl)) (hts _ (tw1 (i := 40) rfl rfl)) ⟨by decide +kernel, by decide +kernel, by decide +kernel⟩ ⟨by decide, by decide⟩, hts _ (tw1 (i := 41) rfl rfl), hts _ (tw1 (i := 42) rfl rfl)⟩ ⟨blind_pcj, hrec H (fun q hq => hws.2.1 q hq), fun U hU hW => ⟨rfl, hSK.kept hW (fun q hq => by rw [hU]; exact hws.2.1 q hq)⟩⟩ rfl rfl rfl rfl (lv_room (Nat.le_of_ble_eq_true rfl)) (by decide +kernel : decode cX8_init 97 = .ok (.invokevirtual 52, 3)) ⟨by decide, by decide⟩) ?_
    by_cases hk : k = 133
    · subst hk
      refine lv_icmp_ge hx hb (by decide +kernel : decode cX8_init 100 = .ok (.if_icmp .ge 70, 3)) (tgt := 170) rfl (fun _ => ?_) (fun q => absurd (Int32.le_refl _) q)
      rw [tk_end] at hws
      exact kk H locs ls hws
    · have hkN : k < 133 := by omega
      obtain ⟨w1, w2, w3⟩ := tk_ok hkN
      obtain ⟨d, rfl⟩ : ∃ d', d = d' + 1 := ⟨d - 1, by omega⟩
      refine lv_icmp_ge hx hb (by decide +kernel : decode cX8_init 100 = .ok (.if_icmp .ge 70, 3)) (tgt := 170) rfl (fun q => absurd q (nI_ge hkN (by decide))) (fun _ => ?_)
      refine lv_iload_n hx hb (by decide +kernel : decode cX8_init 103 = .ok (.iload_n 1, 1)) rfl (lv_at hl 3 rfl) ?_
      refine lv_bipush (v := nI 26) hx hb (by decide +kernel : decode cX8_init 104 = .ok (.bipush 26, 2)) (by decide) ?_
      refine lv_icmp_ge hx hb (by decide +kernel : decode cX8_init 106 = .ok (.if_icmp .ge 64, 3)) (tgt := 170) rfl (fun q => absurd q (nI_ge w1 (by decide))) (fun _ => ?_)
      refine va_ldcS hx hb hown hSK.1 (by decide +kernel : decode cX8_init 109 = .ok (.ldc 50, 2)) ?_
      refine lv_iload hx hb (by decide +kernel : decode cX8_init 111 = .ok (.iload 4, 2)) (lv_at hl 0 rfl) ?_
      refine jw_after (va_runV (Ts := TBg) (own := RX8) (C := "java/lang/String") (b := aS) (As := [.int (nI k)]) (rest := []) (n := 1) ⟨hx, hb, hml.trans hl.1.symm, hown, hts⟩ (cj_charAt l base aS aV fo hkN) ⟨callB_of 1 hts (good_tb (tw1 (i := 53) rfl rfl)) rfl rfl rfl (hts _ (tw1 (i := 3) rfl rfl)) (hts _ (tw1 (i := 50) rfl rfl)) ⟨by decide +kernel, by decide +kernel, by decide +kernel⟩ ⟨by decide, by decide⟩, hts _ (tw1 (i := 51) rfl rfl), hts _ (tw1 (i := 52) rfl rfl)⟩ ⟨blind_pcj, hrec H (fun q hq => hws.2.1 q hq), fun U hU hW => ⟨rfl, hSK.kept hW (fun q hq => by rw [hU]; exact hws.2.1 q hq)⟩⟩ rfl rfl rfl rfl (lv_room (Nat.le_of_ble_eq_true rfl)) (by decide +kernel : decode cX8_init 113 = .ok (.invokevirtual 58, 3)) ⟨by decide, by decide⟩) ?_
      refine lv_istore hx hb (by decide +kernel : decode cX8_init 116 = .ok (.istore 5, 2)) hl (by decide) rfl (fun ls hl => ?_)
      refine lv_iload hx hb (by decide +kernel : decode cX8_init 118 = .ok (.iload 5, 2)) (lv_at hl 0 rfl) ?_
      refine lv_bipush (v := nI 32) hx hb (by decide +kernel : decode cX8_init 120 = .ok (.bipush 32, 2)) (by decide) ?_
      have hc9 := tx_128 k hkN
      by_cases h32 : txS.getD k 0 = 32
      · refine lv_icmp_ne hx hb (by decide +kernel : decode cX8_init 122 = .ok (.if_icmp .ne 27, 3)) (tgt := 149) rfl (fun q => absurd (by rw [h32]) q) (fun _ => ?_)
        refine lv_aload_n hx hb (by decide +kernel : decode cX8_init 125 = .ok (.aload_n 0, 1)) rfl (lv_at hl 5 rfl) ?_
        refine bw_get hx hb hts cf_all hown hK hws (a := 1) (k9 := 8) (k := 1) (by decide) (by decide) (by decide) (FLc_Tokens_ok _ (show (15, 8, 1) ∈ FLc_Tokens by decide)) (by decide +kernel : decode cX8_init 126 = .ok (.getfield 15, 3)) ?_
        rw [fV_2 (c := 8) (by decide) (by decide), MT_r]
        refine lv_iload_n hx hb (by decide +kernel : decode cX8_init 129 = .ok (.iload_n 1, 1)) rfl (lv_at hl 4 rfl) ?_
        refine lv_iload_n hx hb (by decide +kernel : decode cX8_init 130 = .ok (.iload_n 2, 1)) rfl (lv_at hl 3 rfl) ?_
        refine lv_iconst (v := nI 5) hx hb (by decide +kernel : decode cX8_init 131 = .ok (.iconst 5, 1)) (by decide) ?_
        refine lv_bipush (v := nI 6) hx hb (by decide +kernel : decode cX8_init 132 = .ok (.bipush 6, 2)) (by decide) ?_
        refine lv_iload_n hx hb (by decide +kernel : decode cX8_init 134 = .ok (.iload_n 3, 1)) rfl (lv_at hl 2 rfl) ?_
        refine lv_isub hx hb (by decide +kernel : decode cX8_init 135 = .ok (.isub, 1)) ?_
        refine lv_imul hx hb (by decide +kernel : decode cX8_init 136 = .ok (.imul, 1)) ?_
        refine lv_ishl hx hb (by decide +kernel : decode cX8_init 137 = .ok (.ishl, 1)) ?_
        refine bw_iast hx hb hK hws (a := 3) (by decide) (by decide) (show inB (nI (tk k).1) (gN 3) from ⟨nI_pos (by omega), by rw [nI_clamp (by omega)]; exact w1⟩) (by decide +kernel : decode cX8_init 138 = .ok (.iastore, 1)) (fun H locs hws => ?_)
        rw [nI_clamp (by omega), MT_s M (w2 h32)] at hws
        refine lv_iinc (k := 4) hx hb (by decide +kernel : decode cX8_init 139 = .ok (.iinc 1 1, 3)) hl rfl (one32 _) (by decide) rfl (fun ls hl => ?_)
        refine lv_iconst (v := nI 0) hx hb (by decide +kernel : decode cX8_init 142 = .ok (.iconst 0, 1)) (by decide) ?_
        refine lv_istore_n hx hb (by decide +kernel : decode cX8_init 143 = .ok (.istore_n 2, 1)) rfl hl (by decide) rfl (fun ls hl => ?_)
        refine lv_iconst (v := nI 0) hx hb (by decide +kernel : decode cX8_init 144 = .ok (.iconst 0, 1)) (by decide) ?_
        refine lv_istore_n hx hb (by decide +kernel : decode cX8_init 145 = .ok (.istore_n 3, 1)) rfl hl (by decide) rfl (fun ls hl => ?_)
        refine lv_goto hx hb (by decide +kernel : decode cX8_init 146 = .ok (.goto 18, 3)) (tgt := 164) rfl ?_
        refine lv_iinc (k := 4) hx hb (by decide +kernel : decode cX8_init 164 = .ok (.iinc 4 1, 3)) hl rfl (one32 _) (by decide) rfl (fun ls hl => ?_)
        refine lv_goto hx hb (by decide +kernel : decode cX8_init 167 = .ok (.goto (-74), 3)) (tgt := 93) rfl ?_
        have e1 := tk_s1 h32
        refine tok_loop hx hb hml hts hown hK hSK hrec kk d (k + 1) (by omega) ls H locs ?_ (by rw [e1]; exact hws)
        rw [e1]
        exact lv_sub hl [0, 1, 2, 3, 5] rfl
      · refine lv_icmp_ne hx hb (by decide +kernel : decode cX8_init 122 = .ok (.if_icmp .ne 27, 3)) (tgt := 149) rfl (fun _ => ?_) (fun q => absurd ((nI_eq (by omega) (by decide)).mp q) h32)
        refine lv_iload_n hx hb (by decide +kernel : decode cX8_init 149 = .ok (.iload_n 2, 1)) rfl (lv_at hl 3 rfl) ?_
        refine lv_iconst (v := nI 5) hx hb (by decide +kernel : decode cX8_init 150 = .ok (.iconst 5, 1)) (by decide) ?_
        refine lv_ishl hx hb (by decide +kernel : decode cX8_init 151 = .ok (.ishl, 1)) ?_
        refine lv_iload hx hb (by decide +kernel : decode cX8_init 152 = .ok (.iload 5, 2)) (lv_at hl 0 rfl) ?_
        refine lv_bipush (v := nI 97) hx hb (by decide +kernel : decode cX8_init 154 = .ok (.bipush 97, 2)) (by decide) ?_
        refine lv_isub hx hb (by decide +kernel : decode cX8_init 156 = .ok (.isub, 1)) ?_
        refine lv_iconst (v := nI 1) hx hb (by decide +kernel : decode cX8_init 157 = .ok (.iconst 1, 1)) (by decide) ?_
        refine lv_iadd hx hb (by decide +kernel : decode cX8_init 158 = .ok (.iadd, 1)) ?_
        refine lv_ior hx hb (by decide +kernel : decode cX8_init 159 = .ok (.ior, 1)) ?_
        rw [w3 h32]
        refine lv_istore_n hx hb (by decide +kernel : decode cX8_init 160 = .ok (.istore_n 2, 1)) rfl hl (by decide) rfl (fun ls hl => ?_)
        refine lv_iinc (k := 3) hx hb (by decide +kernel : decode cX8_init 161 = .ok (.iinc 3 1, 3)) hl rfl (one32 _) (by decide) rfl (fun ls hl => ?_)
        refine lv_iinc (k := 3) hx hb (by decide +kernel : decode cX8_init 164 = .ok (.iinc 4 1, 3)) hl rfl (one32 _) (by decide) rfl (fun ls hl => ?_)
        refine lv_goto hx hb (by decide +kernel : decode cX8_init 167 = .ok (.goto (-74), 3)) (tgt := 93) rfl ?_
        obtain ⟨e1, e2⟩ := tk_s2 h32
        refine tok_loop hx hb hml hts hown hK hSK hrec kk d (k + 1) (by omega) ls H locs ?_ (by rw [e1]; exact hws)
        rw [e1, e2]
        exact lv_sub hl [0, 1, 2, 4, 5] rfl
  termination_by d => d
end
set_option maxRecDepth 20000 in
theorem ci_Tokens_1 (l : Launch) : CtI l yX8_init cX8_init 6 ({ frames := 6, cells := 5, slots := 2829, locals := 140 } : Room) (2, [1], 7, F_Tokens_1, 5, 2829) := by
  intro D cy base b M
  show Met l yX8_init (.code yX8_init cX8_init 6 none :: TBg) ({ frames := 6, cells := 5, slots := 2829, locals := 140 } : Room) (PcB D cy base b 2 [1] M) (QcB D cy base b 7 (F_Tokens_1 M)) 5 2829 (frW base)
  refine Met.ofW (cc := cX8_init) (maxL := 6) (ret := none) (by decide +kernel) rfl ?_
  intro p e s m args below meth c s₁ B hml hv
  obtain ⟨rfl, hW0, hKn, hKI, hSk⟩ := hv
  have hts : ∀ w ∈ TBg, w.before (([1].map Value.ref).map (cv base b)).toArray s = true := fun w hw => atoms_spec (ws := .code yX8_init cX8_init 6 none :: TBg) B.pre w (List.mem_cons_of_mem _ hw)
  have hown : s.vm.findClass RX8 = some m.cls := findClass_of_methodNamed B.named
  have hin : meth.name = "<init>" := (name_of_methodNamed B.named B.method).1
  have hl := lv_entry (([1].map Value.ref).map (cv base b)) (n := 6) (by rw [sl_cv]; decide)
  rw [lg_entry_eq]
  rw [args_cp] at hl
  refine bP_ok (R := ({ frames := 6, cells := 5, slots := 2829, locals := 140 } : Room)) (H0 := s.heap) (k := bE) (CB := []) (r := (7, [], M1_Tokens M, 5, 2829)) (pc' := 84) B.exec B.bytes hml hts hown hin hKn hKI (fun U hq hW => hSk.kept hW hq) ⟨by decide, by decide⟩ FLc_Tokens_ok NLc_Tokens_ok dcl_Tokens ob1_ok arr_ok hl (fun n' st' M' nc' ns' H' locs' h hw => ?_) Ec_Tokens 0 2 [] M 0 0 s.heap [] bD_Tokens rfl ob_Tokens (fun en hen i j q _ _ hq => by simp at hq) rfl ⟨hW0, fun _ _ => rfl, fun z hz => by cases hz⟩
  cases h
  have hx := B.exec
  have hb := B.bytes
  obtain ⟨aS, aV, fo, hS⟩ := hSk
  have hrec : ∀ H : Heap, (∀ q, q < base → H[q]? = s.heap[q]?) → ∃ cell : Cell, H[aS]? = some cell ∧ cell.vm.isStatics = false ∧ s.vm.findClass "java/lang/String" = some cell.cls := fun H hq => by
    obtain ⟨c9, z1, z2, z3, z4⟩ := hS.2.1
    exact ⟨c9, by rw [hq aS (Nat.not_le.mp z4)]; exact z1, z2, z3⟩
  have hl0 : lv_has _ 6 [(0, Value.ref (adr base b 1))] := hl
  clear hl
  refine lv_iconst (v := nI 0) hx hb (by decide +kernel : decode cX8_init 84 = .ok (.iconst 0, 1)) (by decide) ?_
  refine lv_istore_n hx hb (by decide +kernel : decode cX8_init 85 = .ok (.istore_n 1, 1)) rfl hl0 (by decide) rfl (fun ls hl => ?_)
  refine lv_iconst (v := nI 0) hx hb (by decide +kernel : decode cX8_init 86 = .ok (.iconst 0, 1)) (by decide) ?_
  refine lv_istore_n hx hb (by decide +kernel : decode cX8_init 87 = .ok (.istore_n 2, 1)) rfl hl (by decide) rfl (fun ls hl => ?_)
  refine lv_iconst (v := nI 0) hx hb (by decide +kernel : decode cX8_init 88 = .ok (.iconst 0, 1)) (by decide) ?_
  refine lv_istore_n hx hb (by decide +kernel : decode cX8_init 89 = .ok (.istore_n 3, 1)) rfl hl (by decide) rfl (fun ls hl => ?_)
  refine lv_iconst (v := nI 0) hx hb (by decide +kernel : decode cX8_init 90 = .ok (.iconst 0, 1)) (by decide) ?_
  refine lv_istore hx hb (by decide +kernel : decode cX8_init 91 = .ok (.istore 4, 2)) hl (by decide) rfl (fun ls hl => ?_)
  refine tok_loop hx hb hml hts hown hKn hS hrec (fun H locs ls hws => ?_) 133 0 (by omega) ls H' locs' hl (by rw [show (tk 0).1 = 0 from rfl, MT_0]; exact hw)
  exact W.vret hx hb B.returns (fun t ht hW => ⟨rfl, by rw [ht]; exact hws.1, fun q hq => by rw [ht]; exact hws.2.1 q hq⟩) hws.2.2 (by decide +kernel : decode cX8_init 170 = .ok (.return_, 1)) B.notSynchronized
theorem ci_GT (l : Launch) : CtI l yX9_init cX9_init 1 ({ frames := 7, cells := 81, slots := 5725, locals := 165 } : Room) (1, [0], 82, F_GT_0, 81, 5725) := ci_GT_0 l (ci_Tokens_1 l)
