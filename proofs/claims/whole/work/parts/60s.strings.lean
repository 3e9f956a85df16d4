/-! the component's text: a String constant; the JDK's own methods on it (by program) -/
def txt50 : String := "node link meet source join leave cut mend send hold loss seed law metric switch keep or and not far place heard twice held tree tick "
def txS : List Nat := [110, 111, 100, 101, 32, 108, 105, 110, 107, 32, 109, 101, 101, 116, 32, 115, 111, 117, 114, 99, 101, 32, 106, 111, 105, 110, 32, 108, 101, 97, 118, 101, 32, 99, 117, 116, 32, 109, 101, 110, 100, 32, 115, 101, 110, 100, 32, 104, 111, 108, 100, 32, 108, 111, 115, 115, 32, 115, 101, 101, 100, 32, 108, 97, 119, 32, 109, 101, 116, 114, 105, 99, 32, 115, 119, 105, 116, 99, 104, 32, 107, 101, 101, 112, 32, 111, 114, 32, 97, 110, 100, 32, 110, 111, 116, 32, 102, 97, 114, 32, 112, 108, 97, 99, 101, 32, 104, 101, 97, 114, 100, 32, 116, 119, 105, 99, 101, 32, 104, 101, 108, 100, 32, 116, 114, 101, 101, 32, 116, 105, 99, 107, 32]
def AB (base : Nat) : Nat → Prop := fun q => base ≤ q
/-- the text's cells, and two statics of the JDK -/
def rvo : Option Nat → Value | none => .null | some a => .ref a
def SKx (base aS aV : Nat) (fo : Option Nat) (U : State) : Prop := vk_R RX8 50 txt50 aS U ∧ va_O "java/lang/String" aS (AB base) U U.heap ∧ va_OF "java/lang/String" "coder" "B" (.int 0) aS (AB base) U U.heap ∧ va_OF "java/lang/String" "value" "[B" (.ref aV) aS (AB base) U U.heap ∧ va_T .byte aV 133 (fun j => .int (nI (txS.getD j 0))) (AB base) U U.heap ∧ va_Z "java/lang/String" "COMPACT_STRINGS" "Z" (.int 1) (AB base) U U.heap ∧ va_Z "jdk/internal/util/Preconditions" "SIOOBE_FORMATTER" "Ljava/util/function/BiFunction;" (rvo fo) (AB base) U U.heap
def SKt (base : Nat) (U : State) : Prop := ∃ aS aV fo, SKx base aS aV fo U
theorem SKx.kept {base aS aV : Nat} {fo : Option Nat} {s U : State} (h : SKx base aS aV fo s) (hW : s.WarmedH U.vm) (hq : ∀ q, q < base → U.heap[q]? = s.heap[q]?) : SKx base aS aV fo U := by
  obtain ⟨h1, h2, h3, h4, h5, h6, h7⟩ := h
  have hk : ∀ a : Nat, a < s.heap.size → ¬ AB base a → U.heap[a]? = s.heap[a]? := fun a _ ha => hq a (Nat.not_le.mp ha)
  exact ⟨h1.warm hW, (va_O.moved hW.alike h2).kept hk, (va_OF.moved hW.alike h3).kept hk, (va_OF.moved hW.alike h4).kept hk, (va_T.moved hW.alike h5).kept hk, (va_Z.moved hW.alike h6).kept hk, (va_Z.moved hW.alike h7).kept hk⟩
theorem SKx.calling {base aS aV : Nat} {fo : Option Nat} {U : State} {g : JFrame} {mk : MethodId} {a : Array Value} (h : SKx base aS aV fo U) : SKx base aS aV fo (U.calling g mk a) := by
  obtain ⟨h1, h2, h3, h4, h5, h6, h7⟩ := h
  exact ⟨vk_R.same (u := U) (U := U.calling g mk a) rfl h1, va_O.moved (u := U) (U := U.calling g mk a) (Vm.Alike.refl U.vm) h2, va_OF.moved (u := U) (U := U.calling g mk a) (Vm.Alike.refl U.vm) h3, va_OF.moved (u := U) (U := U.calling g mk a) (Vm.Alike.refl U.vm) h4, va_T.moved (u := U) (U := U.calling g mk a) (Vm.Alike.refl U.vm) h5, va_Z.moved (u := U) (U := U.calling g mk a) (Vm.Alike.refl U.vm) h6, va_Z.moved (u := U) (U := U.calling g mk a) (Vm.Alike.refl U.vm) h7⟩
theorem SKt.kept {base : Nat} {s U : State} (h : SKt base s) (hW : s.WarmedH U.vm) (hq : ∀ q, q < base → U.heap[q]? = s.heap[q]?) : SKt base U := by
  obtain ⟨aS, aV, fo, h⟩ := h
  exact ⟨aS, aV, fo, h.kept hW hq⟩
theorem SKt.calling {base : Nat} {U : State} {g : JFrame} {mk : MethodId} {a : Array Value} (h : SKt base U) : SKt base (U.calling g mk a) := by
  obtain ⟨aS, aV, fo, h⟩ := h
  exact ⟨aS, aV, fo, h.calling⟩
def PcJ (base aS aV : Nat) (fo : Option Nat) (As : List Value) : Array Value → State → Prop := fun a U => a = As.toArray ∧ SKx base aS aV fo U
def QcJ (r : Option Value) : Array Value → State → Outcome → State → Prop := fun _ st o t => o = .returned r ∧ ∀ q : Nat, t.heap[q]? = st.heap[q]?
theorem blind_pcj {base aS aV : Nat} {fo : Option Nat} {As : List Value} : FrameBlind (PcJ base aS aV fo As) := fun _ _ _ _ h => ⟨h.1, h.2.calling⟩
section
variable {p : Program} {l : Launch} {e : Env} {R : Room} {s : State} {m : MethodId} {args : Array Value} {below : List Frame} {meth : Method} {c : Code} {H : Heap} {locs : List Loc} {cells slots : Nat} {Q : State → Prop} {rest : List Value}
theorem jw_after {r : Option Value} {Av : Array Value} {g : JFrame} (hr : va_Run p l e R s m args below meth c H locs cells slots 0 0 g rest (QcJ r Av) (fun _ => False))
    (kk : W p l e R s m args below meth c H locs cells slots Q { g with pc := g.pc + 3, stack := r.toList ++ rest }) : W p l e R s m args below meth c H locs cells slots Q g := by
  intro T hT X
  obtain ⟨v, st₀, t, T', L, h0, X', hL, e1, e2, ⟨hv, hfr⟩, st⟩ := hr T hT X
  cases hv
  have hLn : L = [] := by
    cases L with
    | nil => rfl
    | cons z L => exact (hL z List.mem_cons_self).elim
  subst hLn
  rw [List.append_nil] at X'
  have hH : T'.heap = H := by
    rw [e1]
    apply Array.ext_getElem?
    intro q
    rw [hfr q, h0]
  obtain ⟨t2, a1, b1⟩ := kk T' hH X'
  exact ⟨t2, st t2 a1, b1⟩
end
theorem cj_preN (l : Launch) (base aS aV : Nat)  {i n : Int32} (h0 : ¬ i < 0) (h1 : i < n) : Met l yJ3_checkIndex_8e157 (.code yJ3_checkIndex_8e157 cJ3_checkIndex_8e157 3 (some .int) :: TBg) ({ frames := 0, cells := 0, slots := 0, locals := 0 } : Room) (PcJ base aS aV none [.int i, .int n, .null]) (QcJ (some (.int i))) 0 0 (fun _ => False) := by
  refine Met.ofW (cc := cJ3_checkIndex_8e157) (maxL := 3) (ret := some .int) (by decide +kernel) rfl ?_
  intro p e s m args below meth c s₁ B hml hv
  obtain ⟨rfl, hSK⟩ := hv
  obtain ⟨k1, k2, k3, k4, k5, k6, k7⟩ := id hSK
  have hx := B.exec
  have hb := B.bytes
  have hts : ∀ w ∈ TBg, w.before ([.int i, .int n, .null] : List Value).toArray s = true := fun w hw => atoms_spec (ws := .code yJ3_checkIndex_8e157 cJ3_checkIndex_8e157 3 (some .int) :: TBg) B.pre w (List.mem_cons_of_mem _ hw)
  have hown : s.vm.findClass RJ3 = some m.cls := findClass_of_methodNamed B.named
  have hS : va_S (AB base) s.heap s.heap [] := va_S.rf
  have hl := lv_entry ([.int i, .int n, .null]) (n := 3) (Nat.le_of_ble_eq_true rfl)
  rw [lg_entry_eq]
  generalize (lg_sl ([.int i, .int n, .null]) ++ List.replicate (3 - (lg_sl ([.int i, .int n, .null])).length) Slot.unset).toArray = ls at hl ⊢

  refine lv_iload_n hx hb (by decide +kernel : decode cJ3_checkIndex_8e157 0 = .ok (.iload_n 0, 1)) rfl (lv_at hl 0 rfl) ?_
  refine lv_if_lt hx hb (by decide +kernel : decode cJ3_checkIndex_8e157 1 = .ok (.ifCond .lt 8, 3)) (tgt := 9) rfl (fun q => absurd q h0) (fun _ => ?_)
  refine lv_iload_n hx hb (by decide +kernel : decode cJ3_checkIndex_8e157 4 = .ok (.iload_n 0, 1)) rfl (lv_at hl 0 rfl) ?_
  refine lv_iload_n hx hb (by decide +kernel : decode cJ3_checkIndex_8e157 5 = .ok (.iload_n 1, 1)) rfl (lv_at hl 1 rfl) ?_
  refine lv_icmp_lt hx hb (by decide +kernel : decode cJ3_checkIndex_8e157 6 = .ok (.if_icmp .lt 10, 3)) (tgt := 16) rfl (fun _ => ?_) (fun q => absurd h1 q)
  refine lv_iload_n hx hb (by decide +kernel : decode cJ3_checkIndex_8e157 16 = .ok (.iload_n 0, 1)) rfl (lv_at hl 0 rfl) ?_
  exact W.iret hx hb B.returns (fun t ht hW => ⟨rfl, fun q => by rw [ht]⟩) (fun q hq => by cases hq) (by decide +kernel : decode cJ3_checkIndex_8e157 17 = .ok (.ireturn, 1)) B.notSynchronized
theorem cj_chkN (l : Launch) (base aS aV : Nat)  {i n : Int32} (h0 : ¬ i < 0) (h1 : i < n) : Met l yJ0_checkIndex_df160 (.code yJ0_checkIndex_df160 cJ0_checkIndex_df160 2 (none) :: TBg) ({ frames := 1, cells := 0, slots := 0, locals := 22 } : Room) (PcJ base aS aV none [.int i, .int n]) (QcJ (none)) 0 0 (fun _ => False) := by
  refine Met.ofW (cc := cJ0_checkIndex_df160) (maxL := 2) (ret := none) (by decide +kernel) rfl ?_
  intro p e s m args below meth c s₁ B hml hv
  obtain ⟨rfl, hSK⟩ := hv
  obtain ⟨k1, k2, k3, k4, k5, k6, k7⟩ := id hSK
  have hx := B.exec
  have hb := B.bytes
  have hts : ∀ w ∈ TBg, w.before ([.int i, .int n] : List Value).toArray s = true := fun w hw => atoms_spec (ws := .code yJ0_checkIndex_df160 cJ0_checkIndex_df160 2 (none) :: TBg) B.pre w (List.mem_cons_of_mem _ hw)
  have hown : s.vm.findClass RJ0 = some m.cls := findClass_of_methodNamed B.named
  have hS : va_S (AB base) s.heap s.heap [] := va_S.rf
  have hl := lv_entry ([.int i, .int n]) (n := 2) (Nat.le_of_ble_eq_true rfl)
  rw [lg_entry_eq]
  generalize (lg_sl ([.int i, .int n]) ++ List.replicate (2 - (lg_sl ([.int i, .int n])).length) Slot.unset).toArray = ls at hl ⊢

  refine lv_iload_n hx hb (by decide +kernel : decode cJ0_checkIndex_df160 0 = .ok (.iload_n 0, 1)) rfl (lv_at hl 0 rfl) ?_
  refine lv_iload_n hx hb (by decide +kernel : decode cJ0_checkIndex_df160 1 = .ok (.iload_n 1, 1)) rfl (lv_at hl 1 rfl) ?_
  refine va_gets hx hb k7 hS hown (hts _ (tw1 (i := 64) rfl rfl)) (fun _ h9 => h9) (by decide +kernel : decode cJ0_checkIndex_df160 2 = .ok (.getstatic 1053, 3)) ?_
  refine jw_after (va_runS (Ts := TBg) (own := RJ0) (As := [.int i, .int n, .null]) (rest := []) (n := 3) ⟨hx, hb, hml.trans hl.1.symm, hown, hts⟩ (cj_preN l base aS aV h0 h1) ⟨callB_of 3 hts (good_tb (tw1 (i := 68) rfl rfl)) rfl rfl rfl (hts _ (tw1 (i := 5) rfl rfl)) (hts _ (tw1 (i := 66) rfl rfl)) ⟨by decide +kernel, by decide +kernel, by decide +kernel⟩ ⟨by decide, by decide⟩, hts _ (tw1 (i := 67) rfl rfl)⟩ ⟨blind_pcj, fun U hU hW => ⟨rfl, hSK.kept hW (fun q _ => by rw [hU])⟩⟩ rfl rfl rfl rfl (lv_room (by decide)) (by decide +kernel : decode cJ0_checkIndex_df160 5 = .ok (.invokestatic 1059, 3)) ⟨Nat.le_refl _, Nat.le_refl _⟩) ?_
  refine lv_pop hx hb (by decide +kernel : decode cJ0_checkIndex_df160 8 = .ok (.pop, 1)) rfl ?_
  exact W.vret hx hb B.returns (fun t ht hW => ⟨rfl, fun q => by rw [ht]⟩) (fun q hq => by cases hq) (by decide +kernel : decode cJ0_checkIndex_df160 9 = .ok (.return_, 1)) B.notSynchronized
theorem cj_preS (l : Launch) (base aS aV : Nat) (fo : Nat) {i n : Int32} (h0 : ¬ i < 0) (h1 : i < n) : Met l yJ3_checkIndex_8e157 (.code yJ3_checkIndex_8e157 cJ3_checkIndex_8e157 3 (some .int) :: TBg) ({ frames := 0, cells := 0, slots := 0, locals := 0 } : Room) (PcJ base aS aV (some fo) [.int i, .int n, .ref fo]) (QcJ (some (.int i))) 0 0 (fun _ => False) := by
  refine Met.ofW (cc := cJ3_checkIndex_8e157) (maxL := 3) (ret := some .int) (by decide +kernel) rfl ?_
  intro p e s m args below meth c s₁ B hml hv
  obtain ⟨rfl, hSK⟩ := hv
  obtain ⟨k1, k2, k3, k4, k5, k6, k7⟩ := id hSK
  have hx := B.exec
  have hb := B.bytes
  have hts : ∀ w ∈ TBg, w.before ([.int i, .int n, .ref fo] : List Value).toArray s = true := fun w hw => atoms_spec (ws := .code yJ3_checkIndex_8e157 cJ3_checkIndex_8e157 3 (some .int) :: TBg) B.pre w (List.mem_cons_of_mem _ hw)
  have hown : s.vm.findClass RJ3 = some m.cls := findClass_of_methodNamed B.named
  have hS : va_S (AB base) s.heap s.heap [] := va_S.rf
  have hl := lv_entry ([.int i, .int n, .ref fo]) (n := 3) (Nat.le_of_ble_eq_true rfl)
  rw [lg_entry_eq]
  generalize (lg_sl ([.int i, .int n, .ref fo]) ++ List.replicate (3 - (lg_sl ([.int i, .int n, .ref fo])).length) Slot.unset).toArray = ls at hl ⊢

  refine lv_iload_n hx hb (by decide +kernel : decode cJ3_checkIndex_8e157 0 = .ok (.iload_n 0, 1)) rfl (lv_at hl 0 rfl) ?_
  refine lv_if_lt hx hb (by decide +kernel : decode cJ3_checkIndex_8e157 1 = .ok (.ifCond .lt 8, 3)) (tgt := 9) rfl (fun q => absurd q h0) (fun _ => ?_)
  refine lv_iload_n hx hb (by decide +kernel : decode cJ3_checkIndex_8e157 4 = .ok (.iload_n 0, 1)) rfl (lv_at hl 0 rfl) ?_
  refine lv_iload_n hx hb (by decide +kernel : decode cJ3_checkIndex_8e157 5 = .ok (.iload_n 1, 1)) rfl (lv_at hl 1 rfl) ?_
  refine lv_icmp_lt hx hb (by decide +kernel : decode cJ3_checkIndex_8e157 6 = .ok (.if_icmp .lt 10, 3)) (tgt := 16) rfl (fun _ => ?_) (fun q => absurd h1 q)
  refine lv_iload_n hx hb (by decide +kernel : decode cJ3_checkIndex_8e157 16 = .ok (.iload_n 0, 1)) rfl (lv_at hl 0 rfl) ?_
  exact W.iret hx hb B.returns (fun t ht hW => ⟨rfl, fun q => by rw [ht]⟩) (fun q hq => by cases hq) (by decide +kernel : decode cJ3_checkIndex_8e157 17 = .ok (.ireturn, 1)) B.notSynchronized
theorem cj_chkS (l : Launch) (base aS aV : Nat) (fo : Nat) {i n : Int32} (h0 : ¬ i < 0) (h1 : i < n) : Met l yJ0_checkIndex_df160 (.code yJ0_checkIndex_df160 cJ0_checkIndex_df160 2 (none) :: TBg) ({ frames := 1, cells := 0, slots := 0, locals := 22 } : Room) (PcJ base aS aV (some fo) [.int i, .int n]) (QcJ (none)) 0 0 (fun _ => False) := by
  refine Met.ofW (cc := cJ0_checkIndex_df160) (maxL := 2) (ret := none) (by decide +kernel) rfl ?_
  intro p e s m args below meth c s₁ B hml hv
  obtain ⟨rfl, hSK⟩ := hv
  obtain ⟨k1, k2, k3, k4, k5, k6, k7⟩ := id hSK
  have hx := B.exec
  have hb := B.bytes
  have hts : ∀ w ∈ TBg, w.before ([.int i, .int n] : List Value).toArray s = true := fun w hw => atoms_spec (ws := .code yJ0_checkIndex_df160 cJ0_checkIndex_df160 2 (none) :: TBg) B.pre w (List.mem_cons_of_mem _ hw)
  have hown : s.vm.findClass RJ0 = some m.cls := findClass_of_methodNamed B.named
  have hS : va_S (AB base) s.heap s.heap [] := va_S.rf
  have hl := lv_entry ([.int i, .int n]) (n := 2) (Nat.le_of_ble_eq_true rfl)
  rw [lg_entry_eq]
  generalize (lg_sl ([.int i, .int n]) ++ List.replicate (2 - (lg_sl ([.int i, .int n])).length) Slot.unset).toArray = ls at hl ⊢

  refine lv_iload_n hx hb (by decide +kernel : decode cJ0_checkIndex_df160 0 = .ok (.iload_n 0, 1)) rfl (lv_at hl 0 rfl) ?_
  refine lv_iload_n hx hb (by decide +kernel : decode cJ0_checkIndex_df160 1 = .ok (.iload_n 1, 1)) rfl (lv_at hl 1 rfl) ?_
  refine va_gets hx hb k7 hS hown (hts _ (tw1 (i := 64) rfl rfl)) (fun _ h9 => h9) (by decide +kernel : decode cJ0_checkIndex_df160 2 = .ok (.getstatic 1053, 3)) ?_
  refine jw_after (va_runS (Ts := TBg) (own := RJ0) (As := [.int i, .int n, .ref fo]) (rest := []) (n := 3) ⟨hx, hb, hml.trans hl.1.symm, hown, hts⟩ (cj_preS l base aS aV fo h0 h1) ⟨callB_of 3 hts (good_tb (tw1 (i := 68) rfl rfl)) rfl rfl rfl (hts _ (tw1 (i := 5) rfl rfl)) (hts _ (tw1 (i := 66) rfl rfl)) ⟨by decide +kernel, by decide +kernel, by decide +kernel⟩ ⟨by decide, by decide⟩, hts _ (tw1 (i := 67) rfl rfl)⟩ ⟨blind_pcj, fun U hU hW => ⟨rfl, hSK.kept hW (fun q _ => by rw [hU])⟩⟩ rfl rfl rfl rfl (lv_room (by decide)) (by decide +kernel : decode cJ0_checkIndex_df160 5 = .ok (.invokestatic 1059, 3)) ⟨Nat.le_refl _, Nat.le_refl _⟩) ?_
  refine lv_pop hx hb (by decide +kernel : decode cJ0_checkIndex_df160 8 = .ok (.pop, 1)) rfl ?_
  exact W.vret hx hb B.returns (fun t ht hW => ⟨rfl, fun q => by rw [ht]⟩) (fun q hq => by cases hq) (by decide +kernel : decode cJ0_checkIndex_df160 9 = .ok (.return_, 1)) B.notSynchronized
theorem cj_chk (l : Launch) (base aS aV : Nat) (fo : Option Nat) {i n : Int32} (h0 : ¬ i < 0) (h1 : i < n) : Met l yJ0_checkIndex_df160 (.code yJ0_checkIndex_df160 cJ0_checkIndex_df160 2 (none) :: TBg) ({ frames := 1, cells := 0, slots := 0, locals := 22 } : Room) (PcJ base aS aV fo [.int i, .int n]) (QcJ (none)) 0 0 (fun _ => False) := by
  cases fo with
  | none => exact cj_chkN l base aS aV h0 h1
  | some a => exact cj_chkS l base aS aV a h0 h1
theorem tx_c : ∀ b, b < 128 → ((nI b &&& nI 255).toUInt32 % 65536).toInt32 = nI b ∧ narrow .char (.int (nI b)) = .int (nI b) := by decide +kernel
theorem tx_128 : ∀ k, k < 133 → txS.getD k 0 < 128 := by decide +kernel
theorem cj_l1 (l : Launch) (base aS aV : Nat) (fo : Option Nat) {k : Nat} (hk : k < 133) : Met l yJ1_charAt_3b067 (.code yJ1_charAt_3b067 cJ1_charAt_3b067 2 (some .char) :: TBg) ({ frames := 2, cells := 0, slots := 0, locals := 43 } : Room) (PcJ base aS aV fo [.ref aV, .int (nI k)]) (QcJ (some (.int (nI (txS.getD k 0))))) 0 0 (fun _ => False) := by
  refine Met.ofW (cc := cJ1_charAt_3b067) (maxL := 2) (ret := some .char) (by decide +kernel) rfl ?_
  intro p e s m args below meth c s₁ B hml hv
  obtain ⟨rfl, hSK⟩ := hv
  obtain ⟨k1, k2, k3, k4, k5, k6, k7⟩ := id hSK
  have hx := B.exec
  have hb := B.bytes
  have hts : ∀ w ∈ TBg, w.before ([.ref aV, .int (nI k)] : List Value).toArray s = true := fun w hw => atoms_spec (ws := .code yJ1_charAt_3b067 cJ1_charAt_3b067 2 (some .char) :: TBg) B.pre w (List.mem_cons_of_mem _ hw)
  have hown : s.vm.findClass RJ1 = some m.cls := findClass_of_methodNamed B.named
  have hS : va_S (AB base) s.heap s.heap [] := va_S.rf
  have hl := lv_entry ([.ref aV, .int (nI k)]) (n := 2) (Nat.le_of_ble_eq_true rfl)
  rw [lg_entry_eq]
  generalize (lg_sl ([.ref aV, .int (nI k)]) ++ List.replicate (2 - (lg_sl ([.ref aV, .int (nI k)])).length) Slot.unset).toArray = ls at hl ⊢

  refine lv_iload_n hx hb (by decide +kernel : decode cJ1_charAt_3b067 0 = .ok (.iload_n 1, 1)) rfl (lv_at hl 1 rfl) ?_
  refine lv_aload_n hx hb (by decide +kernel : decode cJ1_charAt_3b067 1 = .ok (.aload_n 0, 1)) rfl (lv_at hl 0 rfl) ?_
  refine va_tlen hx hb k5 hS (v := nI 133) rfl (by decide +kernel : decode cJ1_charAt_3b067 2 = .ok (.arraylength, 1)) ?_
  refine jw_after (va_runS (Ts := TBg) (own := RJ1) (As := [.int (nI k), .int (nI 133)]) (rest := []) (n := 2) ⟨hx, hb, hml.trans hl.1.symm, hown, hts⟩ (cj_chk l base aS aV fo (nI_pos (by omega)) (nI_lt hk (by decide))) ⟨callB_of 2 hts (good_tb (tw1 (i := 63) rfl rfl)) rfl rfl rfl (hts _ (tw1 (i := 3) rfl rfl)) (hts _ (tw1 (i := 61) rfl rfl)) ⟨by decide +kernel, by decide +kernel, by decide +kernel⟩ ⟨by decide, by decide⟩, hts _ (tw1 (i := 62) rfl rfl)⟩ ⟨blind_pcj, fun U hU hW => ⟨rfl, hSK.kept hW (fun q _ => by rw [hU])⟩⟩ rfl rfl rfl rfl (lv_room (by decide)) (by decide +kernel : decode cJ1_charAt_3b067 3 = .ok (.invokestatic 9, 3)) ⟨Nat.le_refl _, Nat.le_refl _⟩) ?_
  refine lv_aload_n hx hb (by decide +kernel : decode cJ1_charAt_3b067 6 = .ok (.aload_n 0, 1)) rfl (lv_at hl 0 rfl) ?_
  refine lv_iload_n hx hb (by decide +kernel : decode cJ1_charAt_3b067 7 = .ok (.iload_n 1, 1)) rfl (lv_at hl 1 rfl) ?_
  refine va_tb hx hb k5 hS (nI_in hk (by decide)) (v := .int (nI (txS.getD k 0))) (by rw [nI_clamp (by omega)]) (by decide +kernel : decode cJ1_charAt_3b067 8 = .ok (.baload, 1)) ?_
  refine lv_sipush (v := nI 255) hx hb (by decide +kernel : decode cJ1_charAt_3b067 9 = .ok (.sipush 255, 3)) (by decide) ?_
  refine lv_iand hx hb (by decide +kernel : decode cJ1_charAt_3b067 12 = .ok (.iand, 1)) ?_
  refine lv_i2c hx hb (by decide +kernel : decode cJ1_charAt_3b067 13 = .ok (.i2c, 1)) (tx_c _ (tx_128 k hk)).1 ?_
  exact W.zret hx hb B.returns (tx_c _ (tx_128 k hk)).2 (fun t ht hW => ⟨rfl, fun q => by rw [ht]⟩) (fun q hq => by cases hq) (by decide +kernel : decode cJ1_charAt_3b067 14 = .ok (.ireturn, 1)) B.notSynchronized
theorem cj_isL (l : Launch) (base aS aV : Nat) (fo : Option Nat) : Met l yJ0_isLatin1_aae02 (.code yJ0_isLatin1_aae02 cJ0_isLatin1_aae02 1 (some .boolean) :: TBg) ({ frames := 0, cells := 0, slots := 0, locals := 0 } : Room) (PcJ base aS aV fo [.ref aS]) (QcJ (some (.int 1))) 0 0 (fun _ => False) := by
  refine Met.ofW (cc := cJ0_isLatin1_aae02) (maxL := 1) (ret := some .boolean) (by decide +kernel) rfl ?_
  intro p e s m args below meth c s₁ B hml hv
  obtain ⟨rfl, hSK⟩ := hv
  obtain ⟨k1, k2, k3, k4, k5, k6, k7⟩ := id hSK
  have hx := B.exec
  have hb := B.bytes
  have hts : ∀ w ∈ TBg, w.before ([.ref aS] : List Value).toArray s = true := fun w hw => atoms_spec (ws := .code yJ0_isLatin1_aae02 cJ0_isLatin1_aae02 1 (some .boolean) :: TBg) B.pre w (List.mem_cons_of_mem _ hw)
  have hown : s.vm.findClass RJ0 = some m.cls := findClass_of_methodNamed B.named
  have hS : va_S (AB base) s.heap s.heap [] := va_S.rf
  have hl := lv_entry ([.ref aS]) (n := 1) (Nat.le_of_ble_eq_true rfl)
  rw [lg_entry_eq]
  generalize (lg_sl ([.ref aS]) ++ List.replicate (1 - (lg_sl ([.ref aS])).length) Slot.unset).toArray = ls at hl ⊢

  refine va_gets hx hb k6 hS hown (hts _ (tw1 (i := 48) rfl rfl)) (fun _ h9 => h9) (by decide +kernel : decode cJ0_isLatin1_aae02 0 = .ok (.getstatic 38, 3)) ?_
  refine lv_if_eq hx hb (by decide +kernel : decode cJ0_isLatin1_aae02 3 = .ok (.ifCond .eq 14, 3)) (tgt := 17) rfl (fun q => absurd q (by decide)) (fun _ => ?_)
  refine lv_aload_n hx hb (by decide +kernel : decode cJ0_isLatin1_aae02 6 = .ok (.aload_n 0, 1)) rfl (lv_at hl 0 rfl) ?_
  refine vk_getf hx hb k3 hS hown (hts _ (tw9 (i := 181) rfl rfl)) (fun _ h9 => h9) (by decide +kernel : decode cJ0_isLatin1_aae02 7 = .ok (.getfield 15, 3)) ?_
  refine lv_if_ne hx hb (by decide +kernel : decode cJ0_isLatin1_aae02 10 = .ok (.ifCond .ne 7, 3)) (tgt := 17) rfl (fun q => absurd rfl q) (fun _ => ?_)
  refine lv_iconst (v := 1) hx hb (by decide +kernel : decode cJ0_isLatin1_aae02 13 = .ok (.iconst 1, 1)) (by decide) ?_
  refine lv_goto hx hb (by decide +kernel : decode cJ0_isLatin1_aae02 14 = .ok (.goto 4, 3)) (tgt := 18) rfl ?_
  exact W.zret hx hb B.returns (by decide) (fun t ht hW => ⟨rfl, fun q => by rw [ht]⟩) (fun q hq => by cases hq) (by decide +kernel : decode cJ0_isLatin1_aae02 18 = .ok (.ireturn, 1)) B.notSynchronized
theorem cj_coder (l : Launch) (base aS aV : Nat) (fo : Option Nat) : Met l yJ0_coder_7d493 (.code yJ0_coder_7d493 cJ0_coder_7d493 1 (some .byte) :: TBg) ({ frames := 0, cells := 0, slots := 0, locals := 0 } : Room) (PcJ base aS aV fo [.ref aS]) (QcJ (some (.int 0))) 0 0 (fun _ => False) := by
  refine Met.ofW (cc := cJ0_coder_7d493) (maxL := 1) (ret := some .byte) (by decide +kernel) rfl ?_
  intro p e s m args below meth c s₁ B hml hv
  obtain ⟨rfl, hSK⟩ := hv
  obtain ⟨k1, k2, k3, k4, k5, k6, k7⟩ := id hSK
  have hx := B.exec
  have hb := B.bytes
  have hts : ∀ w ∈ TBg, w.before ([.ref aS] : List Value).toArray s = true := fun w hw => atoms_spec (ws := .code yJ0_coder_7d493 cJ0_coder_7d493 1 (some .byte) :: TBg) B.pre w (List.mem_cons_of_mem _ hw)
  have hown : s.vm.findClass RJ0 = some m.cls := findClass_of_methodNamed B.named
  have hS : va_S (AB base) s.heap s.heap [] := va_S.rf
  have hl := lv_entry ([.ref aS]) (n := 1) (Nat.le_of_ble_eq_true rfl)
  rw [lg_entry_eq]
  generalize (lg_sl ([.ref aS]) ++ List.replicate (1 - (lg_sl ([.ref aS])).length) Slot.unset).toArray = ls at hl ⊢

  refine va_gets hx hb k6 hS hown (hts _ (tw1 (i := 48) rfl rfl)) (fun _ h9 => h9) (by decide +kernel : decode cJ0_coder_7d493 0 = .ok (.getstatic 38, 3)) ?_
  refine lv_if_eq hx hb (by decide +kernel : decode cJ0_coder_7d493 3 = .ok (.ifCond .eq 10, 3)) (tgt := 13) rfl (fun q => absurd q (by decide)) (fun _ => ?_)
  refine lv_aload_n hx hb (by decide +kernel : decode cJ0_coder_7d493 6 = .ok (.aload_n 0, 1)) rfl (lv_at hl 0 rfl) ?_
  refine vk_getf hx hb k3 hS hown (hts _ (tw9 (i := 181) rfl rfl)) (fun _ h9 => h9) (by decide +kernel : decode cJ0_coder_7d493 7 = .ok (.getfield 15, 3)) ?_
  refine lv_goto hx hb (by decide +kernel : decode cJ0_coder_7d493 10 = .ok (.goto 4, 3)) (tgt := 14) rfl ?_
  exact W.zret hx hb B.returns (by decide) (fun t ht hW => ⟨rfl, fun q => by rw [ht]⟩) (fun q hq => by cases hq) (by decide +kernel : decode cJ0_coder_7d493 14 = .ok (.ireturn, 1)) B.notSynchronized
theorem cj_charAt (l : Launch) (base aS aV : Nat) (fo : Option Nat) {k : Nat} (hk : k < 133) : Met l yJ0_charAt_5068e (.code yJ0_charAt_5068e cJ0_charAt_5068e 2 (some .char) :: TBg) ({ frames := 3, cells := 0, slots := 0, locals := 64 } : Room) (PcJ base aS aV fo [.ref aS, .int (nI k)]) (QcJ (some (.int (nI (txS.getD k 0))))) 0 0 (fun _ => False) := by
  refine Met.ofW (cc := cJ0_charAt_5068e) (maxL := 2) (ret := some .char) (by decide +kernel) rfl ?_
  intro p e s m args below meth c s₁ B hml hv
  obtain ⟨rfl, hSK⟩ := hv
  obtain ⟨k1, k2, k3, k4, k5, k6, k7⟩ := id hSK
  have hx := B.exec
  have hb := B.bytes
  have hts : ∀ w ∈ TBg, w.before ([.ref aS, .int (nI k)] : List Value).toArray s = true := fun w hw => atoms_spec (ws := .code yJ0_charAt_5068e cJ0_charAt_5068e 2 (some .char) :: TBg) B.pre w (List.mem_cons_of_mem _ hw)
  have hown : s.vm.findClass RJ0 = some m.cls := findClass_of_methodNamed B.named
  have hS : va_S (AB base) s.heap s.heap [] := va_S.rf
  have hl := lv_entry ([.ref aS, .int (nI k)]) (n := 2) (Nat.le_of_ble_eq_true rfl)
  rw [lg_entry_eq]
  generalize (lg_sl ([.ref aS, .int (nI k)]) ++ List.replicate (2 - (lg_sl ([.ref aS, .int (nI k)])).length) Slot.unset).toArray = ls at hl ⊢

  refine lv_aload_n hx hb (by decide +kernel : decode cJ0_charAt_5068e 0 = .ok (.aload_n 0, 1)) rfl (lv_at hl 0 rfl) ?_
  refine jw_after (va_runV (Ts := TBg) (own := RJ0) (C := "java/lang/String") (b := aS) (As := []) (rest := []) (n := 0) ⟨hx, hb, hml.trans hl.1.symm, hown, hts⟩ (cj_isL l base aS aV fo) ⟨callB_of 0 hts (good_tb (tw1 (i := 57) rfl rfl)) rfl rfl rfl (hts _ (tw1 (i := 3) rfl rfl)) (hts _ (tw1 (i := 54) rfl rfl)) ⟨by decide +kernel, by decide +kernel, by decide +kernel⟩ ⟨by decide, by decide⟩, hts _ (tw1 (i := 55) rfl rfl), hts _ (tw1 (i := 56) rfl rfl)⟩ ⟨blind_pcj, (let ⟨c9, z1, z2, z3, _⟩ := k2; ⟨c9, z1, z2, z3⟩), fun U hU hW => ⟨rfl, hSK.kept hW (fun q _ => by rw [hU])⟩⟩ rfl rfl rfl rfl (lv_room (by decide)) (by decide +kernel : decode cJ0_charAt_5068e 1 = .ok (.invokevirtual 492, 3)) ⟨Nat.le_refl _, Nat.le_refl _⟩) ?_
  refine lv_if_eq hx hb (by decide +kernel : decode cJ0_charAt_5068e 4 = .ok (.ifCond .eq 12, 3)) (tgt := 16) rfl (fun q => absurd q (by decide)) (fun _ => ?_)
  refine lv_aload_n hx hb (by decide +kernel : decode cJ0_charAt_5068e 7 = .ok (.aload_n 0, 1)) rfl (lv_at hl 0 rfl) ?_
  refine vk_getf hx hb k4 hS hown (hts _ (tw9 (i := 180) rfl rfl)) (fun _ h9 => h9) (by decide +kernel : decode cJ0_charAt_5068e 8 = .ok (.getfield 9, 3)) ?_
  refine lv_iload_n hx hb (by decide +kernel : decode cJ0_charAt_5068e 11 = .ok (.iload_n 1, 1)) rfl (lv_at hl 1 rfl) ?_
  refine jw_after (va_runS (Ts := TBg) (own := RJ0) (As := [.ref aV, .int (nI k)]) (rest := []) (n := 2) ⟨hx, hb, hml.trans hl.1.symm, hown, hts⟩ (cj_l1 l base aS aV fo hk) ⟨callB_of 2 hts (good_tb (tw1 (i := 60) rfl rfl)) rfl rfl rfl (hts _ (tw1 (i := 4) rfl rfl)) (hts _ (tw1 (i := 58) rfl rfl)) ⟨by decide +kernel, by decide +kernel, by decide +kernel⟩ ⟨by decide, by decide⟩, hts _ (tw1 (i := 59) rfl rfl)⟩ ⟨blind_pcj, fun U hU hW => ⟨rfl, hSK.kept hW (fun q _ => by rw [hU])⟩⟩ rfl rfl rfl rfl (lv_room (by decide)) (by decide +kernel : decode cJ0_charAt_5068e 12 = .ok (.invokestatic 495, 3)) ⟨Nat.le_refl _, Nat.le_refl _⟩) ?_
  exact W.zret hx hb B.returns (tx_c _ (tx_128 k hk)).2 (fun t ht hW => ⟨rfl, fun q => by rw [ht]⟩) (fun q hq => by cases hq) (by decide +kernel : decode cJ0_charAt_5068e 15 = .ok (.ireturn, 1)) B.notSynchronized
theorem cj_length (l : Launch) (base aS aV : Nat) (fo : Option Nat) : Met l yJ0_length_8abf5 (.code yJ0_length_8abf5 cJ0_length_8abf5 1 (some .int) :: TBg) ({ frames := 1, cells := 0, slots := 0, locals := 20 } : Room) (PcJ base aS aV fo [.ref aS]) (QcJ (some (.int (nI 133)))) 0 0 (fun _ => False) := by
  refine Met.ofW (cc := cJ0_length_8abf5) (maxL := 1) (ret := some .int) (by decide +kernel) rfl ?_
  intro p e s m args below meth c s₁ B hml hv
  obtain ⟨rfl, hSK⟩ := hv
  obtain ⟨k1, k2, k3, k4, k5, k6, k7⟩ := id hSK
  have hx := B.exec
  have hb := B.bytes
  have hts : ∀ w ∈ TBg, w.before ([.ref aS] : List Value).toArray s = true := fun w hw => atoms_spec (ws := .code yJ0_length_8abf5 cJ0_length_8abf5 1 (some .int) :: TBg) B.pre w (List.mem_cons_of_mem _ hw)
  have hown : s.vm.findClass RJ0 = some m.cls := findClass_of_methodNamed B.named
  have hS : va_S (AB base) s.heap s.heap [] := va_S.rf
  have hl := lv_entry ([.ref aS]) (n := 1) (Nat.le_of_ble_eq_true rfl)
  rw [lg_entry_eq]
  generalize (lg_sl ([.ref aS]) ++ List.replicate (1 - (lg_sl ([.ref aS])).length) Slot.unset).toArray = ls at hl ⊢

  refine lv_aload_n hx hb (by decide +kernel : decode cJ0_length_8abf5 0 = .ok (.aload_n 0, 1)) rfl (lv_at hl 0 rfl) ?_
  refine vk_getf hx hb k4 hS hown (hts _ (tw9 (i := 180) rfl rfl)) (fun _ h9 => h9) (by decide +kernel : decode cJ0_length_8abf5 1 = .ok (.getfield 9, 3)) ?_
  refine va_tlen hx hb k5 hS (v := nI 133) rfl (by decide +kernel : decode cJ0_length_8abf5 4 = .ok (.arraylength, 1)) ?_
  refine lv_aload_n hx hb (by decide +kernel : decode cJ0_length_8abf5 5 = .ok (.aload_n 0, 1)) rfl (lv_at hl 0 rfl) ?_
  refine jw_after (va_runV (Ts := TBg) (own := RJ0) (C := "java/lang/String") (b := aS) (As := []) (rest := [.int (nI 133)]) (n := 0) ⟨hx, hb, hml.trans hl.1.symm, hown, hts⟩ (cj_coder l base aS aV fo) ⟨callB_of 0 hts (good_tb (tw1 (i := 47) rfl rfl)) rfl rfl rfl (hts _ (tw1 (i := 3) rfl rfl)) (hts _ (tw1 (i := 44) rfl rfl)) ⟨by decide +kernel, by decide +kernel, by decide +kernel⟩ ⟨by decide, by decide⟩, hts _ (tw1 (i := 45) rfl rfl), hts _ (tw1 (i := 46) rfl rfl)⟩ ⟨blind_pcj, (let ⟨c9, z1, z2, z3, _⟩ := k2; ⟨c9, z1, z2, z3⟩), fun U hU hW => ⟨rfl, hSK.kept hW (fun q _ => by rw [hU])⟩⟩ rfl rfl rfl rfl (lv_room (by decide)) (by decide +kernel : decode cJ0_length_8abf5 6 = .ok (.invokevirtual 335, 3)) ⟨Nat.le_refl _, Nat.le_refl _⟩) ?_
  refine lv_ishr hx hb (by decide +kernel : decode cJ0_length_8abf5 9 = .ok (.ishr, 1)) ?_
  exact W.iret (v := nI 133) hx hb B.returns (fun t ht hW => ⟨rfl, fun q => by rw [ht]⟩) (fun q hq => by cases hq) (by decide +kernel : decode cJ0_length_8abf5 10 = .ok (.ireturn, 1)) B.notSynchronized
