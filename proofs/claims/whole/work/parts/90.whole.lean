/-! THE CLAIM OUT OF ONE WALK OF THE LAW'S BODY. Your part is whole_start (and what it stands on); all else here is the same for every law, but numbers. -/
def R_law : String := "GroupTreesLaw"
def lw_P (b : Addr) (xs : List Int32) (args : Array Value) (s : State) : Prop := args = #[.ref b] ∧ s.IntsAt b xs ∧ xs.length ≤ 3072 ∧ (Jvm.Cond.and given_1 narrow_1).before args s = true
def lw_Q (_ : Array Value) (s : State) (o : Outcome) (t : State) : Prop := o = .returned (some (.int 1)) ∧ Framed s o t [] 1155 22001
def lw_Z (below : List Frame) (a : Array Value) (s : State) : State → Prop := fun t => ∃ o, t.status = .running ∧ Ended t below o ∧ lw_Q a s o t
/-- the law's own end, with 1 on the stack, nothing written that was there before, its room as the claim has it -/
theorem lw_ret {p : Program} {l : Launch} {e : Env} {s : State} {m : MethodId} {below : List Frame} {meth : Method} {c : Code} {b : Nat} (hx : p.tables.exec = Jvm.exec) (hb : c.code = code) (hr : meth.sig.returnType = ret) (hlocks : meth.locks = false) {pc : Nat} {H : Heap} {ls : Array Slot} (hdg : decode code pc = .ok (.ireturn, 1)) : W p l e room_1 s m #[Value.ref b] below meth c H [] 1155 22001 (lw_Z below #[Value.ref b] s) (F0 m pc ls [.int 1]) := by
  intro T hT X
  obtain ⟨fs, hret, hrun, hended, hW, hframe⟩ := X.leave (v := some (.int 1)) (hlocks := hlocks) (fun h => by rw [hr] at h; cases h)
  have hmeth' : T.vm.method? m = some meth := X.method'
  refine ⟨T.setFrames fs, ?_, .returned (some (.int 1)), hrun, hended, rfl, ⟨_, rfl⟩, hW, hframe⟩
  jvm_step X.here [X.here.top, hx, hb, hdg, hmeth', hr, ret, narrow_b1]
  (try refine ⟨rfl, ?_⟩); (try refine ⟨rfl, ?_⟩)
  first | (intro acts; rw [hret _ acts rfl rfl rfl]) | rw [hret _ _ rfl rfl rfl]
  exact Steps.refl _
/-- what holds at the law's entry: the machine, the code, the tables' words (any of lw_tbl by 'hts w (by decide +kernel)'), the script of L ints xs at the cell b, what the Statement gives of the start (any of its parts by flat_of_before) -/
def lw_At (p : Program) (s : State) (m : MethodId) (meth : Method) (c : Code) (b L : Nat) (xs : Nat → Int32) : Prop :=
  p.tables.exec = Jvm.exec ∧ c.code = code ∧ meth.sig.returnType = ret ∧ c.maxLocals = 7 ∧ s.vm.findClass R_law = some m.cls ∧ (∀ w ∈ lw_tbl, w.before #[Value.ref b] s = true) ∧ va_X b L xs s s.heap ∧ b < s.heap.size ∧ meth.locks = false ∧ (Jvm.Cond.and given_1 narrow_1).before #[Value.ref b] s = true
section
variable {p : Program} {l : Launch} {e : Env} {R : Room} {s : State} {m : MethodId} {args : Array Value} {below : List Frame} {meth : Method} {c : Code} {H : Heap} {locs : List Loc} {cells slots : Nat} {Q : State → Prop}
variable {rest : List Value} {D : va_G} {cy : Nat → ClassId} {base b : Nat} {H0 : Heap} {M : AM}
theorem mw_after {mc ms n : Nat} {M' : AM} {Av : Array Value} {g : JFrame} (hws : WB D cy base b H0 n M H locs) (hr : va_Run p l e R s m args below meth c H locs cells slots mc ms g rest (QcM D cy base b M' Av) (frW base))
    (kk : ∀ (H1 : Heap) (locs1 : List Loc), Rep D cy base b M' H1 → H1.size = base + 128 → (∀ q, q < base → H1[q]? = H0[q]?) → (∀ z ∈ locs1, frW base z.base) → W p l e R s m args below meth c H1 locs1 (cells + mc) (slots + ms) Q { g with pc := g.pc + 3, stack := rest }) : W p l e R s m args below meth c H locs cells slots Q g := by
  intro T hT X
  obtain ⟨v, st₀, t, T', L, h0, X', hL, e1, e2, ⟨hv, hR, hz, hfr⟩, st⟩ := hr T hT X
  cases hv
  obtain ⟨t2, a1, b1⟩ := kk T'.heap (locs ++ L) (by rw [e1]; exact hR) (by rw [e1]; exact hz) (fun q hq => by rw [e1, hfr q hq, h0]; exact hws.2.1 q hq) (fun z hz => (List.mem_append.mp hz).elim (hws.2.2 z) (hL z)) T' rfl X'
  exact ⟨t2, st t2 a1, b1⟩
end
theorem ci_law_GT (l : Launch) : CI l room_1 RL 17 (1, [0], 82, F_GT_0, 81, 5725) := ⟨yX9_init, cX9_init, 1, ({ frames := 7, cells := 81, slots := 5725, locals := 165 } : Room), ci_GT l, ⟨rfl, rfl, by decide, by decide⟩, tw1 (i := 29) rfl rfl, tw1 (i := 1) rfl rfl, Or.inl (tw1 (i := 27) rfl rfl), ⟨by decide +kernel, by decide +kernel, by decide +kernel⟩, tw1 (i := 28) rfl rfl, rfl, by decide⟩
set_option maxRecDepth 20000 in

theorem whole_start {p : Program} {e : Env} {s : State} {m : MethodId} {below : List Frame} {meth : Method} {c : Code} (l : Launch) (hflags : l.flags = flags0) {b L : Nat} {xs : Nat → Int32} (hL : L ≤ 3072) (C0 : lw_At p s m meth c b L xs) : W p l e room_1 s m #[Value.ref b] below meth c s.heap [] 0 0 (lw_Z below #[Value.ref b] s) (entryFrame m ([Value.ref b] : List Value).toArray 7) := by
  obtain ⟨hx, hb, hret, hml, hown, hts0, hX, hbl, hlk, hgv⟩ := C0
  have hown : s.vm.findClass RL = some m.cls := hown
  have hts : ∀ w ∈ TBg, w.before #[Value.ref b] s = true := fun w hw => hts0 w (List.mem_filter.mp hw).1
  obtain ⟨D, cy, hK⟩ := known0 hts (List.forall_mem_cons.mpr ⟨va_Nw.of rfl (hts0 _ (List.mem_append_right _ (List.mem_of_getElem? (i := 622) rfl))), List.forall_mem_cons.mpr ⟨va_Nw.of rfl (hts0 _ (List.mem_append_right _ (List.mem_of_getElem? (i := 661) rfl))), fun _ h => absurd h List.not_mem_nil⟩⟩)
  have hKI : KnI s := List.forall_mem_cons.mpr ⟨va_Nw.of rfl (hts0 _ (List.mem_append_right _ (List.mem_of_getElem? (i := 133) rfl))), List.forall_mem_cons.mpr ⟨va_Nw.of rfl (hts0 _ (List.mem_append_right _ (List.mem_of_getElem? (i := 139) rfl))), List.forall_mem_cons.mpr ⟨va_Nw.of rfl (hts0 _ (List.mem_append_right _ (List.mem_of_getElem? (i := 392) rfl))), List.forall_mem_cons.mpr ⟨va_Nw.of rfl (hts0 _ (List.mem_append_right _ (List.mem_of_getElem? (i := 468) rfl))), fun _ h => absurd h List.not_mem_nil⟩⟩⟩⟩
  have hSK := start_SK hts0 hgv
  have hZ := start_TS hts0 hgv
  have hNC := start_NC hts0 hgv
  generalize hbase : s.heap.size = base at hSK hbl hZ
  have hSK2 : ∀ U : State, (∀ q, q < base → U.heap[q]? = s.heap[q]?) → s.WarmedH U.vm → SKt base U := fun U hU hW => hSK.kept hW hU
  have hl := lv_entry ([Value.ref b]) (n := 7) (Nat.le_of_ble_eq_true rfl)
  rw [lg_entry_eq]
  generalize (lg_sl ([Value.ref b]) ++ List.replicate (7 - (lg_sl ([Value.ref b])).length) Slot.unset).toArray = ls at hl ⊢
  have hl : lv_has ls 7 [(0, Value.ref b)] := hl
  have hw0 : WB D cy base b s.heap 0 Mz s.heap [] := ⟨⟨fun i hi => absurd hi (Nat.not_lt_zero i), hbase, fun i _ k => ⟨rfl, rfl, rfl⟩⟩, fun _ _ => rfl, fun z hz => by cases hz⟩
  refine bw_new hx hb hts cf_all hown hK hw0 (k9 := 9) (q := (RX9, TX9, 14)) rfl rfl (by decide) (tw1 (i := 25) rfl rfl) (tw1 (i := 26) rfl rfl) (tw1 (i := 1) rfl rfl) (by decide) (by decide) (by decide +kernel : decode code 0 = .ok (.new 8, 3)) (fun H1 hw1 => ?_)
  refine lv_dup hx hb (by decide +kernel : decode code 3 = .ok (.dup, 1)) rfl ?_
  refine bw_callI (q := (1, [0], 82, F_GT_0, 81, 5725)) (rest := [.ref (adr base b 0)]) hx hb (hml.trans hl.1.symm) hts hown hK hKI hSK2 hw1 ⟨by decide, by decide⟩ (ci_law_GT l) (by simp [Value.category]) (by decide +kernel : decode code 4 = .ok (.invokespecial 17, 3)) (fun H2 locs2 hw2 => ?_)
  refine lv_astore_n hx hb (by decide +kernel : decode code 7 = .ok (.astore_n 1, 1)) rfl hl (by decide) rfl (fun ls hl => ?_)
  refine bw_new hx hb hts cf_all hown hK hw2 (k9 := 10) (q := (RX10, TX10, 91)) rfl rfl (by decide) (tw6 (i := 93) rfl rfl) (tw6 (i := 94) rfl rfl) (tw1 (i := 15) rfl rfl) (by decide) (by decide) (by decide +kernel : decode code 8 = .ok (.new 18, 3)) (fun H3 hw3 => ?_)
  refine lv_dup hx hb (by decide +kernel : decode code 11 = .ok (.dup, 1)) rfl ?_
  obtain ⟨P, i0, l0, M2, hp1, hp2, hI⟩ := start_INV
  refine mw_after hw3 (va_runI (Ts := TBg) (own := RL) (As := []) (rest := [.ref (adr base b 82)]) (n := 0) ⟨hx, hb, hml.trans hl.1.symm, hown, hts⟩ (ci_Mo l D cy base b hp1 hp2) (cwI 0 hts (good_tb (tw6 (i := 97) rfl rfl)) rfl rfl rfl (hts _ (tw1 (i := 15) rfl rfl)) (hts _ (tw6 (i := 95) rfl rfl)) (hts _ (tw6 (i := 96) rfl rfl)) rfl ⟨by decide +kernel, by decide +kernel, by decide +kernel⟩ ⟨by decide, by decide⟩) ⟨blind_pcb, fun U hU hW => ⟨rfl, by rw [hU]; exact hw3.1, hK.moved hW, hKI.moved hW, hSK2 U (fun q hq => by rw [hU]; exact hw3.2.1 q hq) hW⟩⟩ rfl rfl rfl rfl (lv_room (by simp [Value.category])) (by decide +kernel : decode code 12 = .ok (.invokespecial 20, 3)) ⟨by decide, by decide⟩) (fun H4 locs4 hR4 hz4 hq4 hf4 => ?_)
  refine lv_astore_n hx hb (by decide +kernel : decode code 15 = .ok (.astore_n 2, 1)) rfl hl (by decide) rfl (fun ls hl => ?_)
  refine lv_iconst (v := nI 1) hx hb (by decide +kernel : decode code 16 = .ok (.iconst 1, 1)) (by decide) ?_
  refine va_newaK (atype := .long) (N := 1) hx hb (hts _ (show Cond.arrayClass (newarray.typeOf .long) ∈ TBg from arr_ok 13 (by omega) (by omega))) rfl (by decide +kernel : decode code 17 = .ok (.newarray .long, 2)) rfl (by decide) (by decide) (by decide) (by decide) (by decide) hz4 (fun H5 cA e1 z1 o1 hA hfc => ?_)
  refine lv_astore_n hx hb (by decide +kernel : decode code 19 = .ok (.astore_n 3, 1)) rfl hl (by decide) rfl (fun ls hl => ?_)
  refine lv_iconst (v := nI 0) hx hb (by decide +kernel : decode code 20 = .ok (.iconst 0, 1)) (by decide) ?_
  refine lv_istore hx hb (by decide +kernel : decode code 21 = .ok (.istore 4, 2)) hl (by decide) rfl (fun ls hl => ?_)
  refine va_forget (fun z hz => by rw [hbase]; exact (hf4 z hz).1) ?_
  have hcA : cA = cy 13 := Option.some.inj (hfc.symm.trans (hK.2.1 13 (by omega) (by omega)).2)
  have hRep : Rep D cy base b (i0, l0, Rp 7 7 27) H5 := fun i hi => reC_kept (hR4 i hi) rfl rfl rfl (o1 _ (Nat.add_lt_add_left hi base))
  refine law_loop (xs := xs) (L := L) ⟨hx, hb, hml, hts, hown, hK, hbl, hX, hL⟩ hbase ?_ (fun H ls cells slots hc hs => ?_) 512 0 rfl H5 ls P i0 l0 7 7 27 hI hRep (fun q hq => (o1 q (by omega)).trans (hq4 q hq)) ⟨0, by rw [e1, hcA]; rfl⟩ hl
  · exact lc_node (start_fl hflags) ⟨hx, hb, hml, hts, hown, hK, hbl, hX, hL⟩ hbase hNC hZ
  · refine lv_iconst (v := 1) hx hb (by decide +kernel : decode code 1561 = .ok (.iconst 1, 1)) (by decide) ?_
    exact W.widen hc hs (lw_ret hx hb hret hlk (by decide +kernel : decode code 1562 = .ok (.ireturn, 1)))
set_option maxHeartbeats 4000000 in
theorem lw_walk (l : Launch) (hflags : l.flags = flags0) (b : Addr) (xs : List Int32) : MetFree l x (headSpec (Jvm.Cond.code x code maxLocals ret :: tables_1) room_1) (lw_P b xs) (fun _ _ _ _ _ => True) lw_Q := by
  refine MetFree.of_bodyS (code := code) (maxLocals := maxLocals) (ret := ret) (by decide) ?_ ?_
  · intro args s m h hn
    obtain ⟨meth, c, h1, h2, h3, h4, h5, h6, -, -⟩ := Cond.code_spec hn (atoms_spec (ws := Jvm.Cond.code x code maxLocals ret :: tables_1) h _ List.mem_cons_self)
    exact ⟨meth, c, h1, h2, h3, h4, h5, h6⟩
  · intro p e s m args below meth c s₁ B hml0 hP _
    obtain ⟨rfl, hx, hbd, hgv⟩ := hP
    obtain ⟨scr, harrAt, hlist, hof, hsmall⟩ := hx
    obtain ⟨hcb, hkn, -, -⟩ := State.arrayAt?_spec harrAt
    have hown : s.vm.findClass R_law = some m.cls := findClass_of_methodNamed B.named
    have hts0 : ∀ c ∈ (Jvm.Cond.code x code maxLocals ret :: tables_1), c.before #[Value.ref b] s = true := atoms_spec (ws := Jvm.Cond.code x code maxLocals ret :: tables_1) B.pre
    have hts : ∀ w ∈ lw_tbl, w.before #[Value.ref b] s = true := k2_hts_sels lw_privs (fun w hw => hts0 w (List.mem_cons_of_mem _ hw)) lw_privs_ok
    have hml : c.maxLocals = 7 := B.maxLocals_eq (hts0 _ List.mem_cons_self)
    have X₀ : Stand p l e room_1 s m #[Value.ref b] below meth c s₁ [] 0 0 := Stand.of_body B
    have hh0 : s₁.heap = s.heap := by rw [B.state]; rfl
    have hsz : scr.slots.size = xs.length := by rw [← Array.length_toList, hlist, List.length_map]
    have hval : ∀ j : Nat, j < xs.length → scr.slots[j]? = some (.int (xs.getD j 0)) := fun j hj => by
      rw [← Array.getElem?_toList, hlist]
      simp [hj]
    have hbl : b < s.heap.size := (Array.getElem?_eq_some_iff.mp hcb).1
    have hX : va_X b xs.length (fun j => xs.getD j 0) s s.heap := ⟨scr, hcb, hof, hkn, hsz, hval⟩
    have K : W p l e room_1 s m #[Value.ref b] below meth c s₁.heap [] 0 0 (lw_Z below #[Value.ref b] s) (entryFrame m ([Value.ref b] : List Value).toArray 7) := by
      rw [hh0]
      exact whole_start l hflags hbd ⟨B.exec, B.bytes, B.returns, hml, hown, hts, hX, hbl, B.notSynchronized, hgv⟩
    obtain ⟨t, a1, o, b1, b2, b3⟩ := K s₁ rfl X₀
    exact ⟨t, o, a1, b1, b2, b3⟩
theorem lw_pre_spec {args : Array Value} {s : State} (h : (Jvm.Cond.and given_1 narrow_1).before args s = true) (hr : rest_1_c.before args s = true) : ∃ (b : Addr) (xs : List Int32), lw_P b xs args s := by
  have hs := flat_of_before _ h
  have hq := flat_of_before _ hr
  have hc : (Cond.count 1).before args s = true := hs _ (by decide +kernel)
  have harr : (Cond.arrayOf (.arg 0) .int).before args s = true := hs _ (by decide +kernel)
  have hle : (Cond.le (.length (.arg 0)) (.int 3072)).before args s = true := hs _ (by decide +kernel)
  have hlen : (Cond.isInt (.length (.arg 0))).before args s = true := hq _ (by decide +kernel)
  have hall : (Cond.all (.arg 0) (.isInt (.elem (.arg 0) (.index 0)))).before args s = true := hq _ (by decide +kernel)
  obtain ⟨b, xs, hb, hx⟩ := State.ints_of_pre rfl harr hlen hall
  have hsm : xs.length < 2 ^ 31 := hx.choose_spec.2.2.2
  have hev : (Term.length (.arg 0)).eval args s none [] s = some (.int xs.length.toInt32) := hx.length_eval hb
  have hv := Cond.le_ints hev (show (Term.int 3072).eval args s none [] s = some (.int 3072) from rfl)
  have hd : xs.length.toInt32 ≤ 3072 := by
    simpa [Cond.before, Cond.holds, hv] using hle
  have hN : xs.length ≤ 3072 := (Int32.ofNat_le_ofNat hsm (by decide)).mp (show Int32.ofNat xs.length ≤ Int32.ofNat 3072 from hd)
  exact ⟨b, xs, Cond.one_arg hc (show args[0]? = some (.ref b) from hb), hx, hN, h⟩
theorem lw_comes (l : Launch) (hflags : l.flags = flags0) : Comes l x (Jvm.Cond.code x code maxLocals ret :: tables_1) room_1 (fun tb e args s => Calls_1 tb e args s ∧ rest_1 tb e args s ∧ Pre_1 tb e args s)
    (fun _ _ args s o t => lw_Q args s o t) := by
  intro p e ha hc hk s m args below hf hfit hheap happ hpre
  obtain ⟨b, xs, hP⟩ := lw_pre_spec hpre.2.2 hpre.2.1
  obtain ⟨k, o, h1, h2, h3, hQ⟩ := lw_walk l hflags b xs p e ha hc hk s m args below hf ((Spec.applies_iff_loose hf).mp happ).1 hP trivial
  exact ⟨k, o, h1, h2, h3, hQ⟩
theorem lw_frame {s t : State} {o : Outcome} {args : Array Value} (h : Framed s o t [] 1155 22001) :
    Framed s o t (fieldLocs frame_1_writes args s ++ arrayLocs frame_1_arrays args s ++ staticLocs frame_1_statics s) 1155 22001 := h
theorem lw_limb (L : Cond) (hL : ∀ (args : Array Value) (s t : State), L.after args s (.returned (some (.int 1))) t = true) :
    ArmFor flags0 classFile x code maxLocals ret World_1 tables_1 room_1 Calls_1 rest_1 Pre_1
      (fun tb e a s o t => postC L tb e a s o t ∧ Framed s o t (fieldLocs frame_1_writes a s ++ arrayLocs frame_1_arrays a s ++ staticLocs frame_1_statics s) 1155 22001) := by
  intro l hflags _ _ p e ha hc hk s m args below hf hfit hheap happ hpre
  obtain ⟨k, o, h1, h2, h3, rfl, hF⟩ := lw_comes l hflags p e ha hc hk s m args below hf hfit hheap happ hpre
  exact ⟨k, _, h1, h2, h3, hL args s _, lw_frame hF⟩
theorem i_vc : Claimed_1_1 ∧ Claimed_1_2 := ⟨lw_limb limb_1_1 (fun args s t => by simp [limb_1_1, Cond.after, Cond.holds, Cond.value]), lw_limb limb_1_2 (fun args s t => Cond.after_iff.mpr (by
  first | (rw [show limb_1_2 = Cond.eq .result (.int 1) from rfl, Cond.eq_ints (x := 1) (y := 1) rfl rfl]; simp; done) | (simp [limb_1_2, Cond.value, Term.eval]; done)))⟩
