/-! calls -/
theorem Kn.moved {D : va_G} {cy : Nat → ClassId} {s U : State} (hW : s.WarmedH U.vm) (h : Kn D cy s) : Kn D cy U := by
  refine ⟨fun c q hq => u_Kn_moved hW.alike (h.1 c q hq), fun n h1 h2 => ⟨arrOfT_moved hW.alike (h.2.1 n h1 h2).1, (h.2.1 n h1 h2).2.moved hW.alike⟩, fun w hw => ?_⟩
  rcases List.mem_cons.mp hw with rfl | hw2
  · exact va_Nw.warmM hW (h.2.2 _ hw)
  · rw [List.mem_singleton.mp hw2] at hw ⊢
    exact va_Nw.warmM hW (h.2.2 _ hw)
theorem Kn.calling {D : va_G} {cy : Nat → ClassId} {U : State} {g : JFrame} {mk : MethodId} {a : Array Value} (h : Kn D cy U) : Kn D cy (U.calling g mk a) := by
  refine ⟨fun c q hq => u_Kn_moved (u := U) (U := U.calling g mk a) (Vm.Alike.refl U.vm) (h.1 c q hq), fun n h1 h2 => ⟨arrOfT_moved (u := U) (E := U.calling g mk a) (Vm.Alike.refl U.vm) (h.2.1 n h1 h2).1, (h.2.1 n h1 h2).2.moved (u := U) (U := U.calling g mk a) (Vm.Alike.refl U.vm)⟩, fun w hw => ?_⟩
  have hot : w.onTables = true := by
    rcases List.mem_cons.mp hw with rfl | hw2
    · rfl
    · rw [List.mem_singleton.mp hw2]; rfl
  exact va_Nw.same hot (u := U) (U := U.calling g mk a) rfl (h.2.2 w hw)
theorem good_tb {w0 : Cond} (h : w0 ∈ TBg) : GoodIn TBg (w0 :: TBg) := by
  intro w hw
  have hw : w ∈ TBg := by
    rcases List.mem_cons.mp hw with rfl | hw
    · exact h
    · exact hw
  exact ⟨hw, good_of_word (List.mem_filter.mp hw).2⟩
theorem blind_pcx {D : va_G} {cy : Nat → ClassId} {base b : Nat} {As : List Value} {M : AM} : FrameBlind (Pcx D cy base b As M) := fun _ _ _ _ h => ⟨h.1, h.2.1, h.2.2.calling⟩
section
variable {p : Program} {l : Launch} {e : Env} {R : Room} {s : State} {m : MethodId} {args : Array Value} {below : List Frame} {meth : Method} {c : Code} {H : Heap} {locs : List Loc} {cells slots : Nat} {Q : State → Prop}
variable {cc : ByteArray} {pc : Nat} {ls : Array Slot} {rest : List Value} {D : va_G} {cy : Nat → ClassId} {base b : Nat} {H0 : Heap} {M : AM} {own : String}
theorem rw_after {As : List Value} {r : Option Value} {M' : AM} {Av : Array Value} {g : JFrame} (hws : WS D cy base b H0 M H locs) (hr : va_Run p l e R s m args below meth c H locs cells slots 0 0 g rest (Qcx D cy base b r M' Av) (frW base))
    (kk : ∀ (H1 : Heap) (locs1 : List Loc), WS D cy base b H0 M' H1 locs1 → W p l e R s m args below meth c H1 locs1 cells slots Q { g with pc := g.pc + 3, stack := (r.map (cv base b)).toList ++ rest }) : W p l e R s m args below meth c H locs cells slots Q g := by
  intro T hT X
  obtain ⟨v, st₀, t, T', L, h0, X', hL, e1, e2, ⟨hv, hR, hfr⟩, st⟩ := hr T hT X
  cases hv
  have hw : WS D cy base b H0 M' T'.heap (locs ++ L) := by
    refine ⟨by rw [e1]; exact hR, fun q hq => ?_, fun z hz => ?_⟩
    · rw [e1, hfr q hq, h0]
      exact hws.2.1 q hq
    · rcases List.mem_append.mp hz with h | h
      · exact hws.2.2 z h
      · exact hL z h
  obtain ⟨t2, a1, b1⟩ := kk T'.heap (locs ++ L) hw T' rfl X'
  exact ⟨t2, st t2 a1, b1⟩
theorem rw_callV (hx : p.tables.exec = Jvm.exec) (hb : c.code = cc) (hml : c.maxLocals = ls.size) (hts : ∀ w ∈ TBg, w.before args s = true) (hcf : CF) (hown : s.vm.findClass own = some m.cls) (hK : Kn D cy s) (hws : WS D cy base b H0 M H locs) (hcs : cells ≤ R.cells ∧ slots ≤ R.slots) {idx k9 n : Nat} {Df : DT} (hco : CO l R own idx (0, k9, n, Df))
    {a : Nat} {As : List Value} (ho : obj k9 a = true) (hn : As.length + 1 = n) {r : Option Value} {M' : AM} (hD : Df (.ref a :: As) M = some (r, M')) (hcat : (rest.map fun v => v.category).sum ≤ 8) (hdg : decode cc pc = .ok (.invokevirtual idx, 3))
    (kk : ∀ (H1 : Heap) (locs1 : List Loc), WS D cy base b H0 M' H1 locs1 → W p l e R s m args below meth c H1 locs1 cells slots Q (F0 m (pc + 3) ls ((r.map (cv base b)).toList ++ rest))) :
    W p l e R s m args below meth c H locs cells slots Q (F0 m pc ls ((As.map (cv base b)).reverse ++ .ref (adr base b a) :: rest)) := by
  obtain ⟨y, yc, maxL, ret, rm, q, hCt, ⟨hrc, hrs, hR⟩, hcode, hini, hlink, ⟨hd1, hd2, hd3⟩, hinst, hq, hsel⟩ := hco
  obtain ⟨hadr, cell, q1, q2, q3, q4⟩ := rep_obj hws hcf hq ho
  obtain ⟨hS, hfc, kC, hkC, hkind⟩ := hK.1 k9 q hq
  have hlen : (parseMethodDescriptor y.desc).map (fun d => d.parameters.length) = some As.length := by
    cases hp : parseMethodDescriptor y.desc with
    | none => rw [hp] at hd3; cases hd3
    | some d =>
      rw [hp] at hd3
      simp only [Option.map_some, Option.some.injEq] at hd3 ⊢
      omega
  refine rw_after (As := .ref a :: As) hws (va_runV (Ts := TBg) (own := own) (C := q.1) (b := adr base b a) (As := As.map (cv base b)) (rest := rest) (n := As.length) ⟨hx, hb, hml, hown, hts⟩ (hCt D cy base b (.ref a :: As) M r M' hD) ⟨callB_of As.length hts (good_tb hcode) rfl hrc hrs (hts _ hini) (hts _ hlink) ⟨hd1, hd2, hlen⟩ hR, hts _ hinst, hts _ hsel⟩
    ⟨blind_pcx, ⟨cell, by rw [hadr]; exact q1, by rw [q3]; rfl, by rw [q2]; exact hfc⟩, fun U hU hW => ⟨rfl, by rw [hU]; exact hws.1, hK.moved hW⟩⟩ rfl (by simp) rfl rfl (lv_room hcat) hdg hcs) kk
theorem rw_callS (hx : p.tables.exec = Jvm.exec) (hb : c.code = cc) (hml : c.maxLocals = ls.size) (hts : ∀ w ∈ TBg, w.before args s = true) (hown : s.vm.findClass own = some m.cls) (hK : Kn D cy s) (hws : WS D cy base b H0 M H locs) (hcs : cells ≤ R.cells ∧ slots ≤ R.slots) {idx k9 n : Nat} {Df : DT} (hco : CO l R own idx (1, k9, n, Df))
    {As : List Value} (hn : As.length = n) {r : Option Value} {M' : AM} (hD : Df As M = some (r, M')) (hcat : (rest.map fun v => v.category).sum ≤ 8) (hdg : decode cc pc = .ok (.invokestatic idx, 3))
    (kk : ∀ (H1 : Heap) (locs1 : List Loc), WS D cy base b H0 M' H1 locs1 → W p l e R s m args below meth c H1 locs1 cells slots Q (F0 m (pc + 3) ls ((r.map (cv base b)).toList ++ rest))) :
    W p l e R s m args below meth c H locs cells slots Q (F0 m pc ls ((As.map (cv base b)).reverse ++ rest)) := by
  obtain ⟨y, yc, maxL, ret, rm, hCt, ⟨hrc, hrs, hR⟩, hcode, hini, hlink, ⟨hd1, hd2, hd3⟩, hstat⟩ := hco
  subst hn
  have hp : PreS s H (Pcx D cy base b As M) (As.map (cv base b)) := ⟨blind_pcx, fun U hU hW => ⟨rfl, by rw [hU]; exact hws.1, hK.moved hW⟩⟩
  rcases hlink with hlink | ⟨host, hlink⟩
  · exact rw_after (As := As) hws (va_runS (Ts := TBg) (own := own) (As := As.map (cv base b)) (rest := rest) (n := As.length) ⟨hx, hb, hml, hown, hts⟩ (hCt D cy base b As M r M' hD) ⟨callB_of As.length hts (good_tb hcode) rfl hrc hrs (hts _ hini) (hts _ hlink) ⟨hd1, hd2, hd3⟩ hR, hts _ hstat⟩ hp rfl (by simp) rfl rfl (lv_room hcat) hdg hcs) kk
  · exact rw_after (As := As) hws (va_runSN (Ts := TBg) (own := own) (host := host) (As := As.map (cv base b)) (rest := rest) (n := As.length) ⟨hx, hb, hml, hown, hts⟩ (hCt D cy base b As M r M' hD) ⟨va_cnB As.length hts (good_tb hcode) rfl hrc hrs (hK.2.2 _ hlink) (hts _ hini) ⟨hd1, hd2, hd3⟩ hR, hts _ hstat, trivial⟩ hp rfl (by simp) rfl rfl (lv_room hcat) hdg hcs) kk
end
