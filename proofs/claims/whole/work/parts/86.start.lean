/-! what a throw stands on, when the law begins (by program) -/
theorem start_str {args : Array Value} {s : State} {own tx : String} {k : Nat} (h1 : (Cond.stringRef own k tx).before args s = true) (h2 : (Cond.exactly (.string own k) "java/lang/String").before args s = true) : ∃ q, vk_R own k tx q s := by
  obtain ⟨a2, c, cA, kA, q1, -⟩ := Cond.exactly_spec (args := args) (first := s) (o := none) (s := s) (idx := []) h2
  exact ⟨a2, vk_R.of h1 q1⟩
set_option maxRecDepth 20000 in
theorem start_TS {args : Array Value} {s : State} (hts : ∀ w ∈ lw_tbl, w.before args s = true) (h : (Jvm.Cond.and given_1 narrow_1).before args s = true) : TSt s.heap.size s :=
  ⟨Sx.of (hts _ (List.mem_append_right _ (List.mem_of_getElem? (i := 1234) rfl))) (fl_at h (i := 9) rfl), Sx.of (hts _ (List.mem_append_right _ (List.mem_of_getElem? (i := 1236) rfl))) (fl_at h (i := 10) rfl),
   List.forall_mem_cons.mpr ⟨va_Nw.of rfl (hts _ (List.mem_append_right _ (List.mem_of_getElem? (i := 1211) rfl))), List.forall_mem_cons.mpr ⟨va_Nw.of rfl (hts _ (List.mem_append_right _ (List.mem_of_getElem? (i := 1213) rfl))), List.forall_mem_cons.mpr ⟨va_Nw.of rfl (hts _ (List.mem_append_right _ (List.mem_of_getElem? (i := 1215) rfl))), fun _ h => absurd h List.not_mem_nil⟩⟩⟩,
   start_str (hts _ (List.mem_append_right _ (List.mem_of_getElem? (i := 1247) rfl))) (fl_at h (i := 172) rfl), start_str (hts _ (List.mem_append_right _ (List.mem_of_getElem? (i := 1286) rfl))) (fl_at h (i := 189) rfl)⟩
set_option maxRecDepth 20000 in
theorem start_NC {args : Array Value} {s : State} (hts : ∀ w ∈ lw_tbl, w.before args s = true) (h : (Jvm.Cond.and given_1 narrow_1).before args s = true) : NCs s := by
  obtain ⟨c1, t1, a1, a2, a3⟩ := Cond.castable_spec (args := args) (first := s) (o := none) (s := s) (idx := []) (hts _ (List.mem_append_right _ (List.mem_of_getElem? (i := 1209) rfl)))
  obtain ⟨c2, t2, b1, b2, b3⟩ := Cond.castable_spec (args := args) (first := s) (o := none) (s := s) (idx := []) (hts _ (List.mem_append_right _ (List.mem_of_getElem? (i := 1279) rfl)))
  cases a1.symm.trans a2
  cases b1.symm.trans b2
  have hn : (Cond.not (.castable "java/util/NoSuchElementException" "java/lang/IndexOutOfBoundsException")).before args s = true := fl_at h (i := 22) rfl
  refine ⟨c1, c2, a1, b1, a3, b3, ?_⟩
  simp only [Cond.before, Cond.holds, Cond.value] at hn
  simpa [a1, b1] using hn
theorem start_fl {l : Launch} (h : l.flags = flags0) : l.stackTraces = false := by
  unfold Launch.stackTraces
  rw [h]
  decide
