/-! what is known when the law begins (by program) -/
theorem known0 {args : Array Value} {s : State} (hts : ∀ w ∈ TBg, w.before args s = true) (hn : ∀ w ∈ nstW, va_Nw w s) : ∃ (D : va_G) (cy : Nat → ClassId), Kn D cy s := by
  obtain ⟨c0, iS0, k0⟩ := u_known (C := RX0) (T := TX0) (N := 8) (n := 8) hts (cf_all 0 _ rfl).2.2.1 (hts _ (tw2 (i := 120) rfl rfl))
  obtain ⟨c1, iS1, k1⟩ := u_known (C := RX1) (T := TX1) (N := 6) (n := 6) hts (cf_all 1 _ rfl).2.2.1 (hts _ (tw1 (i := 138) rfl rfl))
  obtain ⟨c2, iS2, k2⟩ := u_known (C := RX2) (T := TX2) (N := 7) (n := 7) hts (cf_all 2 _ rfl).2.2.1 (hts _ (tw2 (i := 86) rfl rfl))
  obtain ⟨c3, iS3, k3⟩ := u_known (C := RX3) (T := TX3) (N := 13) (n := 13) hts (cf_all 3 _ rfl).2.2.1 (hts _ (tw3 (i := 4) rfl rfl))
  obtain ⟨c4, iS4, k4⟩ := u_known (C := RX4) (T := TX4) (N := 3) (n := 3) hts (cf_all 4 _ rfl).2.2.1 (hts _ (tw2 (i := 227) rfl rfl))
  obtain ⟨c5, iS5, k5⟩ := u_known (C := RX5) (T := TX5) (N := 20) (n := 20) hts (cf_all 5 _ rfl).2.2.1 (hts _ (tw1 (i := 132) rfl rfl))
  obtain ⟨c6, iS6, k6⟩ := u_known (C := RX6) (T := TX6) (N := 10) (n := 10) hts (cf_all 6 _ rfl).2.2.1 (hts _ (tw2 (i := 46) rfl rfl))
  obtain ⟨c7, iS7, k7⟩ := u_known (C := RX7) (T := TX7) (N := 13) (n := 13) hts (cf_all 7 _ rfl).2.2.1 (hts _ (tw2 (i := 151) rfl rfl))
  obtain ⟨c8, iS8, k8⟩ := u_known (C := RX8) (T := TX8) (N := 12) (n := 12) hts (cf_all 8 _ rfl).2.2.1 (hts _ (tw1 (i := 34) rfl rfl))
  obtain ⟨c9, iS9, k9⟩ := u_known (C := RX9) (T := TX9) (N := 14) (n := 14) hts (cf_all 9 _ rfl).2.2.1 (hts _ (tw1 (i := 26) rfl rfl))
  obtain ⟨c10, iS10, k10⟩ := u_known (C := RX10) (T := TX10) (N := 91) (n := 91) hts (cf_all 10 _ rfl).2.2.1 (hts _ (tw6 (i := 94) rfl rfl))
  obtain ⟨y11, ky11, cy11, f11, g11, h11⟩ := Cond.arrayClass_spec (args := args) (first := s) (o := none) (s := s) (idx := []) (hts _ (arr_ok 11 (by omega) (by omega)))
  obtain ⟨y12, ky12, cy12, f12, g12, h12⟩ := Cond.arrayClass_spec (args := args) (first := s) (o := none) (s := s) (idx := []) (hts _ (arr_ok 12 (by omega) (by omega)))
  obtain ⟨y13, ky13, cy13, f13, g13, h13⟩ := Cond.arrayClass_spec (args := args) (first := s) (o := none) (s := s) (idx := []) (hts _ (arr_ok 13 (by omega) (by omega)))
  obtain ⟨y14, ky14, cy14, f14, g14, h14⟩ := Cond.arrayClass_spec (args := args) (first := s) (o := none) (s := s) (idx := []) (hts _ (arr_ok 14 (by omega) (by omega)))
  refine ⟨(fun c => [c0, c1, c2, c3, c4, c5, c6, c7, c8, c9, c10].getD c 0, fun c => [iS0, iS1, iS2, iS3, iS4, iS5, iS6, iS7, iS8, iS9, iS10].getD c (fun _ => 0)), fun n => [y11, y12, y13, y14].getD (n - 11) 0, fun c q hq => ?_, fun n h1 h2 => ?_, hn⟩
  · match c, hq with
    | 0, hq => cases hq; exact k0
    | 1, hq => cases hq; exact k1
    | 2, hq => cases hq; exact k2
    | 3, hq => cases hq; exact k3
    | 4, hq => cases hq; exact k4
    | 5, hq => cases hq; exact k5
    | 6, hq => cases hq; exact k6
    | 7, hq => cases hq; exact k7
    | 8, hq => cases hq; exact k8
    | 9, hq => cases hq; exact k9
    | 10, hq => cases hq; exact k10
    | c + 11, hq => simp [vwCl] at hq
  · have : n = 11 ∨ n = 12 ∨ n = 13 ∨ n = 14 := by omega
    rcases this with x | x | x | x <;> subst x
    · exact ⟨fun n z => ⟨fun k h => (by cases h), ky11, g11, cy11, h11⟩, f11⟩
    · exact ⟨fun n z => ⟨fun k h => (by cases h), ky12, g12, cy12, h12⟩, f12⟩
    · exact ⟨fun n z => ⟨fun k h => (by cases h), ky13, g13, cy13, h13⟩, f13⟩
    · exact ⟨fun n z => ⟨fun k h => (by cases h), ky14, g14, cy14, h14⟩, f14⟩
def flN : List Cond := flatC (Jvm.Cond.and given_1 narrow_1)
set_option maxRecDepth 20000 in
theorem flN_e : (List.range 133).all (fun j => decide (flN[39 + j]? = some (Cond.eq (.elem (.field (.string RX8 50) "java/lang/String" "value" "[B") (.int (Int32.ofNat j))) (.int (nI (txS.getD j 0)))))) = true := by decide +kernel
theorem fl_at {args : Array Value} {s : State} (h : (Jvm.Cond.and given_1 narrow_1).before args s = true) {i : Nat} {c : Cond} (hc : flN[i]? = some c) : c.before args s = true := flat_of_before _ h c (List.mem_of_getElem? hc)
theorem start_SK {args : Array Value} {s : State} (hts : ∀ w ∈ lw_tbl, w.before args s = true) (h : (Jvm.Cond.and given_1 narrow_1).before args s = true) : SKt s.heap.size s := by
  have hA : ∀ a : Nat, a < s.heap.size → ¬ AB s.heap.size a := fun a ha hb => absurd ha (Nat.not_lt.mpr hb)
  obtain ⟨adK, adV, hS, hE⟩ := vk_Sof (args := args) (s := s) (N := 1) (tm := fun _ => .string RX8 50) (len := [133]) (byt := [txS.map nI]) (A := AB s.heap.size) (fun i hi => by rw [show i = 0 by omega]; decide)
    (fun i hi => fl_at h (i := 35) rfl) (fun i hi => fl_at h (i := 36) rfl) (fun i hi => fl_at h (i := 37) rfl) (fun i hi => by rw [show i = 0 by omega]; exact fl_at h (i := 38) rfl)
    (fun i hi j hj => by
      rw [show i = 0 by omega] at hj ⊢
      have hj : j < 133 := hj
      have e1 : (([txS.map nI] : List (List Int32)).getD 0 []).getD j 0 = nI (txS.getD j 0) := by
        show (txS.map nI).getD j 0 = _
        rw [List.getD_eq_getElem?_getD, List.getD_eq_getElem?_getD, List.getElem?_map]
        cases txS[j]? <;> rfl
      rw [e1]
      exact fl_at h (of_decide_eq_true (List.all_eq_true.mp flN_e j (List.mem_range.mpr hj)))) (fun i j hi hj hne => absurd (show i = j by omega) hne) hA
  obtain ⟨fo, hfo⟩ : ∃ fo, (Term.static "jdk/internal/util/Preconditions" "SIOOBE_FORMATTER" "Ljava/util/function/BiFunction;").eval args s none [] s = some (rvo fo) := by
    obtain ⟨v, hv, hr⟩ := Cond.isRef_spec (fl_at h (i := 5) rfl)
    cases v with
    | null => exact ⟨none, hv⟩
    | ref a => exact ⟨some a, hv⟩
    | _ => cases hr
  obtain ⟨h1, h2, h3, h4⟩ := hS.1 0 (by omega)
  refine ⟨adK 0, adV 0, fo, vk_R.of (hts _ (List.mem_append_right _ (List.mem_of_getElem? (i := 39) rfl))) (hE 0 (by omega)), h1, h2, h3, ?_, va_Zof (hts _ (List.mem_append_right _ (List.mem_of_getElem? (i := 49) rfl))) (hts _ (List.mem_append_right _ (List.mem_of_getElem? (i := 3) rfl))) (va_eqt (fl_at h (i := 4) rfl)) hA, va_Zof (hts _ (List.mem_append_right _ (List.mem_of_getElem? (i := 65) rfl))) (hts _ (List.mem_append_right _ (List.mem_of_getElem? (i := 5) rfl))) hfo hA⟩
  have hb : ∀ j, (([txS.map nI] : List (List Int32)).getD 0 []).getD j 0 = nI (txS.getD j 0) := fun j => by
    show (txS.map nI).getD j 0 = _
    rw [List.getD_eq_getElem?_getD, List.getD_eq_getElem?_getD, List.getElem?_map]
    cases txS[j]? <;> rfl
  have he : (fun j : Nat => Value.int ((([txS.map nI] : List (List Int32)).getD 0 []).getD j 0)) = fun j => Value.int (nI (txS.getD j 0)) := funext fun j => congrArg Value.int (hb j)
  exact he ▸ h4
