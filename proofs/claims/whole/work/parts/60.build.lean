/-! cells that come: a world that grows -/
def WB0 (D : va_G) (cy : Nat → ClassId) (base b n : Nat) (M : AM) (H : Heap) : Prop :=
  (∀ i, i < n → reC D cy base b M i H) ∧ H.size = base + n ∧ ∀ i, n ≤ i → ∀ k, M.1 i k = 0 ∧ M.2.1 i k = 0 ∧ M.2.2 i k = none
def WB (D : va_G) (cy : Nat → ClassId) (base b : Nat) (H0 : Heap) (n : Nat) (M : AM) (H : Heap) (locs : List Loc) : Prop :=
  WB0 D cy base b n M H ∧ (∀ q, q < base → H[q]? = H0[q]?) ∧ ∀ l ∈ locs, frW base l.base
/-- links to a nest mate's constructor -/
def nstI : List Cond := [.methodLinkNest RX9 20 yX5_init RX9, .methodLinkNest RX5 44 yX1_init RX9, .methodLinkNest RX9 54 yX7_init RX9, .methodLinkNest RX9 67 yX4_init RX9]
def KnI (U : State) : Prop := ∀ w ∈ nstI, va_Nw w U
theorem KnI.moved {s U : State} (hW : s.WarmedH U.vm) (h : KnI s) : KnI U := by
  have e : ∀ (a : String) (i : Nat) (x : MethodName) (hh : String), Cond.methodLinkNest a i x hh ∈ nstI → va_Nw (.methodLinkNest a i x hh) U := fun a i x hh hw => va_Nw.warmM hW (h _ hw)
  intro w hw
  have hw0 := hw
  unfold nstI at hw
  rcases List.mem_cons.mp hw with rfl | hw
  · exact e _ _ _ _ hw0
  rcases List.mem_cons.mp hw with rfl | hw
  · exact e _ _ _ _ hw0
  rcases List.mem_cons.mp hw with rfl | hw
  · exact e _ _ _ _ hw0
  rw [List.mem_singleton.mp hw] at hw0 ⊢
  exact e _ _ _ _ hw0
theorem KnI.calling {U : State} {g : JFrame} {mk : MethodId} {a : Array Value} (h : KnI U) : KnI (U.calling g mk a) := by
  intro w hw
  have hot : w.onTables = true := by
    unfold nstI at hw
    rcases List.mem_cons.mp hw with rfl | hw
    · rfl
    rcases List.mem_cons.mp hw with rfl | hw
    · rfl
    rcases List.mem_cons.mp hw with rfl | hw
    · rfl
    rw [List.mem_singleton.mp hw]
    rfl
  exact va_Nw.same hot (u := U) (U := U.calling g mk a) rfl (h w hw)
theorem WB.put {D : va_G} {cy : Nat → ClassId} {base b : Nat} {H0 : Heap} {n : Nat} {M M' : AM} {i : Nat} {H H' : Heap} {locs locs' : List Loc} (h : WB D cy base b H0 n M H locs) (hi9 : i < n) (hly : i < lyN) (e1 : ∀ j, j ≠ i → M'.1 j = M.1 j) (e2 : ∀ j, j ≠ i → M'.2.1 j = M.2.1 j) (e3 : ∀ j, j ≠ i → M'.2.2 j = M.2.2 j) (hq : ∀ q, q ≠ base + i → H'[q]? = H[q]?) (hz : H'.size = H.size) (hi : reC D cy base b M' i H') (hl : ∀ l ∈ locs', l ∈ locs ∨ l.base = base + i) : WB D cy base b H0 n M' H' locs' := by
  obtain ⟨⟨h1, h2, h3⟩, h4, h5⟩ := h
  refine ⟨⟨fun j hj => ?_, by rw [hz]; exact h2, fun j hj k => ?_⟩, fun q hb => ?_, fun l h9 => ?_⟩
  · by_cases hji : j = i
    · rw [hji]; exact hi
    · exact reC_kept (h1 j hj) (e1 j hji) (e2 j hji) (e3 j hji) (hq _ (fun z => hji (by omega)))
  · rw [e1 j (by omega), e2 j (by omega), e3 j (by omega)]
    exact h3 j hj k
  · rw [hq q (by omega)]
    exact h4 q hb
  · rcases hl l h9 with z | z
    · exact h5 l z
    · rw [z]; exact ⟨Nat.le_add_right _ _, Nat.add_lt_add_left hly _⟩
theorem WB.grow {D : va_G} {cy : Nat → ClassId} {base b : Nat} {H0 : Heap} {n : Nat} {M : AM} {H H' : Heap} {locs : List Loc} (h : WB D cy base b H0 n M H locs) (hz : H'.size = base + n + 1) (hq : ∀ q, q < base + n → H'[q]? = H[q]?) (hi : reC D cy base b M n H') : WB D cy base b H0 (n + 1) M H' locs := by
  obtain ⟨⟨h1, h2, h3⟩, h4, h5⟩ := h
  refine ⟨⟨fun j hj => ?_, by rw [hz]; omega, fun j hj k => h3 j (by omega) k⟩, fun q hb => ?_, h5⟩
  · by_cases hji : j = n
    · rw [hji]; exact hi
    · exact reC_kept (h1 j (by omega)) rfl rfl rfl (hq _ (by omega))
  · rw [hq q (by omega)]
    exact h4 q hb
theorem fk_le (c k : Nat) : fk c k ≤ 3 := Nat.and_le_right
section
variable {p : Program} {l : Launch} {e : Env} {R : Room} {s : State} {m : MethodId} {args : Array Value} {below : List Frame} {meth : Method} {c : Code} {H : Heap} {locs : List Loc} {cells slots : Nat} {Q : State → Prop}
variable {cc : ByteArray} {pc : Nat} {ls : Array Slot} {rest : List Value} {D : va_G} {cy : Nat → ClassId} {base b : Nat} {H0 : Heap} {M : AM} {own : String} {n : Nat}
theorem bw_obj {a k9 : Nat} (hws : WB D cy base b H0 n M H locs) (hcf : CF) {q : vw_C} (hq : vwCl[k9]? = some q) (ho : obj k9 a = true) (ha : a < n) : adr base b a = base + a ∧ t_OB (base + a) (D.1 k9) q.2.2 (D.2 k9) H (fV base b M a) := by
  obtain ⟨hg, hly⟩ := obj_spec ho
  obtain ⟨hN, hlt, -⟩ := hcf k9 q hq
  have h := hws.1.1 a ha
  unfold reC at h
  rw [hg, if_pos hlt, ← hN] at h
  exact ⟨adr_id hly, h⟩
theorem bw_new (hx : p.tables.exec = Jvm.exec) (hb : c.code = cc) (hts : ∀ w ∈ TBg, w.before args s = true) (hcf : CF) (hown : s.vm.findClass own = some m.cls) (hK : Kn D cy s) (hws : WB D cy base b H0 n M H locs) {k9 idx : Nat} {q : vw_C} (hq : vwCl[k9]? = some q) (hg : gK n = k9) (hly : n < lyN)
    (hlink : Cond.classLink own idx q.1 ∈ TBg) (hinst : Cond.instantiable q.1 (cN k9) ∈ TBg) (hini : Cond.initialized q.1 ∈ TBg) (hcells : cells + 1 ≤ R.cells) (hslots : slots + cN k9 ≤ R.slots) (hdg : decode cc pc = .ok (.new idx, 3))
    (kk : ∀ H1 : Heap, WB D cy base b H0 (n + 1) M H1 locs → W p l e R s m args below meth c H1 locs (cells + 1) (slots + cN k9) Q (F0 m (pc + 3) ls (.ref (adr base b n) :: rest))) : W p l e R s m args below meth c H locs cells slots Q (F0 m pc ls rest) := by
  obtain ⟨hN, hlt, hin, ⟨ty, hty⟩, hnm, hfi⟩ := hcf k9 q hq
  have hKn := hK.1 k9 q hq
  refine W.newcK hx hb hown (hts _ hlink) (hts _ hinst) (hts _ hini) rfl hdg hcells hslots hKn.2.1 hws.1.2.1 fun H1 kC hkC e1 z1 o1 => ?_
  have hr : reC D cy base b M n H1 := by
    unfold reC
    rw [hg, if_pos hlt, ← hN]
    refine (u_born ty hts hin hKn hkC e1 (fun k hk => (hty k hk).1)).to (fun k hk => ?_)
    obtain ⟨y1, y2, y3⟩ := hws.1.2.2 n (Nat.le_refl _) k
    have ht := (hty k hk).2
    have hle := fk_le k9 k
    unfold fV
    rw [hg, y1, y2, y3, ← ht]
    rw [← ht] at hle
    cases hT : ty k <;> rw [hT] at hle <;> first | rfl | (exact absurd hle (by decide))
  have := kk H1 (hws.grow z1 o1 hr)
  rw [adr_id hly] at this
  exact this
theorem bw_newa (hx : p.tables.exec = Jvm.exec) (hb : c.code = cc) (hts : ∀ w ∈ TBg, w.before args s = true) (hK : Kn D cy s) (hws : WB D cy base b H0 n M H locs) {k9 : Nat} {atype : ArrayType} (hg : gK n = k9) (hk9 : 11 ≤ k9 ∧ k9 ≤ 14) (hly : n < lyN) (hty : newarray.typeOf atype = aTy k9)
    (harr : Cond.arrayClass (aTy k9) ∈ TBg) (hlen : gN n < 65536) (hcells : cells + 1 ≤ R.cells) (hslots : slots + gN n ≤ R.slots) (hdg : decode cc pc = .ok (.newarray atype, 2))
    (kk : ∀ H1 : Heap, WB D cy base b H0 (n + 1) M H1 locs → W p l e R s m args below meth c H1 locs (cells + 1) (slots + gN n) Q (F0 m (pc + 2) ls (.ref (adr base b n) :: rest))) : W p l e R s m args below meth c H locs cells slots Q (F0 m pc ls (.int (nI (gN n)) :: rest)) := by
  have hcb : componentBytes (newarray.typeOf atype) ≤ 8 := by
    rw [hty]
    have : k9 = 11 ∨ k9 = 12 ∨ k9 = 13 ∨ k9 = 14 := by omega
    rcases this with x | x | x | x <;> subst x <;> decide
  refine va_newaK hx hb (by rw [hty]; exact hts _ harr) rfl hdg rfl (nI_pos (by omega)) (nI_clamp (by omega)) (Nat.le_trans (Nat.mul_le_mul (Nat.le_of_lt hlen) hcb) (Nat.le_of_ble_eq_true rfl)) hcells hslots hws.1.2.1 fun H1 cA e1 z1 o1 hA hfc => ?_
  have hr : reC D cy base b M n H1 := by
    have hra := (hK.2.1 k9 hk9.1 hk9.2).2
    rw [hty] at hfc e1
    have hz : ∀ k, M.1 n k = 0 ∧ M.2.1 n k = 0 := fun k => ⟨(hws.1.2.2 n (Nat.le_refl _) k).1, (hws.1.2.2 n (Nat.le_refl _) k).2.1⟩
    unfold reC
    have : k9 = 11 ∨ k9 = 12 ∨ k9 = 13 ∨ k9 = 14 := by omega
    rcases this with x | x | x | x <;> subst x
    · have hcA : cA = cy 11 := Option.some.inj (hfc.symm.trans hra)
      rw [hg, if_neg (by decide), if_neg (by decide), e1, hcA]
      congr 2
      funext j
      rw [(hz j).1]
      rfl
    · have hcA : cA = cy 12 := Option.some.inj (hfc.symm.trans hra)
      rw [hg, if_neg (by decide), if_neg (by decide), e1, hcA]
      congr 2
      funext j
      rw [(hz j).1]
      rfl
    · have hcA : cA = cy 13 := Option.some.inj (hfc.symm.trans hra)
      rw [hg, if_neg (by decide), if_pos rfl, e1, hcA]
      congr 2
      funext j
      rw [(hz j).2]
      rfl
    · have hcA : cA = cy 14 := Option.some.inj (hfc.symm.trans hra)
      rw [hg, if_neg (by decide), if_neg (by decide), e1, hcA]
      congr 2
      funext j
      rw [(hz j).1]
      rfl
  have := kk H1 (hws.grow z1 o1 hr)
  rw [adr_id hly] at this
  exact this
theorem bw_get (hx : p.tables.exec = Jvm.exec) (hb : c.code = cc) (hts : ∀ w ∈ TBg, w.before args s = true) (hcf : CF) (hown : s.vm.findClass own = some m.cls) (hK : Kn D cy s) (hws : WB D cy base b H0 n M H locs) {a idx k9 k : Nat} (ho : obj k9 a = true) (ha : a < n) (hk : k < cN k9) (hf : FO own idx k9 k) (hdg : decode cc pc = .ok (.getfield idx, 3))
    (kk : W p l e R s m args below meth c H locs cells slots Q (F0 m (pc + 3) ls (fV base b M a k :: rest))) : W p l e R s m args below meth c H locs cells slots Q (F0 m pc ls (.ref (adr base b a) :: rest)) := by
  obtain ⟨q, hq, hl⟩ := hf
  obtain ⟨hadr, cell, q1, q2, q3, q4⟩ := bw_obj hws hcf hq ho ha
  obtain ⟨hN, -, hin, -⟩ := hcf k9 q hq
  rw [hadr]
  have hk2 : k < q.2.2 := by rw [hN]; exact hk
  obtain ⟨hS, hfc, kC, hkC, hkind⟩ := hK.1 k9 q hq
  obtain ⟨cf, kf, fi, f, hi, hsl⟩ := hS k hk2
  refine W.getf hx hb hown (hts _ hl) hi (u_facts hfc hkC (u_lays hts hin hk2) hi).1 q1 (by rw [q3]; exact fun h => by cases h) (v := fV base b M a k) ?_ rfl rfl hdg kk
  rw [hsl, q4 k hk2]
/-- a field is written, in its class's own constructor -/
theorem bw_put (hx : p.tables.exec = Jvm.exec) (hb : c.code = cc) (hts : ∀ w ∈ TBg, w.before args s = true) (hcf : CF) (hown : s.vm.findClass own = some m.cls) (hin2 : meth.name = "<init>") (hK : Kn D cy s) (hws : WB D cy base b H0 n M H locs) {a idx k9 k : Nat} (ho : obj k9 a = true) (ha : a < n) (hk : k < cN k9) (hf : FO own idx k9 k) (hdecl : ∀ q, vwCl[k9]? = some q → (q.2.1 k).1 = own) {v : Value} {M' : AM}
    (hv : ∀ ty, tyK ty = fk k9 k → narrow ty v = v ∧ fits ty v = true) (e1 : ∀ j, j ≠ a → M'.1 j = M.1 j) (e2 : ∀ j, j ≠ a → M'.2.1 j = M.2.1 j) (e3 : ∀ j, j ≠ a → M'.2.2 j = M.2.2 j) (hV : ∀ j, j < cN k9 → updV (fV base b M a) k v j = fV base b M' a j) (hdg : decode cc pc = .ok (.putfield idx, 3))
    (kk : ∀ (H1 : Heap) (locs1 : List Loc), WB D cy base b H0 n M' H1 locs1 → W p l e R s m args below meth c H1 locs1 cells slots Q (F0 m (pc + 3) ls rest)) : W p l e R s m args below meth c H locs cells slots Q (F0 m pc ls (v :: .ref (adr base b a) :: rest)) := by
  obtain ⟨q, hq, hl⟩ := hf
  obtain ⟨hadr, cell, q1, q2, q3, q4⟩ := bw_obj hws hcf hq ho ha
  obtain ⟨hN, hlt, hin, ⟨ty, hty⟩, hnm, hfi⟩ := hcf k9 q hq
  rw [hadr]
  have hk2 : k < q.2.2 := by rw [hN]; exact hk
  obtain ⟨hS, hfc, kC, hkC, hkind⟩ := hK.1 k9 q hq
  have hap : ∀ x y, x < q.2.2 → y < q.2.2 → x ≠ y → (D.2 k9) x ≠ (D.2 k9) y := by
    intro x y hx1 hy1 hne
    obtain ⟨_, _, _, fa, hia, ea⟩ := hS x hx1
    obtain ⟨_, _, _, fb, hib, eb⟩ := hS y hy1
    rw [← ea, ← eb]
    refine u_apart (u_lays hts hin hx1) (u_lays hts hin hy1) hia hib ?_
    rw [(State.fieldFound?_type hia (hty x hx1).1).1, (State.fieldFound?_type hib (hty y hy1).1).1]
    exact hnm x hx1 y hy1 hne
  obtain ⟨cf, kf, fi, f, hi, hsl⟩ := hS k hk2
  have hlay := hts _ (hin _ (u_in_lay hk2))
  have hst := (u_facts hfc hkC (u_lays hts hin hk2) hi).1
  obtain ⟨hn, hfit⟩ := hv _ (hty k hk2).2
  have hend : ∀ H' : Heap, H'[base + a]? = some (cell.setSlot f.slot v) → H'.size = H.size → (∀ q, q ≠ base + a → H'[q]? = H[q]?) → W p l e R s m args below meth c H' (locs ++ [⟨base + a, f.slot⟩]) cells slots Q (F0 m (pc + 3) ls rest) := fun H' g1 g2 g3 => by
    rw [hsl] at g1 ⊢
    refine kk H' _ (hws.put ha (obj_spec ho).2 e1 e2 e3 g3 g2 ?_ (fun z hz => ?_))
    · unfold reC
      rw [(obj_spec ho).1, if_pos hlt, ← hN]
      exact t_OB.to (V := updV (fV base b M a) k v) ⟨_, g1, q2, q3, t_set q4 hap hk2 v⟩ (fun j hj => hV j (by rw [← hN]; exact hj))
    · rcases List.mem_append.mp hz with h | h
      · exact Or.inl h
      · rw [List.mem_singleton.mp h]; exact Or.inr rfl
  unfold u_lay at hlay
  by_cases hfin : (q.2.1 k).2.2.2 = true
  · rw [if_pos hfin] at hlay
    have hcf2 : m.cls = cf := by
      obtain ⟨_, _, c', _, _, _, -, -, hf', -, -, -, hown2, -⟩ := Cond.laysFinal_spec hlay
      have e1 : c' = cf := by have := hi.symm.trans hf'; simp at this; exact this.1.symm
      rw [hdecl q hq] at hown2
      rw [← e1]; exact Option.some.inj (hown.symm.trans hown2)
    have h6 := u_fits hfc hkC hkind (Or.inr hlay) hi (hty k hk2).1 hn hfit
    exact W.putFinK hx hb hown (hts _ hl) hi hst hcf2 hin2 (by rw [q2]; exact h6) q1 q3 (by rw [hsl]; exact k2_hasslot (q4 k hk2)) rfl rfl hdg hend
  · rw [if_neg hfin] at hlay
    have h6 := u_store hfc hkC hkind hlay hi (hty k hk2).1 hn hfit
    exact W.putK hx hb (f := f) ⟨hown, hts _ hl, ⟨_, _, _, hi⟩, hst⟩ (by rw [q2]; exact h6) q1 q3 (by rw [hsl]; exact k2_hasslot (q4 k hk2)) rfl rfl hdg hend
theorem bw_iast (hx : p.tables.exec = Jvm.exec) (hb : c.code = cc) (hK : Kn D cy s) (hws : WB D cy base b H0 n M H locs) {a : Nat} (ho : obj 12 a = true) (ha : a < n) {j x : Int32} (hi : inB j (gN a)) (hdg : decode cc pc = .ok (.iastore, 1))
    (kk : ∀ (H1 : Heap) (locs1 : List Loc), WB D cy base b H0 n (u2 M.1 a j.toNatClampNeg x, M.2.1, M.2.2) H1 locs1 → W p l e R s m args below meth c H1 locs1 cells slots Q (F0 m (pc + 1) ls rest)) : W p l e R s m args below meth c H locs cells slots Q (F0 m pc ls (.int x :: .int j :: .ref (adr base b a) :: rest)) := by
  obtain ⟨hg, hly⟩ := obj_spec ho
  have hc : H[base + a]? = some (arrV (cy 12) (gN a) (fun j => .int (M.1 a j))) := by
    have h := hws.1.1 a ha
    unfold reC at h
    rw [hg, if_neg (by decide), if_neg (by decide)] at h
    exact h
  rw [adr_id hly]
  refine W.iast hx hb hc ((hK.2.1 12 (by omega) (by omega)).1 _ _) (fun q => by cases q) (in_arr hi) rfl rfl hdg (fun H1 g1 g2 g3 => kk H1 _ (hws.put ha hly (fun z hz => u2_ne hz) (fun _ _ => rfl) (fun _ _ => rfl) g3 g2 ?_ (fun z hz => loc_app hz)))
  unfold reC
  rw [hg, if_neg (by decide), if_neg (by decide), g1, arrV_store]
  congr 2
  funext z
  show updV _ _ _ z = .int (u2 M.1 a j.toNatClampNeg x a z)
  rw [u2_at]
  unfold updV
  by_cases h : z = j.toNatClampNeg <;> simp [h]
end
