/-! The law: what the Statement gives of the start is our world. -/
theorem in_cls : ∀ ci, ci < 10 → Cond.instantiable (ax_cn ci) (ax_N ci) ∈ lw_tbl := by
  intro ci h
  match ci, h with
  | 0, _ => exact ax_inL 1 177 (by decide +kernel)
  | 1, _ => exact ax_inL 1 231 (by decide +kernel)
  | 2, _ => exact ax_inL 1 22 (by decide +kernel)
  | 3, _ => exact ax_inL 1 132 (by decide +kernel)
  | 4, _ => exact ax_inL 1 215 (by decide +kernel)
  | 5, _ => exact ax_inL 1 80 (by decide +kernel)
  | 6, _ => exact ax_inL 1 28 (by decide +kernel)
  | 7, _ => exact ax_inL 2 2 (by decide +kernel)
  | 8, _ => exact ax_inL 1 14 (by decide +kernel)
  | 9, _ => exact ax_inL 4 80 (by decide +kernel)
  | n + 10, h => exact absurd h (by omega)
theorem in_nest : ∀ q ∈ ax_nest, Cond.methodLinkNest q.1 q.2.1 (ax_M q.2.2).1 "AskewLetters" ∈ lw_tbl := by
  intro q hq
  unfold ax_nest at hq
  simp only [List.mem_cons, List.not_mem_nil, or_false] at hq
  rcases hq with rfl | rfl | rfl | rfl | rfl | rfl | rfl | rfl
  · exact ax_inL 1 23 (by decide +kernel)
  · exact ax_inL 1 29 (by decide +kernel)
  · exact ax_inL 1 81 (by decide +kernel)
  · exact ax_inL 1 133 (by decide +kernel)
  · exact ax_inL 1 178 (by decide +kernel)
  · exact ax_inL 1 216 (by decide +kernel)
  · exact ax_inL 1 232 (by decide +kernel)
  · exact ax_inL 2 3 (by decide +kernel)
theorem ar_ {s : State} {args : Array Value} {ty : FieldType} (h : (Cond.arrayClass ty).before args s = true) : ∃ cA : ClassId, ArrOfT s cA ty ∧ s.vm.findClass ("[" ++ ty.toString) = some cA := by
  obtain ⟨c, k, comp, h1, h2, h3⟩ := Cond.arrayClass_spec h
  exact ⟨c, fun n z => ⟨(fun k h => by cases h), k, h2, comp, h3⟩, h1⟩
theorem wl_ {s : State} {b L : Nat} {xs : Nat → Int32} (l : Launch) (hts : ∀ w ∈ lw_tbl, w.before #[Value.ref b] s = true) (hX : va_X b L xs s s.heap) (hbl : b < s.heap.size) (hgv : (Jvm.Cond.and given_1 narrow_1).before #[Value.ref b] s = true) : ∃ g : ax_G, g.1 = l ∧ g.2.1 = s.heap.size ∧ ax_Wld g s ∧ gok g ∧ ax_xt g 1000 = (L, xs) ∧ ax_ad g 1000 = b := by
  have hs := flat_of_before _ hgv
  have hA : ∀ a : Nat, a < s.heap.size → ¬ (fun q : Nat => s.heap.size ≤ q) a := fun a h => Nat.not_le.mpr h
  obtain ⟨t1, e1, T1⟩ := va_Tof (s := s) (args := #[Value.ref b]) (tm := .static "AskewLetters" "LEAST_SETTING" "[I") (ty := .int) (N := 5) (f := fun j => .int (ls0 j)) (A := fun q : Nat => s.heap.size ≤ q) (by decide) (hs _ (by decide +kernel)) (va_eqt (hs _ (by decide +kernel))) (fun j hj => by
    match j, hj with
    | 0, _ => exact va_eqt (hs _ (by decide +kernel))
    | 1, _ => exact va_eqt (hs _ (by decide +kernel))
    | 2, _ => exact va_eqt (hs _ (by decide +kernel))
    | 3, _ => exact va_eqt (hs _ (by decide +kernel))
    | 4, _ => exact va_eqt (hs _ (by decide +kernel))
    | n + 5, h => exact absurd h (by omega)) hA
  obtain ⟨t2, e2, T2⟩ := va_Tof (s := s) (args := #[Value.ref b]) (tm := .static "AskewLetters" "GREATEST_SETTING" "[I") (ty := .int) (N := 5) (f := fun j => .int (gs0 j)) (A := fun q : Nat => s.heap.size ≤ q) (by decide) (hs _ (by decide +kernel)) (va_eqt (hs _ (by decide +kernel))) (fun j hj => by
    match j, hj with
    | 0, _ => exact va_eqt (hs _ (by decide +kernel))
    | 1, _ => exact va_eqt (hs _ (by decide +kernel))
    | 2, _ => exact va_eqt (hs _ (by decide +kernel))
    | 3, _ => exact va_eqt (hs _ (by decide +kernel))
    | 4, _ => exact va_eqt (hs _ (by decide +kernel))
    | n + 5, h => exact absurd h (by omega)) hA
  have Z1 : va_Z "AskewLetters" "LEAST_SETTING" "[I" (.ref t1) (fun q : Nat => s.heap.size ≤ q) s s.heap := va_Zref (hts _ (ax_inL 2 194 (by decide +kernel))) (hts _ (ax_inL 1 1 (by decide +kernel))) e1 hA
  have Z2 : va_Z "AskewLetters" "GREATEST_SETTING" "[I" (.ref t2) (fun q : Nat => s.heap.size ≤ q) s s.heap := va_Zref (hts _ (ax_inL 2 196 (by decide +kernel))) (hts _ (ax_inL 1 1 (by decide +kernel))) e2 hA
  obtain ⟨cI, aI, fI⟩ := ar_ (hts _ (ax_inL 1 78 (by decide +kernel) : Cond.arrayClass .int ∈ lw_tbl))
  obtain ⟨cJ, aJ, fJ⟩ := ar_ (hts _ (ax_inL 1 229 (by decide +kernel) : Cond.arrayClass .long ∈ lw_tbl))
  have hT : ∀ w ∈ ax_T, w.before #[Value.ref b] s = true := fun w hw => hts w (ax_T_good hw).1
  have HC : ∀ ci, ∃ (cC : ClassId) (iS : Nat → Nat), ci < 10 → u_Kn s (ax_cn ci) (ax_Tb ci) (ax_N ci) cC iS := by
    intro ci
    by_cases h : ci < 10
    · obtain ⟨cC, iS, q⟩ := u_known hT (ax_lay h) (hts _ (in_cls ci h))
      exact ⟨cC, iS, fun _ => q⟩
    · exact ⟨cI, fun _ => 0, fun z => absurd z h⟩
  have HD : ∃ (dC : Nat → ClassId) (dI : Nat → Nat → Nat), ∀ ci, ci < 10 → u_Kn s (ax_cn ci) (ax_Tb ci) (ax_N ci) (dC ci) (dI ci) := ⟨fun ci => Classical.choose (HC ci), fun ci => Classical.choose (Classical.choose_spec (HC ci)), fun ci h => Classical.choose_spec (Classical.choose_spec (HC ci)) h⟩
  obtain ⟨dC, dI, hK⟩ := HD
  obtain ⟨scr, x1, x2, x3, x4, x5⟩ := hX
  refine ⟨(l, s.heap.size, (dC, dI), cI, cJ, fun k => if k = 1000 then (b, L, xs) else if k = 1001 then (t1, 5, ls0) else (t2, 5, gs0)), rfl, rfl, ⟨⟨fun c q hq => ?_, fun k q hk => ?_⟩, fun q hq => ?_, fun k k1 k2 => ?_, Z1, Z2⟩, ⟨rfl, rfl⟩, rfl, rfl⟩
  · have hc : c < 10 := by
      have := (List.getElem?_eq_some_iff.mp hq).1
      exact this
    rw [ax_cls_at hc] at hq
    cases hq
    exact hK c hc
  · match k, hk with
    | 0, hk => cases hk; exact ⟨aI, fI⟩
    | 1, hk => cases hk; exact ⟨aJ, fJ⟩
    | n + 2, hk => cases hk
  · exact va_Nw.of rfl (hts _ (in_nest q hq))
  · have hk : k = 1000 ∨ k = 1001 ∨ k = 1002 := by omega
    rcases hk with rfl | rfl | rfl
    · exact ⟨scr, x1, x2, x3, by show L ≤ _; rw [x4]; exact Nat.le_refl _, by rw [x4]; rfl, x5, hA b hbl⟩
    · exact T1
    · exact T2
