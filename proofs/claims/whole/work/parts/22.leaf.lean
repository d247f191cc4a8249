theorem ax_S_inj {D D' : ax_Dn} {E E' : ax_En} (h : ax_S D E = ax_S D' E') : D = D' ∧ E = E' := by
  unfold ax_S at h
  simp only [Prod.mk.injEq, true_and, and_true] at h
  exact h
/-- AskewLetters$Book.add(I)V -/
def cy_1 : ax_P1 := fun as z K => ∃ (p1 : Int32) (D : ax_Dn) (E : ax_En), as = [.ref 43, .int p1] ∧ z = ax_S D E ∧ ((64 ≤ D 43 1 → K none (ax_S D E)) ∧ (¬64 ≤ D 43 1 → vp_in (D 43 1) 64 ∧ K none (ax_S (ax_up (ax_up D 43 (ax_up (D 43) 1 (D 43 1 + 1))) 44 (ax_up (D 44) (D 43 1).toNatClampNeg p1)) E)))
theorem ry_1 (p1 : Int32) (D : ax_Dn) (E : ax_En) (K : ax_Po) : cy_1 [.ref 43, .int p1] (ax_S D E) K = ((64 ≤ D 43 1 → K none (ax_S D E)) ∧ (¬64 ≤ D 43 1 → vp_in (D 43 1) 64 ∧ K none (ax_S (ax_up (ax_up D 43 (ax_up (D 43) 1 (D 43 1 + 1))) 44 (ax_up (D 44) (D 43 1).toNatClampNeg p1)) E))) := propext ⟨fun ⟨p1', D', E', h1, h2, h3⟩ => by cases h1; obtain ⟨rfl, rfl⟩ := ax_S_inj h2; exact h3, fun h => ⟨p1, D, E, rfl, rfl, h⟩⟩
set_option maxRecDepth 10000 in
theorem sy_1 {g : ax_G} : ∀ as z K, cy_1 as z K → ax_MM g 1 as z K := by
  rintro _ _ K ⟨p1, D, E, rfl, rfl, h⟩
  refine ax_go1 _ _ ?_
  refine ax_WPo (l := []) ax_on ax_ok1 (fun _ => false) 400 0 rfl ?_
  simp +decide only [↓ax_B, ax_B, ax_kds, ax_gvs, ax_mcs, ax_ia_S, ax_up_ap, ax_vinL, and_self_left, ax_up_up, ax_up_sw, Nat.reduceAdd, Nat.reduceBEq, Nat.reduceLeDiff, Nat.reduceLT, Nat.reduceEqDiff, ↓reduceIte, true_and, and_true, List.cons_append, List.nil_append, Int32.reduceLT, Int32.reduceLE, Int32.reduceAdd, Int32.reduceToNatClampNeg, Int32.reduceOfNat, true_imp_iff, false_imp_iff, not_true_eq_false, not_false_eq_true, or_true, true_or, or_false, false_or, and_self, Bool.or_true, Bool.or_false, Bool.true_or, Bool.false_or, implies_true, forall_const, Bool.false_eq_true, Int32.neg_neg, ax_X1]
  exact h
/-- AskewLetters$Book.here()I -/
def cy_4 : ax_P1 := fun as z K => ∃ (D : ax_Dn) (E : ax_En), as = [.ref 43] ∧ z = ax_S D E ∧ ((D 43 2 < 0 → K (some (Value.int (-9))) (ax_S D E)) ∧ (¬D 43 2 < 0 → (D 43 1 ≤ D 43 2 → K (some (Value.int (-9))) (ax_S D E)) ∧ (¬D 43 1 ≤ D 43 2 → vp_in (D 43 2) 64 ∧ K (some (Value.int (D 44 (D 43 2).toNatClampNeg))) (ax_S D E))))
theorem ry_4  (D : ax_Dn) (E : ax_En) (K : ax_Po) : cy_4 [.ref 43] (ax_S D E) K = ((D 43 2 < 0 → K (some (Value.int (-9))) (ax_S D E)) ∧ (¬D 43 2 < 0 → (D 43 1 ≤ D 43 2 → K (some (Value.int (-9))) (ax_S D E)) ∧ (¬D 43 1 ≤ D 43 2 → vp_in (D 43 2) 64 ∧ K (some (Value.int (D 44 (D 43 2).toNatClampNeg))) (ax_S D E)))) := propext ⟨fun ⟨D', E', h1, h2, h3⟩ => by cases h1; obtain ⟨rfl, rfl⟩ := ax_S_inj h2; exact h3, fun h => ⟨D, E, rfl, rfl, h⟩⟩
set_option maxRecDepth 10000 in
theorem sy_4 {g : ax_G} : ∀ as z K, cy_4 as z K → ax_MM g 4 as z K := by
  rintro _ _ K ⟨D, E, rfl, rfl, h⟩
  refine ax_go4 _ ?_
  refine ax_WPo (l := []) ax_on ax_ok4 (fun _ => false) 400 0 rfl ?_
  simp +decide only [↓ax_B, ax_B, ax_kds, ax_gvs, ax_mcs, ax_ia_S, ax_up_ap, ax_vinL, and_self_left, ax_up_up, ax_up_sw, Nat.reduceAdd, Nat.reduceBEq, Nat.reduceLeDiff, Nat.reduceLT, Nat.reduceEqDiff, ↓reduceIte, true_and, and_true, List.cons_append, List.nil_append, Int32.reduceLT, Int32.reduceLE, Int32.reduceAdd, Int32.reduceToNatClampNeg, Int32.reduceOfNat, true_imp_iff, false_imp_iff, not_true_eq_false, not_false_eq_true, or_true, true_or, or_false, false_or, and_self, Bool.or_true, Bool.or_false, Bool.true_or, Bool.false_or, implies_true, forall_const, Bool.false_eq_true, Int32.neg_neg, ax_X4]
  exact h
/-- AskewLetters$Book.isEvent(I)Z -/
def cy_14 : ax_P1 := fun as z K => ∃ (p1 : Int32) (D : ax_Dn) (E : ax_En), as = [.int p1] ∧ z = ax_S D E ∧ ((p1 = 98 → K (some (Value.int 1)) (ax_S D E)) ∧ (¬p1 = 98 → (p1 = 115 → K (some (Value.int 1)) (ax_S D E)) ∧ (¬p1 = 115 → (¬p1 = 110 → K (some (Value.int 0)) (ax_S D E)) ∧ (p1 = 110 → K (some (Value.int 1)) (ax_S D E)))))
theorem ry_14 (p1 : Int32) (D : ax_Dn) (E : ax_En) (K : ax_Po) : cy_14 [.int p1] (ax_S D E) K = ((p1 = 98 → K (some (Value.int 1)) (ax_S D E)) ∧ (¬p1 = 98 → (p1 = 115 → K (some (Value.int 1)) (ax_S D E)) ∧ (¬p1 = 115 → (¬p1 = 110 → K (some (Value.int 0)) (ax_S D E)) ∧ (p1 = 110 → K (some (Value.int 1)) (ax_S D E))))) := propext ⟨fun ⟨p1', D', E', h1, h2, h3⟩ => by cases h1; obtain ⟨rfl, rfl⟩ := ax_S_inj h2; exact h3, fun h => ⟨p1, D, E, rfl, rfl, h⟩⟩
set_option maxRecDepth 10000 in
theorem sy_14 {g : ax_G} : ∀ as z K, cy_14 as z K → ax_MM g 14 as z K := by
  rintro _ _ K ⟨p1, D, E, rfl, rfl, h⟩
  refine ax_go14 _ ?_
  refine ax_WPo (l := []) ax_on ax_ok14 (fun _ => false) 400 0 rfl ?_
  simp +decide only [↓ax_B, ax_B, ax_kds, ax_gvs, ax_mcs, ax_ia_S, ax_up_ap, ax_vinL, and_self_left, ax_up_up, ax_up_sw, Nat.reduceAdd, Nat.reduceBEq, Nat.reduceLeDiff, Nat.reduceLT, Nat.reduceEqDiff, ↓reduceIte, true_and, and_true, List.cons_append, List.nil_append, Int32.reduceLT, Int32.reduceLE, Int32.reduceAdd, Int32.reduceToNatClampNeg, Int32.reduceOfNat, true_imp_iff, false_imp_iff, not_true_eq_false, not_false_eq_true, or_true, true_or, or_false, false_or, and_self, Bool.or_true, Bool.or_false, Bool.true_or, Bool.false_or, implies_true, forall_const, Bool.false_eq_true, Int32.neg_neg, ax_X14]
  exact h
/-- AskewLetters$Desk.standing(II)I -/
def cy_26 : ax_P1 := fun as z K => ∃ (p1 : Int32) (p2 : Int32) (D : ax_Dn) (E : ax_En), as = [.ref 1, .int p1, .int p2] ∧ z = ax_S D E ∧ (K (some (Value.int (if 1 < D 21 0 + 1 - if 0 ≤ p1 - p2 then p1 - p2 else 0 - (p1 - p2) then D 21 0 + 1 - if 0 ≤ p1 - p2 then p1 - p2 else 0 - (p1 - p2) else 1))) (ax_S D E))
theorem ry_26 (p1 : Int32) (p2 : Int32) (D : ax_Dn) (E : ax_En) (K : ax_Po) : cy_26 [.ref 1, .int p1, .int p2] (ax_S D E) K = (K (some (Value.int (if 1 < D 21 0 + 1 - if 0 ≤ p1 - p2 then p1 - p2 else 0 - (p1 - p2) then D 21 0 + 1 - if 0 ≤ p1 - p2 then p1 - p2 else 0 - (p1 - p2) else 1))) (ax_S D E)) := propext ⟨fun ⟨p1', p2', D', E', h1, h2, h3⟩ => by cases h1; obtain ⟨rfl, rfl⟩ := ax_S_inj h2; exact h3, fun h => ⟨p1, p2, D, E, rfl, rfl, h⟩⟩
set_option maxRecDepth 10000 in
theorem sy_26 {g : ax_G} : ∀ as z K, cy_26 as z K → ax_MM g 26 as z K := by
  rintro _ _ K ⟨p1, p2, D, E, rfl, rfl, h⟩
  refine ax_go26 _ _ _ ?_
  refine ax_WPo (l := []) ax_on ax_ok26 (fun _ => false) 400 0 rfl ?_
  simp +decide only [↓ax_B, ax_B, ax_kds, ax_gvs, ax_mcs, ax_ia_S, ax_up_ap, ax_vinL, and_self_left, ax_up_up, ax_up_sw, Nat.reduceAdd, Nat.reduceBEq, Nat.reduceLeDiff, Nat.reduceLT, Nat.reduceEqDiff, ↓reduceIte, true_and, and_true, List.cons_append, List.nil_append, Int32.reduceLT, Int32.reduceLE, Int32.reduceAdd, Int32.reduceToNatClampNeg, Int32.reduceOfNat, true_imp_iff, false_imp_iff, not_true_eq_false, not_false_eq_true, or_true, true_or, or_false, false_or, and_self, Bool.or_true, Bool.or_false, Bool.true_or, Bool.false_or, implies_true, forall_const, Bool.false_eq_true, Int32.neg_neg]
  exact h
/-- AskewLetters$Desk.isWithin(II)Z -/
def cy_28 : ax_P1 := fun as z K => ∃ (p1 : Int32) (p2 : Int32) (D : ax_Dn) (E : ax_En), as = [.int p1, .int p2] ∧ z = ax_S D E ∧ ((¬p1 &&& (p2 ^^^ -1) = 0 → K (some (Value.int 0)) (ax_S D E)) ∧ (p1 &&& (p2 ^^^ -1) = 0 → K (some (Value.int 1)) (ax_S D E)))
theorem ry_28 (p1 : Int32) (p2 : Int32) (D : ax_Dn) (E : ax_En) (K : ax_Po) : cy_28 [.int p1, .int p2] (ax_S D E) K = ((¬p1 &&& (p2 ^^^ -1) = 0 → K (some (Value.int 0)) (ax_S D E)) ∧ (p1 &&& (p2 ^^^ -1) = 0 → K (some (Value.int 1)) (ax_S D E))) := propext ⟨fun ⟨p1', p2', D', E', h1, h2, h3⟩ => by cases h1; obtain ⟨rfl, rfl⟩ := ax_S_inj h2; exact h3, fun h => ⟨p1, p2, D, E, rfl, rfl, h⟩⟩
set_option maxRecDepth 10000 in
theorem sy_28 {g : ax_G} : ∀ as z K, cy_28 as z K → ax_MM g 28 as z K := by
  rintro _ _ K ⟨p1, p2, D, E, rfl, rfl, h⟩
  refine ax_go28 _ _ ?_
  refine ax_WPo (l := []) ax_on ax_ok28 (fun _ => false) 400 0 rfl ?_
  simp +decide only [↓ax_B, ax_B, ax_kds, ax_gvs, ax_mcs, ax_ia_S, ax_up_ap, ax_vinL, and_self_left, ax_up_up, ax_up_sw, Nat.reduceAdd, Nat.reduceBEq, Nat.reduceLeDiff, Nat.reduceLT, Nat.reduceEqDiff, ↓reduceIte, true_and, and_true, List.cons_append, List.nil_append, Int32.reduceLT, Int32.reduceLE, Int32.reduceAdd, Int32.reduceToNatClampNeg, Int32.reduceOfNat, true_imp_iff, false_imp_iff, not_true_eq_false, not_false_eq_true, or_true, true_or, or_false, false_or, and_self, Bool.or_true, Bool.or_false, Bool.true_or, Bool.false_or, implies_true, forall_const, Bool.false_eq_true, Int32.neg_neg, ax_X28]
  exact h
/-- AskewLetters$Desk.drawn(II)I -/
def cy_36 : ax_P1 := fun as z K => ∃ (p1 : Int32) (p2 : Int32) (D : ax_Dn) (E : ax_En), as = [.int p1, .int p2] ∧ z = ax_S D E ∧ ((1 ≤ p2 → ¬p2 = 0 ∧ K (some (Value.int ((p1 &&& 2147483647) / 256 - (p1 &&& 2147483647) / 256 / p2 * p2))) (ax_S D E)) ∧ (¬1 ≤ p2 → K (some (Value.int 0)) (ax_S D E)))
theorem ry_36 (p1 : Int32) (p2 : Int32) (D : ax_Dn) (E : ax_En) (K : ax_Po) : cy_36 [.int p1, .int p2] (ax_S D E) K = ((1 ≤ p2 → ¬p2 = 0 ∧ K (some (Value.int ((p1 &&& 2147483647) / 256 - (p1 &&& 2147483647) / 256 / p2 * p2))) (ax_S D E)) ∧ (¬1 ≤ p2 → K (some (Value.int 0)) (ax_S D E))) := propext ⟨fun ⟨p1', p2', D', E', h1, h2, h3⟩ => by cases h1; obtain ⟨rfl, rfl⟩ := ax_S_inj h2; exact h3, fun h => ⟨p1, p2, D, E, rfl, rfl, h⟩⟩
set_option maxRecDepth 10000 in
theorem sy_36 {g : ax_G} : ∀ as z K, cy_36 as z K → ax_MM g 36 as z K := by
  rintro _ _ K ⟨p1, p2, D, E, rfl, rfl, h⟩
  refine ax_go36 _ _ ?_
  refine ax_WPo (l := []) ax_on ax_ok36 (fun _ => false) 400 0 rfl ?_
  simp +decide only [↓ax_B, ax_B, ax_kds, ax_gvs, ax_mcs, ax_ia_S, ax_up_ap, ax_vinL, and_self_left, ax_up_up, ax_up_sw, Nat.reduceAdd, Nat.reduceBEq, Nat.reduceLeDiff, Nat.reduceLT, Nat.reduceEqDiff, ↓reduceIte, true_and, and_true, List.cons_append, List.nil_append, Int32.reduceLT, Int32.reduceLE, Int32.reduceAdd, Int32.reduceToNatClampNeg, Int32.reduceOfNat, true_imp_iff, false_imp_iff, not_true_eq_false, not_false_eq_true, or_true, true_or, or_false, false_or, and_self, Bool.or_true, Bool.or_false, Bool.true_or, Bool.false_or, implies_true, forall_const, Bool.false_eq_true, Int32.neg_neg, ax_X36]
  exact h
/-- AskewLetters$Hands.forceOf(II)I -/
def cy_40 : ax_P1 := fun as z K => ∃ (p1 : Int32) (p2 : Int32) (D : ax_Dn) (E : ax_En), as = [.ref 19, .int p1, .int p2] ∧ z = ax_S D E ∧ (vp_in (p1 * 10 + p2) 40 ∧ K (some (Value.int (D 20 (p1 * 10 + p2).toNatClampNeg))) (ax_S D E))
theorem ry_40 (p1 : Int32) (p2 : Int32) (D : ax_Dn) (E : ax_En) (K : ax_Po) : cy_40 [.ref 19, .int p1, .int p2] (ax_S D E) K = (vp_in (p1 * 10 + p2) 40 ∧ K (some (Value.int (D 20 (p1 * 10 + p2).toNatClampNeg))) (ax_S D E)) := propext ⟨fun ⟨p1', p2', D', E', h1, h2, h3⟩ => by cases h1; obtain ⟨rfl, rfl⟩ := ax_S_inj h2; exact h3, fun h => ⟨p1, p2, D, E, rfl, rfl, h⟩⟩
set_option maxRecDepth 10000 in
theorem sy_40 {g : ax_G} : ∀ as z K, cy_40 as z K → ax_MM g 40 as z K := by
  rintro _ _ K ⟨p1, p2, D, E, rfl, rfl, h⟩
  refine ax_go40 _ _ _ ?_
  refine ax_WPo (l := []) ax_on ax_ok40 (fun _ => false) 400 0 rfl ?_
  simp +decide only [↓ax_B, ax_B, ax_kds, ax_gvs, ax_mcs, ax_ia_S, ax_up_ap, ax_vinL, and_self_left, ax_up_up, ax_up_sw, Nat.reduceAdd, Nat.reduceBEq, Nat.reduceLeDiff, Nat.reduceLT, Nat.reduceEqDiff, ↓reduceIte, true_and, and_true, List.cons_append, List.nil_append, Int32.reduceLT, Int32.reduceLE, Int32.reduceAdd, Int32.reduceToNatClampNeg, Int32.reduceOfNat, true_imp_iff, false_imp_iff, not_true_eq_false, not_false_eq_true, or_true, true_or, or_false, false_or, and_self, Bool.or_true, Bool.or_false, Bool.true_or, Bool.false_or, implies_true, forall_const, Bool.false_eq_true, Int32.neg_neg]
  exact h
/-- AskewLetters$Page.add(IIIII)I -/
def cy_50 : ax_P1 := fun as z K => ∃ (p1 : Int32) (p2 : Int32) (p3 : Int32) (p4 : Int32) (p5 : Int32) (D : ax_Dn) (E : ax_En), as = [.ref 12, .int p1, .int p2, .int p3, .int p4, .int p5] ∧ z = ax_S D E ∧ ((30 ≤ D 12 0 → K (some (Value.int (D 12 0))) (ax_S D E)) ∧ (¬30 ≤ D 12 0 → vp_in (D 12 0) 30 ∧ K (some (Value.int (D 12 0 + 1))) (ax_S (ax_up (ax_up (ax_up (ax_up (ax_up (ax_up D 12 (ax_up (D 12) 0 (D 12 0 + 1))) 13 (ax_up (D 13) (D 12 0).toNatClampNeg p1)) 14 (ax_up (D 14) (D 12 0).toNatClampNeg p2)) 15 (ax_up (D 15) (D 12 0).toNatClampNeg p3)) 16 (ax_up (D 16) (D 12 0).toNatClampNeg p4)) 17 (ax_up (D 17) (D 12 0).toNatClampNeg p5)) E)))
theorem ry_50 (p1 : Int32) (p2 : Int32) (p3 : Int32) (p4 : Int32) (p5 : Int32) (D : ax_Dn) (E : ax_En) (K : ax_Po) : cy_50 [.ref 12, .int p1, .int p2, .int p3, .int p4, .int p5] (ax_S D E) K = ((30 ≤ D 12 0 → K (some (Value.int (D 12 0))) (ax_S D E)) ∧ (¬30 ≤ D 12 0 → vp_in (D 12 0) 30 ∧ K (some (Value.int (D 12 0 + 1))) (ax_S (ax_up (ax_up (ax_up (ax_up (ax_up (ax_up D 12 (ax_up (D 12) 0 (D 12 0 + 1))) 13 (ax_up (D 13) (D 12 0).toNatClampNeg p1)) 14 (ax_up (D 14) (D 12 0).toNatClampNeg p2)) 15 (ax_up (D 15) (D 12 0).toNatClampNeg p3)) 16 (ax_up (D 16) (D 12 0).toNatClampNeg p4)) 17 (ax_up (D 17) (D 12 0).toNatClampNeg p5)) E))) := propext ⟨fun ⟨p1', p2', p3', p4', p5', D', E', h1, h2, h3⟩ => by cases h1; obtain ⟨rfl, rfl⟩ := ax_S_inj h2; exact h3, fun h => ⟨p1, p2, p3, p4, p5, D, E, rfl, rfl, h⟩⟩
set_option maxRecDepth 10000 in
theorem sy_50 {g : ax_G} : ∀ as z K, cy_50 as z K → ax_MM g 50 as z K := by
  rintro _ _ K ⟨p1, p2, p3, p4, p5, D, E, rfl, rfl, h⟩
  refine ax_go50 _ _ _ _ _ _ ?_
  refine ax_WPo (l := []) ax_on ax_ok50 (fun _ => false) 400 0 rfl ?_
  simp +decide only [↓ax_B, ax_B, ax_kds, ax_gvs, ax_mcs, ax_ia_S, ax_up_ap, ax_vinL, and_self_left, ax_up_up, ax_up_sw, Nat.reduceAdd, Nat.reduceBEq, Nat.reduceLeDiff, Nat.reduceLT, Nat.reduceEqDiff, ↓reduceIte, true_and, and_true, List.cons_append, List.nil_append, Int32.reduceLT, Int32.reduceLE, Int32.reduceAdd, Int32.reduceToNatClampNeg, Int32.reduceOfNat, true_imp_iff, false_imp_iff, not_true_eq_false, not_false_eq_true, or_true, true_or, or_false, false_or, and_self, Bool.or_true, Bool.or_false, Bool.true_or, Bool.false_or, implies_true, forall_const, Bool.false_eq_true, Int32.neg_neg, ax_X50]
  exact h
/-- AskewLetters$Shop.addMachine(I)V -/
def cy_61 : ax_P1 := fun as z K => ∃ (p1 : Int32) (D : ax_Dn) (E : ax_En), as = [.ref 2, .int p1] ∧ z = ax_S D E ∧ ((6 ≤ D 2 0 → K none (ax_S D E)) ∧ (¬6 ≤ D 2 0 → vp_in (D 2 0) 6 ∧ K none (ax_S (ax_up (ax_up (ax_up D 2 (ax_up (D 2) 0 (D 2 0 + 1))) 3 (ax_up (D 3) (D 2 0).toNatClampNeg p1)) 4 (ax_up (D 4) (D 2 0).toNatClampNeg 0)) E)))
theorem ry_61 (p1 : Int32) (D : ax_Dn) (E : ax_En) (K : ax_Po) : cy_61 [.ref 2, .int p1] (ax_S D E) K = ((6 ≤ D 2 0 → K none (ax_S D E)) ∧ (¬6 ≤ D 2 0 → vp_in (D 2 0) 6 ∧ K none (ax_S (ax_up (ax_up (ax_up D 2 (ax_up (D 2) 0 (D 2 0 + 1))) 3 (ax_up (D 3) (D 2 0).toNatClampNeg p1)) 4 (ax_up (D 4) (D 2 0).toNatClampNeg 0)) E))) := propext ⟨fun ⟨p1', D', E', h1, h2, h3⟩ => by cases h1; obtain ⟨rfl, rfl⟩ := ax_S_inj h2; exact h3, fun h => ⟨p1, D, E, rfl, rfl, h⟩⟩
set_option maxRecDepth 10000 in
theorem sy_61 {g : ax_G} : ∀ as z K, cy_61 as z K → ax_MM g 61 as z K := by
  rintro _ _ K ⟨p1, D, E, rfl, rfl, h⟩
  refine ax_go61 _ _ ?_
  refine ax_WPo (l := []) ax_on ax_ok61 (fun _ => false) 400 0 rfl ?_
  simp +decide only [↓ax_B, ax_B, ax_kds, ax_gvs, ax_mcs, ax_ia_S, ax_up_ap, ax_vinL, and_self_left, ax_up_up, ax_up_sw, Nat.reduceAdd, Nat.reduceBEq, Nat.reduceLeDiff, Nat.reduceLT, Nat.reduceEqDiff, ↓reduceIte, true_and, and_true, List.cons_append, List.nil_append, Int32.reduceLT, Int32.reduceLE, Int32.reduceAdd, Int32.reduceToNatClampNeg, Int32.reduceOfNat, true_imp_iff, false_imp_iff, not_true_eq_false, not_false_eq_true, or_true, true_or, or_false, false_or, and_self, Bool.or_true, Bool.or_false, Bool.true_or, Bool.false_or, implies_true, forall_const, Bool.false_eq_true, Int32.neg_neg, ax_X61]
  exact h
/-- AskewLetters$Shop.moveUp(I)V -/
def cy_63 : ax_P1 := fun as z K => ∃ (p1 : Int32) (D : ax_Dn) (E : ax_En), as = [.ref 2, .int p1] ∧ z = ax_S D E ∧ (vp_in p1 20 ∧ vp_in (p1 + 1) 20 ∧ vp_in p1 20 ∧ vp_in (p1 + 1) 20 ∧ vp_in p1 20 ∧ vp_in (p1 + 1) 20 ∧ vp_in p1 20 ∧ vp_in (p1 + 1) 20 ∧ vp_in p1 20 ∧ vp_in (p1 + 1) 20 ∧ K none (ax_S (ax_up (ax_up (ax_up (ax_up (ax_up D 7 (ax_up (D 7) (p1 + 1).toNatClampNeg (D 7 p1.toNatClampNeg))) 8 (ax_up (D 8) (p1 + 1).toNatClampNeg (D 8 p1.toNatClampNeg))) 9 (ax_up (D 9) (p1 + 1).toNatClampNeg (D 9 p1.toNatClampNeg))) 10 (ax_up (D 10) (p1 + 1).toNatClampNeg (D 10 p1.toNatClampNeg))) 11 (ax_up (D 11) (p1 + 1).toNatClampNeg (D 11 p1.toNatClampNeg))) E))
theorem ry_63 (p1 : Int32) (D : ax_Dn) (E : ax_En) (K : ax_Po) : cy_63 [.ref 2, .int p1] (ax_S D E) K = (vp_in p1 20 ∧ vp_in (p1 + 1) 20 ∧ vp_in p1 20 ∧ vp_in (p1 + 1) 20 ∧ vp_in p1 20 ∧ vp_in (p1 + 1) 20 ∧ vp_in p1 20 ∧ vp_in (p1 + 1) 20 ∧ vp_in p1 20 ∧ vp_in (p1 + 1) 20 ∧ K none (ax_S (ax_up (ax_up (ax_up (ax_up (ax_up D 7 (ax_up (D 7) (p1 + 1).toNatClampNeg (D 7 p1.toNatClampNeg))) 8 (ax_up (D 8) (p1 + 1).toNatClampNeg (D 8 p1.toNatClampNeg))) 9 (ax_up (D 9) (p1 + 1).toNatClampNeg (D 9 p1.toNatClampNeg))) 10 (ax_up (D 10) (p1 + 1).toNatClampNeg (D 10 p1.toNatClampNeg))) 11 (ax_up (D 11) (p1 + 1).toNatClampNeg (D 11 p1.toNatClampNeg))) E)) := propext ⟨fun ⟨p1', D', E', h1, h2, h3⟩ => by cases h1; obtain ⟨rfl, rfl⟩ := ax_S_inj h2; exact h3, fun h => ⟨p1, D, E, rfl, rfl, h⟩⟩
set_option maxRecDepth 10000 in
theorem sy_63 {g : ax_G} : ∀ as z K, cy_63 as z K → ax_MM g 63 as z K := by
  rintro _ _ K ⟨p1, D, E, rfl, rfl, h⟩
  refine ax_go63 _ _ ?_
  refine ax_WPo (l := []) ax_on ax_ok63 (fun _ => false) 400 0 rfl ?_
  simp +decide only [↓ax_B, ax_B, ax_kds, ax_gvs, ax_mcs, ax_ia_S, ax_up_ap, ax_vinL, and_self_left, ax_up_up, ax_up_sw, Nat.reduceAdd, Nat.reduceBEq, Nat.reduceLeDiff, Nat.reduceLT, Nat.reduceEqDiff, ↓reduceIte, true_and, and_true, List.cons_append, List.nil_append, Int32.reduceLT, Int32.reduceLE, Int32.reduceAdd, Int32.reduceToNatClampNeg, Int32.reduceOfNat, true_imp_iff, false_imp_iff, not_true_eq_false, not_false_eq_true, or_true, true_or, or_false, false_or, and_self, Bool.or_true, Bool.or_false, Bool.true_or, Bool.false_or, implies_true, forall_const, Bool.false_eq_true, Int32.neg_neg]
  exact h
/-- AskewLetters$Shop.dirtOn(III)I -/
def cy_66 : ax_P1 := fun as z K => ∃ (p1 : Int32) (p2 : Int32) (p3 : Int32) (D : ax_Dn) (E : ax_En), as = [.ref 2, .int p1, .int p2, .int p3] ∧ z = ax_S D E ∧ (vp_in p1 6 ∧ vp_in p2 10 ∧ K (some (Value.int ((p3 - p3 / 7 * 7 + 7 - D 4 p1.toNatClampNeg - (p3 - p3 / 7 * 7 + 7 - D 4 p1.toNatClampNeg) / 7 * 7) * D 6 p2.toNatClampNeg / 4))) (ax_S D E))
theorem ry_66 (p1 : Int32) (p2 : Int32) (p3 : Int32) (D : ax_Dn) (E : ax_En) (K : ax_Po) : cy_66 [.ref 2, .int p1, .int p2, .int p3] (ax_S D E) K = (vp_in p1 6 ∧ vp_in p2 10 ∧ K (some (Value.int ((p3 - p3 / 7 * 7 + 7 - D 4 p1.toNatClampNeg - (p3 - p3 / 7 * 7 + 7 - D 4 p1.toNatClampNeg) / 7 * 7) * D 6 p2.toNatClampNeg / 4))) (ax_S D E)) := propext ⟨fun ⟨p1', p2', p3', D', E', h1, h2, h3⟩ => by cases h1; obtain ⟨rfl, rfl⟩ := ax_S_inj h2; exact h3, fun h => ⟨p1, p2, p3, D, E, rfl, rfl, h⟩⟩
set_option maxRecDepth 10000 in
theorem sy_66 {g : ax_G} : ∀ as z K, cy_66 as z K → ax_MM g 66 as z K := by
  rintro _ _ K ⟨p1, p2, p3, D, E, rfl, rfl, h⟩
  refine ax_go66 _ _ _ _ ?_
  refine ax_WPo (l := []) ax_on ax_ok66 (fun _ => false) 400 0 rfl ?_
  simp +decide only [↓ax_B, ax_B, ax_kds, ax_gvs, ax_mcs, ax_ia_S, ax_up_ap, ax_vinL, and_self_left, ax_up_up, ax_up_sw, Nat.reduceAdd, Nat.reduceBEq, Nat.reduceLeDiff, Nat.reduceLT, Nat.reduceEqDiff, ↓reduceIte, true_and, and_true, List.cons_append, List.nil_append, Int32.reduceLT, Int32.reduceLE, Int32.reduceAdd, Int32.reduceToNatClampNeg, Int32.reduceOfNat, true_imp_iff, false_imp_iff, not_true_eq_false, not_false_eq_true, or_true, true_or, or_false, false_or, and_self, Bool.or_true, Bool.or_false, Bool.true_or, Bool.false_or, implies_true, forall_const, Bool.false_eq_true, Int32.neg_neg]
  exact h
/-- AskewLetters.refuse(I)I -/
def cy_110 : ax_P1 := fun as z K => ∃ (p1 : Int32) (D : ax_Dn) (E : ax_En), as = [.ref 0, .int p1] ∧ z = ax_S D E ∧ ((-p1 ≤ 0 → K (some (Value.int p1)) (ax_S D E)) ∧ (¬-p1 ≤ 0 → (7 ≤ -p1 → K (some (Value.int p1)) (ax_S D E)) ∧ (¬7 ≤ -p1 → vp_in (-p1) 7 ∧ K (some (Value.int p1)) (ax_S (ax_up D 51 (ax_up (D 51) (-p1).toNatClampNeg (D 51 (-p1).toNatClampNeg + 1))) E))))
theorem ry_110 (p1 : Int32) (D : ax_Dn) (E : ax_En) (K : ax_Po) : cy_110 [.ref 0, .int p1] (ax_S D E) K = ((-p1 ≤ 0 → K (some (Value.int p1)) (ax_S D E)) ∧ (¬-p1 ≤ 0 → (7 ≤ -p1 → K (some (Value.int p1)) (ax_S D E)) ∧ (¬7 ≤ -p1 → vp_in (-p1) 7 ∧ K (some (Value.int p1)) (ax_S (ax_up D 51 (ax_up (D 51) (-p1).toNatClampNeg (D 51 (-p1).toNatClampNeg + 1))) E)))) := propext ⟨fun ⟨p1', D', E', h1, h2, h3⟩ => by cases h1; obtain ⟨rfl, rfl⟩ := ax_S_inj h2; exact h3, fun h => ⟨p1, D, E, rfl, rfl, h⟩⟩
set_option maxRecDepth 10000 in
theorem sy_110 {g : ax_G} : ∀ as z K, cy_110 as z K → ax_MM g 110 as z K := by
  rintro _ _ K ⟨p1, D, E, rfl, rfl, h⟩
  refine ax_go110 _ _ ?_
  refine ax_WPo (l := []) ax_on ax_ok110 (fun _ => false) 400 0 rfl ?_
  simp +decide only [↓ax_B, ax_B, ax_kds, ax_gvs, ax_mcs, ax_ia_S, ax_up_ap, ax_vinL, and_self_left, ax_up_up, ax_up_sw, Nat.reduceAdd, Nat.reduceBEq, Nat.reduceLeDiff, Nat.reduceLT, Nat.reduceEqDiff, ↓reduceIte, true_and, and_true, List.cons_append, List.nil_append, Int32.reduceLT, Int32.reduceLE, Int32.reduceAdd, Int32.reduceToNatClampNeg, Int32.reduceOfNat, true_imp_iff, false_imp_iff, not_true_eq_false, not_false_eq_true, or_true, true_or, or_false, false_or, and_self, Bool.or_true, Bool.or_false, Bool.true_or, Bool.false_or, implies_true, forall_const, Bool.false_eq_true, Int32.neg_neg, ax_X110]
  exact h
/-- AskewLetters.isMachine(I)Z -/
def cy_111 : ax_P1 := fun as z K => ∃ (p1 : Int32) (D : ax_Dn) (E : ax_En), as = [.ref 0, .int p1] ∧ z = ax_S D E ∧ ((p1 < 0 → K (some (Value.int 0)) (ax_S D E)) ∧ (¬p1 < 0 → (D 2 0 ≤ p1 → K (some (Value.int 0)) (ax_S D E)) ∧ (¬D 2 0 ≤ p1 → K (some (Value.int 1)) (ax_S D E))))
theorem ry_111 (p1 : Int32) (D : ax_Dn) (E : ax_En) (K : ax_Po) : cy_111 [.ref 0, .int p1] (ax_S D E) K = ((p1 < 0 → K (some (Value.int 0)) (ax_S D E)) ∧ (¬p1 < 0 → (D 2 0 ≤ p1 → K (some (Value.int 0)) (ax_S D E)) ∧ (¬D 2 0 ≤ p1 → K (some (Value.int 1)) (ax_S D E)))) := propext ⟨fun ⟨p1', D', E', h1, h2, h3⟩ => by cases h1; obtain ⟨rfl, rfl⟩ := ax_S_inj h2; exact h3, fun h => ⟨p1, D, E, rfl, rfl, h⟩⟩
set_option maxRecDepth 10000 in
theorem sy_111 {g : ax_G} : ∀ as z K, cy_111 as z K → ax_MM g 111 as z K := by
  rintro _ _ K ⟨p1, D, E, rfl, rfl, h⟩
  refine ax_go111 _ _ ?_
  refine ax_WPo (l := []) ax_on ax_ok111 (fun _ => false) 400 0 rfl ?_
  simp +decide only [↓ax_B, ax_B, ax_kds, ax_gvs, ax_mcs, ax_ia_S, ax_up_ap, ax_vinL, and_self_left, ax_up_up, ax_up_sw, Nat.reduceAdd, Nat.reduceBEq, Nat.reduceLeDiff, Nat.reduceLT, Nat.reduceEqDiff, ↓reduceIte, true_and, and_true, List.cons_append, List.nil_append, Int32.reduceLT, Int32.reduceLE, Int32.reduceAdd, Int32.reduceToNatClampNeg, Int32.reduceOfNat, true_imp_iff, false_imp_iff, not_true_eq_false, not_false_eq_true, or_true, true_or, or_false, false_or, and_self, Bool.or_true, Bool.or_false, Bool.true_or, Bool.false_or, implies_true, forall_const, Bool.false_eq_true, Int32.neg_neg, ax_X111]
  exact h
/-- AskewLetters.isSign(I)Z -/
def cy_112 : ax_P1 := fun as z K => ∃ (p1 : Int32) (D : ax_Dn) (E : ax_En), as = [.int p1] ∧ z = ax_S D E ∧ ((p1 < 0 → K (some (Value.int 0)) (ax_S D E)) ∧ (¬p1 < 0 → (10 ≤ p1 → K (some (Value.int 0)) (ax_S D E)) ∧ (¬10 ≤ p1 → K (some (Value.int 1)) (ax_S D E))))
theorem ry_112 (p1 : Int32) (D : ax_Dn) (E : ax_En) (K : ax_Po) : cy_112 [.int p1] (ax_S D E) K = ((p1 < 0 → K (some (Value.int 0)) (ax_S D E)) ∧ (¬p1 < 0 → (10 ≤ p1 → K (some (Value.int 0)) (ax_S D E)) ∧ (¬10 ≤ p1 → K (some (Value.int 1)) (ax_S D E)))) := propext ⟨fun ⟨p1', D', E', h1, h2, h3⟩ => by cases h1; obtain ⟨rfl, rfl⟩ := ax_S_inj h2; exact h3, fun h => ⟨p1, D, E, rfl, rfl, h⟩⟩
set_option maxRecDepth 10000 in
theorem sy_112 {g : ax_G} : ∀ as z K, cy_112 as z K → ax_MM g 112 as z K := by
  rintro _ _ K ⟨p1, D, E, rfl, rfl, h⟩
  refine ax_go112 _ ?_
  refine ax_WPo (l := []) ax_on ax_ok112 (fun _ => false) 400 0 rfl ?_
  simp +decide only [↓ax_B, ax_B, ax_kds, ax_gvs, ax_mcs, ax_ia_S, ax_up_ap, ax_vinL, and_self_left, ax_up_up, ax_up_sw, Nat.reduceAdd, Nat.reduceBEq, Nat.reduceLeDiff, Nat.reduceLT, Nat.reduceEqDiff, ↓reduceIte, true_and, and_true, List.cons_append, List.nil_append, Int32.reduceLT, Int32.reduceLE, Int32.reduceAdd, Int32.reduceToNatClampNeg, Int32.reduceOfNat, true_imp_iff, false_imp_iff, not_true_eq_false, not_false_eq_true, or_true, true_or, or_false, false_or, and_self, Bool.or_true, Bool.or_false, Bool.true_or, Bool.false_or, implies_true, forall_const, Bool.false_eq_true, Int32.neg_neg, ax_X112]
  exact h
/-- AskewLetters.isStroke(I)Z -/
def cy_113 : ax_P1 := fun as z K => ∃ (p1 : Int32) (D : ax_Dn) (E : ax_En), as = [.ref 0, .int p1] ∧ z = ax_S D E ∧ ((p1 < 0 → K (some (Value.int 0)) (ax_S D E)) ∧ (¬p1 < 0 → (D 12 0 ≤ p1 → K (some (Value.int 0)) (ax_S D E)) ∧ (¬D 12 0 ≤ p1 → K (some (Value.int 1)) (ax_S D E))))
theorem ry_113 (p1 : Int32) (D : ax_Dn) (E : ax_En) (K : ax_Po) : cy_113 [.ref 0, .int p1] (ax_S D E) K = ((p1 < 0 → K (some (Value.int 0)) (ax_S D E)) ∧ (¬p1 < 0 → (D 12 0 ≤ p1 → K (some (Value.int 0)) (ax_S D E)) ∧ (¬D 12 0 ≤ p1 → K (some (Value.int 1)) (ax_S D E)))) := propext ⟨fun ⟨p1', D', E', h1, h2, h3⟩ => by cases h1; obtain ⟨rfl, rfl⟩ := ax_S_inj h2; exact h3, fun h => ⟨p1, D, E, rfl, rfl, h⟩⟩
set_option maxRecDepth 10000 in
theorem sy_113 {g : ax_G} : ∀ as z K, cy_113 as z K → ax_MM g 113 as z K := by
  rintro _ _ K ⟨p1, D, E, rfl, rfl, h⟩
  refine ax_go113 _ _ ?_
  refine ax_WPo (l := []) ax_on ax_ok113 (fun _ => false) 400 0 rfl ?_
  simp +decide only [↓ax_B, ax_B, ax_kds, ax_gvs, ax_mcs, ax_ia_S, ax_up_ap, ax_vinL, and_self_left, ax_up_up, ax_up_sw, Nat.reduceAdd, Nat.reduceBEq, Nat.reduceLeDiff, Nat.reduceLT, Nat.reduceEqDiff, ↓reduceIte, true_and, and_true, List.cons_append, List.nil_append, Int32.reduceLT, Int32.reduceLE, Int32.reduceAdd, Int32.reduceToNatClampNeg, Int32.reduceOfNat, true_imp_iff, false_imp_iff, not_true_eq_false, not_false_eq_true, or_true, true_or, or_false, false_or, and_self, Bool.or_true, Bool.or_false, Bool.true_or, Bool.false_or, implies_true, forall_const, Bool.false_eq_true, Int32.neg_neg, ax_X113]
  exact h
/-- AskewLetters.isHand(I)Z -/
def cy_114 : ax_P1 := fun as z K => ∃ (p1 : Int32) (D : ax_Dn) (E : ax_En), as = [.ref 0, .int p1] ∧ z = ax_S D E ∧ ((p1 < 0 → K (some (Value.int 0)) (ax_S D E)) ∧ (¬p1 < 0 → (D 19 0 ≤ p1 → K (some (Value.int 0)) (ax_S D E)) ∧ (¬D 19 0 ≤ p1 → K (some (Value.int 1)) (ax_S D E))))
theorem ry_114 (p1 : Int32) (D : ax_Dn) (E : ax_En) (K : ax_Po) : cy_114 [.ref 0, .int p1] (ax_S D E) K = ((p1 < 0 → K (some (Value.int 0)) (ax_S D E)) ∧ (¬p1 < 0 → (D 19 0 ≤ p1 → K (some (Value.int 0)) (ax_S D E)) ∧ (¬D 19 0 ≤ p1 → K (some (Value.int 1)) (ax_S D E)))) := propext ⟨fun ⟨p1', D', E', h1, h2, h3⟩ => by cases h1; obtain ⟨rfl, rfl⟩ := ax_S_inj h2; exact h3, fun h => ⟨p1, D, E, rfl, rfl, h⟩⟩
set_option maxRecDepth 10000 in
theorem sy_114 {g : ax_G} : ∀ as z K, cy_114 as z K → ax_MM g 114 as z K := by
  rintro _ _ K ⟨p1, D, E, rfl, rfl, h⟩
  refine ax_go114 _ _ ?_
  refine ax_WPo (l := []) ax_on ax_ok114 (fun _ => false) 400 0 rfl ?_
  simp +decide only [↓ax_B, ax_B, ax_kds, ax_gvs, ax_mcs, ax_ia_S, ax_up_ap, ax_vinL, and_self_left, ax_up_up, ax_up_sw, Nat.reduceAdd, Nat.reduceBEq, Nat.reduceLeDiff, Nat.reduceLT, Nat.reduceEqDiff, ↓reduceIte, true_and, and_true, List.cons_append, List.nil_append, Int32.reduceLT, Int32.reduceLE, Int32.reduceAdd, Int32.reduceToNatClampNeg, Int32.reduceOfNat, true_imp_iff, false_imp_iff, not_true_eq_false, not_false_eq_true, or_true, true_or, or_false, false_or, and_self, Bool.or_true, Bool.or_false, Bool.true_or, Bool.false_or, implies_true, forall_const, Bool.false_eq_true, Int32.neg_neg, ax_X114]
  exact h
/-- AskewLetters.isPlace(I)Z -/
def cy_115 : ax_P1 := fun as z K => ∃ (p1 : Int32) (D : ax_Dn) (E : ax_En), as = [.ref 0, .int p1] ∧ z = ax_S D E ∧ ((p1 < 0 → K (some (Value.int 0)) (ax_S D E)) ∧ (¬p1 < 0 → (D 21 4 ≤ p1 → K (some (Value.int 0)) (ax_S D E)) ∧ (¬D 21 4 ≤ p1 → K (some (Value.int 1)) (ax_S D E))))
theorem ry_115 (p1 : Int32) (D : ax_Dn) (E : ax_En) (K : ax_Po) : cy_115 [.ref 0, .int p1] (ax_S D E) K = ((p1 < 0 → K (some (Value.int 0)) (ax_S D E)) ∧ (¬p1 < 0 → (D 21 4 ≤ p1 → K (some (Value.int 0)) (ax_S D E)) ∧ (¬D 21 4 ≤ p1 → K (some (Value.int 1)) (ax_S D E)))) := propext ⟨fun ⟨p1', D', E', h1, h2, h3⟩ => by cases h1; obtain ⟨rfl, rfl⟩ := ax_S_inj h2; exact h3, fun h => ⟨p1, D, E, rfl, rfl, h⟩⟩
set_option maxRecDepth 10000 in
theorem sy_115 {g : ax_G} : ∀ as z K, cy_115 as z K → ax_MM g 115 as z K := by
  rintro _ _ K ⟨p1, D, E, rfl, rfl, h⟩
  refine ax_go115 _ _ ?_
  refine ax_WPo (l := []) ax_on ax_ok115 (fun _ => false) 400 0 rfl ?_
  simp +decide only [↓ax_B, ax_B, ax_kds, ax_gvs, ax_mcs, ax_ia_S, ax_up_ap, ax_vinL, and_self_left, ax_up_up, ax_up_sw, Nat.reduceAdd, Nat.reduceBEq, Nat.reduceLeDiff, Nat.reduceLT, Nat.reduceEqDiff, ↓reduceIte, true_and, and_true, List.cons_append, List.nil_append, Int32.reduceLT, Int32.reduceLE, Int32.reduceAdd, Int32.reduceToNatClampNeg, Int32.reduceOfNat, true_imp_iff, false_imp_iff, not_true_eq_false, not_false_eq_true, or_true, true_or, or_false, false_or, and_self, Bool.or_true, Bool.or_false, Bool.true_or, Bool.false_or, implies_true, forall_const, Bool.false_eq_true, Int32.neg_neg, ax_X115]
  exact h
/-- AskewLetters.isPart(I)Z -/
def cy_116 : ax_P1 := fun as z K => ∃ (p1 : Int32) (D : ax_Dn) (E : ax_En), as = [.int p1] ∧ z = ax_S D E ∧ ((p1 = 0 → K (some (Value.int 1)) (ax_S D E)) ∧ (¬p1 = 0 → (¬p1 = 1 → K (some (Value.int 0)) (ax_S D E)) ∧ (p1 = 1 → K (some (Value.int 1)) (ax_S D E))))
theorem ry_116 (p1 : Int32) (D : ax_Dn) (E : ax_En) (K : ax_Po) : cy_116 [.int p1] (ax_S D E) K = ((p1 = 0 → K (some (Value.int 1)) (ax_S D E)) ∧ (¬p1 = 0 → (¬p1 = 1 → K (some (Value.int 0)) (ax_S D E)) ∧ (p1 = 1 → K (some (Value.int 1)) (ax_S D E)))) := propext ⟨fun ⟨p1', D', E', h1, h2, h3⟩ => by cases h1; obtain ⟨rfl, rfl⟩ := ax_S_inj h2; exact h3, fun h => ⟨p1, D, E, rfl, rfl, h⟩⟩
set_option maxRecDepth 10000 in
theorem sy_116 {g : ax_G} : ∀ as z K, cy_116 as z K → ax_MM g 116 as z K := by
  rintro _ _ K ⟨p1, D, E, rfl, rfl, h⟩
  refine ax_go116 _ ?_
  refine ax_WPo (l := []) ax_on ax_ok116 (fun _ => false) 400 0 rfl ?_
  simp +decide only [↓ax_B, ax_B, ax_kds, ax_gvs, ax_mcs, ax_ia_S, ax_up_ap, ax_vinL, and_self_left, ax_up_up, ax_up_sw, Nat.reduceAdd, Nat.reduceBEq, Nat.reduceLeDiff, Nat.reduceLT, Nat.reduceEqDiff, ↓reduceIte, true_and, and_true, List.cons_append, List.nil_append, Int32.reduceLT, Int32.reduceLE, Int32.reduceAdd, Int32.reduceToNatClampNeg, Int32.reduceOfNat, true_imp_iff, false_imp_iff, not_true_eq_false, not_false_eq_true, or_true, true_or, or_false, false_or, and_self, Bool.or_true, Bool.or_false, Bool.true_or, Bool.false_or, implies_true, forall_const, Bool.false_eq_true, Int32.neg_neg, ax_X116]
  exact h
/-- AskewLetters.rangeFault(III)I -/
def cy_117 : ax_P1 := fun as z K => ∃ (p1 : Int32) (p2 : Int32) (p3 : Int32) (D : ax_Dn) (E : ax_En), as = [.int p1, .int p2, .int p3] ∧ z = ax_S D E ∧ ((p2 ≤ p1 → (p1 ≤ p3 → K (some (Value.int 0)) (ax_S D E)) ∧ (¬p1 ≤ p3 → K (some (Value.int (-6))) (ax_S D E))) ∧ (¬p2 ≤ p1 → K (some (Value.int (-4))) (ax_S D E)))
theorem ry_117 (p1 : Int32) (p2 : Int32) (p3 : Int32) (D : ax_Dn) (E : ax_En) (K : ax_Po) : cy_117 [.int p1, .int p2, .int p3] (ax_S D E) K = ((p2 ≤ p1 → (p1 ≤ p3 → K (some (Value.int 0)) (ax_S D E)) ∧ (¬p1 ≤ p3 → K (some (Value.int (-6))) (ax_S D E))) ∧ (¬p2 ≤ p1 → K (some (Value.int (-4))) (ax_S D E))) := propext ⟨fun ⟨p1', p2', p3', D', E', h1, h2, h3⟩ => by cases h1; obtain ⟨rfl, rfl⟩ := ax_S_inj h2; exact h3, fun h => ⟨p1, p2, p3, D, E, rfl, rfl, h⟩⟩
set_option maxRecDepth 10000 in
theorem sy_117 {g : ax_G} : ∀ as z K, cy_117 as z K → ax_MM g 117 as z K := by
  rintro _ _ K ⟨p1, p2, p3, D, E, rfl, rfl, h⟩
  refine ax_go117 _ _ _ ?_
  refine ax_WPo (l := []) ax_on ax_ok117 (fun _ => false) 400 0 rfl ?_
  simp +decide only [↓ax_B, ax_B, ax_kds, ax_gvs, ax_mcs, ax_ia_S, ax_up_ap, ax_vinL, and_self_left, ax_up_up, ax_up_sw, Nat.reduceAdd, Nat.reduceBEq, Nat.reduceLeDiff, Nat.reduceLT, Nat.reduceEqDiff, ↓reduceIte, true_and, and_true, List.cons_append, List.nil_append, Int32.reduceLT, Int32.reduceLE, Int32.reduceAdd, Int32.reduceToNatClampNeg, Int32.reduceOfNat, true_imp_iff, false_imp_iff, not_true_eq_false, not_false_eq_true, or_true, true_or, or_false, false_or, and_self, Bool.or_true, Bool.or_false, Bool.true_or, Bool.false_or, implies_true, forall_const, Bool.false_eq_true, Int32.neg_neg, ax_X117]
  exact h
/-- AskewLettersModel.no(I)I -/
def cy_125 : ax_P1 := fun as z K => ∃ (p1 : Int32) (D : ax_Dn) (E : ax_En), as = [.ref 58, .int p1] ∧ z = ax_S D E ∧ (vp_in (-p1) 7 ∧ K (some (Value.int p1)) (ax_S (ax_up D 59 (ax_up (D 59) (-p1).toNatClampNeg (D 59 (-p1).toNatClampNeg + 1))) E))
theorem ry_125 (p1 : Int32) (D : ax_Dn) (E : ax_En) (K : ax_Po) : cy_125 [.ref 58, .int p1] (ax_S D E) K = (vp_in (-p1) 7 ∧ K (some (Value.int p1)) (ax_S (ax_up D 59 (ax_up (D 59) (-p1).toNatClampNeg (D 59 (-p1).toNatClampNeg + 1))) E)) := propext ⟨fun ⟨p1', D', E', h1, h2, h3⟩ => by cases h1; obtain ⟨rfl, rfl⟩ := ax_S_inj h2; exact h3, fun h => ⟨p1, D, E, rfl, rfl, h⟩⟩
set_option maxRecDepth 10000 in
theorem sy_125 {g : ax_G} : ∀ as z K, cy_125 as z K → ax_MM g 125 as z K := by
  rintro _ _ K ⟨p1, D, E, rfl, rfl, h⟩
  refine ax_go125 _ _ ?_
  refine ax_WPo (l := []) ax_on ax_ok125 (fun _ => false) 400 0 rfl ?_
  simp +decide only [↓ax_B, ax_B, ax_kds, ax_gvs, ax_mcs, ax_ia_S, ax_up_ap, ax_vinL, and_self_left, ax_up_up, ax_up_sw, Nat.reduceAdd, Nat.reduceBEq, Nat.reduceLeDiff, Nat.reduceLT, Nat.reduceEqDiff, ↓reduceIte, true_and, and_true, List.cons_append, List.nil_append, Int32.reduceLT, Int32.reduceLE, Int32.reduceAdd, Int32.reduceToNatClampNeg, Int32.reduceOfNat, true_imp_iff, false_imp_iff, not_true_eq_false, not_false_eq_true, or_true, true_or, or_false, false_or, and_self, Bool.or_true, Bool.or_false, Bool.true_or, Bool.false_or, implies_true, forall_const, Bool.false_eq_true, Int32.neg_neg]
  exact h
/-- AskewLettersModel.lower(I)I -/
def cy_126 : ax_P1 := fun as z K => ∃ (p1 : Int32) (D : ax_Dn) (E : ax_En), as = [.ref 58, .int p1] ∧ z = ax_S D E ∧ (vp_in (-p1) 7 ∧ K (some (Value.int (1000000000 - p1))) (ax_S (ax_up D 59 (ax_up (D 59) (-p1).toNatClampNeg (D 59 (-p1).toNatClampNeg + 1))) E))
theorem ry_126 (p1 : Int32) (D : ax_Dn) (E : ax_En) (K : ax_Po) : cy_126 [.ref 58, .int p1] (ax_S D E) K = (vp_in (-p1) 7 ∧ K (some (Value.int (1000000000 - p1))) (ax_S (ax_up D 59 (ax_up (D 59) (-p1).toNatClampNeg (D 59 (-p1).toNatClampNeg + 1))) E)) := propext ⟨fun ⟨p1', D', E', h1, h2, h3⟩ => by cases h1; obtain ⟨rfl, rfl⟩ := ax_S_inj h2; exact h3, fun h => ⟨p1, D, E, rfl, rfl, h⟩⟩
set_option maxRecDepth 10000 in
theorem sy_126 {g : ax_G} : ∀ as z K, cy_126 as z K → ax_MM g 126 as z K := by
  rintro _ _ K ⟨p1, D, E, rfl, rfl, h⟩
  refine ax_go126 _ _ ?_
  refine ax_WPo (l := []) ax_on ax_ok126 (fun _ => false) 400 0 rfl ?_
  simp +decide only [↓ax_B, ax_B, ax_kds, ax_gvs, ax_mcs, ax_ia_S, ax_up_ap, ax_vinL, and_self_left, ax_up_up, ax_up_sw, Nat.reduceAdd, Nat.reduceBEq, Nat.reduceLeDiff, Nat.reduceLT, Nat.reduceEqDiff, ↓reduceIte, true_and, and_true, List.cons_append, List.nil_append, Int32.reduceLT, Int32.reduceLE, Int32.reduceAdd, Int32.reduceToNatClampNeg, Int32.reduceOfNat, true_imp_iff, false_imp_iff, not_true_eq_false, not_false_eq_true, or_true, true_or, or_false, false_or, and_self, Bool.or_true, Bool.or_false, Bool.true_or, Bool.false_or, implies_true, forall_const, Bool.false_eq_true, Int32.neg_neg]
  exact h
/-- AskewLettersModel.noLong(I)J -/
def cy_127 : ax_P1 := fun as z K => ∃ (p1 : Int32) (D : ax_Dn) (E : ax_En), as = [.ref 58, .int p1] ∧ z = ax_S D E ∧ (vp_in (-p1) 7 ∧ K (some (Value.long (4000000000000000000 - p1.toInt64))) (ax_S (ax_up D 59 (ax_up (D 59) (-p1).toNatClampNeg (D 59 (-p1).toNatClampNeg + 1))) E))
theorem ry_127 (p1 : Int32) (D : ax_Dn) (E : ax_En) (K : ax_Po) : cy_127 [.ref 58, .int p1] (ax_S D E) K = (vp_in (-p1) 7 ∧ K (some (Value.long (4000000000000000000 - p1.toInt64))) (ax_S (ax_up D 59 (ax_up (D 59) (-p1).toNatClampNeg (D 59 (-p1).toNatClampNeg + 1))) E)) := propext ⟨fun ⟨p1', D', E', h1, h2, h3⟩ => by cases h1; obtain ⟨rfl, rfl⟩ := ax_S_inj h2; exact h3, fun h => ⟨p1, D, E, rfl, rfl, h⟩⟩
set_option maxRecDepth 10000 in
theorem sy_127 {g : ax_G} : ∀ as z K, cy_127 as z K → ax_MM g 127 as z K := by
  rintro _ _ K ⟨p1, D, E, rfl, rfl, h⟩
  refine ax_go127 _ _ ?_
  refine ax_WPo (l := []) ax_on ax_ok127 (fun _ => false) 400 0 rfl ?_
  simp +decide only [↓ax_B, ax_B, ax_kds, ax_gvs, ax_mcs, ax_ia_S, ax_up_ap, ax_vinL, and_self_left, ax_up_up, ax_up_sw, Nat.reduceAdd, Nat.reduceBEq, Nat.reduceLeDiff, Nat.reduceLT, Nat.reduceEqDiff, ↓reduceIte, true_and, and_true, List.cons_append, List.nil_append, Int32.reduceLT, Int32.reduceLE, Int32.reduceAdd, Int32.reduceToNatClampNeg, Int32.reduceOfNat, true_imp_iff, false_imp_iff, not_true_eq_false, not_false_eq_true, or_true, true_or, or_false, false_or, and_self, Bool.or_true, Bool.or_false, Bool.true_or, Bool.false_or, implies_true, forall_const, Bool.false_eq_true, Int32.neg_neg]
  exact h
/-- AskewLettersModel.isIn(III)Z -/
def cy_128 : ax_P1 := fun as z K => ∃ (p1 : Int32) (p2 : Int32) (p3 : Int32) (D : ax_Dn) (E : ax_En), as = [.int p1, .int p2, .int p3] ∧ z = ax_S D E ∧ ((p1 < p2 → K (some (Value.int 0)) (ax_S D E)) ∧ (¬p1 < p2 → (p3 < p1 → K (some (Value.int 0)) (ax_S D E)) ∧ (¬p3 < p1 → K (some (Value.int 1)) (ax_S D E))))
theorem ry_128 (p1 : Int32) (p2 : Int32) (p3 : Int32) (D : ax_Dn) (E : ax_En) (K : ax_Po) : cy_128 [.int p1, .int p2, .int p3] (ax_S D E) K = ((p1 < p2 → K (some (Value.int 0)) (ax_S D E)) ∧ (¬p1 < p2 → (p3 < p1 → K (some (Value.int 0)) (ax_S D E)) ∧ (¬p3 < p1 → K (some (Value.int 1)) (ax_S D E)))) := propext ⟨fun ⟨p1', p2', p3', D', E', h1, h2, h3⟩ => by cases h1; obtain ⟨rfl, rfl⟩ := ax_S_inj h2; exact h3, fun h => ⟨p1, p2, p3, D, E, rfl, rfl, h⟩⟩
set_option maxRecDepth 10000 in
theorem sy_128 {g : ax_G} : ∀ as z K, cy_128 as z K → ax_MM g 128 as z K := by
  rintro _ _ K ⟨p1, p2, p3, D, E, rfl, rfl, h⟩
  refine ax_go128 _ _ _ ?_
  refine ax_WPo (l := []) ax_on ax_ok128 (fun _ => false) 400 0 rfl ?_
  simp +decide only [↓ax_B, ax_B, ax_kds, ax_gvs, ax_mcs, ax_ia_S, ax_up_ap, ax_vinL, and_self_left, ax_up_up, ax_up_sw, Nat.reduceAdd, Nat.reduceBEq, Nat.reduceLeDiff, Nat.reduceLT, Nat.reduceEqDiff, ↓reduceIte, true_and, and_true, List.cons_append, List.nil_append, Int32.reduceLT, Int32.reduceLE, Int32.reduceAdd, Int32.reduceToNatClampNeg, Int32.reduceOfNat, true_imp_iff, false_imp_iff, not_true_eq_false, not_false_eq_true, or_true, true_or, or_false, false_or, and_self, Bool.or_true, Bool.or_false, Bool.true_or, Bool.false_or, implies_true, forall_const, Bool.false_eq_true, Int32.neg_neg, ax_X128]
  exact h
/-- AskewLettersModel.bound(III)I -/
def cy_129 : ax_P1 := fun as z K => ∃ (p1 : Int32) (p2 : Int32) (p3 : Int32) (D : ax_Dn) (E : ax_En), as = [.int p1, .int p2, .int p3] ∧ z = ax_S D E ∧ ((p2 ≤ p1 → (p1 ≤ p3 → K (some (Value.int 0)) (ax_S D E)) ∧ (¬p1 ≤ p3 → K (some (Value.int (-6))) (ax_S D E))) ∧ (¬p2 ≤ p1 → K (some (Value.int (-4))) (ax_S D E)))
theorem ry_129 (p1 : Int32) (p2 : Int32) (p3 : Int32) (D : ax_Dn) (E : ax_En) (K : ax_Po) : cy_129 [.int p1, .int p2, .int p3] (ax_S D E) K = ((p2 ≤ p1 → (p1 ≤ p3 → K (some (Value.int 0)) (ax_S D E)) ∧ (¬p1 ≤ p3 → K (some (Value.int (-6))) (ax_S D E))) ∧ (¬p2 ≤ p1 → K (some (Value.int (-4))) (ax_S D E))) := propext ⟨fun ⟨p1', p2', p3', D', E', h1, h2, h3⟩ => by cases h1; obtain ⟨rfl, rfl⟩ := ax_S_inj h2; exact h3, fun h => ⟨p1, p2, p3, D, E, rfl, rfl, h⟩⟩
set_option maxRecDepth 10000 in
theorem sy_129 {g : ax_G} : ∀ as z K, cy_129 as z K → ax_MM g 129 as z K := by
  rintro _ _ K ⟨p1, p2, p3, D, E, rfl, rfl, h⟩
  refine ax_go129 _ _ _ ?_
  refine ax_WPo (l := []) ax_on ax_ok129 (fun _ => false) 400 0 rfl ?_
  simp +decide only [↓ax_B, ax_B, ax_kds, ax_gvs, ax_mcs, ax_ia_S, ax_up_ap, ax_vinL, and_self_left, ax_up_up, ax_up_sw, Nat.reduceAdd, Nat.reduceBEq, Nat.reduceLeDiff, Nat.reduceLT, Nat.reduceEqDiff, ↓reduceIte, true_and, and_true, List.cons_append, List.nil_append, Int32.reduceLT, Int32.reduceLE, Int32.reduceAdd, Int32.reduceToNatClampNeg, Int32.reduceOfNat, true_imp_iff, false_imp_iff, not_true_eq_false, not_false_eq_true, or_true, true_or, or_false, false_or, and_self, Bool.or_true, Bool.or_false, Bool.true_or, Bool.false_or, implies_true, forall_const, Bool.false_eq_true, Int32.neg_neg, ax_X129]
  exact h
/-- AskewLettersModel.sign()I -/
def cy_131 : ax_P1 := fun as z K => ∃ (D : ax_Dn) (E : ax_En), as = [.ref 58] ∧ z = ax_S D E ∧ ((D 58 20 ≤ D 58 21 → K (some (Value.int (-1))) (ax_S D E)) ∧ (¬D 58 20 ≤ D 58 21 → vp_in (D 58 21) 64 ∧ K (some (Value.int (D 60 (D 58 21).toNatClampNeg))) (ax_S D E)))
theorem ry_131  (D : ax_Dn) (E : ax_En) (K : ax_Po) : cy_131 [.ref 58] (ax_S D E) K = ((D 58 20 ≤ D 58 21 → K (some (Value.int (-1))) (ax_S D E)) ∧ (¬D 58 20 ≤ D 58 21 → vp_in (D 58 21) 64 ∧ K (some (Value.int (D 60 (D 58 21).toNatClampNeg))) (ax_S D E))) := propext ⟨fun ⟨D', E', h1, h2, h3⟩ => by cases h1; obtain ⟨rfl, rfl⟩ := ax_S_inj h2; exact h3, fun h => ⟨D, E, rfl, rfl, h⟩⟩
set_option maxRecDepth 10000 in
theorem sy_131 {g : ax_G} : ∀ as z K, cy_131 as z K → ax_MM g 131 as z K := by
  rintro _ _ K ⟨D, E, rfl, rfl, h⟩
  refine ax_go131 _ ?_
  refine ax_WPo (l := []) ax_on ax_ok131 (fun _ => false) 400 0 rfl ?_
  simp +decide only [↓ax_B, ax_B, ax_kds, ax_gvs, ax_mcs, ax_ia_S, ax_up_ap, ax_vinL, and_self_left, ax_up_up, ax_up_sw, Nat.reduceAdd, Nat.reduceBEq, Nat.reduceLeDiff, Nat.reduceLT, Nat.reduceEqDiff, ↓reduceIte, true_and, and_true, List.cons_append, List.nil_append, Int32.reduceLT, Int32.reduceLE, Int32.reduceAdd, Int32.reduceToNatClampNeg, Int32.reduceOfNat, true_imp_iff, false_imp_iff, not_true_eq_false, not_false_eq_true, or_true, true_or, or_false, false_or, and_self, Bool.or_true, Bool.or_false, Bool.true_or, Bool.false_or, implies_true, forall_const, Bool.false_eq_true, Int32.neg_neg, ax_X131]
  exact h
/-- AskewLettersModel.isOf(IIII)Z -/
def cy_139 : ax_P1 := fun as z K => ∃ (p1 : Int32) (p2 : Int32) (p3 : Int32) (p4 : Int32) (D : ax_Dn) (E : ax_En), as = [.ref 58, .int p1, .int p2, .int p3, .int p4] ∧ z = ax_S D E ∧ (vp_in p1 20 ∧ (¬D 72 p1.toNatClampNeg = p2 → K (some (Value.int 0)) (ax_S D E)) ∧ (D 72 p1.toNatClampNeg = p2 → vp_in p1 20 ∧ (¬D 73 p1.toNatClampNeg = p3 → K (some (Value.int 0)) (ax_S D E)) ∧ (D 73 p1.toNatClampNeg = p3 → vp_in p1 20 ∧ (p4 < D 74 p1.toNatClampNeg → K (some (Value.int 0)) (ax_S D E)) ∧ (¬p4 < D 74 p1.toNatClampNeg → K (some (Value.int 1)) (ax_S D E)))))
theorem ry_139 (p1 : Int32) (p2 : Int32) (p3 : Int32) (p4 : Int32) (D : ax_Dn) (E : ax_En) (K : ax_Po) : cy_139 [.ref 58, .int p1, .int p2, .int p3, .int p4] (ax_S D E) K = (vp_in p1 20 ∧ (¬D 72 p1.toNatClampNeg = p2 → K (some (Value.int 0)) (ax_S D E)) ∧ (D 72 p1.toNatClampNeg = p2 → vp_in p1 20 ∧ (¬D 73 p1.toNatClampNeg = p3 → K (some (Value.int 0)) (ax_S D E)) ∧ (D 73 p1.toNatClampNeg = p3 → vp_in p1 20 ∧ (p4 < D 74 p1.toNatClampNeg → K (some (Value.int 0)) (ax_S D E)) ∧ (¬p4 < D 74 p1.toNatClampNeg → K (some (Value.int 1)) (ax_S D E))))) := propext ⟨fun ⟨p1', p2', p3', p4', D', E', h1, h2, h3⟩ => by cases h1; obtain ⟨rfl, rfl⟩ := ax_S_inj h2; exact h3, fun h => ⟨p1, p2, p3, p4, D, E, rfl, rfl, h⟩⟩
set_option maxRecDepth 10000 in
theorem sy_139 {g : ax_G} : ∀ as z K, cy_139 as z K → ax_MM g 139 as z K := by
  rintro _ _ K ⟨p1, p2, p3, p4, D, E, rfl, rfl, h⟩
  refine ax_go139 _ _ _ _ _ ?_
  refine ax_WPo (l := []) ax_on ax_ok139 (fun _ => false) 400 0 rfl ?_
  simp +decide only [↓ax_B, ax_B, ax_kds, ax_gvs, ax_mcs, ax_ia_S, ax_up_ap, ax_vinL, and_self_left, ax_up_up, ax_up_sw, Nat.reduceAdd, Nat.reduceBEq, Nat.reduceLeDiff, Nat.reduceLT, Nat.reduceEqDiff, ↓reduceIte, true_and, and_true, List.cons_append, List.nil_append, Int32.reduceLT, Int32.reduceLE, Int32.reduceAdd, Int32.reduceToNatClampNeg, Int32.reduceOfNat, true_imp_iff, false_imp_iff, not_true_eq_false, not_false_eq_true, or_true, true_or, or_false, false_or, and_self, Bool.or_true, Bool.or_false, Bool.true_or, Bool.false_or, implies_true, forall_const, Bool.false_eq_true, Int32.neg_neg, ax_X139]
  exact h
/-- AskewLettersModel.isAhead(II)Z -/
def cy_140 : ax_P1 := fun as z K => ∃ (p1 : Int32) (p2 : Int32) (D : ax_Dn) (E : ax_En), as = [.ref 58, .int p1, .int p2] ∧ z = ax_S D E ∧ (vp_in p1 20 ∧ vp_in p2 20 ∧ (D 74 p1.toNatClampNeg < D 74 p2.toNatClampNeg → K (some (Value.int 1)) (ax_S D E)) ∧ (¬D 74 p1.toNatClampNeg < D 74 p2.toNatClampNeg → vp_in p1 20 ∧ vp_in p2 20 ∧ (¬D 74 p1.toNatClampNeg = D 74 p2.toNatClampNeg → K (some (Value.int 0)) (ax_S D E)) ∧ (D 74 p1.toNatClampNeg = D 74 p2.toNatClampNeg → (p2 ≤ p1 → K (some (Value.int 0)) (ax_S D E)) ∧ (¬p2 ≤ p1 → K (some (Value.int 1)) (ax_S D E)))))
theorem ry_140 (p1 : Int32) (p2 : Int32) (D : ax_Dn) (E : ax_En) (K : ax_Po) : cy_140 [.ref 58, .int p1, .int p2] (ax_S D E) K = (vp_in p1 20 ∧ vp_in p2 20 ∧ (D 74 p1.toNatClampNeg < D 74 p2.toNatClampNeg → K (some (Value.int 1)) (ax_S D E)) ∧ (¬D 74 p1.toNatClampNeg < D 74 p2.toNatClampNeg → vp_in p1 20 ∧ vp_in p2 20 ∧ (¬D 74 p1.toNatClampNeg = D 74 p2.toNatClampNeg → K (some (Value.int 0)) (ax_S D E)) ∧ (D 74 p1.toNatClampNeg = D 74 p2.toNatClampNeg → (p2 ≤ p1 → K (some (Value.int 0)) (ax_S D E)) ∧ (¬p2 ≤ p1 → K (some (Value.int 1)) (ax_S D E))))) := propext ⟨fun ⟨p1', p2', D', E', h1, h2, h3⟩ => by cases h1; obtain ⟨rfl, rfl⟩ := ax_S_inj h2; exact h3, fun h => ⟨p1, p2, D, E, rfl, rfl, h⟩⟩
set_option maxRecDepth 10000 in
theorem sy_140 {g : ax_G} : ∀ as z K, cy_140 as z K → ax_MM g 140 as z K := by
  rintro _ _ K ⟨p1, p2, D, E, rfl, rfl, h⟩
  refine ax_go140 _ _ _ ?_
  refine ax_WPo (l := []) ax_on ax_ok140 (fun _ => false) 400 0 rfl ?_
  simp +decide only [↓ax_B, ax_B, ax_kds, ax_gvs, ax_mcs, ax_ia_S, ax_up_ap, ax_vinL, and_self_left, ax_up_up, ax_up_sw, Nat.reduceAdd, Nat.reduceBEq, Nat.reduceLeDiff, Nat.reduceLT, Nat.reduceEqDiff, ↓reduceIte, true_and, and_true, List.cons_append, List.nil_append, Int32.reduceLT, Int32.reduceLE, Int32.reduceAdd, Int32.reduceToNatClampNeg, Int32.reduceOfNat, true_imp_iff, false_imp_iff, not_true_eq_false, not_false_eq_true, or_true, true_or, or_false, false_or, and_self, Bool.or_true, Bool.or_false, Bool.true_or, Bool.false_or, implies_true, forall_const, Bool.false_eq_true, Int32.neg_neg, ax_X140]
  exact h
/-- AskewLettersModel.dirtOf(III)I -/
def cy_143 : ax_P1 := fun as z K => ∃ (p1 : Int32) (p2 : Int32) (p3 : Int32) (D : ax_Dn) (E : ax_En), as = [.ref 58, .int p1, .int p2, .int p3] ∧ z = ax_S D E ∧ (vp_in p1 6 ∧ vp_in p2 10 ∧ K (some (Value.int ((p3 - p3 / 7 * 7 + 7 - D 68 p1.toNatClampNeg - (p3 - p3 / 7 * 7 + 7 - D 68 p1.toNatClampNeg) / 7 * 7) * D 70 p2.toNatClampNeg / 4))) (ax_S D E))
theorem ry_143 (p1 : Int32) (p2 : Int32) (p3 : Int32) (D : ax_Dn) (E : ax_En) (K : ax_Po) : cy_143 [.ref 58, .int p1, .int p2, .int p3] (ax_S D E) K = (vp_in p1 6 ∧ vp_in p2 10 ∧ K (some (Value.int ((p3 - p3 / 7 * 7 + 7 - D 68 p1.toNatClampNeg - (p3 - p3 / 7 * 7 + 7 - D 68 p1.toNatClampNeg) / 7 * 7) * D 70 p2.toNatClampNeg / 4))) (ax_S D E)) := propext ⟨fun ⟨p1', p2', p3', D', E', h1, h2, h3⟩ => by cases h1; obtain ⟨rfl, rfl⟩ := ax_S_inj h2; exact h3, fun h => ⟨p1, p2, p3, D, E, rfl, rfl, h⟩⟩
set_option maxRecDepth 10000 in
theorem sy_143 {g : ax_G} : ∀ as z K, cy_143 as z K → ax_MM g 143 as z K := by
  rintro _ _ K ⟨p1, p2, p3, D, E, rfl, rfl, h⟩
  refine ax_go143 _ _ _ _ ?_
  refine ax_WPo (l := []) ax_on ax_ok143 (fun _ => false) 400 0 rfl ?_
  simp +decide only [↓ax_B, ax_B, ax_kds, ax_gvs, ax_mcs, ax_ia_S, ax_up_ap, ax_vinL, and_self_left, ax_up_up, ax_up_sw, Nat.reduceAdd, Nat.reduceBEq, Nat.reduceLeDiff, Nat.reduceLT, Nat.reduceEqDiff, ↓reduceIte, true_and, and_true, List.cons_append, List.nil_append, Int32.reduceLT, Int32.reduceLE, Int32.reduceAdd, Int32.reduceToNatClampNeg, Int32.reduceOfNat, true_imp_iff, false_imp_iff, not_true_eq_false, not_false_eq_true, or_true, true_or, or_false, false_or, and_self, Bool.or_true, Bool.or_false, Bool.true_or, Bool.false_or, implies_true, forall_const, Bool.false_eq_true, Int32.neg_neg]
  exact h
/-- AskewLettersModel.isMachine(I)Z -/
def cy_144 : ax_P1 := fun as z K => ∃ (p1 : Int32) (D : ax_Dn) (E : ax_En), as = [.ref 58, .int p1] ∧ z = ax_S D E ∧ ((p1 < 0 → K (some (Value.int 0)) (ax_S D E)) ∧ (¬p1 < 0 → (D 58 22 ≤ p1 → K (some (Value.int 0)) (ax_S D E)) ∧ (¬D 58 22 ≤ p1 → K (some (Value.int 1)) (ax_S D E))))
theorem ry_144 (p1 : Int32) (D : ax_Dn) (E : ax_En) (K : ax_Po) : cy_144 [.ref 58, .int p1] (ax_S D E) K = ((p1 < 0 → K (some (Value.int 0)) (ax_S D E)) ∧ (¬p1 < 0 → (D 58 22 ≤ p1 → K (some (Value.int 0)) (ax_S D E)) ∧ (¬D 58 22 ≤ p1 → K (some (Value.int 1)) (ax_S D E)))) := propext ⟨fun ⟨p1', D', E', h1, h2, h3⟩ => by cases h1; obtain ⟨rfl, rfl⟩ := ax_S_inj h2; exact h3, fun h => ⟨p1, D, E, rfl, rfl, h⟩⟩
set_option maxRecDepth 10000 in
theorem sy_144 {g : ax_G} : ∀ as z K, cy_144 as z K → ax_MM g 144 as z K := by
  rintro _ _ K ⟨p1, D, E, rfl, rfl, h⟩
  refine ax_go144 _ _ ?_
  refine ax_WPo (l := []) ax_on ax_ok144 (fun _ => false) 400 0 rfl ?_
  simp +decide only [↓ax_B, ax_B, ax_kds, ax_gvs, ax_mcs, ax_ia_S, ax_up_ap, ax_vinL, and_self_left, ax_up_up, ax_up_sw, Nat.reduceAdd, Nat.reduceBEq, Nat.reduceLeDiff, Nat.reduceLT, Nat.reduceEqDiff, ↓reduceIte, true_and, and_true, List.cons_append, List.nil_append, Int32.reduceLT, Int32.reduceLE, Int32.reduceAdd, Int32.reduceToNatClampNeg, Int32.reduceOfNat, true_imp_iff, false_imp_iff, not_true_eq_false, not_false_eq_true, or_true, true_or, or_false, false_or, and_self, Bool.or_true, Bool.or_false, Bool.true_or, Bool.false_or, implies_true, forall_const, Bool.false_eq_true, Int32.neg_neg, ax_X144]
  exact h
/-- AskewLettersModel.isSign(I)Z -/
def cy_145 : ax_P1 := fun as z K => ∃ (p1 : Int32) (D : ax_Dn) (E : ax_En), as = [.int p1] ∧ z = ax_S D E ∧ ((p1 < 0 → K (some (Value.int 0)) (ax_S D E)) ∧ (¬p1 < 0 → (10 ≤ p1 → K (some (Value.int 0)) (ax_S D E)) ∧ (¬10 ≤ p1 → K (some (Value.int 1)) (ax_S D E))))
theorem ry_145 (p1 : Int32) (D : ax_Dn) (E : ax_En) (K : ax_Po) : cy_145 [.int p1] (ax_S D E) K = ((p1 < 0 → K (some (Value.int 0)) (ax_S D E)) ∧ (¬p1 < 0 → (10 ≤ p1 → K (some (Value.int 0)) (ax_S D E)) ∧ (¬10 ≤ p1 → K (some (Value.int 1)) (ax_S D E)))) := propext ⟨fun ⟨p1', D', E', h1, h2, h3⟩ => by cases h1; obtain ⟨rfl, rfl⟩ := ax_S_inj h2; exact h3, fun h => ⟨p1, D, E, rfl, rfl, h⟩⟩
set_option maxRecDepth 10000 in
theorem sy_145 {g : ax_G} : ∀ as z K, cy_145 as z K → ax_MM g 145 as z K := by
  rintro _ _ K ⟨p1, D, E, rfl, rfl, h⟩
  refine ax_go145 _ ?_
  refine ax_WPo (l := []) ax_on ax_ok145 (fun _ => false) 400 0 rfl ?_
  simp +decide only [↓ax_B, ax_B, ax_kds, ax_gvs, ax_mcs, ax_ia_S, ax_up_ap, ax_vinL, and_self_left, ax_up_up, ax_up_sw, Nat.reduceAdd, Nat.reduceBEq, Nat.reduceLeDiff, Nat.reduceLT, Nat.reduceEqDiff, ↓reduceIte, true_and, and_true, List.cons_append, List.nil_append, Int32.reduceLT, Int32.reduceLE, Int32.reduceAdd, Int32.reduceToNatClampNeg, Int32.reduceOfNat, true_imp_iff, false_imp_iff, not_true_eq_false, not_false_eq_true, or_true, true_or, or_false, false_or, and_self, Bool.or_true, Bool.or_false, Bool.true_or, Bool.false_or, implies_true, forall_const, Bool.false_eq_true, Int32.neg_neg, ax_X145]
  exact h
/-- AskewLettersModel.strikes(IIIII)V -/
def cy_152 : ax_P1 := fun as z K => ∃ (p1 : Int32) (p2 : Int32) (p3 : Int32) (p4 : Int32) (p5 : Int32) (D : ax_Dn) (E : ax_En), as = [.ref 58, .int p1, .int p2, .int p3, .int p4, .int p5] ∧ z = ax_S D E ∧ (vp_in (D 58 32) 30 ∧ K none (ax_S (ax_up (ax_up (ax_up (ax_up (ax_up (ax_up D 58 (ax_up (D 58) 32 (D 58 32 + 1))) 81 (ax_up (D 81) (D 58 32).toNatClampNeg p1)) 82 (ax_up (D 82) (D 58 32).toNatClampNeg p2)) 83 (ax_up (D 83) (D 58 32).toNatClampNeg p3)) 84 (ax_up (D 84) (D 58 32).toNatClampNeg p4)) 85 (ax_up (D 85) (D 58 32).toNatClampNeg p5)) E))
theorem ry_152 (p1 : Int32) (p2 : Int32) (p3 : Int32) (p4 : Int32) (p5 : Int32) (D : ax_Dn) (E : ax_En) (K : ax_Po) : cy_152 [.ref 58, .int p1, .int p2, .int p3, .int p4, .int p5] (ax_S D E) K = (vp_in (D 58 32) 30 ∧ K none (ax_S (ax_up (ax_up (ax_up (ax_up (ax_up (ax_up D 58 (ax_up (D 58) 32 (D 58 32 + 1))) 81 (ax_up (D 81) (D 58 32).toNatClampNeg p1)) 82 (ax_up (D 82) (D 58 32).toNatClampNeg p2)) 83 (ax_up (D 83) (D 58 32).toNatClampNeg p3)) 84 (ax_up (D 84) (D 58 32).toNatClampNeg p4)) 85 (ax_up (D 85) (D 58 32).toNatClampNeg p5)) E)) := propext ⟨fun ⟨p1', p2', p3', p4', p5', D', E', h1, h2, h3⟩ => by cases h1; obtain ⟨rfl, rfl⟩ := ax_S_inj h2; exact h3, fun h => ⟨p1, p2, p3, p4, p5, D, E, rfl, rfl, h⟩⟩
set_option maxRecDepth 10000 in
theorem sy_152 {g : ax_G} : ∀ as z K, cy_152 as z K → ax_MM g 152 as z K := by
  rintro _ _ K ⟨p1, p2, p3, p4, p5, D, E, rfl, rfl, h⟩
  refine ax_go152 _ _ _ _ _ _ ?_
  refine ax_WPo (l := []) ax_on ax_ok152 (fun _ => false) 400 0 rfl ?_
  simp +decide only [↓ax_B, ax_B, ax_kds, ax_gvs, ax_mcs, ax_ia_S, ax_up_ap, ax_vinL, and_self_left, ax_up_up, ax_up_sw, Nat.reduceAdd, Nat.reduceBEq, Nat.reduceLeDiff, Nat.reduceLT, Nat.reduceEqDiff, ↓reduceIte, true_and, and_true, List.cons_append, List.nil_append, Int32.reduceLT, Int32.reduceLE, Int32.reduceAdd, Int32.reduceToNatClampNeg, Int32.reduceOfNat, true_imp_iff, false_imp_iff, not_true_eq_false, not_false_eq_true, or_true, true_or, or_false, false_or, and_self, Bool.or_true, Bool.or_false, Bool.true_or, Bool.false_or, implies_true, forall_const, Bool.false_eq_true, Int32.neg_neg]
  exact h
/-- AskewLettersModel.apart(II)I -/
def cy_157 : ax_P1 := fun as z K => ∃ (p1 : Int32) (p2 : Int32) (D : ax_Dn) (E : ax_En), as = [.int p1, .int p2] ∧ z = ax_S D E ∧ ((p1 ≤ p2 → K (some (Value.int (p2 - p1))) (ax_S D E)) ∧ (¬p1 ≤ p2 → K (some (Value.int (p1 - p2))) (ax_S D E)))
theorem ry_157 (p1 : Int32) (p2 : Int32) (D : ax_Dn) (E : ax_En) (K : ax_Po) : cy_157 [.int p1, .int p2] (ax_S D E) K = ((p1 ≤ p2 → K (some (Value.int (p2 - p1))) (ax_S D E)) ∧ (¬p1 ≤ p2 → K (some (Value.int (p1 - p2))) (ax_S D E))) := propext ⟨fun ⟨p1', p2', D', E', h1, h2, h3⟩ => by cases h1; obtain ⟨rfl, rfl⟩ := ax_S_inj h2; exact h3, fun h => ⟨p1, p2, D, E, rfl, rfl, h⟩⟩
set_option maxRecDepth 10000 in
theorem sy_157 {g : ax_G} : ∀ as z K, cy_157 as z K → ax_MM g 157 as z K := by
  rintro _ _ K ⟨p1, p2, D, E, rfl, rfl, h⟩
  refine ax_go157 _ _ ?_
  refine ax_WPo (l := []) ax_on ax_ok157 (fun _ => false) 400 0 rfl ?_
  simp +decide only [↓ax_B, ax_B, ax_kds, ax_gvs, ax_mcs, ax_ia_S, ax_up_ap, ax_vinL, and_self_left, ax_up_up, ax_up_sw, Nat.reduceAdd, Nat.reduceBEq, Nat.reduceLeDiff, Nat.reduceLT, Nat.reduceEqDiff, ↓reduceIte, true_and, and_true, List.cons_append, List.nil_append, Int32.reduceLT, Int32.reduceLE, Int32.reduceAdd, Int32.reduceToNatClampNeg, Int32.reduceOfNat, true_imp_iff, false_imp_iff, not_true_eq_false, not_false_eq_true, or_true, true_or, or_false, false_or, and_self, Bool.or_true, Bool.or_false, Bool.true_or, Bool.false_or, implies_true, forall_const, Bool.false_eq_true, Int32.neg_neg, ax_X157]
  exact h
/-- AskewLettersModel.atLeastOne(I)I -/
def cy_158 : ax_P1 := fun as z K => ∃ (p1 : Int32) (D : ax_Dn) (E : ax_En), as = [.int p1] ∧ z = ax_S D E ∧ ((1 ≤ p1 → K (some (Value.int p1)) (ax_S D E)) ∧ (¬1 ≤ p1 → K (some (Value.int 1)) (ax_S D E)))
theorem ry_158 (p1 : Int32) (D : ax_Dn) (E : ax_En) (K : ax_Po) : cy_158 [.int p1] (ax_S D E) K = ((1 ≤ p1 → K (some (Value.int p1)) (ax_S D E)) ∧ (¬1 ≤ p1 → K (some (Value.int 1)) (ax_S D E))) := propext ⟨fun ⟨p1', D', E', h1, h2, h3⟩ => by cases h1; obtain ⟨rfl, rfl⟩ := ax_S_inj h2; exact h3, fun h => ⟨p1, D, E, rfl, rfl, h⟩⟩
set_option maxRecDepth 10000 in
theorem sy_158 {g : ax_G} : ∀ as z K, cy_158 as z K → ax_MM g 158 as z K := by
  rintro _ _ K ⟨p1, D, E, rfl, rfl, h⟩
  refine ax_go158 _ ?_
  refine ax_WPo (l := []) ax_on ax_ok158 (fun _ => false) 400 0 rfl ?_
  simp +decide only [↓ax_B, ax_B, ax_kds, ax_gvs, ax_mcs, ax_ia_S, ax_up_ap, ax_vinL, and_self_left, ax_up_up, ax_up_sw, Nat.reduceAdd, Nat.reduceBEq, Nat.reduceLeDiff, Nat.reduceLT, Nat.reduceEqDiff, ↓reduceIte, true_and, and_true, List.cons_append, List.nil_append, Int32.reduceLT, Int32.reduceLE, Int32.reduceAdd, Int32.reduceToNatClampNeg, Int32.reduceOfNat, true_imp_iff, false_imp_iff, not_true_eq_false, not_false_eq_true, or_true, true_or, or_false, false_or, and_self, Bool.or_true, Bool.or_false, Bool.true_or, Bool.false_or, implies_true, forall_const, Bool.false_eq_true, Int32.neg_neg, ax_X158]
  exact h
/-- AskewLetters$Book.isByte(I)Z -/
def cy_6 : ax_P1 := fun as z K => ∃ (p1 : Int32) (D : ax_Dn) (E : ax_En), as = [.ref 43, .int p1] ∧ z = ax_S D E ∧ ((D 43 2 < 0 → (-9 = p1 → K (some (Value.int 1)) (ax_S (ax_up D 43 (ax_up (D 43) 2 (D 43 2 + 1))) E)) ∧ (¬-9 = p1 → K (some (Value.int 0)) (ax_S D E))) ∧ (¬D 43 2 < 0 → (D 43 1 ≤ D 43 2 → (-9 = p1 → K (some (Value.int 1)) (ax_S (ax_up D 43 (ax_up (D 43) 2 (D 43 2 + 1))) E)) ∧ (¬-9 = p1 → K (some (Value.int 0)) (ax_S D E))) ∧ (¬D 43 1 ≤ D 43 2 → vp_in (D 43 2) 64 ∧ (D 44 (D 43 2).toNatClampNeg = p1 → K (some (Value.int 1)) (ax_S (ax_up D 43 (ax_up (D 43) 2 (D 43 2 + 1))) E)) ∧ (¬D 44 (D 43 2).toNatClampNeg = p1 → K (some (Value.int 0)) (ax_S D E)))))
theorem ry_6 (p1 : Int32) (D : ax_Dn) (E : ax_En) (K : ax_Po) : cy_6 [.ref 43, .int p1] (ax_S D E) K = ((D 43 2 < 0 → (-9 = p1 → K (some (Value.int 1)) (ax_S (ax_up D 43 (ax_up (D 43) 2 (D 43 2 + 1))) E)) ∧ (¬-9 = p1 → K (some (Value.int 0)) (ax_S D E))) ∧ (¬D 43 2 < 0 → (D 43 1 ≤ D 43 2 → (-9 = p1 → K (some (Value.int 1)) (ax_S (ax_up D 43 (ax_up (D 43) 2 (D 43 2 + 1))) E)) ∧ (¬-9 = p1 → K (some (Value.int 0)) (ax_S D E))) ∧ (¬D 43 1 ≤ D 43 2 → vp_in (D 43 2) 64 ∧ (D 44 (D 43 2).toNatClampNeg = p1 → K (some (Value.int 1)) (ax_S (ax_up D 43 (ax_up (D 43) 2 (D 43 2 + 1))) E)) ∧ (¬D 44 (D 43 2).toNatClampNeg = p1 → K (some (Value.int 0)) (ax_S D E))))) := propext ⟨fun ⟨p1', D', E', h1, h2, h3⟩ => by cases h1; obtain ⟨rfl, rfl⟩ := ax_S_inj h2; exact h3, fun h => ⟨p1, D, E, rfl, rfl, h⟩⟩
set_option maxRecDepth 10000 in
theorem sy_6 {g : ax_G} : ∀ as z K, cy_6 as z K → ax_MM g 6 as z K := by
  rintro _ _ K ⟨p1, D, E, rfl, rfl, h⟩
  refine ax_go6 _ _ ?_
  refine ax_WPo (l := [(4, cy_4)]) (ax_oc sy_4 ax_on) ax_ok6 (fun _ => false) 400 0 rfl ?_
  simp +decide only [↓ax_B, ax_B, ax_kds, ax_gvs, ax_mcs, ax_ia_S, ax_up_ap, ax_vinL, and_self_left, ax_up_up, ax_up_sw, Nat.reduceAdd, Nat.reduceBEq, Nat.reduceLeDiff, Nat.reduceLT, Nat.reduceEqDiff, ↓reduceIte, true_and, and_true, List.cons_append, List.nil_append, Int32.reduceLT, Int32.reduceLE, Int32.reduceAdd, Int32.reduceToNatClampNeg, Int32.reduceOfNat, true_imp_iff, false_imp_iff, not_true_eq_false, not_false_eq_true, or_true, true_or, or_false, false_or, and_self, Bool.or_true, Bool.or_false, Bool.true_or, Bool.false_or, implies_true, forall_const, Bool.false_eq_true, Int32.neg_neg, ax_X6, ry_4]
  exact h
/-- AskewLetters$Desk.nicked(II)I -/
def cy_27 : ax_P1 := fun as z K => ∃ (p1 : Int32) (p2 : Int32) (D : ax_Dn) (E : ax_En), as = [.int p1, .int p2] ∧ z = ax_S D E ∧ ((¬p1 = p2 → (¬p1 &&& (p2 ^^^ -1) = 0 → K (some (Value.int 1)) (ax_S D E)) ∧ (p1 &&& (p2 ^^^ -1) = 0 → K (some (Value.int 2)) (ax_S D E))) ∧ (p1 = p2 → K (some (Value.int 4)) (ax_S D E)))
theorem ry_27 (p1 : Int32) (p2 : Int32) (D : ax_Dn) (E : ax_En) (K : ax_Po) : cy_27 [.int p1, .int p2] (ax_S D E) K = ((¬p1 = p2 → (¬p1 &&& (p2 ^^^ -1) = 0 → K (some (Value.int 1)) (ax_S D E)) ∧ (p1 &&& (p2 ^^^ -1) = 0 → K (some (Value.int 2)) (ax_S D E))) ∧ (p1 = p2 → K (some (Value.int 4)) (ax_S D E))) := propext ⟨fun ⟨p1', p2', D', E', h1, h2, h3⟩ => by cases h1; obtain ⟨rfl, rfl⟩ := ax_S_inj h2; exact h3, fun h => ⟨p1, p2, D, E, rfl, rfl, h⟩⟩
set_option maxRecDepth 10000 in
theorem sy_27 {g : ax_G} : ∀ as z K, cy_27 as z K → ax_MM g 27 as z K := by
  rintro _ _ K ⟨p1, p2, D, E, rfl, rfl, h⟩
  refine ax_go27 _ _ ?_
  refine ax_WPo (l := [(28, cy_28)]) (ax_oc sy_28 ax_on) ax_ok27 (fun _ => false) 400 0 rfl ?_
  simp +decide only [↓ax_B, ax_B, ax_kds, ax_gvs, ax_mcs, ax_ia_S, ax_up_ap, ax_vinL, and_self_left, ax_up_up, ax_up_sw, Nat.reduceAdd, Nat.reduceBEq, Nat.reduceLeDiff, Nat.reduceLT, Nat.reduceEqDiff, ↓reduceIte, true_and, and_true, List.cons_append, List.nil_append, Int32.reduceLT, Int32.reduceLE, Int32.reduceAdd, Int32.reduceToNatClampNeg, Int32.reduceOfNat, true_imp_iff, false_imp_iff, not_true_eq_false, not_false_eq_true, or_true, true_or, or_false, false_or, and_self, Bool.or_true, Bool.or_false, Bool.true_or, Bool.false_or, implies_true, forall_const, Bool.false_eq_true, Int32.neg_neg, ax_X27, ry_28]
  exact h
/-- AskewLetters.machineDayFault(II)I -/
def cy_118 : ax_P1 := fun as z K => ∃ (p1 : Int32) (p2 : Int32) (D : ax_Dn) (E : ax_En), as = [.ref 0, .int p1, .int p2] ∧ z = ax_S D E ∧ ((p1 < 0 → K (some (Value.int (-1))) (ax_S D E)) ∧ (¬p1 < 0 → (D 2 0 ≤ p1 → K (some (Value.int (-1))) (ax_S D E)) ∧ (¬D 2 0 ≤ p1 → (0 ≤ p2 → (p2 ≤ 365 → K (some (Value.int 0)) (ax_S D E)) ∧ (¬p2 ≤ 365 → K (some (Value.int (-6))) (ax_S D E))) ∧ (¬0 ≤ p2 → K (some (Value.int (-4))) (ax_S D E)))))
theorem ry_118 (p1 : Int32) (p2 : Int32) (D : ax_Dn) (E : ax_En) (K : ax_Po) : cy_118 [.ref 0, .int p1, .int p2] (ax_S D E) K = ((p1 < 0 → K (some (Value.int (-1))) (ax_S D E)) ∧ (¬p1 < 0 → (D 2 0 ≤ p1 → K (some (Value.int (-1))) (ax_S D E)) ∧ (¬D 2 0 ≤ p1 → (0 ≤ p2 → (p2 ≤ 365 → K (some (Value.int 0)) (ax_S D E)) ∧ (¬p2 ≤ 365 → K (some (Value.int (-6))) (ax_S D E))) ∧ (¬0 ≤ p2 → K (some (Value.int (-4))) (ax_S D E))))) := propext ⟨fun ⟨p1', p2', D', E', h1, h2, h3⟩ => by cases h1; obtain ⟨rfl, rfl⟩ := ax_S_inj h2; exact h3, fun h => ⟨p1, p2, D, E, rfl, rfl, h⟩⟩
set_option maxRecDepth 10000 in
theorem sy_118 {g : ax_G} : ∀ as z K, cy_118 as z K → ax_MM g 118 as z K := by
  rintro _ _ K ⟨p1, p2, D, E, rfl, rfl, h⟩
  refine ax_go118 _ _ _ ?_
  refine ax_WPo (l := [(111, cy_111), (117, cy_117)]) (ax_oc sy_111 (ax_oc sy_117 ax_on)) ax_ok118 (fun _ => false) 400 0 rfl ?_
  simp +decide only [↓ax_B, ax_B, ax_kds, ax_gvs, ax_mcs, ax_ia_S, ax_up_ap, ax_vinL, and_self_left, ax_up_up, ax_up_sw, Nat.reduceAdd, Nat.reduceBEq, Nat.reduceLeDiff, Nat.reduceLT, Nat.reduceEqDiff, ↓reduceIte, true_and, and_true, List.cons_append, List.nil_append, Int32.reduceLT, Int32.reduceLE, Int32.reduceAdd, Int32.reduceToNatClampNeg, Int32.reduceOfNat, true_imp_iff, false_imp_iff, not_true_eq_false, not_false_eq_true, or_true, true_or, or_false, false_or, and_self, Bool.or_true, Bool.or_false, Bool.true_or, Bool.false_or, implies_true, forall_const, Bool.false_eq_true, Int32.neg_neg, ax_X118, ry_111, ry_117]
  exact h
/-- AskewLetters.sittingsFault(I)I -/
def cy_120 : ax_P1 := fun as z K => ∃ (p1 : Int32) (D : ax_Dn) (E : ax_En), as = [.ref 0, .int p1] ∧ z = ax_S D E ∧ ((p1 < 0 → K (some (Value.int (-1))) (ax_S D E)) ∧ (¬p1 < 0 → (D 2 0 ≤ p1 → K (some (Value.int (-1))) (ax_S D E)) ∧ (¬D 2 0 ≤ p1 → (2 ≤ D 12 0 → K (some (Value.int 0)) (ax_S D E)) ∧ (¬2 ≤ D 12 0 → K (some (Value.int (-3))) (ax_S D E)))))
theorem ry_120 (p1 : Int32) (D : ax_Dn) (E : ax_En) (K : ax_Po) : cy_120 [.ref 0, .int p1] (ax_S D E) K = ((p1 < 0 → K (some (Value.int (-1))) (ax_S D E)) ∧ (¬p1 < 0 → (D 2 0 ≤ p1 → K (some (Value.int (-1))) (ax_S D E)) ∧ (¬D 2 0 ≤ p1 → (2 ≤ D 12 0 → K (some (Value.int 0)) (ax_S D E)) ∧ (¬2 ≤ D 12 0 → K (some (Value.int (-3))) (ax_S D E))))) := propext ⟨fun ⟨p1', D', E', h1, h2, h3⟩ => by cases h1; obtain ⟨rfl, rfl⟩ := ax_S_inj h2; exact h3, fun h => ⟨p1, D, E, rfl, rfl, h⟩⟩
set_option maxRecDepth 10000 in
theorem sy_120 {g : ax_G} : ∀ as z K, cy_120 as z K → ax_MM g 120 as z K := by
  rintro _ _ K ⟨p1, D, E, rfl, rfl, h⟩
  refine ax_go120 _ _ ?_
  refine ax_WPo (l := [(111, cy_111)]) (ax_oc sy_111 ax_on) ax_ok120 (fun _ => false) 400 0 rfl ?_
  simp +decide only [↓ax_B, ax_B, ax_kds, ax_gvs, ax_mcs, ax_ia_S, ax_up_ap, ax_vinL, and_self_left, ax_up_up, ax_up_sw, Nat.reduceAdd, Nat.reduceBEq, Nat.reduceLeDiff, Nat.reduceLT, Nat.reduceEqDiff, ↓reduceIte, true_and, and_true, List.cons_append, List.nil_append, Int32.reduceLT, Int32.reduceLE, Int32.reduceAdd, Int32.reduceToNatClampNeg, Int32.reduceOfNat, true_imp_iff, false_imp_iff, not_true_eq_false, not_false_eq_true, or_true, true_or, or_false, false_or, and_self, Bool.or_true, Bool.or_false, Bool.true_or, Bool.false_or, implies_true, forall_const, Bool.false_eq_true, Int32.neg_neg, ax_X120, ry_111]
  exact h
/-- AskewLettersModel.takes(I)Z -/
def cy_133 : ax_P1 := fun as z K => ∃ (p1 : Int32) (D : ax_Dn) (E : ax_En), as = [.ref 58, .int p1] ∧ z = ax_S D E ∧ ((D 58 20 ≤ D 58 21 → (-1 = p1 → K (some (Value.int 1)) (ax_S (ax_up D 58 (ax_up (D 58) 21 (D 58 21 + 1))) E)) ∧ (¬-1 = p1 → K (some (Value.int 0)) (ax_S D E))) ∧ (¬D 58 20 ≤ D 58 21 → vp_in (D 58 21) 64 ∧ (D 60 (D 58 21).toNatClampNeg = p1 → K (some (Value.int 1)) (ax_S (ax_up D 58 (ax_up (D 58) 21 (D 58 21 + 1))) E)) ∧ (¬D 60 (D 58 21).toNatClampNeg = p1 → K (some (Value.int 0)) (ax_S D E))))
theorem ry_133 (p1 : Int32) (D : ax_Dn) (E : ax_En) (K : ax_Po) : cy_133 [.ref 58, .int p1] (ax_S D E) K = ((D 58 20 ≤ D 58 21 → (-1 = p1 → K (some (Value.int 1)) (ax_S (ax_up D 58 (ax_up (D 58) 21 (D 58 21 + 1))) E)) ∧ (¬-1 = p1 → K (some (Value.int 0)) (ax_S D E))) ∧ (¬D 58 20 ≤ D 58 21 → vp_in (D 58 21) 64 ∧ (D 60 (D 58 21).toNatClampNeg = p1 → K (some (Value.int 1)) (ax_S (ax_up D 58 (ax_up (D 58) 21 (D 58 21 + 1))) E)) ∧ (¬D 60 (D 58 21).toNatClampNeg = p1 → K (some (Value.int 0)) (ax_S D E)))) := propext ⟨fun ⟨p1', D', E', h1, h2, h3⟩ => by cases h1; obtain ⟨rfl, rfl⟩ := ax_S_inj h2; exact h3, fun h => ⟨p1, D, E, rfl, rfl, h⟩⟩
set_option maxRecDepth 10000 in
theorem sy_133 {g : ax_G} : ∀ as z K, cy_133 as z K → ax_MM g 133 as z K := by
  rintro _ _ K ⟨p1, D, E, rfl, rfl, h⟩
  refine ax_go133 _ _ ?_
  refine ax_WPo (l := [(131, cy_131)]) (ax_oc sy_131 ax_on) ax_ok133 (fun _ => false) 400 0 rfl ?_
  simp +decide only [↓ax_B, ax_B, ax_kds, ax_gvs, ax_mcs, ax_ia_S, ax_up_ap, ax_vinL, and_self_left, ax_up_up, ax_up_sw, Nat.reduceAdd, Nat.reduceBEq, Nat.reduceLeDiff, Nat.reduceLT, Nat.reduceEqDiff, ↓reduceIte, true_and, and_true, List.cons_append, List.nil_append, Int32.reduceLT, Int32.reduceLE, Int32.reduceAdd, Int32.reduceToNatClampNeg, Int32.reduceOfNat, true_imp_iff, false_imp_iff, not_true_eq_false, not_false_eq_true, or_true, true_or, or_false, false_or, and_self, Bool.or_true, Bool.or_false, Bool.true_or, Bool.false_or, implies_true, forall_const, Bool.false_eq_true, Int32.neg_neg, ax_X133, ry_131]
  exact h
/-- AskewLettersModel.notSign(III)I -/
def cy_146 : ax_P1 := fun as z K => ∃ (p1 : Int32) (p2 : Int32) (p3 : Int32) (D : ax_Dn) (E : ax_En), as = [.ref 58, .int p1, .int p2, .int p3] ∧ z = ax_S D E ∧ ((p1 < 0 → K (some (Value.int (-1))) (ax_S D E)) ∧ (¬p1 < 0 → (D 58 22 ≤ p1 → K (some (Value.int (-1))) (ax_S D E)) ∧ (¬D 58 22 ≤ p1 → (p2 < 0 → K (some (Value.int (-1))) (ax_S D E)) ∧ (¬p2 < 0 → (10 ≤ p2 → K (some (Value.int (-1))) (ax_S D E)) ∧ (¬10 ≤ p2 → (0 ≤ p3 → (p3 ≤ 365 → K (some (Value.int 0)) (ax_S D E)) ∧ (¬p3 ≤ 365 → K (some (Value.int (-6))) (ax_S D E))) ∧ (¬0 ≤ p3 → K (some (Value.int (-4))) (ax_S D E)))))))
theorem ry_146 (p1 : Int32) (p2 : Int32) (p3 : Int32) (D : ax_Dn) (E : ax_En) (K : ax_Po) : cy_146 [.ref 58, .int p1, .int p2, .int p3] (ax_S D E) K = ((p1 < 0 → K (some (Value.int (-1))) (ax_S D E)) ∧ (¬p1 < 0 → (D 58 22 ≤ p1 → K (some (Value.int (-1))) (ax_S D E)) ∧ (¬D 58 22 ≤ p1 → (p2 < 0 → K (some (Value.int (-1))) (ax_S D E)) ∧ (¬p2 < 0 → (10 ≤ p2 → K (some (Value.int (-1))) (ax_S D E)) ∧ (¬10 ≤ p2 → (0 ≤ p3 → (p3 ≤ 365 → K (some (Value.int 0)) (ax_S D E)) ∧ (¬p3 ≤ 365 → K (some (Value.int (-6))) (ax_S D E))) ∧ (¬0 ≤ p3 → K (some (Value.int (-4))) (ax_S D E))))))) := propext ⟨fun ⟨p1', p2', p3', D', E', h1, h2, h3⟩ => by cases h1; obtain ⟨rfl, rfl⟩ := ax_S_inj h2; exact h3, fun h => ⟨p1, p2, p3, D, E, rfl, rfl, h⟩⟩
set_option maxRecDepth 10000 in
theorem sy_146 {g : ax_G} : ∀ as z K, cy_146 as z K → ax_MM g 146 as z K := by
  rintro _ _ K ⟨p1, p2, p3, D, E, rfl, rfl, h⟩
  refine ax_go146 _ _ _ _ ?_
  refine ax_WPo (l := [(129, cy_129), (144, cy_144), (145, cy_145)]) (ax_oc sy_129 (ax_oc sy_144 (ax_oc sy_145 ax_on))) ax_ok146 (fun _ => false) 400 0 rfl ?_
  simp +decide only [↓ax_B, ax_B, ax_kds, ax_gvs, ax_mcs, ax_ia_S, ax_up_ap, ax_vinL, and_self_left, ax_up_up, ax_up_sw, Nat.reduceAdd, Nat.reduceBEq, Nat.reduceLeDiff, Nat.reduceLT, Nat.reduceEqDiff, ↓reduceIte, true_and, and_true, List.cons_append, List.nil_append, Int32.reduceLT, Int32.reduceLE, Int32.reduceAdd, Int32.reduceToNatClampNeg, Int32.reduceOfNat, true_imp_iff, false_imp_iff, not_true_eq_false, not_false_eq_true, or_true, true_or, or_false, false_or, and_self, Bool.or_true, Bool.or_false, Bool.true_or, Bool.false_or, implies_true, forall_const, Bool.false_eq_true, Int32.neg_neg, ax_X146, ry_129, ry_144, ry_145]
  exact h
/-- AskewLettersModel.notDay(II)I -/
def cy_164 : ax_P1 := fun as z K => ∃ (p1 : Int32) (p2 : Int32) (D : ax_Dn) (E : ax_En), as = [.ref 58, .int p1, .int p2] ∧ z = ax_S D E ∧ ((p1 < 0 → K (some (Value.int (-1))) (ax_S D E)) ∧ (¬p1 < 0 → (D 58 22 ≤ p1 → K (some (Value.int (-1))) (ax_S D E)) ∧ (¬D 58 22 ≤ p1 → (0 ≤ p2 → (p2 ≤ 365 → K (some (Value.int 0)) (ax_S D E)) ∧ (¬p2 ≤ 365 → K (some (Value.int (-6))) (ax_S D E))) ∧ (¬0 ≤ p2 → K (some (Value.int (-4))) (ax_S D E)))))
theorem ry_164 (p1 : Int32) (p2 : Int32) (D : ax_Dn) (E : ax_En) (K : ax_Po) : cy_164 [.ref 58, .int p1, .int p2] (ax_S D E) K = ((p1 < 0 → K (some (Value.int (-1))) (ax_S D E)) ∧ (¬p1 < 0 → (D 58 22 ≤ p1 → K (some (Value.int (-1))) (ax_S D E)) ∧ (¬D 58 22 ≤ p1 → (0 ≤ p2 → (p2 ≤ 365 → K (some (Value.int 0)) (ax_S D E)) ∧ (¬p2 ≤ 365 → K (some (Value.int (-6))) (ax_S D E))) ∧ (¬0 ≤ p2 → K (some (Value.int (-4))) (ax_S D E))))) := propext ⟨fun ⟨p1', p2', D', E', h1, h2, h3⟩ => by cases h1; obtain ⟨rfl, rfl⟩ := ax_S_inj h2; exact h3, fun h => ⟨p1, p2, D, E, rfl, rfl, h⟩⟩
set_option maxRecDepth 10000 in
theorem sy_164 {g : ax_G} : ∀ as z K, cy_164 as z K → ax_MM g 164 as z K := by
  rintro _ _ K ⟨p1, p2, D, E, rfl, rfl, h⟩
  refine ax_go164 _ _ _ ?_
  refine ax_WPo (l := [(129, cy_129), (144, cy_144)]) (ax_oc sy_129 (ax_oc sy_144 ax_on)) ax_ok164 (fun _ => false) 400 0 rfl ?_
  simp +decide only [↓ax_B, ax_B, ax_kds, ax_gvs, ax_mcs, ax_ia_S, ax_up_ap, ax_vinL, and_self_left, ax_up_up, ax_up_sw, Nat.reduceAdd, Nat.reduceBEq, Nat.reduceLeDiff, Nat.reduceLT, Nat.reduceEqDiff, ↓reduceIte, true_and, and_true, List.cons_append, List.nil_append, Int32.reduceLT, Int32.reduceLE, Int32.reduceAdd, Int32.reduceToNatClampNeg, Int32.reduceOfNat, true_imp_iff, false_imp_iff, not_true_eq_false, not_false_eq_true, or_true, true_or, or_false, false_or, and_self, Bool.or_true, Bool.or_false, Bool.true_or, Bool.false_or, implies_true, forall_const, Bool.false_eq_true, Int32.neg_neg, ax_X164, ry_129, ry_144]
  exact h
/-- AskewLettersModel.notParted(I)I -/
def cy_180 : ax_P1 := fun as z K => ∃ (p1 : Int32) (D : ax_Dn) (E : ax_En), as = [.ref 58, .int p1] ∧ z = ax_S D E ∧ ((p1 < 0 → K (some (Value.int (-1))) (ax_S D E)) ∧ (¬p1 < 0 → (D 58 22 ≤ p1 → K (some (Value.int (-1))) (ax_S D E)) ∧ (¬D 58 22 ≤ p1 → (2 ≤ D 58 32 → K (some (Value.int 0)) (ax_S D E)) ∧ (¬2 ≤ D 58 32 → K (some (Value.int (-3))) (ax_S D E)))))
theorem ry_180 (p1 : Int32) (D : ax_Dn) (E : ax_En) (K : ax_Po) : cy_180 [.ref 58, .int p1] (ax_S D E) K = ((p1 < 0 → K (some (Value.int (-1))) (ax_S D E)) ∧ (¬p1 < 0 → (D 58 22 ≤ p1 → K (some (Value.int (-1))) (ax_S D E)) ∧ (¬D 58 22 ≤ p1 → (2 ≤ D 58 32 → K (some (Value.int 0)) (ax_S D E)) ∧ (¬2 ≤ D 58 32 → K (some (Value.int (-3))) (ax_S D E))))) := propext ⟨fun ⟨p1', D', E', h1, h2, h3⟩ => by cases h1; obtain ⟨rfl, rfl⟩ := ax_S_inj h2; exact h3, fun h => ⟨p1, D, E, rfl, rfl, h⟩⟩
set_option maxRecDepth 10000 in
theorem sy_180 {g : ax_G} : ∀ as z K, cy_180 as z K → ax_MM g 180 as z K := by
  rintro _ _ K ⟨p1, D, E, rfl, rfl, h⟩
  refine ax_go180 _ _ ?_
  refine ax_WPo (l := [(144, cy_144)]) (ax_oc sy_144 ax_on) ax_ok180 (fun _ => false) 400 0 rfl ?_
  simp +decide only [↓ax_B, ax_B, ax_kds, ax_gvs, ax_mcs, ax_ia_S, ax_up_ap, ax_vinL, and_self_left, ax_up_up, ax_up_sw, Nat.reduceAdd, Nat.reduceBEq, Nat.reduceLeDiff, Nat.reduceLT, Nat.reduceEqDiff, ↓reduceIte, true_and, and_true, List.cons_append, List.nil_append, Int32.reduceLT, Int32.reduceLE, Int32.reduceAdd, Int32.reduceToNatClampNeg, Int32.reduceOfNat, true_imp_iff, false_imp_iff, not_true_eq_false, not_false_eq_true, or_true, true_or, or_false, false_or, and_self, Bool.or_true, Bool.or_false, Bool.true_or, Bool.false_or, implies_true, forall_const, Bool.false_eq_true, Int32.neg_neg, ax_X180, ry_144]
  exact h
/-- AskewLetters.barFault(III)I -/
def cy_119 : ax_P1 := fun as z K => ∃ (p1 : Int32) (p2 : Int32) (p3 : Int32) (D : ax_Dn) (E : ax_En), as = [.ref 0, .int p1, .int p2, .int p3] ∧ z = ax_S D E ∧ ((p2 < 0 → K (some (Value.int (-1))) (ax_S D E)) ∧ (¬p2 < 0 → (10 ≤ p2 → K (some (Value.int (-1))) (ax_S D E)) ∧ (¬10 ≤ p2 → (p1 < 0 → K (some (Value.int (-1))) (ax_S D E)) ∧ (¬p1 < 0 → (D 2 0 ≤ p1 → K (some (Value.int (-1))) (ax_S D E)) ∧ (¬D 2 0 ≤ p1 → (0 ≤ p3 → (p3 ≤ 365 → K (some (Value.int 0)) (ax_S D E)) ∧ (¬p3 ≤ 365 → K (some (Value.int (-6))) (ax_S D E))) ∧ (¬0 ≤ p3 → K (some (Value.int (-4))) (ax_S D E)))))))
theorem ry_119 (p1 : Int32) (p2 : Int32) (p3 : Int32) (D : ax_Dn) (E : ax_En) (K : ax_Po) : cy_119 [.ref 0, .int p1, .int p2, .int p3] (ax_S D E) K = ((p2 < 0 → K (some (Value.int (-1))) (ax_S D E)) ∧ (¬p2 < 0 → (10 ≤ p2 → K (some (Value.int (-1))) (ax_S D E)) ∧ (¬10 ≤ p2 → (p1 < 0 → K (some (Value.int (-1))) (ax_S D E)) ∧ (¬p1 < 0 → (D 2 0 ≤ p1 → K (some (Value.int (-1))) (ax_S D E)) ∧ (¬D 2 0 ≤ p1 → (0 ≤ p3 → (p3 ≤ 365 → K (some (Value.int 0)) (ax_S D E)) ∧ (¬p3 ≤ 365 → K (some (Value.int (-6))) (ax_S D E))) ∧ (¬0 ≤ p3 → K (some (Value.int (-4))) (ax_S D E))))))) := propext ⟨fun ⟨p1', p2', p3', D', E', h1, h2, h3⟩ => by cases h1; obtain ⟨rfl, rfl⟩ := ax_S_inj h2; exact h3, fun h => ⟨p1, p2, p3, D, E, rfl, rfl, h⟩⟩
set_option maxRecDepth 10000 in
theorem sy_119 {g : ax_G} : ∀ as z K, cy_119 as z K → ax_MM g 119 as z K := by
  rintro _ _ K ⟨p1, p2, p3, D, E, rfl, rfl, h⟩
  refine ax_go119 _ _ _ _ ?_
  refine ax_WPo (l := [(112, cy_112), (118, cy_118)]) (ax_oc sy_112 (ax_oc sy_118 ax_on)) ax_ok119 (fun _ => false) 400 0 rfl ?_
  simp +decide only [↓ax_B, ax_B, ax_kds, ax_gvs, ax_mcs, ax_ia_S, ax_up_ap, ax_vinL, and_self_left, ax_up_up, ax_up_sw, Nat.reduceAdd, Nat.reduceBEq, Nat.reduceLeDiff, Nat.reduceLT, Nat.reduceEqDiff, ↓reduceIte, true_and, and_true, List.cons_append, List.nil_append, Int32.reduceLT, Int32.reduceLE, Int32.reduceAdd, Int32.reduceToNatClampNeg, Int32.reduceOfNat, true_imp_iff, false_imp_iff, not_true_eq_false, not_false_eq_true, or_true, true_or, or_false, false_or, and_self, Bool.or_true, Bool.or_false, Bool.true_or, Bool.false_or, implies_true, forall_const, Bool.false_eq_true, Int32.neg_neg, ax_X119, ry_112, ry_118]
  exact h
/-- the place of a stroke on a ribbon of length l -/
def pl_F (i l : Int32) : Int32 := if l ≤ i - i / (2 * l) * (2 * l) then 2 * l - 1 - (i - i / (2 * l) * (2 * l)) else i - i / (2 * l) * (2 * l)
/-- AskewLetters$Page.placeOf(II)I -/
def cy_54 : ax_P1 := fun as z K => ∃ (p1 : Int32) (p2 : Int32) (D : ax_Dn) (E : ax_En), as = [.int p1, .int p2] ∧ z = ax_S D E ∧ (1 ≤ p2 ∧ ¬ 2 * p2 = 0 ∧ K (some (.int (pl_F p1 p2))) (ax_S D E))
theorem ry_54 (p1 : Int32) (p2 : Int32) (D : ax_Dn) (E : ax_En) (K : ax_Po) : cy_54 [.int p1, .int p2] (ax_S D E) K = (1 ≤ p2 ∧ ¬ 2 * p2 = 0 ∧ K (some (.int (pl_F p1 p2))) (ax_S D E)) := propext ⟨fun ⟨p1', p2', D', E', h1, h2, h3⟩ => by cases h1; obtain ⟨rfl, rfl⟩ := ax_S_inj h2; exact h3, fun h => ⟨p1, p2, D, E, rfl, rfl, h⟩⟩
theorem sy_54 {g : ax_G} : ∀ as z K, cy_54 as z K → ax_MM g 54 as z K := by
  rintro _ _ K ⟨p1, p2, D, E, rfl, rfl, h⟩
  refine ax_go54 _ _ ?_
  obtain ⟨h1, h2, h⟩ := h
  unfold pl_F at h
  refine ax_WPo (l := []) ax_on ax_ok54 (fun _ => false) 400 0 rfl ?_
  simp +decide only [↓ax_B, ax_B, ax_kds, ax_gvs, ax_mcs, ax_ia_S, ax_up_ap, ax_vinL, and_self_left, ax_up_up, ax_up_sw, Nat.reduceAdd, Nat.reduceBEq, Nat.reduceLeDiff, Nat.reduceLT, Nat.reduceEqDiff, ↓reduceIte, true_and, and_true, List.cons_append, List.nil_append, Int32.reduceLT, Int32.reduceLE, Int32.reduceAdd, Int32.reduceToNatClampNeg, Int32.reduceOfNat, true_imp_iff, false_imp_iff, not_true_eq_false, not_false_eq_true, or_true, true_or, or_false, false_or, and_self, Bool.or_true, Bool.or_false, Bool.true_or, Bool.false_or, implies_true, forall_const, Bool.false_eq_true, Int32.neg_neg, ax_X54, h1, h2]
  refine ⟨fun c => ?_, fun c => ?_⟩
  · rw [if_pos c] at h
    exact h
  · rw [if_neg c] at h
    exact h
/-- AskewLettersModel.placeOf(I)I -/
def cy_191 : ax_P1 := fun as z K => ∃ (p1 : Int32) (D : ax_Dn) (E : ax_En), as = [.ref 58, .int p1] ∧ z = ax_S D E ∧ (¬ 2 * D 76 4 = 0 ∧ K (some (.int (pl_F p1 (D 76 4)))) (ax_S D E))
theorem ry_191 (p1 : Int32) (D : ax_Dn) (E : ax_En) (K : ax_Po) : cy_191 [.ref 58, .int p1] (ax_S D E) K = (¬ 2 * D 76 4 = 0 ∧ K (some (.int (pl_F p1 (D 76 4)))) (ax_S D E)) := propext ⟨fun ⟨p1', D', E', h1, h2, h3⟩ => by cases h1; obtain ⟨rfl, rfl⟩ := ax_S_inj h2; exact h3, fun h => ⟨p1, D, E, rfl, rfl, h⟩⟩
theorem sy_191 {g : ax_G} : ∀ as z K, cy_191 as z K → ax_MM g 191 as z K := by
  rintro _ _ K ⟨p1, D, E, rfl, rfl, h⟩
  refine ax_go191 _ _ ?_
  obtain ⟨h2, h⟩ := h
  unfold pl_F at h
  refine ax_WPo (l := []) ax_on ax_ok191 (fun _ => false) 400 0 rfl ?_
  simp +decide only [↓ax_B, ax_B, ax_kds, ax_gvs, ax_mcs, ax_ia_S, ax_up_ap, ax_vinL, and_self_left, ax_up_up, ax_up_sw, Nat.reduceAdd, Nat.reduceBEq, Nat.reduceLeDiff, Nat.reduceLT, Nat.reduceEqDiff, ↓reduceIte, true_and, and_true, List.cons_append, List.nil_append, Int32.reduceLT, Int32.reduceLE, Int32.reduceAdd, Int32.reduceToNatClampNeg, Int32.reduceOfNat, true_imp_iff, false_imp_iff, not_true_eq_false, not_false_eq_true, or_true, true_or, or_false, false_or, and_self, Bool.or_true, Bool.or_false, Bool.true_or, Bool.false_or, implies_true, forall_const, Bool.false_eq_true, Int32.neg_neg, ax_X191, h2]
  refine ⟨fun c => ?_, fun c => ?_⟩
  · rw [if_neg (Int32.not_le.mpr c)] at h
    exact h
  · rw [if_pos (Int32.not_lt.mp c)] at h
    exact h
