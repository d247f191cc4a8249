/-! Products and likes. -/
/-- the desk of the class, of the model: what the numbers keep to -/
def okC (D : ax_Dn) : Prop := ax_cnt (D 2 0) 6 ∧ ax_cnt (D 2 5) 20 ∧ ax_cnt (D 12 0) 30 ∧ sg_ok (D 13) ∧ (∀ k, rg_ (D 14 k) (-9) 9) ∧ (∀ k, ax_cnt (D 15 k) 15) ∧ (∀ k, ax_cnt (D 16 k) 13) ∧ (∀ k, ax_cnt (D 17 k) 9) ∧ (∀ k, ax_cnt (D 6 k) 9) ∧ (∀ k, rg_ (D 5 k) (-9) 9) ∧ rg_ (D 21 0) 0 8 ∧ rg_ (D 21 1) 0 31 ∧ rg_ (D 21 2) 0 99 ∧ rg_ (D 21 3) 0 3 ∧ rg_ (D 21 4) 1 60 ∧ ax_cnt (D 19 0) 4 ∧ (∀ k, ax_cnt (D 20 k) 9)
def okM (D : ax_Dn) : Prop := ax_cnt (D 58 22) 6 ∧ ax_cnt (D 58 23) 20 ∧ ax_cnt (D 58 32) 30 ∧ sg_ok (D 81) ∧ (∀ k, rg_ (D 82 k) (-9) 9) ∧ (∀ k, ax_cnt (D 83 k) 15) ∧ (∀ k, ax_cnt (D 84 k) 13) ∧ (∀ k, ax_cnt (D 85 k) 9) ∧ (∀ k, ax_cnt (D 70 k) 9) ∧ (∀ k, rg_ (D 69 k) (-9) 9) ∧ rg_ (D 76 0) 0 8 ∧ rg_ (D 76 1) 0 31 ∧ rg_ (D 76 2) 0 99 ∧ rg_ (D 76 3) 0 3 ∧ rg_ (D 76 4) 1 60 ∧ ax_cnt (D 58 35) 4 ∧ (∀ k, ax_cnt (D 86 k) 9)
def FC (D : ax_Dn) (i : Nat) (m d k : Int32) : Int32 := fa_ (D 21 0) (D 13) (D 14) (D 15) (D 16) (D 5) (lC_ (D 5) (D 7) (D 8) (D 9) (D 10) (D 11) (D 2 5).toNatClampNeg) (nC_ (D 7) (D 8) (D 9) (D 10) (D 11) (D 2 5).toNatClampNeg) (dr_ (D 4) (D 6)) i m d k
def FM (D : ax_Dn) (i : Nat) (m d k : Int32) : Int32 := fa_ (D 76 0) (D 81) (D 82) (D 83) (D 84) (D 69) (lM_ (D 69) (D 71) (D 72) (D 73) (D 74) (D 75) (D 58 23).toNatClampNeg) (nM_ (D 71) (D 72) (D 73) (D 74) (D 75) (D 58 23).toNatClampNeg) (dr_ (D 68) (D 70)) i m d k
def kC (k : Nat) : Bool := [2, 4, 5, 6, 7, 8, 9, 10, 11, 12, 13, 14, 15, 16, 17, 19, 20, 21].all fun j => decide (j ≠ k)
def kM (k : Nat) : Bool := [58, 68, 69, 70, 71, 72, 73, 74, 75, 76, 81, 82, 83, 84, 85, 86].all fun j => decide (j ≠ k)
theorem kC_ne {k j : Nat} (h : kC k = true) (hj : j ∈ [2, 4, 5, 6, 7, 8, 9, 10, 11, 12, 13, 14, 15, 16, 17, 19, 20, 21]) : j ≠ k := of_decide_eq_true (List.all_eq_true.mp h j hj)
theorem kM_ne {k j : Nat} (h : kM k = true) (hj : j ∈ [58, 68, 69, 70, 71, 72, 73, 74, 75, 76, 81, 82, 83, 84, 85, 86]) : j ≠ k := of_decide_eq_true (List.all_eq_true.mp h j hj)
theorem FC_up (D : ax_Dn) (k : Nat) (a : Nat → Int32) (h : kC k = true) : FC (ax_up D k a) = FC D := by
  funext i m d q
  unfold FC
  simp only [ax_up_n D a (kC_ne h (show 2 ∈ _ by decide)), ax_up_n D a (kC_ne h (show 4 ∈ _ by decide)), ax_up_n D a (kC_ne h (show 5 ∈ _ by decide)), ax_up_n D a (kC_ne h (show 6 ∈ _ by decide)), ax_up_n D a (kC_ne h (show 7 ∈ _ by decide)), ax_up_n D a (kC_ne h (show 8 ∈ _ by decide)), ax_up_n D a (kC_ne h (show 9 ∈ _ by decide)), ax_up_n D a (kC_ne h (show 10 ∈ _ by decide)), ax_up_n D a (kC_ne h (show 11 ∈ _ by decide)), ax_up_n D a (kC_ne h (show 13 ∈ _ by decide)), ax_up_n D a (kC_ne h (show 14 ∈ _ by decide)), ax_up_n D a (kC_ne h (show 15 ∈ _ by decide)), ax_up_n D a (kC_ne h (show 16 ∈ _ by decide)), ax_up_n D a (kC_ne h (show 21 ∈ _ by decide))]
theorem FC_12 (D : ax_Dn) (a : Nat → Int32) : FC (ax_up D 12 a) = FC D := by
  funext i m d q
  unfold FC
  simp only [ax_up_n D a (show 2 ≠ 12 by decide), ax_up_n D a (show 4 ≠ 12 by decide), ax_up_n D a (show 5 ≠ 12 by decide), ax_up_n D a (show 6 ≠ 12 by decide), ax_up_n D a (show 7 ≠ 12 by decide), ax_up_n D a (show 8 ≠ 12 by decide), ax_up_n D a (show 9 ≠ 12 by decide), ax_up_n D a (show 10 ≠ 12 by decide), ax_up_n D a (show 11 ≠ 12 by decide), ax_up_n D a (show 13 ≠ 12 by decide), ax_up_n D a (show 14 ≠ 12 by decide), ax_up_n D a (show 15 ≠ 12 by decide), ax_up_n D a (show 16 ≠ 12 by decide), ax_up_n D a (show 21 ≠ 12 by decide)]
theorem okC_up (D : ax_Dn) (k : Nat) (a : Nat → Int32) (h : kC k = true) : okC (ax_up D k a) = okC D := by
  unfold okC
  simp only [ax_up_n D a (kC_ne h (show 2 ∈ _ by decide)), ax_up_n D a (kC_ne h (show 5 ∈ _ by decide)), ax_up_n D a (kC_ne h (show 6 ∈ _ by decide)), ax_up_n D a (kC_ne h (show 12 ∈ _ by decide)), ax_up_n D a (kC_ne h (show 13 ∈ _ by decide)), ax_up_n D a (kC_ne h (show 14 ∈ _ by decide)), ax_up_n D a (kC_ne h (show 15 ∈ _ by decide)), ax_up_n D a (kC_ne h (show 16 ∈ _ by decide)), ax_up_n D a (kC_ne h (show 17 ∈ _ by decide)), ax_up_n D a (kC_ne h (show 19 ∈ _ by decide)), ax_up_n D a (kC_ne h (show 20 ∈ _ by decide)), ax_up_n D a (kC_ne h (show 21 ∈ _ by decide))]
theorem okC_12 (D : ax_Dn) (v : Int32) : okC (ax_up D 12 (ax_up (D 12) 6 v)) = okC D := by
  unfold okC
  simp only [ax_up_n D _ (show 2 ≠ 12 by decide), ax_up_n D _ (show 5 ≠ 12 by decide), ax_up_n D _ (show 6 ≠ 12 by decide), ax_up_s, ax_up_n (D 12) v (show 0 ≠ 6 by decide), ax_up_n D _ (show 13 ≠ 12 by decide), ax_up_n D _ (show 14 ≠ 12 by decide), ax_up_n D _ (show 15 ≠ 12 by decide), ax_up_n D _ (show 16 ≠ 12 by decide), ax_up_n D _ (show 17 ≠ 12 by decide), ax_up_n D _ (show 19 ≠ 12 by decide), ax_up_n D _ (show 20 ≠ 12 by decide), ax_up_n D _ (show 21 ≠ 12 by decide)]
theorem FM_up (D : ax_Dn) (k : Nat) (a : Nat → Int32) (h : kM k = true) : FM (ax_up D k a) = FM D := by
  funext i m d q
  unfold FM
  simp only [ax_up_n D a (kM_ne h (show 58 ∈ _ by decide)), ax_up_n D a (kM_ne h (show 68 ∈ _ by decide)), ax_up_n D a (kM_ne h (show 69 ∈ _ by decide)), ax_up_n D a (kM_ne h (show 70 ∈ _ by decide)), ax_up_n D a (kM_ne h (show 71 ∈ _ by decide)), ax_up_n D a (kM_ne h (show 72 ∈ _ by decide)), ax_up_n D a (kM_ne h (show 73 ∈ _ by decide)), ax_up_n D a (kM_ne h (show 74 ∈ _ by decide)), ax_up_n D a (kM_ne h (show 75 ∈ _ by decide)), ax_up_n D a (kM_ne h (show 76 ∈ _ by decide)), ax_up_n D a (kM_ne h (show 81 ∈ _ by decide)), ax_up_n D a (kM_ne h (show 82 ∈ _ by decide)), ax_up_n D a (kM_ne h (show 83 ∈ _ by decide)), ax_up_n D a (kM_ne h (show 84 ∈ _ by decide))]
theorem okM_up (D : ax_Dn) (k : Nat) (a : Nat → Int32) (h : kM k = true) : okM (ax_up D k a) = okM D := by
  unfold okM
  simp only [ax_up_n D a (kM_ne h (show 58 ∈ _ by decide)), ax_up_n D a (kM_ne h (show 69 ∈ _ by decide)), ax_up_n D a (kM_ne h (show 70 ∈ _ by decide)), ax_up_n D a (kM_ne h (show 76 ∈ _ by decide)), ax_up_n D a (kM_ne h (show 81 ∈ _ by decide)), ax_up_n D a (kM_ne h (show 82 ∈ _ by decide)), ax_up_n D a (kM_ne h (show 83 ∈ _ by decide)), ax_up_n D a (kM_ne h (show 84 ∈ _ by decide)), ax_up_n D a (kM_ne h (show 85 ∈ _ by decide)), ax_up_n D a (kM_ne h (show 86 ∈ _ by decide))]
theorem cnt_in {x : Int32} {n k : Nat} (h : ax_cnt x n) (hk : n < k) : vp_in x k := na_in h.1 (by have := h.2; omega)
/-- the product over kinds -/
def pr_ (used : Int32) (f : Int32 → Int32) : Nat → Nat → Int32 → Int32
  | 0, _, acc => acc
  | j + 1, k, acc => pr_ used f j (k + 1) (if used >>> (nI k &&& 31) &&& 1 = 1 then acc * f (nI k) else acc)
theorem lp_29 {g : ax_G} {K : ax_Po} {D : ax_Dn} {E : ax_En} (hok : okC D) (us m d : Int32) (i : Nat) (hi : i < 30) (hm : vp_in m 6) : ∀ (j k : Nat) (acc : Int32), k + j = 5 → K (some (.int (pr_ us (FC D i m d) j k acc))) (ax_S D E) → ax_WP g (ax_hy 29) K 92 92 6 [some (.ref 1), some (.int us), some (.int (nI i)), some (.int m), some (.int d), some (.int acc), some (.int (nI k))] [] (ax_S D E) := by
  have e5 : (5 : Int32) = nI 5 := by decide
  have g1 : vp_in (nI i) 30 := vp_in_nI hi (by omega)
  have g2 : (nI i).toNatClampNeg = i := nI_clamp (by omega)
  have g3 : vp_in (D 13 i) 10 := cnt_in (hok.2.2.2.1 i) (by decide)
  have g4 := hok.2.1
  intro j
  induction j with
  | zero =>
    intro k acc hk h
    have hc : (5 : Int32) ≤ nI k := by rw [e5]; exact nI_le (by omega) (by omega)
    refine ax_WPo (l := [(25, cy_25)]) (ax_oc sy_25 ax_on) ax_ok29 (fun t => t == 6) 400 6 rfl ?_
    simp +decide only [↓ax_B, ax_B, ax_kds, ax_gvs, ax_mcs, ax_ia_S, ax_up_ap, ax_vinL, and_self_left, ax_up_up, ax_up_sw, Nat.reduceAdd, Nat.reduceBEq, Nat.reduceLeDiff, Nat.reduceLT, Nat.reduceEqDiff, ↓reduceIte, true_and, and_true, List.cons_append, List.nil_append, Int32.reduceLT, Int32.reduceLE, Int32.reduceAdd, Int32.reduceToNatClampNeg, Int32.reduceOfNat, true_imp_iff, false_imp_iff, not_true_eq_false, not_false_eq_true, or_true, true_or, or_false, false_or, and_self, Bool.or_true, Bool.or_false, Bool.true_or, Bool.false_or, implies_true, forall_const, Bool.false_eq_true, Int32.neg_neg, ax_X29, ry_25, hc]
    exact h
  | succ j ih =>
    intro k acc hk h
    have hc : ¬ (5 : Int32) ≤ nI k := by rw [e5]; exact nI_ge (by omega) (by omega)
    have h3 : nI k + 1 = nI (k + 1) := nI_1 k
    unfold pr_ at h
    refine ax_WPo (l := [(25, cy_25)]) (ax_oc sy_25 ax_on) ax_ok29 (fun t => t == 6) 400 6 rfl ?_
    simp +decide only [↓ax_B, ax_B, ax_kds, ax_gvs, ax_mcs, ax_ia_S, ax_up_ap, ax_vinL, and_self_left, ax_up_up, ax_up_sw, Nat.reduceAdd, Nat.reduceBEq, Nat.reduceLeDiff, Nat.reduceLT, Nat.reduceEqDiff, ↓reduceIte, true_and, and_true, List.cons_append, List.nil_append, Int32.reduceLT, Int32.reduceLE, Int32.reduceAdd, Int32.reduceToNatClampNeg, Int32.reduceOfNat, true_imp_iff, false_imp_iff, not_true_eq_false, not_false_eq_true, or_true, true_or, or_false, false_or, and_self, Bool.or_true, Bool.or_false, Bool.true_or, Bool.false_or, implies_true, forall_const, Bool.false_eq_true, Int32.neg_neg, ax_X29, ry_25, hc, h3, g1, g2, g3, g4, hm]
    refine ⟨fun c => ?_, fun c => ?_⟩
    · rw [if_neg c] at h
      exact ih (k + 1) _ (by omega) h
    · rw [if_pos c] at h
      exact ih (k + 1) _ (by omega) h
/-- AskewLetters$Desk.productOf(IIII)I -/
def cy_29 : ax_P1 := fun as z K => ∃ (p1 : Int32) (p2 : Int32) (p3 : Int32) (p4 : Int32) (D : ax_Dn) (E : ax_En), as = [.ref 1, .int p1, .int p2, .int p3, .int p4] ∧ z = ax_S D E ∧ (okC D ∧ vp_in p2 30 ∧ vp_in p3 6 ∧ K (some (.int (pr_ p1 (FC D p2.toNatClampNeg p3 p4) 5 0 1))) (ax_S D E))
theorem ry_29 (p1 : Int32) (p2 : Int32) (p3 : Int32) (p4 : Int32) (D : ax_Dn) (E : ax_En) (K : ax_Po) : cy_29 [.ref 1, .int p1, .int p2, .int p3, .int p4] (ax_S D E) K = (okC D ∧ vp_in p2 30 ∧ vp_in p3 6 ∧ K (some (.int (pr_ p1 (FC D p2.toNatClampNeg p3 p4) 5 0 1))) (ax_S D E)) := propext ⟨fun ⟨p1', p2', p3', p4', D', E', h1, h2, h3⟩ => by cases h1; obtain ⟨rfl, rfl⟩ := ax_S_inj h2; exact h3, fun h => ⟨p1, p2, p3, p4, D, E, rfl, rfl, h⟩⟩
theorem sy_29 {g : ax_G} : ∀ as z K, cy_29 as z K → ax_MM g 29 as z K := by
  rintro _ _ K ⟨p1, p2, p3, p4, D, E, rfl, rfl, h⟩
  refine ax_go29 _ _ _ _ _ ?_
  obtain ⟨h1, h2, h3, h⟩ := h
  obtain ⟨i, hi, rfl⟩ := vp_in_of h2 (by decide)
  rw [nI_clamp (by omega)] at h
  refine ax_WPo (l := [(25, cy_25)]) (ax_oc sy_25 ax_on) ax_ok29 (fun t => t == 6) 400 0 rfl ?_
  simp +decide only [↓ax_B, ax_B, ax_kds, ax_gvs, ax_mcs, ax_ia_S, ax_up_ap, ax_vinL, and_self_left, ax_up_up, ax_up_sw, Nat.reduceAdd, Nat.reduceBEq, Nat.reduceLeDiff, Nat.reduceLT, Nat.reduceEqDiff, ↓reduceIte, true_and, and_true, List.cons_append, List.nil_append, Int32.reduceLT, Int32.reduceLE, Int32.reduceAdd, Int32.reduceToNatClampNeg, Int32.reduceOfNat, true_imp_iff, false_imp_iff, not_true_eq_false, not_false_eq_true, or_true, true_or, or_false, false_or, and_self, Bool.or_true, Bool.or_false, Bool.true_or, Bool.false_or, implies_true, forall_const, Bool.false_eq_true, Int32.neg_neg, ax_X29, ry_25]
  exact lp_29 h1 p1 p3 p4 i hi h3 5 0 1 (by omega) h
theorem lp_161 {g : ax_G} {K : ax_Po} {D : ax_Dn} {E : ax_En} (hok : okM D) (us m d : Int32) (i : Nat) (hi : i < 30) (hm : vp_in m 6) : ∀ (j k : Nat) (acc : Int32), k + j = 5 → K (some (.int (pr_ us (FM D i m d) j k acc))) (ax_S D E) → ax_WP g (ax_hy 161) K 92 92 6 [some (.ref 58), some (.int (nI i)), some (.int m), some (.int d), some (.int us), some (.int acc), some (.int (nI k))] [] (ax_S D E) := by
  have e5 : (5 : Int32) = nI 5 := by decide
  have g1 : vp_in (nI i) 30 := vp_in_nI hi (by omega)
  have g2 : (nI i).toNatClampNeg = i := nI_clamp (by omega)
  have g3 : vp_in (D 81 i) 10 := cnt_in (hok.2.2.2.1 i) (by decide)
  have g4 := hok.2.1
  have g5 := hok.2.2.2.2.1 i
  have g6 := hok.2.2.2.2.2.2.1 i
  have g7 := hok.2.2.2.2.2.2.2.2.1 (D 81 i).toNatClampNeg
  intro j
  induction j with
  | zero =>
    intro k acc hk h
    have hc : (5 : Int32) ≤ nI k := by rw [e5]; exact nI_le (by omega) (by omega)
    refine ax_WPo (l := [(159, cy_159)]) (ax_oc sy_159 ax_on) ax_ok161 (fun t => t == 6) 400 6 rfl ?_
    simp +decide only [↓ax_B, ax_B, ax_kds, ax_gvs, ax_mcs, ax_ia_S, ax_up_ap, ax_vinL, and_self_left, ax_up_up, ax_up_sw, Nat.reduceAdd, Nat.reduceBEq, Nat.reduceLeDiff, Nat.reduceLT, Nat.reduceEqDiff, ↓reduceIte, true_and, and_true, List.cons_append, List.nil_append, Int32.reduceLT, Int32.reduceLE, Int32.reduceAdd, Int32.reduceToNatClampNeg, Int32.reduceOfNat, true_imp_iff, false_imp_iff, not_true_eq_false, not_false_eq_true, or_true, true_or, or_false, false_or, and_self, Bool.or_true, Bool.or_false, Bool.true_or, Bool.false_or, implies_true, forall_const, Bool.false_eq_true, Int32.neg_neg, ax_X161, ry_159, hc]
    exact h
  | succ j ih =>
    intro k acc hk h
    have hc : ¬ (5 : Int32) ≤ nI k := by rw [e5]; exact nI_ge (by omega) (by omega)
    have h3 : nI k + 1 = nI (k + 1) := nI_1 k
    unfold pr_ at h
    refine ax_WPo (l := [(159, cy_159)]) (ax_oc sy_159 ax_on) ax_ok161 (fun t => t == 6) 400 6 rfl ?_
    simp +decide only [↓ax_B, ax_B, ax_kds, ax_gvs, ax_mcs, ax_ia_S, ax_up_ap, ax_vinL, and_self_left, ax_up_up, ax_up_sw, Nat.reduceAdd, Nat.reduceBEq, Nat.reduceLeDiff, Nat.reduceLT, Nat.reduceEqDiff, ↓reduceIte, true_and, and_true, List.cons_append, List.nil_append, Int32.reduceLT, Int32.reduceLE, Int32.reduceAdd, Int32.reduceToNatClampNeg, Int32.reduceOfNat, true_imp_iff, false_imp_iff, not_true_eq_false, not_false_eq_true, or_true, true_or, or_false, false_or, and_self, Bool.or_true, Bool.or_false, Bool.true_or, Bool.false_or, implies_true, forall_const, Bool.false_eq_true, Int32.neg_neg, ax_X161, ry_159, hc, h3, g1, g2, g3, g4, g5, g6, g7, hm, Int32.mul_one]
    refine ⟨fun c => ?_, fun c => ?_⟩
    · rw [if_neg c] at h
      exact ih (k + 1) _ (by omega) h
    · rw [if_pos c] at h
      exact ih (k + 1) _ (by omega) h
/-- AskewLettersModel.product(IIII)I -/
def cy_161 : ax_P1 := fun as z K => ∃ (p1 : Int32) (p2 : Int32) (p3 : Int32) (p4 : Int32) (D : ax_Dn) (E : ax_En), as = [.ref 58, .int p1, .int p2, .int p3, .int p4] ∧ z = ax_S D E ∧ (okM D ∧ vp_in p1 30 ∧ vp_in p2 6 ∧ K (some (.int (pr_ p4 (FM D p1.toNatClampNeg p2 p3) 5 0 1))) (ax_S D E))
theorem ry_161 (p1 : Int32) (p2 : Int32) (p3 : Int32) (p4 : Int32) (D : ax_Dn) (E : ax_En) (K : ax_Po) : cy_161 [.ref 58, .int p1, .int p2, .int p3, .int p4] (ax_S D E) K = (okM D ∧ vp_in p1 30 ∧ vp_in p2 6 ∧ K (some (.int (pr_ p4 (FM D p1.toNatClampNeg p2 p3) 5 0 1))) (ax_S D E)) := propext ⟨fun ⟨p1', p2', p3', p4', D', E', h1, h2, h3⟩ => by cases h1; obtain ⟨rfl, rfl⟩ := ax_S_inj h2; exact h3, fun h => ⟨p1, p2, p3, p4, D, E, rfl, rfl, h⟩⟩
theorem sy_161 {g : ax_G} : ∀ as z K, cy_161 as z K → ax_MM g 161 as z K := by
  rintro _ _ K ⟨p1, p2, p3, p4, D, E, rfl, rfl, h⟩
  refine ax_go161 _ _ _ _ _ ?_
  obtain ⟨h1, h2, h3, h⟩ := h
  obtain ⟨i, hi, rfl⟩ := vp_in_of h2 (by decide)
  rw [nI_clamp (by omega)] at h
  refine ax_WPo (l := [(159, cy_159)]) (ax_oc sy_159 ax_on) ax_ok161 (fun t => t == 6) 400 0 rfl ?_
  simp +decide only [↓ax_B, ax_B, ax_kds, ax_gvs, ax_mcs, ax_ia_S, ax_up_ap, ax_vinL, and_self_left, ax_up_up, ax_up_sw, Nat.reduceAdd, Nat.reduceBEq, Nat.reduceLeDiff, Nat.reduceLT, Nat.reduceEqDiff, ↓reduceIte, true_and, and_true, List.cons_append, List.nil_append, Int32.reduceLT, Int32.reduceLE, Int32.reduceAdd, Int32.reduceToNatClampNeg, Int32.reduceOfNat, true_imp_iff, false_imp_iff, not_true_eq_false, not_false_eq_true, or_true, true_or, or_false, false_or, and_self, Bool.or_true, Bool.or_false, Bool.true_or, Bool.false_or, implies_true, forall_const, Bool.false_eq_true, Int32.neg_neg, ax_X161, ry_159]
  exact lp_161 h1 p4 p2 p3 i hi h3 5 0 1 (by omega) h
/-- the like of those strokes -/
def lk_ (P : List Nat) (f : Nat → Int32) (a : Int64) : Int64 := P.foldl (fun acc i => acc * (f i).toInt64) a
theorem lp_31 {g : ax_G} {K : ax_Po} {D : ax_Dn} {E : ax_En} (hok : okC D) (us m d : Int32) (hm : vp_in m 6) (P : List Nat) (hl : P.length ≤ 5) (h12 : D 12 6 = nI P.length) (h18 : ∀ i, i < P.length → D 18 i = nI (P.getD i 0)) (h30 : ∀ i ∈ P, i < 30) :
    ∀ (Q : List Nat) (k : Nat) (acc : Int64), k ≤ P.length → P.drop k = Q → K (some (.long (lk_ Q (fun i => pr_ us (FC D i m d) 5 0 1) acc))) (ax_S D E) → ax_WP g (ax_hy 31) K 92 92 6 [some (.ref 1), some (.int us), some (.int m), some (.int d), some (.long acc), none, some (.int (nI k))] [] (ax_S D E) := by
  intro Q
  induction Q with
  | nil =>
    intro k acc hkl hk h
    have hk2 : P.length ≤ k := List.drop_eq_nil_iff.mp hk
    have hc : nI P.length ≤ nI k := nI_le (by omega) (by omega)
    refine ax_WPo (l := [(29, cy_29)]) (ax_oc sy_29 ax_on) ax_ok31 (fun t => t == 6) 400 6 rfl ?_
    simp +decide only [↓ax_B, ax_B, ax_kds, ax_gvs, ax_mcs, ax_ia_S, ax_up_ap, ax_vinL, and_self_left, ax_up_up, ax_up_sw, Nat.reduceAdd, Nat.reduceBEq, Nat.reduceLeDiff, Nat.reduceLT, Nat.reduceEqDiff, ↓reduceIte, true_and, and_true, List.cons_append, List.nil_append, Int32.reduceLT, Int32.reduceLE, Int32.reduceAdd, Int32.reduceToNatClampNeg, Int32.reduceOfNat, true_imp_iff, false_imp_iff, not_true_eq_false, not_false_eq_true, or_true, true_or, or_false, false_or, and_self, Bool.or_true, Bool.or_false, Bool.true_or, Bool.false_or, implies_true, forall_const, Bool.false_eq_true, Int32.neg_neg, ax_X31, ry_29, h12, hc]
    exact h
  | cons q Q ih =>
    intro k acc hkl hk h
    have hlt : k < P.length := by
      rcases Nat.lt_or_ge k P.length with q' | q'
      · exact q'
      · rw [List.drop_eq_nil_of_le q'] at hk; cases hk
    have hq : P[k]? = some q := by
      have := congrArg List.head? hk
      simpa [List.head?_drop] using this
    have hmem : q ∈ P := List.mem_of_getElem? hq
    have hc : ¬ nI P.length ≤ nI k := nI_ge hlt (by omega)
    have h1 : vp_in (nI k) 5 := vp_in_nI (by omega) (by omega)
    have h2 : (nI k).toNatClampNeg = k := nI_clamp (by omega)
    have h3 : nI k + 1 = nI (k + 1) := nI_1 k
    have h4 : D 18 k = nI q := by rw [h18 k hlt, List.getD_eq_getElem?_getD, hq]; rfl
    have h5 : vp_in (nI q) 30 := vp_in_nI (h30 q hmem) (by omega)
    have h6 : (nI q).toNatClampNeg = q := nI_clamp (by have := h30 q hmem; omega)
    refine ax_WPo (l := [(29, cy_29)]) (ax_oc sy_29 ax_on) ax_ok31 (fun t => t == 6) 400 6 rfl ?_
    simp +decide only [↓ax_B, ax_B, ax_kds, ax_gvs, ax_mcs, ax_ia_S, ax_up_ap, ax_vinL, and_self_left, ax_up_up, ax_up_sw, Nat.reduceAdd, Nat.reduceBEq, Nat.reduceLeDiff, Nat.reduceLT, Nat.reduceEqDiff, ↓reduceIte, true_and, and_true, List.cons_append, List.nil_append, Int32.reduceLT, Int32.reduceLE, Int32.reduceAdd, Int32.reduceToNatClampNeg, Int32.reduceOfNat, true_imp_iff, false_imp_iff, not_true_eq_false, not_false_eq_true, or_true, true_or, or_false, false_or, and_self, Bool.or_true, Bool.or_false, Bool.true_or, Bool.false_or, implies_true, forall_const, Bool.false_eq_true, Int32.neg_neg, ax_X31, ry_29, h12, hc, h1, h2, h3, h4, h5, h6, hm, hok]
    exact ih (k + 1) _ hlt (by rw [← List.drop_drop, hk]; rfl) h
/-- AskewLetters$Desk.likeOfPicked(III)J -/
def cy_31 : ax_P1 := fun as z K => ∃ (p1 : Int32) (p2 : Int32) (p3 : Int32) (D : ax_Dn) (E : ax_En), as = [.ref 1, .int p1, .int p2, .int p3] ∧ z = ax_S D E ∧ (okC D ∧ vp_in p2 6 ∧ ∃ P : List Nat, P.length ≤ 5 ∧ D 12 6 = nI P.length ∧ (∀ i, i < P.length → D 18 i = nI (P.getD i 0)) ∧ (∀ i ∈ P, i < 30) ∧ K (some (.long (lk_ P (fun i => pr_ p1 (FC D i p2 p3) 5 0 1) 1))) (ax_S D E))
theorem ry_31 (p1 : Int32) (p2 : Int32) (p3 : Int32) (D : ax_Dn) (E : ax_En) (K : ax_Po) : cy_31 [.ref 1, .int p1, .int p2, .int p3] (ax_S D E) K = (okC D ∧ vp_in p2 6 ∧ ∃ P : List Nat, P.length ≤ 5 ∧ D 12 6 = nI P.length ∧ (∀ i, i < P.length → D 18 i = nI (P.getD i 0)) ∧ (∀ i ∈ P, i < 30) ∧ K (some (.long (lk_ P (fun i => pr_ p1 (FC D i p2 p3) 5 0 1) 1))) (ax_S D E)) := propext ⟨fun ⟨p1', p2', p3', D', E', h1, h2, h3⟩ => by cases h1; obtain ⟨rfl, rfl⟩ := ax_S_inj h2; exact h3, fun h => ⟨p1, p2, p3, D, E, rfl, rfl, h⟩⟩
theorem sy_31 {g : ax_G} : ∀ as z K, cy_31 as z K → ax_MM g 31 as z K := by
  rintro _ _ K ⟨p1, p2, p3, D, E, rfl, rfl, h⟩
  refine ax_go31 _ _ _ _ ?_
  obtain ⟨h1, h2, P, h3, h4, h5, h6, h⟩ := h
  refine ax_WPo (l := [(29, cy_29)]) (ax_oc sy_29 ax_on) ax_ok31 (fun t => t == 6) 400 0 rfl ?_
  simp +decide only [↓ax_B, ax_B, ax_kds, ax_gvs, ax_mcs, ax_ia_S, ax_up_ap, ax_vinL, and_self_left, ax_up_up, ax_up_sw, Nat.reduceAdd, Nat.reduceBEq, Nat.reduceLeDiff, Nat.reduceLT, Nat.reduceEqDiff, ↓reduceIte, true_and, and_true, List.cons_append, List.nil_append, Int32.reduceLT, Int32.reduceLE, Int32.reduceAdd, Int32.reduceToNatClampNeg, Int32.reduceOfNat, true_imp_iff, false_imp_iff, not_true_eq_false, not_false_eq_true, or_true, true_or, or_false, false_or, and_self, Bool.or_true, Bool.or_false, Bool.true_or, Bool.false_or, implies_true, forall_const, Bool.false_eq_true, Int32.neg_neg, ax_X31, ry_29]
  exact lp_31 h1 p1 p2 p3 h2 P h3 h4 h5 h6 P 0 1 (Nat.zero_le _) rfl h
theorem pk_step (sg : Nat → Int32) (f n : Nat) : pk_ sg f (f + (n + 1)) = if ct_ sg f (f + n) = true then pk_ sg f (f + n) ++ [f + n] else pk_ sg f (f + n) := by
  unfold pk_ ct_
  rw [show f + (n + 1) - f = n + 1 by omega, show f + n - f = n by omega]
  have e : fs_ sg f (n + 1) = if sg (f + n) ∈ (fs_ sg f n).map sg then fs_ sg f n else fs_ sg f n ++ [f + n] := rfl
  rw [e]
  by_cases h1 : sg (f + n) ∈ (fs_ sg f n).map sg
  · rw [if_pos h1, if_neg (by simp [h1])]
  · rw [if_neg h1]
    by_cases h2 : (fs_ sg f n).length < 5
    · rw [if_pos (by simp only [Bool.and_eq_true, decide_eq_true_eq]; exact ⟨h1, h2⟩), List.take_of_length_le (by simp; omega), List.take_of_length_le (by omega)]
    · rw [if_neg (by simp only [Bool.and_eq_true, decide_eq_true_eq]; exact fun q => h2 q.2), List.take_append_of_le_length (by omega)]
theorem lk_snoc (P : List Nat) (q : Nat) (f : Nat → Int32) (a : Int64) : lk_ (P ++ [q]) f a = lk_ P f a * (f q).toInt64 := by
  unfold lk_
  rw [List.foldl_append]
  rfl
theorem lp_162 {g : ax_G} {K : ax_Po} {D : ax_Dn} {E : ax_En} (hok : okM D) (us m d : Int32) (hm : vp_in m 6) (f t : Nat) (ht : t ≤ 30) (h : K (some (.long (lk_ (pk_ (D 81) f t) (fun i => pr_ us (FM D i m d) 5 0 1) 1))) (ax_S D E)) :
    ∀ (j n : Nat), f + n + j = t → ax_WP g (ax_hy 162) K 92 92 6 [some (.ref 58), some (.int m), some (.int d), some (.int (nI f)), some (.int (nI t)), some (.int us), some (.long (lk_ (pk_ (D 81) f (f + n)) (fun i => pr_ us (FM D i m d) 5 0 1) 1)), none, some (.int (nI (f + n)))] [] (ax_S D E) := by
  intro j
  induction j with
  | zero =>
    intro n hn
    have hc : nI t ≤ nI (f + n) := nI_le (by omega) (by omega)
    refine ax_WPo (l := [(154, cy_154), (161, cy_161)]) (ax_oc sy_154 (ax_oc sy_161 ax_on)) ax_ok162 (fun t => t == 6) 400 6 rfl ?_
    simp +decide only [↓ax_B, ax_B, ax_kds, ax_gvs, ax_mcs, ax_ia_S, ax_up_ap, ax_vinL, and_self_left, ax_up_up, ax_up_sw, Nat.reduceAdd, Nat.reduceBEq, Nat.reduceLeDiff, Nat.reduceLT, Nat.reduceEqDiff, ↓reduceIte, true_and, and_true, List.cons_append, List.nil_append, Int32.reduceLT, Int32.reduceLE, Int32.reduceAdd, Int32.reduceToNatClampNeg, Int32.reduceOfNat, true_imp_iff, false_imp_iff, not_true_eq_false, not_false_eq_true, or_true, true_or, or_false, false_or, and_self, Bool.or_true, Bool.or_false, Bool.true_or, Bool.false_or, implies_true, forall_const, Bool.false_eq_true, Int32.neg_neg, ax_X162, ry_154, ry_161, hc]
    rw [show f + n = t by omega]
    exact h
  | succ j ih =>
    intro n hn
    have hc : ¬ nI t ≤ nI (f + n) := nI_ge (by omega) (by omega)
    have h1 : vp_in (nI (f + n)) 30 := vp_in_nI (by omega) (by omega)
    have h2 : (nI (f + n)).toNatClampNeg = f + n := nI_clamp (by omega)
    have h2' : (nI f).toNatClampNeg = f := nI_clamp (by omega)
    have h3 : nI (f + n) + 1 = nI (f + (n + 1)) := nI_1 _
    have h4 := hok.2.2.2.1
    have h5 : (0 : Int32) ≤ nI f := nI_pos' (by omega)
    have h6 : nI f ≤ nI (f + n) := nI_le (by omega) (by omega)
    have := ih (n + 1) (by omega)
    rw [pk_step] at this
    refine ax_WPo (l := [(154, cy_154), (161, cy_161)]) (ax_oc sy_154 (ax_oc sy_161 ax_on)) ax_ok162 (fun t => t == 6) 400 6 rfl ?_
    simp +decide only [↓ax_B, ax_B, ax_kds, ax_gvs, ax_mcs, ax_ia_S, ax_up_ap, ax_vinL, and_self_left, ax_up_up, ax_up_sw, Nat.reduceAdd, Nat.reduceBEq, Nat.reduceLeDiff, Nat.reduceLT, Nat.reduceEqDiff, ↓reduceIte, true_and, and_true, List.cons_append, List.nil_append, Int32.reduceLT, Int32.reduceLE, Int32.reduceAdd, Int32.reduceToNatClampNeg, Int32.reduceOfNat, true_imp_iff, false_imp_iff, not_true_eq_false, not_false_eq_true, or_true, true_or, or_false, false_or, and_self, Bool.or_true, Bool.or_false, Bool.true_or, Bool.false_or, implies_true, forall_const, Bool.false_eq_true, Int32.neg_neg, ax_X162, ry_154, ry_161, hc, h1, h2, h2', h3, h4, h5, h6, hm, hok]
    refine ⟨fun c => ?_, fun c => ?_⟩
    · rw [if_pos c, lk_snoc] at this
      exact this
    · rw [if_neg (by rw [c]; decide)] at this
      exact this
/-- AskewLettersModel.likeOf(IIIII)J -/
def cy_162 : ax_P1 := fun as z K => ∃ (p1 : Int32) (p2 : Int32) (p3 : Int32) (p4 : Int32) (p5 : Int32) (D : ax_Dn) (E : ax_En), as = [.ref 58, .int p1, .int p2, .int p3, .int p4, .int p5] ∧ z = ax_S D E ∧ (okM D ∧ vp_in p1 6 ∧ 0 ≤ p3 ∧ p3 ≤ p4 ∧ p4 ≤ 30 ∧ K (some (.long (lk_ (pk_ (D 81) p3.toNatClampNeg p4.toNatClampNeg) (fun i => pr_ p5 (FM D i p1 p2) 5 0 1) 1))) (ax_S D E))
theorem ry_162 (p1 : Int32) (p2 : Int32) (p3 : Int32) (p4 : Int32) (p5 : Int32) (D : ax_Dn) (E : ax_En) (K : ax_Po) : cy_162 [.ref 58, .int p1, .int p2, .int p3, .int p4, .int p5] (ax_S D E) K = (okM D ∧ vp_in p1 6 ∧ 0 ≤ p3 ∧ p3 ≤ p4 ∧ p4 ≤ 30 ∧ K (some (.long (lk_ (pk_ (D 81) p3.toNatClampNeg p4.toNatClampNeg) (fun i => pr_ p5 (FM D i p1 p2) 5 0 1) 1))) (ax_S D E)) := propext ⟨fun ⟨p1', p2', p3', p4', p5', D', E', h1, h2, h3⟩ => by cases h1; obtain ⟨rfl, rfl⟩ := ax_S_inj h2; exact h3, fun h => ⟨p1, p2, p3, p4, p5, D, E, rfl, rfl, h⟩⟩
theorem sy_162 {g : ax_G} : ∀ as z K, cy_162 as z K → ax_MM g 162 as z K := by
  rintro _ _ K ⟨p1, p2, p3, p4, p5, D, E, rfl, rfl, h⟩
  refine ax_go162 _ _ _ _ _ _ ?_
  obtain ⟨hok, hm, h1, h2, h3, h⟩ := h
  obtain ⟨f, rfl, q1, q2⟩ := na_of (na_le.mp h1)
  have h2' := na_le.mp h2
  have h3' : p4.toInt ≤ 30 := na_le.mp h3
  obtain ⟨t, rfl, q3, q4⟩ := na_of (x := p4) (by omega)
  rw [nI_clamp (by omega), nI_clamp (by omega)] at h
  refine ax_WPo (l := [(154, cy_154), (161, cy_161)]) (ax_oc sy_154 (ax_oc sy_161 ax_on)) ax_ok162 (fun t => t == 6) 400 0 rfl ?_
  simp +decide only [↓ax_B, ax_B, ax_kds, ax_gvs, ax_mcs, ax_ia_S, ax_up_ap, ax_vinL, and_self_left, ax_up_up, ax_up_sw, Nat.reduceAdd, Nat.reduceBEq, Nat.reduceLeDiff, Nat.reduceLT, Nat.reduceEqDiff, ↓reduceIte, true_and, and_true, List.cons_append, List.nil_append, Int32.reduceLT, Int32.reduceLE, Int32.reduceAdd, Int32.reduceToNatClampNeg, Int32.reduceOfNat, true_imp_iff, false_imp_iff, not_true_eq_false, not_false_eq_true, or_true, true_or, or_false, false_or, and_self, Bool.or_true, Bool.or_false, Bool.true_or, Bool.false_or, implies_true, forall_const, Bool.false_eq_true, Int32.neg_neg, ax_X162, ry_154, ry_161]
  have := lp_162 (g := g) hok p5 p1 p2 hm f t (by omega) h (t - f) 0 (by omega)
  have e : pk_ (D 81) f (f + 0) = [] := by unfold pk_; rw [show f + 0 - f = 0 by omega]; rfl
  rw [e] at this
  exact this
