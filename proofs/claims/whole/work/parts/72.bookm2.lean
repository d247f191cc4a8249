/-! The book, by the model: rows are copied, statements come, or all is put back. -/
def cp_ (f g : Nat → Int32) (k : Nat) : Nat → Int32 := fun x => if x < k then f x else g x
theorem cp_0 (f g : Nat → Int32) : cp_ f g 0 = g := by funext x; unfold cp_; rw [if_neg (Nat.not_lt_zero x)]
theorem cp_1 (f g : Nat → Int32) (k : Nat) : ax_up (cp_ f g k) k (f k) = cp_ f g (k + 1) := by
  funext x
  by_cases h : x = k
  · subst h
    rw [ax_up_s]
    unfold cp_
    rw [if_pos (Nat.lt_succ_self x)]
  · rw [ax_up_n _ _ h]
    unfold cp_
    by_cases c : x < k
    · rw [if_pos c, if_pos (by omega)]
    · rw [if_neg c, if_neg (by omega)]
set_option maxRecDepth 10000 in
theorem lp_138c {g : ax_G} {K : ax_Po} {D : ax_Dn} {E : ax_En} {l1 l2 l3 : Int32} (h : ax_WP g (ax_hy 138) K 92 92 121 [some (.ref 58), some (.int l1), some (.int l2), some (.int l3), some (.int 0), none] [] (ax_S (ax_up D 79 (cp_ (D 69) (D 79) 10)) E)) : ∀ (j k : Nat), k + j = 10 → ax_WP g (ax_hy 138) K 92 92 91 [some (.ref 58), some (.int l1), some (.int l2), some (.int l3), some (.int (nI k)), none] [] (ax_S (ax_up D 79 (cp_ (D 69) (D 79) k)) E) := by
  intro j
  induction j with
  | zero =>
    intro k hk
    obtain rfl : k = 10 := by omega
    have c : (10 : Int32) ≤ nI 10 := by decide
    refine ax_WPo (l := []) ax_on ax_ok138 (fun t => t == 91 || t == 121) 400 91 rfl ?_
    simp +decide only [↓ax_B, ax_B, ax_kds, ax_gvs, ax_mcs, ax_ia_S, ax_up_ap, ax_vinL, and_self_left, ax_up_up, ax_up_sw, Nat.reduceAdd, Nat.reduceBEq, Nat.reduceLeDiff, Nat.reduceLT, Nat.reduceEqDiff, ↓reduceIte, true_and, and_true, List.cons_append, List.nil_append, Int32.reduceLT, Int32.reduceLE, Int32.reduceAdd, Int32.reduceToNatClampNeg, Int32.reduceOfNat, true_imp_iff, false_imp_iff, not_true_eq_false, not_false_eq_true, or_true, true_or, or_false, false_or, and_self, Bool.or_true, Bool.or_false, Bool.true_or, Bool.false_or, implies_true, forall_const, Bool.false_eq_true, Int32.neg_neg, ax_X138, c]
    exact h
  | succ j ih =>
    intro k hk
    have c : ¬ 10 ≤ nI k := by
      rw [show (10 : Int32) = nI 10 from rfl]
      exact nI_ge (by omega) (by omega)
    have c1 : vp_in (nI k) 10 := vp_in_nI (by omega) (by omega)
    have c2 : (nI k).toNatClampNeg = k := nI_clamp (by omega)
    have c3 : nI k + 1 = nI (k + 1) := nI_1 k
    have q := ih (k + 1) (by omega)
    rw [← cp_1] at q
    refine ax_WPo (l := []) ax_on ax_ok138 (fun t => t == 91 || t == 121) 400 91 rfl ?_
    simp +decide only [↓ax_B, ax_B, ax_kds, ax_gvs, ax_mcs, ax_ia_S, ax_up_ap, ax_vinL, and_self_left, ax_up_up, ax_up_sw, Nat.reduceAdd, Nat.reduceBEq, Nat.reduceLeDiff, Nat.reduceLT, Nat.reduceEqDiff, ↓reduceIte, true_and, and_true, List.cons_append, List.nil_append, Int32.reduceLT, Int32.reduceLE, Int32.reduceAdd, Int32.reduceToNatClampNeg, Int32.reduceOfNat, true_imp_iff, false_imp_iff, not_true_eq_false, not_false_eq_true, or_true, true_or, or_false, false_or, and_self, Bool.or_true, Bool.or_false, Bool.true_or, Bool.false_or, implies_true, forall_const, Bool.false_eq_true, Int32.neg_neg, ax_X138, c,c1,c2,c3]
    exact q
set_option maxRecDepth 10000 in
theorem lp_138d {g : ax_G} {K : ax_Po} {D : ax_Dn} {E : ax_En} {l1 l2 l3 : Int32} (h : ax_WP g (ax_hy 138) K 92 92 151 [some (.ref 58), some (.int l1), some (.int l2), some (.int l3), some (.int 0), none] [] (ax_S (ax_up D 80 (cp_ (D 68) (D 80) 6)) E)) : ∀ (j k : Nat), k + j = 6 → ax_WP g (ax_hy 138) K 92 92 121 [some (.ref 58), some (.int l1), some (.int l2), some (.int l3), some (.int (nI k)), none] [] (ax_S (ax_up D 80 (cp_ (D 68) (D 80) k)) E) := by
  intro j
  induction j with
  | zero =>
    intro k hk
    obtain rfl : k = 6 := by omega
    have c : (6 : Int32) ≤ nI 6 := by decide
    refine ax_WPo (l := []) ax_on ax_ok138 (fun t => t == 121 || t == 151) 400 121 rfl ?_
    simp +decide only [↓ax_B, ax_B, ax_kds, ax_gvs, ax_mcs, ax_ia_S, ax_up_ap, ax_vinL, and_self_left, ax_up_up, ax_up_sw, Nat.reduceAdd, Nat.reduceBEq, Nat.reduceLeDiff, Nat.reduceLT, Nat.reduceEqDiff, ↓reduceIte, true_and, and_true, List.cons_append, List.nil_append, Int32.reduceLT, Int32.reduceLE, Int32.reduceAdd, Int32.reduceToNatClampNeg, Int32.reduceOfNat, true_imp_iff, false_imp_iff, not_true_eq_false, not_false_eq_true, or_true, true_or, or_false, false_or, and_self, Bool.or_true, Bool.or_false, Bool.true_or, Bool.false_or, implies_true, forall_const, Bool.false_eq_true, Int32.neg_neg, ax_X138, c]
    exact h
  | succ j ih =>
    intro k hk
    have c : ¬ 6 ≤ nI k := by
      rw [show (6 : Int32) = nI 6 from rfl]
      exact nI_ge (by omega) (by omega)
    have c1 : vp_in (nI k) 6 := vp_in_nI (by omega) (by omega)
    have c2 : (nI k).toNatClampNeg = k := nI_clamp (by omega)
    have c3 : nI k + 1 = nI (k + 1) := nI_1 k
    have q := ih (k + 1) (by omega)
    rw [← cp_1] at q
    refine ax_WPo (l := []) ax_on ax_ok138 (fun t => t == 121 || t == 151) 400 121 rfl ?_
    simp +decide only [↓ax_B, ax_B, ax_kds, ax_gvs, ax_mcs, ax_ia_S, ax_up_ap, ax_vinL, and_self_left, ax_up_up, ax_up_sw, Nat.reduceAdd, Nat.reduceBEq, Nat.reduceLeDiff, Nat.reduceLT, Nat.reduceEqDiff, ↓reduceIte, true_and, and_true, List.cons_append, List.nil_append, Int32.reduceLT, Int32.reduceLE, Int32.reduceAdd, Int32.reduceToNatClampNeg, Int32.reduceOfNat, true_imp_iff, false_imp_iff, not_true_eq_false, not_false_eq_true, or_true, true_or, or_false, false_or, and_self, Bool.or_true, Bool.or_false, Bool.true_or, Bool.false_or, implies_true, forall_const, Bool.false_eq_true, Int32.neg_neg, ax_X138, c,c1,c2,c3]
    exact q
set_option maxRecDepth 10000 in
theorem lp_138e {g : ax_G} {K : ax_Po} {D : ax_Dn} {E : ax_En} {l1 l2 l3 l4 : Int32} (h : ax_WP g (ax_hy 138) K 92 92 215 [some (.ref 58), some (.int l1), some (.int l2), some (.int l3), some (.int l4), some (.int 0)] [] (ax_S (ax_up D 69 (cp_ (D 79) (D 69) 10)) E)) : ∀ (j k : Nat), k + j = 10 → ax_WP g (ax_hy 138) K 92 92 185 [some (.ref 58), some (.int l1), some (.int l2), some (.int l3), some (.int l4), some (.int (nI k))] [] (ax_S (ax_up D 69 (cp_ (D 79) (D 69) k)) E) := by
  intro j
  induction j with
  | zero =>
    intro k hk
    obtain rfl : k = 10 := by omega
    have c : (10 : Int32) ≤ nI 10 := by decide
    refine ax_WPo (l := []) ax_on ax_ok138 (fun t => t == 185 || t == 215) 400 185 rfl ?_
    simp +decide only [↓ax_B, ax_B, ax_kds, ax_gvs, ax_mcs, ax_ia_S, ax_up_ap, ax_vinL, and_self_left, ax_up_up, ax_up_sw, Nat.reduceAdd, Nat.reduceBEq, Nat.reduceLeDiff, Nat.reduceLT, Nat.reduceEqDiff, ↓reduceIte, true_and, and_true, List.cons_append, List.nil_append, Int32.reduceLT, Int32.reduceLE, Int32.reduceAdd, Int32.reduceToNatClampNeg, Int32.reduceOfNat, true_imp_iff, false_imp_iff, not_true_eq_false, not_false_eq_true, or_true, true_or, or_false, false_or, and_self, Bool.or_true, Bool.or_false, Bool.true_or, Bool.false_or, implies_true, forall_const, Bool.false_eq_true, Int32.neg_neg, ax_X138, c]
    exact h
  | succ j ih =>
    intro k hk
    have c : ¬ 10 ≤ nI k := by
      rw [show (10 : Int32) = nI 10 from rfl]
      exact nI_ge (by omega) (by omega)
    have c1 : vp_in (nI k) 10 := vp_in_nI (by omega) (by omega)
    have c2 : (nI k).toNatClampNeg = k := nI_clamp (by omega)
    have c3 : nI k + 1 = nI (k + 1) := nI_1 k
    have q := ih (k + 1) (by omega)
    rw [← cp_1] at q
    refine ax_WPo (l := []) ax_on ax_ok138 (fun t => t == 185 || t == 215) 400 185 rfl ?_
    simp +decide only [↓ax_B, ax_B, ax_kds, ax_gvs, ax_mcs, ax_ia_S, ax_up_ap, ax_vinL, and_self_left, ax_up_up, ax_up_sw, Nat.reduceAdd, Nat.reduceBEq, Nat.reduceLeDiff, Nat.reduceLT, Nat.reduceEqDiff, ↓reduceIte, true_and, and_true, List.cons_append, List.nil_append, Int32.reduceLT, Int32.reduceLE, Int32.reduceAdd, Int32.reduceToNatClampNeg, Int32.reduceOfNat, true_imp_iff, false_imp_iff, not_true_eq_false, not_false_eq_true, or_true, true_or, or_false, false_or, and_self, Bool.or_true, Bool.or_false, Bool.true_or, Bool.false_or, implies_true, forall_const, Bool.false_eq_true, Int32.neg_neg, ax_X138, c,c1,c2,c3]
    exact q
set_option maxRecDepth 10000 in
theorem lp_138f {g : ax_G} {K : ax_Po} {D : ax_Dn} {E : ax_En} {l1 l2 l3 : Int32} {w : Nat} (hw : w < 32) (h : K (some (.int (-2000 - D 66 w))) (ax_S (ax_up D 68 (cp_ (D 80) (D 68) 6)) E)) : ∀ (j k : Nat), k + j = 6 → ax_WP g (ax_hy 138) K 92 92 215 [some (.ref 58), some (.int l1), some (.int l2), some (.int l3), some (.int (nI w)), some (.int (nI k))] [] (ax_S (ax_up D 68 (cp_ (D 80) (D 68) k)) E) := by
  have w1 : (nI w).toNatClampNeg = w := nI_clamp (by omega)
  have w2 : vp_in (nI w) 32 := vp_in_nI hw (by omega)
  intro j
  induction j with
  | zero =>
    intro k hk
    obtain rfl : k = 6 := by omega
    have c : (6 : Int32) ≤ nI 6 := by decide
    refine ax_WPo (l := []) ax_on ax_ok138 (fun t => t == 215) 400 215 rfl ?_
    simp +decide only [↓ax_B, ax_B, ax_kds, ax_gvs, ax_mcs, ax_ia_S, ax_up_ap, ax_vinL, and_self_left, ax_up_up, ax_up_sw, Nat.reduceAdd, Nat.reduceBEq, Nat.reduceLeDiff, Nat.reduceLT, Nat.reduceEqDiff, ↓reduceIte, true_and, and_true, List.cons_append, List.nil_append, Int32.reduceLT, Int32.reduceLE, Int32.reduceAdd, Int32.reduceToNatClampNeg, Int32.reduceOfNat, true_imp_iff, false_imp_iff, not_true_eq_false, not_false_eq_true, or_true, true_or, or_false, false_or, and_self, Bool.or_true, Bool.or_false, Bool.true_or, Bool.false_or, implies_true, forall_const, Bool.false_eq_true, Int32.neg_neg, ax_X138, c,w1,w2]
    exact h
  | succ j ih =>
    intro k hk
    have c : ¬ 6 ≤ nI k := by
      rw [show (6 : Int32) = nI 6 from rfl]
      exact nI_ge (by omega) (by omega)
    have c1 : vp_in (nI k) 6 := vp_in_nI (by omega) (by omega)
    have c2 : (nI k).toNatClampNeg = k := nI_clamp (by omega)
    have c3 : nI k + 1 = nI (k + 1) := nI_1 k
    have q := ih (k + 1) (by omega)
    rw [← cp_1] at q
    refine ax_WPo (l := []) ax_on ax_ok138 (fun t => t == 215) 400 215 rfl ?_
    simp +decide only [↓ax_B, ax_B, ax_kds, ax_gvs, ax_mcs, ax_ia_S, ax_up_ap, ax_vinL, and_self_left, ax_up_up, ax_up_sw, Nat.reduceAdd, Nat.reduceBEq, Nat.reduceLeDiff, Nat.reduceLT, Nat.reduceEqDiff, ↓reduceIte, true_and, and_true, List.cons_append, List.nil_append, Int32.reduceLT, Int32.reduceLE, Int32.reduceAdd, Int32.reduceToNatClampNeg, Int32.reduceOfNat, true_imp_iff, false_imp_iff, not_true_eq_false, not_false_eq_true, or_true, true_or, or_false, false_or, and_self, Bool.or_true, Bool.or_false, Bool.true_or, Bool.false_or, implies_true, forall_const, Bool.false_eq_true, Int32.neg_neg, ax_X138, c,c1,c2,c3]
    exact q
/-- what statements that come leave as it was, for one that puts back -/
def dI_ (D0 : ax_Dn) (M0 N0 : Nat) (D : ax_Dn) : Prop := (∀ c, ¬ c = 58 ∧ ¬ (67 ≤ c ∧ c ≤ 69) ∧ ¬ (71 ≤ c ∧ c ≤ 75) → D c = D0 c) ∧ (∀ i, ¬ i = 22 → ¬ i = 23 → D 58 i = D0 58 i) ∧ (∀ j, 6 ≤ j → D 68 j = D0 68 j) ∧ (∀ j, 10 ≤ j → D 69 j = D0 69 j) ∧ (∀ j, j < M0 → D 67 j = D0 67 j) ∧ (∀ i, i < N0 → D 71 i = D0 71 i ∧ D 72 i = D0 72 i ∧ D 73 i = D0 73 i ∧ D 74 i = D0 74 i ∧ D 75 i = D0 75 i)
theorem dI_rf (D : ax_Dn) (M0 N0 : Nat) : dI_ D M0 N0 D := ⟨fun _ _ => rfl, fun _ _ _ => rfl, fun _ _ => rfl, fun _ _ => rfl, fun _ _ => rfl, fun _ _ => ⟨rfl, rfl, rfl, rfl, rfl⟩⟩
theorem rg_cl {x : Int32} {a b : Int} (h : rg_ x a b) (ha : 0 ≤ a) : (x.toNatClampNeg : Int) ≤ b := by
  rw [na_cl (by have := h.1; omega)]
  exact h.2
theorem dI_st {D0 D : ax_Dn} {M0 N0 M N : Nat} {l m s d v a b d' v' : Int32} (h : dI_ D0 M0 N0 D) (h22 : D 58 22 = nI M) (h23 : D 58 23 = nI N) (hM : M ≤ 6) (hN : N ≤ 20) (hM0 : M0 ≤ M) (hN0 : N0 ≤ N) (hr : rst_ l m s d v a b d' v') (hw : ¬ wr_ l m d v M N) : dI_ D0 M0 N0 (stM D l a b d' v') ∧ stM D l a b d' v' 58 22 = nI (if l = 109 then M + 1 else M) ∧ stM D l a b d' v' 58 23 = nI (if ev_ l then N + 1 else N) ∧ (if l = 109 then M + 1 else M) ≤ 6 ∧ (if ev_ l then N + 1 else N) ≤ 20 ∧ M0 ≤ (if l = 109 then M + 1 else M) ∧ N0 ≤ (if ev_ l then N + 1 else N) := by
  obtain ⟨a1, a2, a3, a4, a5, a6⟩ := h
  obtain ⟨hl, r1, r2, r3, r4⟩ := hr
  have w1 : ¬ (¬ l = 109 ∧ ¬ l = 107 ∧ ¬ m < nI M) := fun q => hw (Or.inl q)
  have w2 : ¬ 6 < (if l = 109 then M + 1 else M) := fun q => hw (Or.inr (Or.inl q))
  have w3 : ¬ 20 < (if ev_ l then N + 1 else N) := fun q => hw (Or.inr (Or.inr (Or.inl q)))
  have cM : (nI M).toNatClampNeg = M := nI_clamp (by omega)
  have cN : (nI N).toNatClampNeg = N := nI_clamp (by omega)
  have iM : nI M + 1 = nI (M + 1) := nI_1 M
  have iN : nI N + 1 = nI (N + 1) := nI_1 N
  have o1 : ∀ c, ¬ c = 58 ∧ ¬ (67 ≤ c ∧ c ≤ 69) ∧ ¬ (71 ≤ c ∧ c ≤ 75) → stM D l a b d' v' c = D0 c := fun c hc => (stM_o D l a b d' v' c hc).trans (a1 c hc)
  have o2 : ∀ i, ¬ i = 22 → ¬ i = 23 → stM D l a b d' v' 58 i = D0 58 i := fun i h1 h2 => (stM_58 D l a b d' v' i ⟨h1, h2⟩).trans (a2 i h1 h2)
  refine ⟨⟨o1, o2, ?_, ?_, ?_, ?_⟩, ?_, ?_, Nat.not_lt.mp w2, Nat.not_lt.mp w3, by split <;> omega, by split <;> omega⟩
  all_goals
    clear o1 o2
    unfold stM
    by_cases l1 : l = 109
    · subst l1
      rw [if_pos rfl] at w2
      simp only [↓reduceIte, h22, cM, iM, ax_up_ap, Nat.reduceEqDiff]
      first
        | exact h23
        | exact a4
        | exact a6
        | (intro j hj; rw [if_neg (by omega)]; first | exact a3 j hj | exact a5 j hj)
        | (rw [if_neg (show ¬ ev_ (109 : Int32) by decide)]; exact h23)
        | skip
    · rw [if_neg l1]
      by_cases l2 : l = 107
      · subst l2
        obtain ⟨rfl, -, q, -⟩ := r2 rfl
        have q := rg_cl q (by decide)
        simp only [↓reduceIte, ax_up_ap, Nat.reduceEqDiff]
        first
          | exact a3
          | exact a5
          | exact a6
          | (intro j hj; rw [if_neg (by omega)]; exact a4 j hj)
          | exact h22
          | (rw [if_neg (show ¬ ev_ (107 : Int32) by decide)]; exact h23)
          | (rw [if_neg (show ¬ (107 : Int32) = 109 by decide)]; exact h22)
          | skip
      · rw [if_neg l2]
        by_cases l3 : l = 99
        · subst l3
          obtain ⟨rfl, -, q, -⟩ := r3 rfl
          have q' : m < nI M := Classical.not_not.mp (fun z => w1 ⟨by decide, by decide, z⟩)
          have q' := na_lt.mp q'
          rw [na_nI (by omega)] at q'
          have q2 := na_cl q.1
          simp only [↓reduceIte, ax_up_ap, Nat.reduceEqDiff]
          first
            | exact a4
            | exact a5
            | exact a6
            | (intro j hj; rw [if_neg (by omega)]; exact a3 j hj)
            | exact h22
            | (rw [if_neg (show ¬ ev_ (99 : Int32) by decide)]; exact h23)
            | (rw [if_neg (show ¬ (99 : Int32) = 109 by decide)]; exact h22)
            | skip
        · rw [if_neg l3]
          have le : ev_ l := by
            rcases hl with q | q | q | q | q | q
            · exact absurd q l1
            · exact absurd q l2
            · exact Or.inl q
            · exact Or.inr (Or.inl q)
            · exact Or.inr (Or.inr q)
            · exact absurd q l3
          simp only [h23, cN, iN, ax_up_ap, Nat.reduceEqDiff, ↓reduceIte]
          first
            | exact a3
            | exact a4
            | exact a5
            | (intro j hj; rw [if_neg (by omega), if_neg (by omega), if_neg (by omega), if_neg (by omega), if_neg (by omega)]; exact a6 j hj)
            | (rw [if_neg l1]; exact h22)
            | (rw [if_pos le])
            | skip
