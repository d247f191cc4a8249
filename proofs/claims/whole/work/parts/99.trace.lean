set_option maxRecDepth 10000 in
theorem zz_38a {g : ax_G} (h : False)  (D : ax_Dn) (E : ax_En) (K : ax_Po) : ax_MM g 38 [.ref 40, .ref 19] (ax_S D E) K := by
  refine ax_go38 _ _ ?_
  refine ax_WPo (l := []) ax_on ax_ok38 (fun _ => false) 400 0 rfl ?_
  simp +decide only [↓ax_B, ax_B, ax_kds, ax_gvs, ax_mcs, ax_ia_S, ax_up_ap, ax_vinL, and_self_left, ax_up_up, ax_up_sw, Nat.reduceAdd, Nat.reduceBEq, Nat.reduceLeDiff, Nat.reduceLT, Nat.reduceEqDiff, ↓reduceIte, true_and, and_true, List.cons_append, List.nil_append, Int32.reduceLT, Int32.reduceLE, Int32.reduceAdd, Int32.reduceToNatClampNeg, Int32.reduceOfNat, true_imp_iff, false_imp_iff, not_true_eq_false, not_false_eq_true, or_true, true_or, or_false, false_or, and_self, Bool.or_true, Bool.or_false, Bool.true_or, Bool.false_or, implies_true, forall_const, Bool.false_eq_true, Int32.neg_neg]
  trace "MARK 38a"
  trace_state
  exact h.elim
set_option maxRecDepth 10000 in
theorem zz_38b {g : ax_G} (h : False)  (D : ax_Dn) (E : ax_En) (K : ax_Po) : ax_MM g 38 [.ref 19, .ref 40] (ax_S D E) K := by
  refine ax_go38 _ _ ?_
  refine ax_WPo (l := []) ax_on ax_ok38 (fun _ => false) 400 0 rfl ?_
  simp +decide only [↓ax_B, ax_B, ax_kds, ax_gvs, ax_mcs, ax_ia_S, ax_up_ap, ax_vinL, and_self_left, ax_up_up, ax_up_sw, Nat.reduceAdd, Nat.reduceBEq, Nat.reduceLeDiff, Nat.reduceLT, Nat.reduceEqDiff, ↓reduceIte, true_and, and_true, List.cons_append, List.nil_append, Int32.reduceLT, Int32.reduceLE, Int32.reduceAdd, Int32.reduceToNatClampNeg, Int32.reduceOfNat, true_imp_iff, false_imp_iff, not_true_eq_false, not_false_eq_true, or_true, true_or, or_false, false_or, and_self, Bool.or_true, Bool.or_false, Bool.true_or, Bool.false_or, implies_true, forall_const, Bool.false_eq_true, Int32.neg_neg]
  trace "MARK 38b"
  trace_state
  exact h.elim
set_option maxRecDepth 10000 in
theorem zz_49a {g : ax_G} (h : False)  (D : ax_Dn) (E : ax_En) (K : ax_Po) : ax_MM g 49 [.ref 33, .ref 12] (ax_S D E) K := by
  refine ax_go49 _ _ ?_
  refine ax_WPo (l := []) ax_on ax_ok49 (fun _ => false) 400 0 rfl ?_
  simp +decide only [↓ax_B, ax_B, ax_kds, ax_gvs, ax_mcs, ax_ia_S, ax_up_ap, ax_vinL, and_self_left, ax_up_up, ax_up_sw, Nat.reduceAdd, Nat.reduceBEq, Nat.reduceLeDiff, Nat.reduceLT, Nat.reduceEqDiff, ↓reduceIte, true_and, and_true, List.cons_append, List.nil_append, Int32.reduceLT, Int32.reduceLE, Int32.reduceAdd, Int32.reduceToNatClampNeg, Int32.reduceOfNat, true_imp_iff, false_imp_iff, not_true_eq_false, not_false_eq_true, or_true, true_or, or_false, false_or, and_self, Bool.or_true, Bool.or_false, Bool.true_or, Bool.false_or, implies_true, forall_const, Bool.false_eq_true, Int32.neg_neg]
  trace "MARK 49a"
  trace_state
  exact h.elim
set_option maxRecDepth 10000 in
theorem zz_49b {g : ax_G} (h : False)  (D : ax_Dn) (E : ax_En) (K : ax_Po) : ax_MM g 49 [.ref 12, .ref 33] (ax_S D E) K := by
  refine ax_go49 _ _ ?_
  refine ax_WPo (l := []) ax_on ax_ok49 (fun _ => false) 400 0 rfl ?_
  simp +decide only [↓ax_B, ax_B, ax_kds, ax_gvs, ax_mcs, ax_ia_S, ax_up_ap, ax_vinL, and_self_left, ax_up_up, ax_up_sw, Nat.reduceAdd, Nat.reduceBEq, Nat.reduceLeDiff, Nat.reduceLT, Nat.reduceEqDiff, ↓reduceIte, true_and, and_true, List.cons_append, List.nil_append, Int32.reduceLT, Int32.reduceLE, Int32.reduceAdd, Int32.reduceToNatClampNeg, Int32.reduceOfNat, true_imp_iff, false_imp_iff, not_true_eq_false, not_false_eq_true, or_true, true_or, or_false, false_or, and_self, Bool.or_true, Bool.or_false, Bool.true_or, Bool.false_or, implies_true, forall_const, Bool.false_eq_true, Int32.neg_neg]
  trace "MARK 49b"
  trace_state
  exact h.elim
set_option maxRecDepth 10000 in
theorem zz_60a {g : ax_G} (h : False)  (D : ax_Dn) (E : ax_En) (K : ax_Po) : ax_MM g 60 [.ref 23, .ref 2] (ax_S D E) K := by
  refine ax_go60 _ _ ?_
  refine ax_WPo (l := []) ax_on ax_ok60 (fun _ => false) 400 0 rfl ?_
  simp +decide only [↓ax_B, ax_B, ax_kds, ax_gvs, ax_mcs, ax_ia_S, ax_up_ap, ax_vinL, and_self_left, ax_up_up, ax_up_sw, Nat.reduceAdd, Nat.reduceBEq, Nat.reduceLeDiff, Nat.reduceLT, Nat.reduceEqDiff, ↓reduceIte, true_and, and_true, List.cons_append, List.nil_append, Int32.reduceLT, Int32.reduceLE, Int32.reduceAdd, Int32.reduceToNatClampNeg, Int32.reduceOfNat, true_imp_iff, false_imp_iff, not_true_eq_false, not_false_eq_true, or_true, true_or, or_false, false_or, and_self, Bool.or_true, Bool.or_false, Bool.true_or, Bool.false_or, implies_true, forall_const, Bool.false_eq_true, Int32.neg_neg]
  trace "MARK 60a"
  trace_state
  exact h.elim
set_option maxRecDepth 10000 in
theorem zz_60b {g : ax_G} (h : False)  (D : ax_Dn) (E : ax_En) (K : ax_Po) : ax_MM g 60 [.ref 2, .ref 23] (ax_S D E) K := by
  refine ax_go60 _ _ ?_
  refine ax_WPo (l := []) ax_on ax_ok60 (fun _ => false) 400 0 rfl ?_
  simp +decide only [↓ax_B, ax_B, ax_kds, ax_gvs, ax_mcs, ax_ia_S, ax_up_ap, ax_vinL, and_self_left, ax_up_up, ax_up_sw, Nat.reduceAdd, Nat.reduceBEq, Nat.reduceLeDiff, Nat.reduceLT, Nat.reduceEqDiff, ↓reduceIte, true_and, and_true, List.cons_append, List.nil_append, Int32.reduceLT, Int32.reduceLE, Int32.reduceAdd, Int32.reduceToNatClampNeg, Int32.reduceOfNat, true_imp_iff, false_imp_iff, not_true_eq_false, not_false_eq_true, or_true, true_or, or_false, false_or, and_self, Bool.or_true, Bool.or_false, Bool.true_or, Bool.false_or, implies_true, forall_const, Bool.false_eq_true, Int32.neg_neg]
  trace "MARK 60b"
  trace_state
  exact h.elim
