theorem zz_2 (g : ax_G) (D : ax_Dn) (E : ax_En) (K : ax_Po) (x y w : Int32) (h : False) : ax_MM g 64 [.ref 2, .int x, .int y, .int w] (ax_S D E) K := by
  refine ax_go64 _ _ _ _ ?_
  refine ax_WPr ax_ok64 (fun t => t == 6) 100 0 rfl ?_
  simp +decide only [↓ax_B, ax_B, ax_kds, ax_gvs, ax_mcs, ax_ia_S, ax_up_ap, Nat.reduceAdd, Nat.reduceBEq, Nat.reduceLeDiff, Nat.reduceLT, Nat.reduceEqDiff, ↓reduceIte, true_and, and_true, List.cons_append, List.nil_append, Int32.reduceLT, Int32.reduceLE, Int32.reduceAdd, Int32.reduceToNatClampNeg, Int32.reduceOfNat, true_imp_iff, false_imp_iff, not_true_eq_false, not_false_eq_true, or_true, true_or, or_false, false_or, and_self, Bool.or_true, Bool.or_false, Bool.true_or, Bool.false_or, implies_true, forall_const, Bool.false_eq_true, ax_X64]
  trace_state
  exact h.elim
theorem zz_3 (g : ax_G) (D : ax_Dn) (E : ax_En) (K : ax_Po) (i x y w bt : Int32) (h : False) : ax_WP g (ax_hy 64) K 92 92 6 [some (.ref 2), some (.int x), some (.int y), some (.int w), some (.int bt), some (.int i)] [] (ax_S D E) := by
  refine ax_WPr ax_ok64 (fun t => t == 6) 100 6 rfl ?_
  simp +decide only [↓ax_B, ax_B, ax_kds, ax_gvs, ax_mcs, ax_ia_S, ax_up_ap, Nat.reduceAdd, Nat.reduceBEq, Nat.reduceLeDiff, Nat.reduceLT, Nat.reduceEqDiff, ↓reduceIte, true_and, and_true, List.cons_append, List.nil_append, Int32.reduceLT, Int32.reduceLE, Int32.reduceAdd, Int32.reduceToNatClampNeg, Int32.reduceOfNat, true_imp_iff, false_imp_iff, not_true_eq_false, not_false_eq_true, or_true, true_or, or_false, false_or, and_self, Bool.or_true, Bool.or_false, Bool.true_or, Bool.false_or, implies_true, forall_const, Bool.false_eq_true, ax_X64]
  trace_state
  exact h.elim
