theorem zz_1 {g : ax_G} (h : False) (p1 : Int32) (D : ax_Dn) (E : ax_En) (K : ax_Po) : ax_MM g 1 [.ref 43, .int p1] (ax_S D E) K := by
  refine ax_go1 _ _ ?_
  refine ax_WPo (l := []) ax_on ax_ok1 (fun _ => false) 400 0 rfl ?_
  simp +decide only [↓ax_B, ax_B, ax_kds, ax_gvs, ax_mcs, ax_ia_S, ax_up_ap, Nat.reduceAdd, Nat.reduceBEq, Nat.reduceLeDiff, Nat.reduceLT, Nat.reduceEqDiff, ↓reduceIte, true_and, and_true, List.cons_append, List.nil_append, Int32.reduceLT, Int32.reduceLE, Int32.reduceAdd, Int32.reduceToNatClampNeg, Int32.reduceOfNat, true_imp_iff, false_imp_iff, not_true_eq_false, not_false_eq_true, or_true, true_or, or_false, false_or, and_self, Bool.or_true, Bool.or_false, Bool.true_or, Bool.false_or, implies_true, forall_const, Bool.false_eq_true, ax_X1]
  trace "MARK 1"
  trace_state
  exact h.elim
theorem zz_4 {g : ax_G} (h : False)  (D : ax_Dn) (E : ax_En) (K : ax_Po) : ax_MM g 4 [.ref 43] (ax_S D E) K := by
  refine ax_go4 _ ?_
  refine ax_WPo (l := []) ax_on ax_ok4 (fun _ => false) 400 0 rfl ?_
  simp +decide only [↓ax_B, ax_B, ax_kds, ax_gvs, ax_mcs, ax_ia_S, ax_up_ap, Nat.reduceAdd, Nat.reduceBEq, Nat.reduceLeDiff, Nat.reduceLT, Nat.reduceEqDiff, ↓reduceIte, true_and, and_true, List.cons_append, List.nil_append, Int32.reduceLT, Int32.reduceLE, Int32.reduceAdd, Int32.reduceToNatClampNeg, Int32.reduceOfNat, true_imp_iff, false_imp_iff, not_true_eq_false, not_false_eq_true, or_true, true_or, or_false, false_or, and_self, Bool.or_true, Bool.or_false, Bool.true_or, Bool.false_or, implies_true, forall_const, Bool.false_eq_true, ax_X4]
  trace "MARK 4"
  trace_state
  exact h.elim
theorem zz_14 {g : ax_G} (h : False) (p1 : Int32) (D : ax_Dn) (E : ax_En) (K : ax_Po) : ax_MM g 14 [.int p1] (ax_S D E) K := by
  refine ax_go14 _ ?_
  refine ax_WPo (l := []) ax_on ax_ok14 (fun _ => false) 400 0 rfl ?_
  simp +decide only [↓ax_B, ax_B, ax_kds, ax_gvs, ax_mcs, ax_ia_S, ax_up_ap, Nat.reduceAdd, Nat.reduceBEq, Nat.reduceLeDiff, Nat.reduceLT, Nat.reduceEqDiff, ↓reduceIte, true_and, and_true, List.cons_append, List.nil_append, Int32.reduceLT, Int32.reduceLE, Int32.reduceAdd, Int32.reduceToNatClampNeg, Int32.reduceOfNat, true_imp_iff, false_imp_iff, not_true_eq_false, not_false_eq_true, or_true, true_or, or_false, false_or, and_self, Bool.or_true, Bool.or_false, Bool.true_or, Bool.false_or, implies_true, forall_const, Bool.false_eq_true, ax_X14]
  trace "MARK 14"
  trace_state
  exact h.elim
theorem zz_26 {g : ax_G} (h : False) (p1 : Int32) (p2 : Int32) (D : ax_Dn) (E : ax_En) (K : ax_Po) : ax_MM g 26 [.ref 1, .int p1, .int p2] (ax_S D E) K := by
  refine ax_go26 _ _ _ ?_
  refine ax_WPo (l := []) ax_on ax_ok26 (fun _ => false) 400 0 rfl ?_
  simp +decide only [↓ax_B, ax_B, ax_kds, ax_gvs, ax_mcs, ax_ia_S, ax_up_ap, Nat.reduceAdd, Nat.reduceBEq, Nat.reduceLeDiff, Nat.reduceLT, Nat.reduceEqDiff, ↓reduceIte, true_and, and_true, List.cons_append, List.nil_append, Int32.reduceLT, Int32.reduceLE, Int32.reduceAdd, Int32.reduceToNatClampNeg, Int32.reduceOfNat, true_imp_iff, false_imp_iff, not_true_eq_false, not_false_eq_true, or_true, true_or, or_false, false_or, and_self, Bool.or_true, Bool.or_false, Bool.true_or, Bool.false_or, implies_true, forall_const, Bool.false_eq_true]
  trace "MARK 26"
  trace_state
  exact h.elim
theorem zz_28 {g : ax_G} (h : False) (p1 : Int32) (p2 : Int32) (D : ax_Dn) (E : ax_En) (K : ax_Po) : ax_MM g 28 [.int p1, .int p2] (ax_S D E) K := by
  refine ax_go28 _ _ ?_
  refine ax_WPo (l := []) ax_on ax_ok28 (fun _ => false) 400 0 rfl ?_
  simp +decide only [↓ax_B, ax_B, ax_kds, ax_gvs, ax_mcs, ax_ia_S, ax_up_ap, Nat.reduceAdd, Nat.reduceBEq, Nat.reduceLeDiff, Nat.reduceLT, Nat.reduceEqDiff, ↓reduceIte, true_and, and_true, List.cons_append, List.nil_append, Int32.reduceLT, Int32.reduceLE, Int32.reduceAdd, Int32.reduceToNatClampNeg, Int32.reduceOfNat, true_imp_iff, false_imp_iff, not_true_eq_false, not_false_eq_true, or_true, true_or, or_false, false_or, and_self, Bool.or_true, Bool.or_false, Bool.true_or, Bool.false_or, implies_true, forall_const, Bool.false_eq_true, ax_X28]
  trace "MARK 28"
  trace_state
  exact h.elim
theorem zz_36 {g : ax_G} (h : False) (p1 : Int32) (p2 : Int32) (D : ax_Dn) (E : ax_En) (K : ax_Po) : ax_MM g 36 [.int p1, .int p2] (ax_S D E) K := by
  refine ax_go36 _ _ ?_
  refine ax_WPo (l := []) ax_on ax_ok36 (fun _ => false) 400 0 rfl ?_
  simp +decide only [↓ax_B, ax_B, ax_kds, ax_gvs, ax_mcs, ax_ia_S, ax_up_ap, Nat.reduceAdd, Nat.reduceBEq, Nat.reduceLeDiff, Nat.reduceLT, Nat.reduceEqDiff, ↓reduceIte, true_and, and_true, List.cons_append, List.nil_append, Int32.reduceLT, Int32.reduceLE, Int32.reduceAdd, Int32.reduceToNatClampNeg, Int32.reduceOfNat, true_imp_iff, false_imp_iff, not_true_eq_false, not_false_eq_true, or_true, true_or, or_false, false_or, and_self, Bool.or_true, Bool.or_false, Bool.true_or, Bool.false_or, implies_true, forall_const, Bool.false_eq_true, ax_X36]
  trace "MARK 36"
  trace_state
  exact h.elim
theorem zz_40 {g : ax_G} (h : False) (p1 : Int32) (p2 : Int32) (D : ax_Dn) (E : ax_En) (K : ax_Po) : ax_MM g 40 [.ref 19, .int p1, .int p2] (ax_S D E) K := by
  refine ax_go40 _ _ _ ?_
  refine ax_WPo (l := []) ax_on ax_ok40 (fun _ => false) 400 0 rfl ?_
  simp +decide only [↓ax_B, ax_B, ax_kds, ax_gvs, ax_mcs, ax_ia_S, ax_up_ap, Nat.reduceAdd, Nat.reduceBEq, Nat.reduceLeDiff, Nat.reduceLT, Nat.reduceEqDiff, ↓reduceIte, true_and, and_true, List.cons_append, List.nil_append, Int32.reduceLT, Int32.reduceLE, Int32.reduceAdd, Int32.reduceToNatClampNeg, Int32.reduceOfNat, true_imp_iff, false_imp_iff, not_true_eq_false, not_false_eq_true, or_true, true_or, or_false, false_or, and_self, Bool.or_true, Bool.or_false, Bool.true_or, Bool.false_or, implies_true, forall_const, Bool.false_eq_true]
  trace "MARK 40"
  trace_state
  exact h.elim
theorem zz_50 {g : ax_G} (h : False) (p1 : Int32) (p2 : Int32) (p3 : Int32) (p4 : Int32) (p5 : Int32) (D : ax_Dn) (E : ax_En) (K : ax_Po) : ax_MM g 50 [.ref 12, .int p1, .int p2, .int p3, .int p4, .int p5] (ax_S D E) K := by
  refine ax_go50 _ _ _ _ _ _ ?_
  refine ax_WPo (l := []) ax_on ax_ok50 (fun _ => false) 400 0 rfl ?_
  simp +decide only [↓ax_B, ax_B, ax_kds, ax_gvs, ax_mcs, ax_ia_S, ax_up_ap, Nat.reduceAdd, Nat.reduceBEq, Nat.reduceLeDiff, Nat.reduceLT, Nat.reduceEqDiff, ↓reduceIte, true_and, and_true, List.cons_append, List.nil_append, Int32.reduceLT, Int32.reduceLE, Int32.reduceAdd, Int32.reduceToNatClampNeg, Int32.reduceOfNat, true_imp_iff, false_imp_iff, not_true_eq_false, not_false_eq_true, or_true, true_or, or_false, false_or, and_self, Bool.or_true, Bool.or_false, Bool.true_or, Bool.false_or, implies_true, forall_const, Bool.false_eq_true, ax_X50]
  trace "MARK 50"
  trace_state
  exact h.elim
theorem zz_54 {g : ax_G} (h : False) (p1 : Int32) (p2 : Int32) (D : ax_Dn) (E : ax_En) (K : ax_Po) : ax_MM g 54 [.int p1, .int p2] (ax_S D E) K := by
  refine ax_go54 _ _ ?_
  refine ax_WPo (l := []) ax_on ax_ok54 (fun _ => false) 400 0 rfl ?_
  simp +decide only [↓ax_B, ax_B, ax_kds, ax_gvs, ax_mcs, ax_ia_S, ax_up_ap, Nat.reduceAdd, Nat.reduceBEq, Nat.reduceLeDiff, Nat.reduceLT, Nat.reduceEqDiff, ↓reduceIte, true_and, and_true, List.cons_append, List.nil_append, Int32.reduceLT, Int32.reduceLE, Int32.reduceAdd, Int32.reduceToNatClampNeg, Int32.reduceOfNat, true_imp_iff, false_imp_iff, not_true_eq_false, not_false_eq_true, or_true, true_or, or_false, false_or, and_self, Bool.or_true, Bool.or_false, Bool.true_or, Bool.false_or, implies_true, forall_const, Bool.false_eq_true, ax_X54]
  trace "MARK 54"
  trace_state
  exact h.elim
theorem zz_61 {g : ax_G} (h : False) (p1 : Int32) (D : ax_Dn) (E : ax_En) (K : ax_Po) : ax_MM g 61 [.ref 2, .int p1] (ax_S D E) K := by
  refine ax_go61 _ _ ?_
  refine ax_WPo (l := []) ax_on ax_ok61 (fun _ => false) 400 0 rfl ?_
  simp +decide only [↓ax_B, ax_B, ax_kds, ax_gvs, ax_mcs, ax_ia_S, ax_up_ap, Nat.reduceAdd, Nat.reduceBEq, Nat.reduceLeDiff, Nat.reduceLT, Nat.reduceEqDiff, ↓reduceIte, true_and, and_true, List.cons_append, List.nil_append, Int32.reduceLT, Int32.reduceLE, Int32.reduceAdd, Int32.reduceToNatClampNeg, Int32.reduceOfNat, true_imp_iff, false_imp_iff, not_true_eq_false, not_false_eq_true, or_true, true_or, or_false, false_or, and_self, Bool.or_true, Bool.or_false, Bool.true_or, Bool.false_or, implies_true, forall_const, Bool.false_eq_true, ax_X61]
  trace "MARK 61"
  trace_state
  exact h.elim
theorem zz_63 {g : ax_G} (h : False) (p1 : Int32) (D : ax_Dn) (E : ax_En) (K : ax_Po) : ax_MM g 63 [.ref 2, .int p1] (ax_S D E) K := by
  refine ax_go63 _ _ ?_
  refine ax_WPo (l := []) ax_on ax_ok63 (fun _ => false) 400 0 rfl ?_
  simp +decide only [↓ax_B, ax_B, ax_kds, ax_gvs, ax_mcs, ax_ia_S, ax_up_ap, Nat.reduceAdd, Nat.reduceBEq, Nat.reduceLeDiff, Nat.reduceLT, Nat.reduceEqDiff, ↓reduceIte, true_and, and_true, List.cons_append, List.nil_append, Int32.reduceLT, Int32.reduceLE, Int32.reduceAdd, Int32.reduceToNatClampNeg, Int32.reduceOfNat, true_imp_iff, false_imp_iff, not_true_eq_false, not_false_eq_true, or_true, true_or, or_false, false_or, and_self, Bool.or_true, Bool.or_false, Bool.true_or, Bool.false_or, implies_true, forall_const, Bool.false_eq_true]
  trace "MARK 63"
  trace_state
  exact h.elim
theorem zz_66 {g : ax_G} (h : False) (p1 : Int32) (p2 : Int32) (p3 : Int32) (D : ax_Dn) (E : ax_En) (K : ax_Po) : ax_MM g 66 [.ref 2, .int p1, .int p2, .int p3] (ax_S D E) K := by
  refine ax_go66 _ _ _ _ ?_
  refine ax_WPo (l := []) ax_on ax_ok66 (fun _ => false) 400 0 rfl ?_
  simp +decide only [↓ax_B, ax_B, ax_kds, ax_gvs, ax_mcs, ax_ia_S, ax_up_ap, Nat.reduceAdd, Nat.reduceBEq, Nat.reduceLeDiff, Nat.reduceLT, Nat.reduceEqDiff, ↓reduceIte, true_and, and_true, List.cons_append, List.nil_append, Int32.reduceLT, Int32.reduceLE, Int32.reduceAdd, Int32.reduceToNatClampNeg, Int32.reduceOfNat, true_imp_iff, false_imp_iff, not_true_eq_false, not_false_eq_true, or_true, true_or, or_false, false_or, and_self, Bool.or_true, Bool.or_false, Bool.true_or, Bool.false_or, implies_true, forall_const, Bool.false_eq_true]
  trace "MARK 66"
  trace_state
  exact h.elim
theorem zz_110 {g : ax_G} (h : False) (p1 : Int32) (D : ax_Dn) (E : ax_En) (K : ax_Po) : ax_MM g 110 [.ref 0, .int p1] (ax_S D E) K := by
  refine ax_go110 _ _ ?_
  refine ax_WPo (l := []) ax_on ax_ok110 (fun _ => false) 400 0 rfl ?_
  simp +decide only [↓ax_B, ax_B, ax_kds, ax_gvs, ax_mcs, ax_ia_S, ax_up_ap, Nat.reduceAdd, Nat.reduceBEq, Nat.reduceLeDiff, Nat.reduceLT, Nat.reduceEqDiff, ↓reduceIte, true_and, and_true, List.cons_append, List.nil_append, Int32.reduceLT, Int32.reduceLE, Int32.reduceAdd, Int32.reduceToNatClampNeg, Int32.reduceOfNat, true_imp_iff, false_imp_iff, not_true_eq_false, not_false_eq_true, or_true, true_or, or_false, false_or, and_self, Bool.or_true, Bool.or_false, Bool.true_or, Bool.false_or, implies_true, forall_const, Bool.false_eq_true, ax_X110]
  trace "MARK 110"
  trace_state
  exact h.elim
theorem zz_111 {g : ax_G} (h : False) (p1 : Int32) (D : ax_Dn) (E : ax_En) (K : ax_Po) : ax_MM g 111 [.ref 0, .int p1] (ax_S D E) K := by
  refine ax_go111 _ _ ?_
  refine ax_WPo (l := []) ax_on ax_ok111 (fun _ => false) 400 0 rfl ?_
  simp +decide only [↓ax_B, ax_B, ax_kds, ax_gvs, ax_mcs, ax_ia_S, ax_up_ap, Nat.reduceAdd, Nat.reduceBEq, Nat.reduceLeDiff, Nat.reduceLT, Nat.reduceEqDiff, ↓reduceIte, true_and, and_true, List.cons_append, List.nil_append, Int32.reduceLT, Int32.reduceLE, Int32.reduceAdd, Int32.reduceToNatClampNeg, Int32.reduceOfNat, true_imp_iff, false_imp_iff, not_true_eq_false, not_false_eq_true, or_true, true_or, or_false, false_or, and_self, Bool.or_true, Bool.or_false, Bool.true_or, Bool.false_or, implies_true, forall_const, Bool.false_eq_true, ax_X111]
  trace "MARK 111"
  trace_state
  exact h.elim
theorem zz_112 {g : ax_G} (h : False) (p1 : Int32) (D : ax_Dn) (E : ax_En) (K : ax_Po) : ax_MM g 112 [.int p1] (ax_S D E) K := by
  refine ax_go112 _ ?_
  refine ax_WPo (l := []) ax_on ax_ok112 (fun _ => false) 400 0 rfl ?_
  simp +decide only [↓ax_B, ax_B, ax_kds, ax_gvs, ax_mcs, ax_ia_S, ax_up_ap, Nat.reduceAdd, Nat.reduceBEq, Nat.reduceLeDiff, Nat.reduceLT, Nat.reduceEqDiff, ↓reduceIte, true_and, and_true, List.cons_append, List.nil_append, Int32.reduceLT, Int32.reduceLE, Int32.reduceAdd, Int32.reduceToNatClampNeg, Int32.reduceOfNat, true_imp_iff, false_imp_iff, not_true_eq_false, not_false_eq_true, or_true, true_or, or_false, false_or, and_self, Bool.or_true, Bool.or_false, Bool.true_or, Bool.false_or, implies_true, forall_const, Bool.false_eq_true, ax_X112]
  trace "MARK 112"
  trace_state
  exact h.elim
theorem zz_113 {g : ax_G} (h : False) (p1 : Int32) (D : ax_Dn) (E : ax_En) (K : ax_Po) : ax_MM g 113 [.ref 0, .int p1] (ax_S D E) K := by
  refine ax_go113 _ _ ?_
  refine ax_WPo (l := []) ax_on ax_ok113 (fun _ => false) 400 0 rfl ?_
  simp +decide only [↓ax_B, ax_B, ax_kds, ax_gvs, ax_mcs, ax_ia_S, ax_up_ap, Nat.reduceAdd, Nat.reduceBEq, Nat.reduceLeDiff, Nat.reduceLT, Nat.reduceEqDiff, ↓reduceIte, true_and, and_true, List.cons_append, List.nil_append, Int32.reduceLT, Int32.reduceLE, Int32.reduceAdd, Int32.reduceToNatClampNeg, Int32.reduceOfNat, true_imp_iff, false_imp_iff, not_true_eq_false, not_false_eq_true, or_true, true_or, or_false, false_or, and_self, Bool.or_true, Bool.or_false, Bool.true_or, Bool.false_or, implies_true, forall_const, Bool.false_eq_true, ax_X113]
  trace "MARK 113"
  trace_state
  exact h.elim
theorem zz_114 {g : ax_G} (h : False) (p1 : Int32) (D : ax_Dn) (E : ax_En) (K : ax_Po) : ax_MM g 114 [.ref 0, .int p1] (ax_S D E) K := by
  refine ax_go114 _ _ ?_
  refine ax_WPo (l := []) ax_on ax_ok114 (fun _ => false) 400 0 rfl ?_
  simp +decide only [↓ax_B, ax_B, ax_kds, ax_gvs, ax_mcs, ax_ia_S, ax_up_ap, Nat.reduceAdd, Nat.reduceBEq, Nat.reduceLeDiff, Nat.reduceLT, Nat.reduceEqDiff, ↓reduceIte, true_and, and_true, List.cons_append, List.nil_append, Int32.reduceLT, Int32.reduceLE, Int32.reduceAdd, Int32.reduceToNatClampNeg, Int32.reduceOfNat, true_imp_iff, false_imp_iff, not_true_eq_false, not_false_eq_true, or_true, true_or, or_false, false_or, and_self, Bool.or_true, Bool.or_false, Bool.true_or, Bool.false_or, implies_true, forall_const, Bool.false_eq_true, ax_X114]
  trace "MARK 114"
  trace_state
  exact h.elim
theorem zz_115 {g : ax_G} (h : False) (p1 : Int32) (D : ax_Dn) (E : ax_En) (K : ax_Po) : ax_MM g 115 [.ref 0, .int p1] (ax_S D E) K := by
  refine ax_go115 _ _ ?_
  refine ax_WPo (l := []) ax_on ax_ok115 (fun _ => false) 400 0 rfl ?_
  simp +decide only [↓ax_B, ax_B, ax_kds, ax_gvs, ax_mcs, ax_ia_S, ax_up_ap, Nat.reduceAdd, Nat.reduceBEq, Nat.reduceLeDiff, Nat.reduceLT, Nat.reduceEqDiff, ↓reduceIte, true_and, and_true, List.cons_append, List.nil_append, Int32.reduceLT, Int32.reduceLE, Int32.reduceAdd, Int32.reduceToNatClampNeg, Int32.reduceOfNat, true_imp_iff, false_imp_iff, not_true_eq_false, not_false_eq_true, or_true, true_or, or_false, false_or, and_self, Bool.or_true, Bool.or_false, Bool.true_or, Bool.false_or, implies_true, forall_const, Bool.false_eq_true, ax_X115]
  trace "MARK 115"
  trace_state
  exact h.elim
theorem zz_116 {g : ax_G} (h : False) (p1 : Int32) (D : ax_Dn) (E : ax_En) (K : ax_Po) : ax_MM g 116 [.int p1] (ax_S D E) K := by
  refine ax_go116 _ ?_
  refine ax_WPo (l := []) ax_on ax_ok116 (fun _ => false) 400 0 rfl ?_
  simp +decide only [↓ax_B, ax_B, ax_kds, ax_gvs, ax_mcs, ax_ia_S, ax_up_ap, Nat.reduceAdd, Nat.reduceBEq, Nat.reduceLeDiff, Nat.reduceLT, Nat.reduceEqDiff, ↓reduceIte, true_and, and_true, List.cons_append, List.nil_append, Int32.reduceLT, Int32.reduceLE, Int32.reduceAdd, Int32.reduceToNatClampNeg, Int32.reduceOfNat, true_imp_iff, false_imp_iff, not_true_eq_false, not_false_eq_true, or_true, true_or, or_false, false_or, and_self, Bool.or_true, Bool.or_false, Bool.true_or, Bool.false_or, implies_true, forall_const, Bool.false_eq_true, ax_X116]
  trace "MARK 116"
  trace_state
  exact h.elim
theorem zz_117 {g : ax_G} (h : False) (p1 : Int32) (p2 : Int32) (p3 : Int32) (D : ax_Dn) (E : ax_En) (K : ax_Po) : ax_MM g 117 [.int p1, .int p2, .int p3] (ax_S D E) K := by
  refine ax_go117 _ _ _ ?_
  refine ax_WPo (l := []) ax_on ax_ok117 (fun _ => false) 400 0 rfl ?_
  simp +decide only [↓ax_B, ax_B, ax_kds, ax_gvs, ax_mcs, ax_ia_S, ax_up_ap, Nat.reduceAdd, Nat.reduceBEq, Nat.reduceLeDiff, Nat.reduceLT, Nat.reduceEqDiff, ↓reduceIte, true_and, and_true, List.cons_append, List.nil_append, Int32.reduceLT, Int32.reduceLE, Int32.reduceAdd, Int32.reduceToNatClampNeg, Int32.reduceOfNat, true_imp_iff, false_imp_iff, not_true_eq_false, not_false_eq_true, or_true, true_or, or_false, false_or, and_self, Bool.or_true, Bool.or_false, Bool.true_or, Bool.false_or, implies_true, forall_const, Bool.false_eq_true, ax_X117]
  trace "MARK 117"
  trace_state
  exact h.elim
theorem zz_125 {g : ax_G} (h : False) (p1 : Int32) (D : ax_Dn) (E : ax_En) (K : ax_Po) : ax_MM g 125 [.ref 58, .int p1] (ax_S D E) K := by
  refine ax_go125 _ _ ?_
  refine ax_WPo (l := []) ax_on ax_ok125 (fun _ => false) 400 0 rfl ?_
  simp +decide only [↓ax_B, ax_B, ax_kds, ax_gvs, ax_mcs, ax_ia_S, ax_up_ap, Nat.reduceAdd, Nat.reduceBEq, Nat.reduceLeDiff, Nat.reduceLT, Nat.reduceEqDiff, ↓reduceIte, true_and, and_true, List.cons_append, List.nil_append, Int32.reduceLT, Int32.reduceLE, Int32.reduceAdd, Int32.reduceToNatClampNeg, Int32.reduceOfNat, true_imp_iff, false_imp_iff, not_true_eq_false, not_false_eq_true, or_true, true_or, or_false, false_or, and_self, Bool.or_true, Bool.or_false, Bool.true_or, Bool.false_or, implies_true, forall_const, Bool.false_eq_true]
  trace "MARK 125"
  trace_state
  exact h.elim
theorem zz_126 {g : ax_G} (h : False) (p1 : Int32) (D : ax_Dn) (E : ax_En) (K : ax_Po) : ax_MM g 126 [.ref 58, .int p1] (ax_S D E) K := by
  refine ax_go126 _ _ ?_
  refine ax_WPo (l := []) ax_on ax_ok126 (fun _ => false) 400 0 rfl ?_
  simp +decide only [↓ax_B, ax_B, ax_kds, ax_gvs, ax_mcs, ax_ia_S, ax_up_ap, Nat.reduceAdd, Nat.reduceBEq, Nat.reduceLeDiff, Nat.reduceLT, Nat.reduceEqDiff, ↓reduceIte, true_and, and_true, List.cons_append, List.nil_append, Int32.reduceLT, Int32.reduceLE, Int32.reduceAdd, Int32.reduceToNatClampNeg, Int32.reduceOfNat, true_imp_iff, false_imp_iff, not_true_eq_false, not_false_eq_true, or_true, true_or, or_false, false_or, and_self, Bool.or_true, Bool.or_false, Bool.true_or, Bool.false_or, implies_true, forall_const, Bool.false_eq_true]
  trace "MARK 126"
  trace_state
  exact h.elim
theorem zz_127 {g : ax_G} (h : False) (p1 : Int32) (D : ax_Dn) (E : ax_En) (K : ax_Po) : ax_MM g 127 [.ref 58, .int p1] (ax_S D E) K := by
  refine ax_go127 _ _ ?_
  refine ax_WPo (l := []) ax_on ax_ok127 (fun _ => false) 400 0 rfl ?_
  simp +decide only [↓ax_B, ax_B, ax_kds, ax_gvs, ax_mcs, ax_ia_S, ax_up_ap, Nat.reduceAdd, Nat.reduceBEq, Nat.reduceLeDiff, Nat.reduceLT, Nat.reduceEqDiff, ↓reduceIte, true_and, and_true, List.cons_append, List.nil_append, Int32.reduceLT, Int32.reduceLE, Int32.reduceAdd, Int32.reduceToNatClampNeg, Int32.reduceOfNat, true_imp_iff, false_imp_iff, not_true_eq_false, not_false_eq_true, or_true, true_or, or_false, false_or, and_self, Bool.or_true, Bool.or_false, Bool.true_or, Bool.false_or, implies_true, forall_const, Bool.false_eq_true]
  trace "MARK 127"
  trace_state
  exact h.elim
theorem zz_128 {g : ax_G} (h : False) (p1 : Int32) (p2 : Int32) (p3 : Int32) (D : ax_Dn) (E : ax_En) (K : ax_Po) : ax_MM g 128 [.int p1, .int p2, .int p3] (ax_S D E) K := by
  refine ax_go128 _ _ _ ?_
  refine ax_WPo (l := []) ax_on ax_ok128 (fun _ => false) 400 0 rfl ?_
  simp +decide only [↓ax_B, ax_B, ax_kds, ax_gvs, ax_mcs, ax_ia_S, ax_up_ap, Nat.reduceAdd, Nat.reduceBEq, Nat.reduceLeDiff, Nat.reduceLT, Nat.reduceEqDiff, ↓reduceIte, true_and, and_true, List.cons_append, List.nil_append, Int32.reduceLT, Int32.reduceLE, Int32.reduceAdd, Int32.reduceToNatClampNeg, Int32.reduceOfNat, true_imp_iff, false_imp_iff, not_true_eq_false, not_false_eq_true, or_true, true_or, or_false, false_or, and_self, Bool.or_true, Bool.or_false, Bool.true_or, Bool.false_or, implies_true, forall_const, Bool.false_eq_true, ax_X128]
  trace "MARK 128"
  trace_state
  exact h.elim
theorem zz_129 {g : ax_G} (h : False) (p1 : Int32) (p2 : Int32) (p3 : Int32) (D : ax_Dn) (E : ax_En) (K : ax_Po) : ax_MM g 129 [.int p1, .int p2, .int p3] (ax_S D E) K := by
  refine ax_go129 _ _ _ ?_
  refine ax_WPo (l := []) ax_on ax_ok129 (fun _ => false) 400 0 rfl ?_
  simp +decide only [↓ax_B, ax_B, ax_kds, ax_gvs, ax_mcs, ax_ia_S, ax_up_ap, Nat.reduceAdd, Nat.reduceBEq, Nat.reduceLeDiff, Nat.reduceLT, Nat.reduceEqDiff, ↓reduceIte, true_and, and_true, List.cons_append, List.nil_append, Int32.reduceLT, Int32.reduceLE, Int32.reduceAdd, Int32.reduceToNatClampNeg, Int32.reduceOfNat, true_imp_iff, false_imp_iff, not_true_eq_false, not_false_eq_true, or_true, true_or, or_false, false_or, and_self, Bool.or_true, Bool.or_false, Bool.true_or, Bool.false_or, implies_true, forall_const, Bool.false_eq_true, ax_X129]
  trace "MARK 129"
  trace_state
  exact h.elim
theorem zz_131 {g : ax_G} (h : False)  (D : ax_Dn) (E : ax_En) (K : ax_Po) : ax_MM g 131 [.ref 58] (ax_S D E) K := by
  refine ax_go131 _ ?_
  refine ax_WPo (l := []) ax_on ax_ok131 (fun _ => false) 400 0 rfl ?_
  simp +decide only [↓ax_B, ax_B, ax_kds, ax_gvs, ax_mcs, ax_ia_S, ax_up_ap, Nat.reduceAdd, Nat.reduceBEq, Nat.reduceLeDiff, Nat.reduceLT, Nat.reduceEqDiff, ↓reduceIte, true_and, and_true, List.cons_append, List.nil_append, Int32.reduceLT, Int32.reduceLE, Int32.reduceAdd, Int32.reduceToNatClampNeg, Int32.reduceOfNat, true_imp_iff, false_imp_iff, not_true_eq_false, not_false_eq_true, or_true, true_or, or_false, false_or, and_self, Bool.or_true, Bool.or_false, Bool.true_or, Bool.false_or, implies_true, forall_const, Bool.false_eq_true, ax_X131]
  trace "MARK 131"
  trace_state
  exact h.elim
theorem zz_139 {g : ax_G} (h : False) (p1 : Int32) (p2 : Int32) (p3 : Int32) (p4 : Int32) (D : ax_Dn) (E : ax_En) (K : ax_Po) : ax_MM g 139 [.ref 58, .int p1, .int p2, .int p3, .int p4] (ax_S D E) K := by
  refine ax_go139 _ _ _ _ _ ?_
  refine ax_WPo (l := []) ax_on ax_ok139 (fun _ => false) 400 0 rfl ?_
  simp +decide only [↓ax_B, ax_B, ax_kds, ax_gvs, ax_mcs, ax_ia_S, ax_up_ap, Nat.reduceAdd, Nat.reduceBEq, Nat.reduceLeDiff, Nat.reduceLT, Nat.reduceEqDiff, ↓reduceIte, true_and, and_true, List.cons_append, List.nil_append, Int32.reduceLT, Int32.reduceLE, Int32.reduceAdd, Int32.reduceToNatClampNeg, Int32.reduceOfNat, true_imp_iff, false_imp_iff, not_true_eq_false, not_false_eq_true, or_true, true_or, or_false, false_or, and_self, Bool.or_true, Bool.or_false, Bool.true_or, Bool.false_or, implies_true, forall_const, Bool.false_eq_true, ax_X139]
  trace "MARK 139"
  trace_state
  exact h.elim
theorem zz_140 {g : ax_G} (h : False) (p1 : Int32) (p2 : Int32) (D : ax_Dn) (E : ax_En) (K : ax_Po) : ax_MM g 140 [.ref 58, .int p1, .int p2] (ax_S D E) K := by
  refine ax_go140 _ _ _ ?_
  refine ax_WPo (l := []) ax_on ax_ok140 (fun _ => false) 400 0 rfl ?_
  simp +decide only [↓ax_B, ax_B, ax_kds, ax_gvs, ax_mcs, ax_ia_S, ax_up_ap, Nat.reduceAdd, Nat.reduceBEq, Nat.reduceLeDiff, Nat.reduceLT, Nat.reduceEqDiff, ↓reduceIte, true_and, and_true, List.cons_append, List.nil_append, Int32.reduceLT, Int32.reduceLE, Int32.reduceAdd, Int32.reduceToNatClampNeg, Int32.reduceOfNat, true_imp_iff, false_imp_iff, not_true_eq_false, not_false_eq_true, or_true, true_or, or_false, false_or, and_self, Bool.or_true, Bool.or_false, Bool.true_or, Bool.false_or, implies_true, forall_const, Bool.false_eq_true, ax_X140]
  trace "MARK 140"
  trace_state
  exact h.elim
theorem zz_143 {g : ax_G} (h : False) (p1 : Int32) (p2 : Int32) (p3 : Int32) (D : ax_Dn) (E : ax_En) (K : ax_Po) : ax_MM g 143 [.ref 58, .int p1, .int p2, .int p3] (ax_S D E) K := by
  refine ax_go143 _ _ _ _ ?_
  refine ax_WPo (l := []) ax_on ax_ok143 (fun _ => false) 400 0 rfl ?_
  simp +decide only [↓ax_B, ax_B, ax_kds, ax_gvs, ax_mcs, ax_ia_S, ax_up_ap, Nat.reduceAdd, Nat.reduceBEq, Nat.reduceLeDiff, Nat.reduceLT, Nat.reduceEqDiff, ↓reduceIte, true_and, and_true, List.cons_append, List.nil_append, Int32.reduceLT, Int32.reduceLE, Int32.reduceAdd, Int32.reduceToNatClampNeg, Int32.reduceOfNat, true_imp_iff, false_imp_iff, not_true_eq_false, not_false_eq_true, or_true, true_or, or_false, false_or, and_self, Bool.or_true, Bool.or_false, Bool.true_or, Bool.false_or, implies_true, forall_const, Bool.false_eq_true]
  trace "MARK 143"
  trace_state
  exact h.elim
theorem zz_144 {g : ax_G} (h : False) (p1 : Int32) (D : ax_Dn) (E : ax_En) (K : ax_Po) : ax_MM g 144 [.ref 58, .int p1] (ax_S D E) K := by
  refine ax_go144 _ _ ?_
  refine ax_WPo (l := []) ax_on ax_ok144 (fun _ => false) 400 0 rfl ?_
  simp +decide only [↓ax_B, ax_B, ax_kds, ax_gvs, ax_mcs, ax_ia_S, ax_up_ap, Nat.reduceAdd, Nat.reduceBEq, Nat.reduceLeDiff, Nat.reduceLT, Nat.reduceEqDiff, ↓reduceIte, true_and, and_true, List.cons_append, List.nil_append, Int32.reduceLT, Int32.reduceLE, Int32.reduceAdd, Int32.reduceToNatClampNeg, Int32.reduceOfNat, true_imp_iff, false_imp_iff, not_true_eq_false, not_false_eq_true, or_true, true_or, or_false, false_or, and_self, Bool.or_true, Bool.or_false, Bool.true_or, Bool.false_or, implies_true, forall_const, Bool.false_eq_true, ax_X144]
  trace "MARK 144"
  trace_state
  exact h.elim
theorem zz_145 {g : ax_G} (h : False) (p1 : Int32) (D : ax_Dn) (E : ax_En) (K : ax_Po) : ax_MM g 145 [.int p1] (ax_S D E) K := by
  refine ax_go145 _ ?_
  refine ax_WPo (l := []) ax_on ax_ok145 (fun _ => false) 400 0 rfl ?_
  simp +decide only [↓ax_B, ax_B, ax_kds, ax_gvs, ax_mcs, ax_ia_S, ax_up_ap, Nat.reduceAdd, Nat.reduceBEq, Nat.reduceLeDiff, Nat.reduceLT, Nat.reduceEqDiff, ↓reduceIte, true_and, and_true, List.cons_append, List.nil_append, Int32.reduceLT, Int32.reduceLE, Int32.reduceAdd, Int32.reduceToNatClampNeg, Int32.reduceOfNat, true_imp_iff, false_imp_iff, not_true_eq_false, not_false_eq_true, or_true, true_or, or_false, false_or, and_self, Bool.or_true, Bool.or_false, Bool.true_or, Bool.false_or, implies_true, forall_const, Bool.false_eq_true, ax_X145]
  trace "MARK 145"
  trace_state
  exact h.elim
theorem zz_152 {g : ax_G} (h : False) (p1 : Int32) (p2 : Int32) (p3 : Int32) (p4 : Int32) (p5 : Int32) (D : ax_Dn) (E : ax_En) (K : ax_Po) : ax_MM g 152 [.ref 58, .int p1, .int p2, .int p3, .int p4, .int p5] (ax_S D E) K := by
  refine ax_go152 _ _ _ _ _ _ ?_
  refine ax_WPo (l := []) ax_on ax_ok152 (fun _ => false) 400 0 rfl ?_
  simp +decide only [↓ax_B, ax_B, ax_kds, ax_gvs, ax_mcs, ax_ia_S, ax_up_ap, Nat.reduceAdd, Nat.reduceBEq, Nat.reduceLeDiff, Nat.reduceLT, Nat.reduceEqDiff, ↓reduceIte, true_and, and_true, List.cons_append, List.nil_append, Int32.reduceLT, Int32.reduceLE, Int32.reduceAdd, Int32.reduceToNatClampNeg, Int32.reduceOfNat, true_imp_iff, false_imp_iff, not_true_eq_false, not_false_eq_true, or_true, true_or, or_false, false_or, and_self, Bool.or_true, Bool.or_false, Bool.true_or, Bool.false_or, implies_true, forall_const, Bool.false_eq_true]
  trace "MARK 152"
  trace_state
  exact h.elim
theorem zz_157 {g : ax_G} (h : False) (p1 : Int32) (p2 : Int32) (D : ax_Dn) (E : ax_En) (K : ax_Po) : ax_MM g 157 [.int p1, .int p2] (ax_S D E) K := by
  refine ax_go157 _ _ ?_
  refine ax_WPo (l := []) ax_on ax_ok157 (fun _ => false) 400 0 rfl ?_
  simp +decide only [↓ax_B, ax_B, ax_kds, ax_gvs, ax_mcs, ax_ia_S, ax_up_ap, Nat.reduceAdd, Nat.reduceBEq, Nat.reduceLeDiff, Nat.reduceLT, Nat.reduceEqDiff, ↓reduceIte, true_and, and_true, List.cons_append, List.nil_append, Int32.reduceLT, Int32.reduceLE, Int32.reduceAdd, Int32.reduceToNatClampNeg, Int32.reduceOfNat, true_imp_iff, false_imp_iff, not_true_eq_false, not_false_eq_true, or_true, true_or, or_false, false_or, and_self, Bool.or_true, Bool.or_false, Bool.true_or, Bool.false_or, implies_true, forall_const, Bool.false_eq_true, ax_X157]
  trace "MARK 157"
  trace_state
  exact h.elim
theorem zz_158 {g : ax_G} (h : False) (p1 : Int32) (D : ax_Dn) (E : ax_En) (K : ax_Po) : ax_MM g 158 [.int p1] (ax_S D E) K := by
  refine ax_go158 _ ?_
  refine ax_WPo (l := []) ax_on ax_ok158 (fun _ => false) 400 0 rfl ?_
  simp +decide only [↓ax_B, ax_B, ax_kds, ax_gvs, ax_mcs, ax_ia_S, ax_up_ap, Nat.reduceAdd, Nat.reduceBEq, Nat.reduceLeDiff, Nat.reduceLT, Nat.reduceEqDiff, ↓reduceIte, true_and, and_true, List.cons_append, List.nil_append, Int32.reduceLT, Int32.reduceLE, Int32.reduceAdd, Int32.reduceToNatClampNeg, Int32.reduceOfNat, true_imp_iff, false_imp_iff, not_true_eq_false, not_false_eq_true, or_true, true_or, or_false, false_or, and_self, Bool.or_true, Bool.or_false, Bool.true_or, Bool.false_or, implies_true, forall_const, Bool.false_eq_true, ax_X158]
  trace "MARK 158"
  trace_state
  exact h.elim
theorem zz_191 {g : ax_G} (h : False) (p1 : Int32) (D : ax_Dn) (E : ax_En) (K : ax_Po) : ax_MM g 191 [.ref 58, .int p1] (ax_S D E) K := by
  refine ax_go191 _ _ ?_
  refine ax_WPo (l := []) ax_on ax_ok191 (fun _ => false) 400 0 rfl ?_
  simp +decide only [↓ax_B, ax_B, ax_kds, ax_gvs, ax_mcs, ax_ia_S, ax_up_ap, Nat.reduceAdd, Nat.reduceBEq, Nat.reduceLeDiff, Nat.reduceLT, Nat.reduceEqDiff, ↓reduceIte, true_and, and_true, List.cons_append, List.nil_append, Int32.reduceLT, Int32.reduceLE, Int32.reduceAdd, Int32.reduceToNatClampNeg, Int32.reduceOfNat, true_imp_iff, false_imp_iff, not_true_eq_false, not_false_eq_true, or_true, true_or, or_false, false_or, and_self, Bool.or_true, Bool.or_false, Bool.true_or, Bool.false_or, implies_true, forall_const, Bool.false_eq_true, ax_X191]
  trace "MARK 191"
  trace_state
  exact h.elim
theorem zz_200 {g : ax_G} (h : False) (p1 : Int32) (D : ax_Dn) (E : ax_En) (K : ax_Po) : ax_MM g 200 [.ref 58, .int p1] (ax_S D E) K := by
  refine ax_go200 _ _ ?_
  refine ax_WPo (l := []) ax_on ax_ok200 (fun _ => false) 400 0 rfl ?_
  simp +decide only [↓ax_B, ax_B, ax_kds, ax_gvs, ax_mcs, ax_ia_S, ax_up_ap, Nat.reduceAdd, Nat.reduceBEq, Nat.reduceLeDiff, Nat.reduceLT, Nat.reduceEqDiff, ↓reduceIte, true_and, and_true, List.cons_append, List.nil_append, Int32.reduceLT, Int32.reduceLE, Int32.reduceAdd, Int32.reduceToNatClampNeg, Int32.reduceOfNat, true_imp_iff, false_imp_iff, not_true_eq_false, not_false_eq_true, or_true, true_or, or_false, false_or, and_self, Bool.or_true, Bool.or_false, Bool.true_or, Bool.false_or, implies_true, forall_const, Bool.false_eq_true, ax_X200]
  trace "MARK 200"
  trace_state
  exact h.elim
