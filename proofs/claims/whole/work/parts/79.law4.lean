/-! The law: its loop. -/
theorem lw_end {g : ax_G} {ret : ax_Po} {D : ax_Dn} {E : ax_En} {i : Nat} (h : ret (some (.int 1)) (ax_S D E)) : ax_WP g ax_hL ret 0 92 1357 [some (.ref 1000), some (.ref 0), some (.ref 58), some (.int (nI i))] [] (ax_S D E) := by
  refine ax_WPt (l := []) ax_on (fun _ => false) 100 ax_k205_1357 rfl ?_
  simp +decide only [↓ax_B, ax_B, ax_kds, ax_gvs, ax_mcs, ax_ia_S, ax_up_ap, ax_vinL, and_self_left, ax_up_up, ax_up_sw, Nat.reduceAdd, Nat.reduceBEq, Nat.reduceLeDiff, Nat.reduceLT, Nat.reduceEqDiff, ↓reduceIte, true_and, and_true, List.cons_append, List.nil_append, Int32.reduceLT, Int32.reduceLE, Int32.reduceAdd, Int32.reduceToNatClampNeg, Int32.reduceOfNat, true_imp_iff, false_imp_iff, not_true_eq_false, not_false_eq_true, or_true, true_or, or_false, false_or, and_self, Bool.or_true, Bool.or_false, Bool.true_or, Bool.false_or, implies_true, forall_const, Bool.false_eq_true, Int32.neg_neg]
  exact h
theorem lw_nx {g : ax_G} {ret : ax_Po} {D : ax_Dn} {E : ax_En} {i : Nat} (h : ax_WP g ax_hL ret 0 92 18 [some (.ref 1000), some (.ref 0), some (.ref 58), some (.int (nI (i + 6)))] [] (ax_S D E)) : ax_WP g ax_hL ret 0 92 1351 [some (.ref 1000), some (.ref 0), some (.ref 58), some (.int (nI i))] [] (ax_S D E) := by
  have a6 := (nI_k i).2.2.2.2.2
  refine ax_WPt (l := []) ax_on (fun t => t == 18) 100 ax_k205_1351 rfl ?_
  simp +decide only [↓ax_B, ax_B, ax_kds, ax_gvs, ax_mcs, ax_ia_S, ax_up_ap, ax_vinL, and_self_left, ax_up_up, ax_up_sw, Nat.reduceAdd, Nat.reduceBEq, Nat.reduceLeDiff, Nat.reduceLT, Nat.reduceEqDiff, ↓reduceIte, true_and, and_true, List.cons_append, List.nil_append, Int32.reduceLT, Int32.reduceLE, Int32.reduceAdd, Int32.reduceToNatClampNeg, Int32.reduceOfNat, true_imp_iff, false_imp_iff, not_true_eq_false, not_false_eq_true, or_true, true_or, or_false, false_or, and_self, Bool.or_true, Bool.or_false, Bool.true_or, Bool.false_or, implies_true, forall_const, Bool.false_eq_true, Int32.neg_neg, a6]
  exact h
theorem le_6 {i Ln : Nat} (hi : i ≤ 4000) (hL : Ln ≤ 3072) : Int32.ofNat Ln - 6 < nI i ↔ Ln < i + 6 := by
  have z : (6 : Int32).toInt = 6 := rfl
  have e : (nI Ln).toInt = Ln := na_nI (by omega)
  have e2 : (nI Ln - 6).toInt = Ln - 6 := by rw [na_sub (by rw [z, e]; omega) (by rw [z, e]; omega), e, z]
  show nI Ln - 6 < nI i ↔ _
  rw [na_lt, e2, na_nI (by omega)]
  omega
theorem lw_loop {g : ax_G} {ret : ax_Po} {Ln : Nat} {xs : Nat → Int32} (hg : gok g) (hx : ax_xt g 1000 = (Ln, xs)) (hL : Ln ≤ 3072) (fin : ∀ D E, J D → ret (some (.int 1)) (ax_S D E)) : ∀ (n i : Nat) (D : ax_Dn) (E : ax_En), Ln ≤ i + n → i ≤ 3100 → J D → ax_WP g ax_hL ret 0 92 18 [some (.ref 1000), some (.ref 0), some (.ref 58), some (.int (nI i))] [] (ax_S D E) := by
  intro n
  induction n with
  | zero =>
    intro i D E h1 h2 hJ
    have c := (le_6 (i := i) (Ln := Ln) (by omega) hL).mpr (by omega)
    refine ax_WPt (l := []) ax_on (fun t => t == 1357 || t == 1351 || t == 27) 100 ax_k205_18 rfl ?_
    simp +decide only [↓ax_B, ax_B, ax_kds, ax_gvs, ax_mcs, ax_ia_S, ax_up_ap, ax_vinL, and_self_left, ax_up_up, ax_up_sw, Nat.reduceAdd, Nat.reduceBEq, Nat.reduceLeDiff, Nat.reduceLT, Nat.reduceEqDiff, ↓reduceIte, true_and, and_true, List.cons_append, List.nil_append, Int32.reduceLT, Int32.reduceLE, Int32.reduceAdd, Int32.reduceToNatClampNeg, Int32.reduceOfNat, true_imp_iff, false_imp_iff, not_true_eq_false, not_false_eq_true, or_true, true_or, or_false, false_or, and_self, Bool.or_true, Bool.or_false, Bool.true_or, Bool.false_or, implies_true, forall_const, Bool.false_eq_true, Int32.neg_neg, hx, c]
    exact lw_end (fin D E hJ)
  | succ n ih =>
    intro i D E h1 h2 hJ
    have i1 := ia_x hx
    have c := (le_6 (i := i) (Ln := Ln) (by omega) hL)
    by_cases hi : Ln < i + 6
    · have c := c.mpr hi
      refine ax_WPt (l := []) ax_on (fun t => t == 1357 || t == 1351 || t == 27) 100 ax_k205_18 rfl ?_
      simp +decide only [↓ax_B, ax_B, ax_kds, ax_gvs, ax_mcs, ax_ia_S, ax_up_ap, ax_vinL, and_self_left, ax_up_up, ax_up_sw, Nat.reduceAdd, Nat.reduceBEq, Nat.reduceLeDiff, Nat.reduceLT, Nat.reduceEqDiff, ↓reduceIte, true_and, and_true, List.cons_append, List.nil_append, Int32.reduceLT, Int32.reduceLE, Int32.reduceAdd, Int32.reduceToNatClampNeg, Int32.reduceOfNat, true_imp_iff, false_imp_iff, not_true_eq_false, not_false_eq_true, or_true, true_or, or_false, false_or, and_self, Bool.or_true, Bool.or_false, Bool.true_or, Bool.false_or, implies_true, forall_const, Bool.false_eq_true, Int32.neg_neg, hx, c]
      exact lw_end (fin D E hJ)
    · have c : ¬ (Int32.ofNat Ln - 6 < nI i) := fun q => hi (c.mp q)
      have v0 : vp_in (nI i) Ln := vp_in_nI (by omega) (by omega)
      have nx : ∀ D E, J D → ax_WP g ax_hL ret 0 92 1351 [some (.ref 1000), some (.ref 0), some (.ref 58), some (.int (nI i))] [] (ax_S D E) := fun D E hJ => lw_nx (ih (i + 6) D E (by omega) (by omega) hJ)
      have hi' : i + 6 ≤ Ln := by omega
      refine ax_WPt (l := []) ax_on (fun t => t == 1357 || t == 1351 || t == 196 || t == 259 || t == 272 || t == 315 || t == 358 || t == 401 || t == 434 || t == 467 || t == 530 || t == 563 || t == 576 || t == 629 || t == 663 || t == 697 || t == 741 || t == 764 || t == 787 || t == 831 || t == 864 || t == 887 || t == 910 || t == 943 || t == 986 || t == 1039 || t == 1062 || t == 1075 || t == 1088 || t == 1151 || t == 1174 || t == 1197 || t == 1210 || t == 1243 || t == 1266 || t == 1289 || t == 1302 || t == 1315 || t == 1328) 100 ax_k205_18 rfl ?_
      simp +decide only [↓ax_B, ax_B, ax_kds, ax_gvs, ax_mcs, ax_ia_S, ax_up_ap, ax_vinL, and_self_left, ax_up_up, ax_up_sw, Nat.reduceAdd, Nat.reduceBEq, Nat.reduceLeDiff, Nat.reduceLT, Nat.reduceEqDiff, ↓reduceIte, true_and, and_true, List.cons_append, List.nil_append, Int32.reduceLT, Int32.reduceLE, Int32.reduceAdd, Int32.reduceToNatClampNeg, Int32.reduceOfNat, true_imp_iff, false_imp_iff, not_true_eq_false, not_false_eq_true, or_true, true_or, or_false, false_or, and_self, Bool.or_true, Bool.or_false, Bool.true_or, Bool.false_or, implies_true, forall_const, Bool.false_eq_true, Int32.neg_neg, hx, i1, c, v0]
      generalize xs (nI i).toNatClampNeg &&& 63 = x
      exact ⟨fun _ => cs_73 hx hi' hL hJ nx, fun _ => ⟨fun _ => cs_74 hx hi' hL hJ nx, fun _ => ⟨fun _ => cs_75 hx hi' hL hJ nx, fun _ => ⟨fun _ => cs_76 hx hi' hL hJ nx, fun _ => ⟨fun _ => cs_77 hx hi' hL hJ nx, fun _ => ⟨fun _ => cs_78 hx hi' hL hJ nx, fun _ => ⟨fun _ => cs_79 hg hx hi' hL hJ nx, fun _ => ⟨fun _ => cs_80 hx hi' hL hJ nx, fun _ => ⟨fun _ => cs_81 hx hi' hL hJ nx, fun _ => ⟨fun _ => cs_82 hx hi' hL hJ nx, fun _ => ⟨fun _ => cs_83 hx hi' hL hJ nx, fun _ => ⟨fun _ => cs_84 hx hi' hL hJ nx, fun _ => ⟨fun _ => cs_85 hx hi' hL hJ nx, fun _ => ⟨fun _ => cs_86 hx hi' hL hJ nx, fun _ => ⟨fun _ => cs_87 hx hi' hL hJ nx, fun _ => ⟨fun _ => cs_88 hx hi' hL hJ nx, fun _ => ⟨fun _ => cs_89 hx hi' hL hJ nx, fun _ => ⟨fun _ => cs_90 hx hi' hL hJ nx, fun _ => ⟨fun _ => cs_91 hx hi' hL hJ nx, fun _ => ⟨fun _ => cs_92 hx hi' hL hJ nx, fun _ => ⟨fun _ => cs_93 hx hi' hL hJ nx, fun _ => ⟨fun _ => cs_94 hx hi' hL hJ nx, fun _ => ⟨fun _ => cs_95 hx hi' hL hJ nx, fun _ => ⟨fun _ => cs_96 hx hi' hL hJ nx, fun _ => ⟨fun _ => cs_97 hx hi' hL hJ nx, fun _ => ⟨fun _ => cs_98 hx hi' hL hJ nx, fun _ => ⟨fun _ => cs_99 hx hi' hL hJ nx, fun _ => ⟨fun _ => cs_100 hx hi' hL hJ nx, fun _ => ⟨fun _ => cs_101 hx hi' hL hJ nx, fun _ => ⟨fun _ => cs_102 hx hi' hL hJ nx, fun _ => ⟨fun _ => cs_103 hx hi' hL hJ nx, fun _ => ⟨fun _ => cs_104 hx hi' hL hJ nx, fun _ => ⟨fun _ => cs_105 hx hi' hL hJ nx, fun _ => ⟨fun _ => cs_106 hx hi' hL hJ nx, fun _ => ⟨fun _ => cs_107 hx hi' hL hJ nx, fun _ => ⟨fun _ => cs_108 hx hi' hL hJ nx, fun _ => ⟨fun _ => cs_109 hx hi' hL hJ nx, fun _ => nx D E hJ⟩⟩⟩⟩⟩⟩⟩⟩⟩⟩⟩⟩⟩⟩⟩⟩⟩⟩⟩⟩⟩⟩⟩⟩⟩⟩⟩⟩⟩⟩⟩⟩⟩⟩⟩⟩⟩
