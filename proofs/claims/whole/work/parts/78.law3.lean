/-! The law: each case of its switch. -/
theorem ax_WPt {g : ax_G} {h : ax_H} {ret : ax_Po} {n0 top t : Nat} {l : List (Nat × ax_P1)} (hl : ax_ok g l) (ct : Nat → Bool) (n : Nat) {r : ax_Row} {rest : List ax_Row} (hok : ax_okl h (r :: rest) = true) (ht : r.1 = t) {L : ax_Lo} {st : ax_Sk} {z : ax_St} (hr : ax_rn g (ax_or g l) ret top (ax_WP g h ret n0 top) (fun _ => []) ct n (r :: rest) L st z) : ax_WP g h ret n0 top t L st z := by
  rw [← ht]
  exact ax_WPz hl ct n hok hr
theorem ia_x {g : ax_G} {Ln : Nat} {xs : Nat → Int32} (hx : ax_xt g 1000 = (Ln, xs)) : ∀ (D : ax_Dn) (E : ax_En) (F : Nat → (Nat → Int32) → Prop), ax_ia (ax_S D E) (ax_xt g) 1000 F = F Ln xs := by
  intro D E F
  unfold ax_ia
  rw [if_neg (by decide), hx]
  exact propext ⟨fun h => h.2, fun h => ⟨by decide, h⟩⟩
theorem nI_k (i : Nat) : nI i + 1 = nI (i + 1) ∧ nI i + 2 = nI (i + 2) ∧ nI i + 3 = nI (i + 3) ∧ nI i + 4 = nI (i + 4) ∧ nI i + 5 = nI (i + 5) ∧ nI i + 6 = nI (i + 6) := by
  have a1 := nI_1 i
  have e2 : (2 : Int32) = 1 + 1 := by decide
  have e3 : (3 : Int32) = 2 + 1 := by decide
  have e4 : (4 : Int32) = 3 + 1 := by decide
  have e5 : (5 : Int32) = 4 + 1 := by decide
  have e6 : (6 : Int32) = 5 + 1 := by decide
  have a2 : nI i + 2 = nI (i + 2) := by rw [e2, ← Int32.add_assoc, a1, nI_1]
  have a3 : nI i + 3 = nI (i + 3) := by rw [e3, ← Int32.add_assoc, a2, nI_1]
  have a4 : nI i + 4 = nI (i + 4) := by rw [e4, ← Int32.add_assoc, a3, nI_1]
  have a5 : nI i + 5 = nI (i + 5) := by rw [e5, ← Int32.add_assoc, a4, nI_1]
  have a6 : nI i + 6 = nI (i + 6) := by rw [e6, ← Int32.add_assoc, a5, nI_1]
  exact ⟨a1, a2, a3, a4, a5, a6⟩
set_option maxRecDepth 10000 in
theorem cs_73 {g : ax_G} {ret : ax_Po} {D : ax_Dn} {E : ax_En} {Ln i : Nat} {xs : Nat → Int32} (hx : ax_xt g 1000 = (Ln, xs)) (hi : i + 6 ≤ Ln) (hL : Ln ≤ 3072) (hJ : J D) (nx : ∀ D E, J D → ax_WP g ax_hL ret 0 92 1351 [some (.ref 1000), some (.ref 0), some (.ref 58), some (.int (nI i))] [] (ax_S D E)) : ax_WP g ax_hL ret 0 92 196 [some (.ref 1000), some (.ref 0), some (.ref 58), some (.int (nI i))] [] (ax_S D E) := by
  have i1 := ia_x hx
  obtain ⟨a1, a2, a3, a4, a5, a6⟩ := nI_k i
  have v1 : vp_in (nI (i + 1)) Ln := vp_in_nI (by omega) (by omega)
  have v2 : vp_in (nI (i + 2)) Ln := vp_in_nI (by omega) (by omega)
  have v3 : vp_in (nI (i + 3)) Ln := vp_in_nI (by omega) (by omega)
  refine ax_WPt (l := [(73, dcI g 130 [0, 1]), (130, dmI g 130)]) (ax_oc d_73 (ax_oc dmI_s ax_on)) (fun t => t == 1351) 100 ax_k205_196 rfl ?_
  simp +decide only [↓ax_B, ax_B, ax_kds, ax_gvs, ax_mcs, ax_ia_S, ax_up_ap, ax_vinL, and_self_left, ax_up_up, ax_up_sw, Nat.reduceAdd, Nat.reduceBEq, Nat.reduceLeDiff, Nat.reduceLT, Nat.reduceEqDiff, ↓reduceIte, true_and, and_true, List.cons_append, List.nil_append, Int32.reduceLT, Int32.reduceLE, Int32.reduceAdd, Int32.reduceToNatClampNeg, Int32.reduceOfNat, true_imp_iff, false_imp_iff, not_true_eq_false, not_false_eq_true, or_true, true_or, or_false, false_or, and_self, Bool.or_true, Bool.or_false, Bool.true_or, Bool.false_or, implies_true, forall_const, Bool.false_eq_true, Int32.neg_neg, dcI_r, dmI_r, vsh_0, vsh_1, vsh_2, i1, a1, a2, a3, v1, v2, v3]
  exact ⟨hJ, fun x D' E' hm => ⟨x, hm, fun D'' E'' hJ' => ⟨fun _ => nx D'' E'' hJ', fun z => absurd rfl z⟩⟩⟩
set_option maxRecDepth 10000 in
theorem cs_74 {g : ax_G} {ret : ax_Po} {D : ax_Dn} {E : ax_En} {Ln i : Nat} {xs : Nat → Int32} (hx : ax_xt g 1000 = (Ln, xs)) (hi : i + 6 ≤ Ln) (hL : Ln ≤ 3072) (hJ : J D) (nx : ∀ D E, J D → ax_WP g ax_hL ret 0 92 1351 [some (.ref 1000), some (.ref 0), some (.ref 58), some (.int (nI i))] [] (ax_S D E)) : ax_WP g ax_hL ret 0 92 259 [some (.ref 1000), some (.ref 0), some (.ref 58), some (.int (nI i))] [] (ax_S D E) := by
  have i1 := ia_x hx
  refine ax_WPt (l := [(74, dcI g 138 []), (138, dmI g 138)]) (ax_oc d_74 (ax_oc dmI_s ax_on)) (fun t => t == 1351) 100 ax_k205_259 rfl ?_
  simp +decide only [↓ax_B, ax_B, ax_kds, ax_gvs, ax_mcs, ax_ia_S, ax_up_ap, ax_vinL, and_self_left, ax_up_up, ax_up_sw, Nat.reduceAdd, Nat.reduceBEq, Nat.reduceLeDiff, Nat.reduceLT, Nat.reduceEqDiff, ↓reduceIte, true_and, and_true, List.cons_append, List.nil_append, Int32.reduceLT, Int32.reduceLE, Int32.reduceAdd, Int32.reduceToNatClampNeg, Int32.reduceOfNat, true_imp_iff, false_imp_iff, not_true_eq_false, not_false_eq_true, or_true, true_or, or_false, false_or, and_self, Bool.or_true, Bool.or_false, Bool.true_or, Bool.false_or, implies_true, forall_const, Bool.false_eq_true, Int32.neg_neg, dcI_r, dmI_r, vsh_0, vsh_1, vsh_2, i1]
  exact ⟨hJ, fun x D' E' hm => ⟨x, hm, fun D'' E'' hJ' => ⟨fun _ => nx D'' E'' hJ', fun z => absurd rfl z⟩⟩⟩
set_option maxRecDepth 10000 in
theorem cs_75 {g : ax_G} {ret : ax_Po} {D : ax_Dn} {E : ax_En} {Ln i : Nat} {xs : Nat → Int32} (hx : ax_xt g 1000 = (Ln, xs)) (hi : i + 6 ≤ Ln) (hL : Ln ≤ 3072) (hJ : J D) (nx : ∀ D E, J D → ax_WP g ax_hL ret 0 92 1351 [some (.ref 1000), some (.ref 0), some (.ref 58), some (.int (nI i))] [] (ax_S D E)) : ax_WP g ax_hL ret 0 92 272 [some (.ref 1000), some (.ref 0), some (.ref 58), some (.int (nI i))] [] (ax_S D E) := by
  have i1 := ia_x hx
  obtain ⟨a1, a2, a3, a4, a5, a6⟩ := nI_k i
  have v1 : vp_in (nI (i + 1)) Ln := vp_in_nI (by omega) (by omega)
  have v2 : vp_in (nI (i + 2)) Ln := vp_in_nI (by omega) (by omega)
  have v3 : vp_in (nI (i + 3)) Ln := vp_in_nI (by omega) (by omega)
  refine ax_WPt (l := [(75, dcI g 147 [0, 0, 0]), (147, dmI g 147)]) (ax_oc d_75 (ax_oc dmI_s ax_on)) (fun t => t == 1351) 100 ax_k205_272 rfl ?_
  simp +decide only [↓ax_B, ax_B, ax_kds, ax_gvs, ax_mcs, ax_ia_S, ax_up_ap, ax_vinL, and_self_left, ax_up_up, ax_up_sw, Nat.reduceAdd, Nat.reduceBEq, Nat.reduceLeDiff, Nat.reduceLT, Nat.reduceEqDiff, ↓reduceIte, true_and, and_true, List.cons_append, List.nil_append, Int32.reduceLT, Int32.reduceLE, Int32.reduceAdd, Int32.reduceToNatClampNeg, Int32.reduceOfNat, true_imp_iff, false_imp_iff, not_true_eq_false, not_false_eq_true, or_true, true_or, or_false, false_or, and_self, Bool.or_true, Bool.or_false, Bool.true_or, Bool.false_or, implies_true, forall_const, Bool.false_eq_true, Int32.neg_neg, dcI_r, dmI_r, vsh_0, vsh_1, vsh_2, i1, a1, a2, a3, v1, v2, v3]
  exact ⟨hJ, fun x D' E' hm => ⟨x, hm, fun D'' E'' hJ' => ⟨fun _ => nx D'' E'' hJ', fun z => absurd rfl z⟩⟩⟩
set_option maxRecDepth 10000 in
theorem cs_76 {g : ax_G} {ret : ax_Po} {D : ax_Dn} {E : ax_En} {Ln i : Nat} {xs : Nat → Int32} (hx : ax_xt g 1000 = (Ln, xs)) (hi : i + 6 ≤ Ln) (hL : Ln ≤ 3072) (hJ : J D) (nx : ∀ D E, J D → ax_WP g ax_hL ret 0 92 1351 [some (.ref 1000), some (.ref 0), some (.ref 58), some (.int (nI i))] [] (ax_S D E)) : ax_WP g ax_hL ret 0 92 315 [some (.ref 1000), some (.ref 0), some (.ref 58), some (.int (nI i))] [] (ax_S D E) := by
  have i1 := ia_x hx
  obtain ⟨a1, a2, a3, a4, a5, a6⟩ := nI_k i
  have v1 : vp_in (nI (i + 1)) Ln := vp_in_nI (by omega) (by omega)
  have v2 : vp_in (nI (i + 2)) Ln := vp_in_nI (by omega) (by omega)
  have v3 : vp_in (nI (i + 3)) Ln := vp_in_nI (by omega) (by omega)
  refine ax_WPt (l := [(76, dcI g 148 [0, 0, 0]), (148, dmI g 148)]) (ax_oc d_76 (ax_oc dmI_s ax_on)) (fun t => t == 1351) 100 ax_k205_315 rfl ?_
  simp +decide only [↓ax_B, ax_B, ax_kds, ax_gvs, ax_mcs, ax_ia_S, ax_up_ap, ax_vinL, and_self_left, ax_up_up, ax_up_sw, Nat.reduceAdd, Nat.reduceBEq, Nat.reduceLeDiff, Nat.reduceLT, Nat.reduceEqDiff, ↓reduceIte, true_and, and_true, List.cons_append, List.nil_append, Int32.reduceLT, Int32.reduceLE, Int32.reduceAdd, Int32.reduceToNatClampNeg, Int32.reduceOfNat, true_imp_iff, false_imp_iff, not_true_eq_false, not_false_eq_true, or_true, true_or, or_false, false_or, and_self, Bool.or_true, Bool.or_false, Bool.true_or, Bool.false_or, implies_true, forall_const, Bool.false_eq_true, Int32.neg_neg, dcI_r, dmI_r, vsh_0, vsh_1, vsh_2, i1, a1, a2, a3, v1, v2, v3]
  exact ⟨hJ, fun x D' E' hm => ⟨x, hm, fun D'' E'' hJ' => ⟨fun _ => nx D'' E'' hJ', fun z => absurd rfl z⟩⟩⟩
set_option maxRecDepth 10000 in
theorem cs_77 {g : ax_G} {ret : ax_Po} {D : ax_Dn} {E : ax_En} {Ln i : Nat} {xs : Nat → Int32} (hx : ax_xt g 1000 = (Ln, xs)) (hi : i + 6 ≤ Ln) (hL : Ln ≤ 3072) (hJ : J D) (nx : ∀ D E, J D → ax_WP g ax_hL ret 0 92 1351 [some (.ref 1000), some (.ref 0), some (.ref 58), some (.int (nI i))] [] (ax_S D E)) : ax_WP g ax_hL ret 0 92 358 [some (.ref 1000), some (.ref 0), some (.ref 58), some (.int (nI i))] [] (ax_S D E) := by
  have i1 := ia_x hx
  obtain ⟨a1, a2, a3, a4, a5, a6⟩ := nI_k i
  have v1 : vp_in (nI (i + 1)) Ln := vp_in_nI (by omega) (by omega)
  have v2 : vp_in (nI (i + 2)) Ln := vp_in_nI (by omega) (by omega)
  have v3 : vp_in (nI (i + 3)) Ln := vp_in_nI (by omega) (by omega)
  refine ax_WPt (l := [(77, dcI g 149 [0, 0, 0]), (149, dmI g 149)]) (ax_oc d_77 (ax_oc dmI_s ax_on)) (fun t => t == 1351) 100 ax_k205_358 rfl ?_
  simp +decide only [↓ax_B, ax_B, ax_kds, ax_gvs, ax_mcs, ax_ia_S, ax_up_ap, ax_vinL, and_self_left, ax_up_up, ax_up_sw, Nat.reduceAdd, Nat.reduceBEq, Nat.reduceLeDiff, Nat.reduceLT, Nat.reduceEqDiff, ↓reduceIte, true_and, and_true, List.cons_append, List.nil_append, Int32.reduceLT, Int32.reduceLE, Int32.reduceAdd, Int32.reduceToNatClampNeg, Int32.reduceOfNat, true_imp_iff, false_imp_iff, not_true_eq_false, not_false_eq_true, or_true, true_or, or_false, false_or, and_self, Bool.or_true, Bool.or_false, Bool.true_or, Bool.false_or, implies_true, forall_const, Bool.false_eq_true, Int32.neg_neg, dcI_r, dmI_r, vsh_0, vsh_1, vsh_2, i1, a1, a2, a3, v1, v2, v3]
  exact ⟨hJ, fun x D' E' hm => ⟨x, hm, fun D'' E'' hJ' => ⟨fun _ => nx D'' E'' hJ', fun z => absurd rfl z⟩⟩⟩
set_option maxRecDepth 10000 in
theorem cs_78 {g : ax_G} {ret : ax_Po} {D : ax_Dn} {E : ax_En} {Ln i : Nat} {xs : Nat → Int32} (hx : ax_xt g 1000 = (Ln, xs)) (hi : i + 6 ≤ Ln) (hL : Ln ≤ 3072) (hJ : J D) (nx : ∀ D E, J D → ax_WP g ax_hL ret 0 92 1351 [some (.ref 1000), some (.ref 0), some (.ref 58), some (.int (nI i))] [] (ax_S D E)) : ax_WP g ax_hL ret 0 92 401 [some (.ref 1000), some (.ref 0), some (.ref 58), some (.int (nI i))] [] (ax_S D E) := by
  have i1 := ia_x hx
  obtain ⟨a1, a2, a3, a4, a5, a6⟩ := nI_k i
  have v1 : vp_in (nI (i + 1)) Ln := vp_in_nI (by omega) (by omega)
  have v2 : vp_in (nI (i + 2)) Ln := vp_in_nI (by omega) (by omega)
  refine ax_WPt (l := [(78, dcI g 150 [0, 0]), (150, dmI g 150)]) (ax_oc d_78 (ax_oc dmI_s ax_on)) (fun t => t == 1351) 100 ax_k205_401 rfl ?_
  simp +decide only [↓ax_B, ax_B, ax_kds, ax_gvs, ax_mcs, ax_ia_S, ax_up_ap, ax_vinL, and_self_left, ax_up_up, ax_up_sw, Nat.reduceAdd, Nat.reduceBEq, Nat.reduceLeDiff, Nat.reduceLT, Nat.reduceEqDiff, ↓reduceIte, true_and, and_true, List.cons_append, List.nil_append, Int32.reduceLT, Int32.reduceLE, Int32.reduceAdd, Int32.reduceToNatClampNeg, Int32.reduceOfNat, true_imp_iff, false_imp_iff, not_true_eq_false, not_false_eq_true, or_true, true_or, or_false, false_or, and_self, Bool.or_true, Bool.or_false, Bool.true_or, Bool.false_or, implies_true, forall_const, Bool.false_eq_true, Int32.neg_neg, dcI_r, dmI_r, vsh_0, vsh_1, vsh_2, i1, a1, a2, v1, v2]
  exact ⟨hJ, fun x D' E' hm => ⟨x, hm, fun D'' E'' hJ' => ⟨fun _ => nx D'' E'' hJ', fun z => absurd rfl z⟩⟩⟩
set_option maxRecDepth 10000 in
theorem cs_79 {g : ax_G} {ret : ax_Po} {D : ax_Dn} {E : ax_En} {Ln i : Nat} {xs : Nat → Int32} (hg : gok g) (hx : ax_xt g 1000 = (Ln, xs)) (hi : i + 6 ≤ Ln) (hL : Ln ≤ 3072) (hJ : J D) (nx : ∀ D E, J D → ax_WP g ax_hL ret 0 92 1351 [some (.ref 1000), some (.ref 0), some (.ref 58), some (.int (nI i))] [] (ax_S D E)) : ax_WP g ax_hL ret 0 92 434 [some (.ref 1000), some (.ref 0), some (.ref 58), some (.int (nI i))] [] (ax_S D E) := by
  have i1 := ia_x hx
  obtain ⟨a1, a2, a3, a4, a5, a6⟩ := nI_k i
  have v1 : vp_in (nI (i + 1)) Ln := vp_in_nI (by omega) (by omega)
  have v2 : vp_in (nI (i + 2)) Ln := vp_in_nI (by omega) (by omega)
  refine ax_WPt (l := [(79, dcI g 151 [0, 0]), (151, dmI g 151)]) (ax_oc (d_79 hg) (ax_oc dmI_s ax_on)) (fun t => t == 1351) 100 ax_k205_434 rfl ?_
  simp +decide only [↓ax_B, ax_B, ax_kds, ax_gvs, ax_mcs, ax_ia_S, ax_up_ap, ax_vinL, and_self_left, ax_up_up, ax_up_sw, Nat.reduceAdd, Nat.reduceBEq, Nat.reduceLeDiff, Nat.reduceLT, Nat.reduceEqDiff, ↓reduceIte, true_and, and_true, List.cons_append, List.nil_append, Int32.reduceLT, Int32.reduceLE, Int32.reduceAdd, Int32.reduceToNatClampNeg, Int32.reduceOfNat, true_imp_iff, false_imp_iff, not_true_eq_false, not_false_eq_true, or_true, true_or, or_false, false_or, and_self, Bool.or_true, Bool.or_false, Bool.true_or, Bool.false_or, implies_true, forall_const, Bool.false_eq_true, Int32.neg_neg, dcI_r, dmI_r, vsh_0, vsh_1, vsh_2, i1, a1, a2, v1, v2]
  exact ⟨hJ, fun x D' E' hm => ⟨x, hm, fun D'' E'' hJ' => ⟨fun _ => nx D'' E'' hJ', fun z => absurd rfl z⟩⟩⟩
set_option maxRecDepth 10000 in
theorem cs_80 {g : ax_G} {ret : ax_Po} {D : ax_Dn} {E : ax_En} {Ln i : Nat} {xs : Nat → Int32} (hx : ax_xt g 1000 = (Ln, xs)) (hi : i + 6 ≤ Ln) (hL : Ln ≤ 3072) (hJ : J D) (nx : ∀ D E, J D → ax_WP g ax_hL ret 0 92 1351 [some (.ref 1000), some (.ref 0), some (.ref 58), some (.int (nI i))] [] (ax_S D E)) : ax_WP g ax_hL ret 0 92 467 [some (.ref 1000), some (.ref 0), some (.ref 58), some (.int (nI i))] [] (ax_S D E) := by
  have i1 := ia_x hx
  obtain ⟨a1, a2, a3, a4, a5, a6⟩ := nI_k i
  have v1 : vp_in (nI (i + 1)) Ln := vp_in_nI (by omega) (by omega)
  have v2 : vp_in (nI (i + 2)) Ln := vp_in_nI (by omega) (by omega)
  have v3 : vp_in (nI (i + 3)) Ln := vp_in_nI (by omega) (by omega)
  have v4 : vp_in (nI (i + 4)) Ln := vp_in_nI (by omega) (by omega)
  have v5 : vp_in (nI (i + 5)) Ln := vp_in_nI (by omega) (by omega)
  refine ax_WPt (l := [(80, dcI g 153 [0, 0, 0, 0, 0]), (153, dmI g 153)]) (ax_oc d_80 (ax_oc dmI_s ax_on)) (fun t => t == 1351) 100 ax_k205_467 rfl ?_
  simp +decide only [↓ax_B, ax_B, ax_kds, ax_gvs, ax_mcs, ax_ia_S, ax_up_ap, ax_vinL, and_self_left, ax_up_up, ax_up_sw, Nat.reduceAdd, Nat.reduceBEq, Nat.reduceLeDiff, Nat.reduceLT, Nat.reduceEqDiff, ↓reduceIte, true_and, and_true, List.cons_append, List.nil_append, Int32.reduceLT, Int32.reduceLE, Int32.reduceAdd, Int32.reduceToNatClampNeg, Int32.reduceOfNat, true_imp_iff, false_imp_iff, not_true_eq_false, not_false_eq_true, or_true, true_or, or_false, false_or, and_self, Bool.or_true, Bool.or_false, Bool.true_or, Bool.false_or, implies_true, forall_const, Bool.false_eq_true, Int32.neg_neg, dcI_r, dmI_r, vsh_0, vsh_1, vsh_2, i1, a1, a2, a3, a4, a5, v1, v2, v3, v4, v5]
  exact ⟨hJ, fun x D' E' hm => ⟨x, hm, fun D'' E'' hJ' => ⟨fun _ => nx D'' E'' hJ', fun z => absurd rfl z⟩⟩⟩
set_option maxRecDepth 10000 in
theorem cs_81 {g : ax_G} {ret : ax_Po} {D : ax_Dn} {E : ax_En} {Ln i : Nat} {xs : Nat → Int32} (hx : ax_xt g 1000 = (Ln, xs)) (hi : i + 6 ≤ Ln) (hL : Ln ≤ 3072) (hJ : J D) (nx : ∀ D E, J D → ax_WP g ax_hL ret 0 92 1351 [some (.ref 1000), some (.ref 0), some (.ref 58), some (.int (nI i))] [] (ax_S D E)) : ax_WP g ax_hL ret 0 92 530 [some (.ref 1000), some (.ref 0), some (.ref 58), some (.int (nI i))] [] (ax_S D E) := by
  have i1 := ia_x hx
  obtain ⟨a1, a2, a3, a4, a5, a6⟩ := nI_k i
  have v1 : vp_in (nI (i + 1)) Ln := vp_in_nI (by omega) (by omega)
  have v2 : vp_in (nI (i + 2)) Ln := vp_in_nI (by omega) (by omega)
  refine ax_WPt (l := [(81, dcI g 155 [0, 0]), (155, dmI g 155)]) (ax_oc d_81 (ax_oc dmI_s ax_on)) (fun t => t == 1351) 100 ax_k205_530 rfl ?_
  simp +decide only [↓ax_B, ax_B, ax_kds, ax_gvs, ax_mcs, ax_ia_S, ax_up_ap, ax_vinL, and_self_left, ax_up_up, ax_up_sw, Nat.reduceAdd, Nat.reduceBEq, Nat.reduceLeDiff, Nat.reduceLT, Nat.reduceEqDiff, ↓reduceIte, true_and, and_true, List.cons_append, List.nil_append, Int32.reduceLT, Int32.reduceLE, Int32.reduceAdd, Int32.reduceToNatClampNeg, Int32.reduceOfNat, true_imp_iff, false_imp_iff, not_true_eq_false, not_false_eq_true, or_true, true_or, or_false, false_or, and_self, Bool.or_true, Bool.or_false, Bool.true_or, Bool.false_or, implies_true, forall_const, Bool.false_eq_true, Int32.neg_neg, dcI_r, dmI_r, vsh_0, vsh_1, vsh_2, i1, a1, a2, v1, v2]
  exact ⟨hJ, fun x D' E' hm => ⟨x, hm, fun D'' E'' hJ' => ⟨fun _ => nx D'' E'' hJ', fun z => absurd rfl z⟩⟩⟩
set_option maxRecDepth 10000 in
theorem cs_82 {g : ax_G} {ret : ax_Po} {D : ax_Dn} {E : ax_En} {Ln i : Nat} {xs : Nat → Int32} (hx : ax_xt g 1000 = (Ln, xs)) (hi : i + 6 ≤ Ln) (hL : Ln ≤ 3072) (hJ : J D) (nx : ∀ D E, J D → ax_WP g ax_hL ret 0 92 1351 [some (.ref 1000), some (.ref 0), some (.ref 58), some (.int (nI i))] [] (ax_S D E)) : ax_WP g ax_hL ret 0 92 563 [some (.ref 1000), some (.ref 0), some (.ref 58), some (.int (nI i))] [] (ax_S D E) := by
  have i1 := ia_x hx
  refine ax_WPt (l := [(82, dcI g 156 []), (156, dmI g 156)]) (ax_oc d_82 (ax_oc dmI_s ax_on)) (fun t => t == 1351) 100 ax_k205_563 rfl ?_
  simp +decide only [↓ax_B, ax_B, ax_kds, ax_gvs, ax_mcs, ax_ia_S, ax_up_ap, ax_vinL, and_self_left, ax_up_up, ax_up_sw, Nat.reduceAdd, Nat.reduceBEq, Nat.reduceLeDiff, Nat.reduceLT, Nat.reduceEqDiff, ↓reduceIte, true_and, and_true, List.cons_append, List.nil_append, Int32.reduceLT, Int32.reduceLE, Int32.reduceAdd, Int32.reduceToNatClampNeg, Int32.reduceOfNat, true_imp_iff, false_imp_iff, not_true_eq_false, not_false_eq_true, or_true, true_or, or_false, false_or, and_self, Bool.or_true, Bool.or_false, Bool.true_or, Bool.false_or, implies_true, forall_const, Bool.false_eq_true, Int32.neg_neg, dcI_r, dmI_r, vsh_0, vsh_1, vsh_2, i1]
  exact ⟨hJ, fun x D' E' hm => ⟨x, hm, fun D'' E'' hJ' => ⟨fun _ => nx D'' E'' hJ', fun z => absurd rfl z⟩⟩⟩
set_option maxRecDepth 10000 in
theorem cs_83 {g : ax_G} {ret : ax_Po} {D : ax_Dn} {E : ax_En} {Ln i : Nat} {xs : Nat → Int32} (hx : ax_xt g 1000 = (Ln, xs)) (hi : i + 6 ≤ Ln) (hL : Ln ≤ 3072) (hJ : J D) (nx : ∀ D E, J D → ax_WP g ax_hL ret 0 92 1351 [some (.ref 1000), some (.ref 0), some (.ref 58), some (.int (nI i))] [] (ax_S D E)) : ax_WP g ax_hL ret 0 92 576 [some (.ref 1000), some (.ref 0), some (.ref 58), some (.int (nI i))] [] (ax_S D E) := by
  have i1 := ia_x hx
  obtain ⟨a1, a2, a3, a4, a5, a6⟩ := nI_k i
  have v1 : vp_in (nI (i + 1)) Ln := vp_in_nI (by omega) (by omega)
  have v2 : vp_in (nI (i + 2)) Ln := vp_in_nI (by omega) (by omega)
  have v3 : vp_in (nI (i + 3)) Ln := vp_in_nI (by omega) (by omega)
  have v4 : vp_in (nI (i + 4)) Ln := vp_in_nI (by omega) (by omega)
  refine ax_WPt (l := [(83, dcI g 160 [0, 0, 0, 0]), (160, dmI g 160)]) (ax_oc d_83 (ax_oc dmI_s ax_on)) (fun t => t == 1351) 100 ax_k205_576 rfl ?_
  simp +decide only [↓ax_B, ax_B, ax_kds, ax_gvs, ax_mcs, ax_ia_S, ax_up_ap, ax_vinL, and_self_left, ax_up_up, ax_up_sw, Nat.reduceAdd, Nat.reduceBEq, Nat.reduceLeDiff, Nat.reduceLT, Nat.reduceEqDiff, ↓reduceIte, true_and, and_true, List.cons_append, List.nil_append, Int32.reduceLT, Int32.reduceLE, Int32.reduceAdd, Int32.reduceToNatClampNeg, Int32.reduceOfNat, true_imp_iff, false_imp_iff, not_true_eq_false, not_false_eq_true, or_true, true_or, or_false, false_or, and_self, Bool.or_true, Bool.or_false, Bool.true_or, Bool.false_or, implies_true, forall_const, Bool.false_eq_true, Int32.neg_neg, dcI_r, dmI_r, vsh_0, vsh_1, vsh_2, i1, a1, a2, a3, a4, v1, v2, v3, v4]
  exact ⟨hJ, fun x D' E' hm => ⟨x, hm, fun D'' E'' hJ' => ⟨fun _ => nx D'' E'' hJ', fun z => absurd rfl z⟩⟩⟩
set_option maxRecDepth 10000 in
theorem cs_84 {g : ax_G} {ret : ax_Po} {D : ax_Dn} {E : ax_En} {Ln i : Nat} {xs : Nat → Int32} (hx : ax_xt g 1000 = (Ln, xs)) (hi : i + 6 ≤ Ln) (hL : Ln ≤ 3072) (hJ : J D) (nx : ∀ D E, J D → ax_WP g ax_hL ret 0 92 1351 [some (.ref 1000), some (.ref 0), some (.ref 58), some (.int (nI i))] [] (ax_S D E)) : ax_WP g ax_hL ret 0 92 629 [some (.ref 1000), some (.ref 0), some (.ref 58), some (.int (nI i))] [] (ax_S D E) := by
  have i1 := ia_x hx
  obtain ⟨a1, a2, a3, a4, a5, a6⟩ := nI_k i
  have v1 : vp_in (nI (i + 1)) Ln := vp_in_nI (by omega) (by omega)
  have v2 : vp_in (nI (i + 2)) Ln := vp_in_nI (by omega) (by omega)
  refine ax_WPt (l := [(84, dcL g 165 [0, 0]), (165, dmL g 165)]) (ax_oc d_84 (ax_oc dmL_s ax_on)) (fun t => t == 1351) 100 ax_k205_629 rfl ?_
  simp +decide only [↓ax_B, ax_B, ax_kds, ax_gvs, ax_mcs, ax_ia_S, ax_up_ap, ax_vinL, and_self_left, ax_up_up, ax_up_sw, Nat.reduceAdd, Nat.reduceBEq, Nat.reduceLeDiff, Nat.reduceLT, Nat.reduceEqDiff, ↓reduceIte, true_and, and_true, List.cons_append, List.nil_append, Int32.reduceLT, Int32.reduceLE, Int32.reduceAdd, Int32.reduceToNatClampNeg, Int32.reduceOfNat, true_imp_iff, false_imp_iff, not_true_eq_false, not_false_eq_true, or_true, true_or, or_false, false_or, and_self, Bool.or_true, Bool.or_false, Bool.true_or, Bool.false_or, implies_true, forall_const, Bool.false_eq_true, Int32.neg_neg, dcL_r, dmL_r, vsh_0, vsh_1, vsh_2, i1, a1, a2, v1, v2, lg_self]
  exact ⟨hJ, fun x D' E' hm => ⟨x, hm, fun D'' E'' hJ' => ⟨fun _ => nx D'' E'' hJ', fun z => absurd (lg_self x) z⟩⟩⟩
set_option maxRecDepth 10000 in
theorem cs_85 {g : ax_G} {ret : ax_Po} {D : ax_Dn} {E : ax_En} {Ln i : Nat} {xs : Nat → Int32} (hx : ax_xt g 1000 = (Ln, xs)) (hi : i + 6 ≤ Ln) (hL : Ln ≤ 3072) (hJ : J D) (nx : ∀ D E, J D → ax_WP g ax_hL ret 0 92 1351 [some (.ref 1000), some (.ref 0), some (.ref 58), some (.int (nI i))] [] (ax_S D E)) : ax_WP g ax_hL ret 0 92 663 [some (.ref 1000), some (.ref 0), some (.ref 58), some (.int (nI i))] [] (ax_S D E) := by
  have i1 := ia_x hx
  obtain ⟨a1, a2, a3, a4, a5, a6⟩ := nI_k i
  have v1 : vp_in (nI (i + 1)) Ln := vp_in_nI (by omega) (by omega)
  have v2 : vp_in (nI (i + 2)) Ln := vp_in_nI (by omega) (by omega)
  refine ax_WPt (l := [(85, dcL g 166 [0, 0]), (166, dmL g 166)]) (ax_oc d_85 (ax_oc dmL_s ax_on)) (fun t => t == 1351) 100 ax_k205_663 rfl ?_
  simp +decide only [↓ax_B, ax_B, ax_kds, ax_gvs, ax_mcs, ax_ia_S, ax_up_ap, ax_vinL, and_self_left, ax_up_up, ax_up_sw, Nat.reduceAdd, Nat.reduceBEq, Nat.reduceLeDiff, Nat.reduceLT, Nat.reduceEqDiff, ↓reduceIte, true_and, and_true, List.cons_append, List.nil_append, Int32.reduceLT, Int32.reduceLE, Int32.reduceAdd, Int32.reduceToNatClampNeg, Int32.reduceOfNat, true_imp_iff, false_imp_iff, not_true_eq_false, not_false_eq_true, or_true, true_or, or_false, false_or, and_self, Bool.or_true, Bool.or_false, Bool.true_or, Bool.false_or, implies_true, forall_const, Bool.false_eq_true, Int32.neg_neg, dcL_r, dmL_r, vsh_0, vsh_1, vsh_2, i1, a1, a2, v1, v2, lg_self]
  exact ⟨hJ, fun x D' E' hm => ⟨x, hm, fun D'' E'' hJ' => ⟨fun _ => nx D'' E'' hJ', fun z => absurd (lg_self x) z⟩⟩⟩
set_option maxRecDepth 10000 in
theorem cs_86 {g : ax_G} {ret : ax_Po} {D : ax_Dn} {E : ax_En} {Ln i : Nat} {xs : Nat → Int32} (hx : ax_xt g 1000 = (Ln, xs)) (hi : i + 6 ≤ Ln) (hL : Ln ≤ 3072) (hJ : J D) (nx : ∀ D E, J D → ax_WP g ax_hL ret 0 92 1351 [some (.ref 1000), some (.ref 0), some (.ref 58), some (.int (nI i))] [] (ax_S D E)) : ax_WP g ax_hL ret 0 92 697 [some (.ref 1000), some (.ref 0), some (.ref 58), some (.int (nI i))] [] (ax_S D E) := by
  have i1 := ia_x hx
  obtain ⟨a1, a2, a3, a4, a5, a6⟩ := nI_k i
  have v1 : vp_in (nI (i + 1)) Ln := vp_in_nI (by omega) (by omega)
  have v2 : vp_in (nI (i + 2)) Ln := vp_in_nI (by omega) (by omega)
  have v3 : vp_in (nI (i + 3)) Ln := vp_in_nI (by omega) (by omega)
  refine ax_WPt (l := [(86, dcL g 172 [0, 0, 0]), (172, dmL g 172)]) (ax_oc d_86 (ax_oc dmL_s ax_on)) (fun t => t == 1351) 100 ax_k205_697 rfl ?_
  simp +decide only [↓ax_B, ax_B, ax_kds, ax_gvs, ax_mcs, ax_ia_S, ax_up_ap, ax_vinL, and_self_left, ax_up_up, ax_up_sw, Nat.reduceAdd, Nat.reduceBEq, Nat.reduceLeDiff, Nat.reduceLT, Nat.reduceEqDiff, ↓reduceIte, true_and, and_true, List.cons_append, List.nil_append, Int32.reduceLT, Int32.reduceLE, Int32.reduceAdd, Int32.reduceToNatClampNeg, Int32.reduceOfNat, true_imp_iff, false_imp_iff, not_true_eq_false, not_false_eq_true, or_true, true_or, or_false, false_or, and_self, Bool.or_true, Bool.or_false, Bool.true_or, Bool.false_or, implies_true, forall_const, Bool.false_eq_true, Int32.neg_neg, dcL_r, dmL_r, vsh_0, vsh_1, vsh_2, i1, a1, a2, a3, v1, v2, v3, lg_self]
  exact ⟨hJ, fun x D' E' hm => ⟨x, hm, fun D'' E'' hJ' => ⟨fun _ => nx D'' E'' hJ', fun z => absurd (lg_self x) z⟩⟩⟩
set_option maxRecDepth 10000 in
theorem cs_87 {g : ax_G} {ret : ax_Po} {D : ax_Dn} {E : ax_En} {Ln i : Nat} {xs : Nat → Int32} (hx : ax_xt g 1000 = (Ln, xs)) (hi : i + 6 ≤ Ln) (hL : Ln ≤ 3072) (hJ : J D) (nx : ∀ D E, J D → ax_WP g ax_hL ret 0 92 1351 [some (.ref 1000), some (.ref 0), some (.ref 58), some (.int (nI i))] [] (ax_S D E)) : ax_WP g ax_hL ret 0 92 741 [some (.ref 1000), some (.ref 0), some (.ref 58), some (.int (nI i))] [] (ax_S D E) := by
  have i1 := ia_x hx
  obtain ⟨a1, a2, a3, a4, a5, a6⟩ := nI_k i
  have v1 : vp_in (nI (i + 1)) Ln := vp_in_nI (by omega) (by omega)
  refine ax_WPt (l := [(87, dcI g 173 [0]), (173, dmI g 173)]) (ax_oc d_87 (ax_oc dmI_s ax_on)) (fun t => t == 1351) 100 ax_k205_741 rfl ?_
  simp +decide only [↓ax_B, ax_B, ax_kds, ax_gvs, ax_mcs, ax_ia_S, ax_up_ap, ax_vinL, and_self_left, ax_up_up, ax_up_sw, Nat.reduceAdd, Nat.reduceBEq, Nat.reduceLeDiff, Nat.reduceLT, Nat.reduceEqDiff, ↓reduceIte, true_and, and_true, List.cons_append, List.nil_append, Int32.reduceLT, Int32.reduceLE, Int32.reduceAdd, Int32.reduceToNatClampNeg, Int32.reduceOfNat, true_imp_iff, false_imp_iff, not_true_eq_false, not_false_eq_true, or_true, true_or, or_false, false_or, and_self, Bool.or_true, Bool.or_false, Bool.true_or, Bool.false_or, implies_true, forall_const, Bool.false_eq_true, Int32.neg_neg, dcI_r, dmI_r, vsh_0, vsh_1, vsh_2, i1, a1, v1]
  exact ⟨hJ, fun x D' E' hm => ⟨x, hm, fun D'' E'' hJ' => ⟨fun _ => nx D'' E'' hJ', fun z => absurd rfl z⟩⟩⟩
set_option maxRecDepth 10000 in
theorem cs_88 {g : ax_G} {ret : ax_Po} {D : ax_Dn} {E : ax_En} {Ln i : Nat} {xs : Nat → Int32} (hx : ax_xt g 1000 = (Ln, xs)) (hi : i + 6 ≤ Ln) (hL : Ln ≤ 3072) (hJ : J D) (nx : ∀ D E, J D → ax_WP g ax_hL ret 0 92 1351 [some (.ref 1000), some (.ref 0), some (.ref 58), some (.int (nI i))] [] (ax_S D E)) : ax_WP g ax_hL ret 0 92 764 [some (.ref 1000), some (.ref 0), some (.ref 58), some (.int (nI i))] [] (ax_S D E) := by
  have i1 := ia_x hx
  obtain ⟨a1, a2, a3, a4, a5, a6⟩ := nI_k i
  have v1 : vp_in (nI (i + 1)) Ln := vp_in_nI (by omega) (by omega)
  refine ax_WPt (l := [(88, dcI g 175 [0]), (175, dmI g 175)]) (ax_oc d_88 (ax_oc dmI_s ax_on)) (fun t => t == 1351) 100 ax_k205_764 rfl ?_
  simp +decide only [↓ax_B, ax_B, ax_kds, ax_gvs, ax_mcs, ax_ia_S, ax_up_ap, ax_vinL, and_self_left, ax_up_up, ax_up_sw, Nat.reduceAdd, Nat.reduceBEq, Nat.reduceLeDiff, Nat.reduceLT, Nat.reduceEqDiff, ↓reduceIte, true_and, and_true, List.cons_append, List.nil_append, Int32.reduceLT, Int32.reduceLE, Int32.reduceAdd, Int32.reduceToNatClampNeg, Int32.reduceOfNat, true_imp_iff, false_imp_iff, not_true_eq_false, not_false_eq_true, or_true, true_or, or_false, false_or, and_self, Bool.or_true, Bool.or_false, Bool.true_or, Bool.false_or, implies_true, forall_const, Bool.false_eq_true, Int32.neg_neg, dcI_r, dmI_r, vsh_0, vsh_1, vsh_2, i1, a1, v1]
  exact ⟨hJ, fun x D' E' hm => ⟨x, hm, fun D'' E'' hJ' => ⟨fun _ => nx D'' E'' hJ', fun z => absurd rfl z⟩⟩⟩
set_option maxRecDepth 10000 in
theorem cs_89 {g : ax_G} {ret : ax_Po} {D : ax_Dn} {E : ax_En} {Ln i : Nat} {xs : Nat → Int32} (hx : ax_xt g 1000 = (Ln, xs)) (hi : i + 6 ≤ Ln) (hL : Ln ≤ 3072) (hJ : J D) (nx : ∀ D E, J D → ax_WP g ax_hL ret 0 92 1351 [some (.ref 1000), some (.ref 0), some (.ref 58), some (.int (nI i))] [] (ax_S D E)) : ax_WP g ax_hL ret 0 92 787 [some (.ref 1000), some (.ref 0), some (.ref 58), some (.int (nI i))] [] (ax_S D E) := by
  have i1 := ia_x hx
  obtain ⟨a1, a2, a3, a4, a5, a6⟩ := nI_k i
  have v1 : vp_in (nI (i + 1)) Ln := vp_in_nI (by omega) (by omega)
  have v2 : vp_in (nI (i + 2)) Ln := vp_in_nI (by omega) (by omega)
  have v3 : vp_in (nI (i + 3)) Ln := vp_in_nI (by omega) (by omega)
  refine ax_WPt (l := [(89, dcL g 176 [0, 0, 0]), (176, dmL g 176)]) (ax_oc d_89 (ax_oc dmL_s ax_on)) (fun t => t == 1351) 100 ax_k205_787 rfl ?_
  simp +decide only [↓ax_B, ax_B, ax_kds, ax_gvs, ax_mcs, ax_ia_S, ax_up_ap, ax_vinL, and_self_left, ax_up_up, ax_up_sw, Nat.reduceAdd, Nat.reduceBEq, Nat.reduceLeDiff, Nat.reduceLT, Nat.reduceEqDiff, ↓reduceIte, true_and, and_true, List.cons_append, List.nil_append, Int32.reduceLT, Int32.reduceLE, Int32.reduceAdd, Int32.reduceToNatClampNeg, Int32.reduceOfNat, true_imp_iff, false_imp_iff, not_true_eq_false, not_false_eq_true, or_true, true_or, or_false, false_or, and_self, Bool.or_true, Bool.or_false, Bool.true_or, Bool.false_or, implies_true, forall_const, Bool.false_eq_true, Int32.neg_neg, dcL_r, dmL_r, vsh_0, vsh_1, vsh_2, i1, a1, a2, a3, v1, v2, v3, lg_self]
  exact ⟨hJ, fun x D' E' hm => ⟨x, hm, fun D'' E'' hJ' => ⟨fun _ => nx D'' E'' hJ', fun z => absurd (lg_self x) z⟩⟩⟩
set_option maxRecDepth 10000 in
theorem cs_90 {g : ax_G} {ret : ax_Po} {D : ax_Dn} {E : ax_En} {Ln i : Nat} {xs : Nat → Int32} (hx : ax_xt g 1000 = (Ln, xs)) (hi : i + 6 ≤ Ln) (hL : Ln ≤ 3072) (hJ : J D) (nx : ∀ D E, J D → ax_WP g ax_hL ret 0 92 1351 [some (.ref 1000), some (.ref 0), some (.ref 58), some (.int (nI i))] [] (ax_S D E)) : ax_WP g ax_hL ret 0 92 831 [some (.ref 1000), some (.ref 0), some (.ref 58), some (.int (nI i))] [] (ax_S D E) := by
  have i1 := ia_x hx
  obtain ⟨a1, a2, a3, a4, a5, a6⟩ := nI_k i
  have v1 : vp_in (nI (i + 1)) Ln := vp_in_nI (by omega) (by omega)
  have v2 : vp_in (nI (i + 2)) Ln := vp_in_nI (by omega) (by omega)
  refine ax_WPt (l := [(90, dcI g 178 [0, 0]), (178, dmI g 178)]) (ax_oc d_90 (ax_oc dmI_s ax_on)) (fun t => t == 1351) 100 ax_k205_831 rfl ?_
  simp +decide only [↓ax_B, ax_B, ax_kds, ax_gvs, ax_mcs, ax_ia_S, ax_up_ap, ax_vinL, and_self_left, ax_up_up, ax_up_sw, Nat.reduceAdd, Nat.reduceBEq, Nat.reduceLeDiff, Nat.reduceLT, Nat.reduceEqDiff, ↓reduceIte, true_and, and_true, List.cons_append, List.nil_append, Int32.reduceLT, Int32.reduceLE, Int32.reduceAdd, Int32.reduceToNatClampNeg, Int32.reduceOfNat, true_imp_iff, false_imp_iff, not_true_eq_false, not_false_eq_true, or_true, true_or, or_false, false_or, and_self, Bool.or_true, Bool.or_false, Bool.true_or, Bool.false_or, implies_true, forall_const, Bool.false_eq_true, Int32.neg_neg, dcI_r, dmI_r, vsh_0, vsh_1, vsh_2, i1, a1, a2, v1, v2]
  exact ⟨hJ, fun x D' E' hm => ⟨x, hm, fun D'' E'' hJ' => ⟨fun _ => nx D'' E'' hJ', fun z => absurd rfl z⟩⟩⟩
set_option maxRecDepth 10000 in
theorem cs_91 {g : ax_G} {ret : ax_Po} {D : ax_Dn} {E : ax_En} {Ln i : Nat} {xs : Nat → Int32} (hx : ax_xt g 1000 = (Ln, xs)) (hi : i + 6 ≤ Ln) (hL : Ln ≤ 3072) (hJ : J D) (nx : ∀ D E, J D → ax_WP g ax_hL ret 0 92 1351 [some (.ref 1000), some (.ref 0), some (.ref 58), some (.int (nI i))] [] (ax_S D E)) : ax_WP g ax_hL ret 0 92 864 [some (.ref 1000), some (.ref 0), some (.ref 58), some (.int (nI i))] [] (ax_S D E) := by
  have i1 := ia_x hx
  obtain ⟨a1, a2, a3, a4, a5, a6⟩ := nI_k i
  have v1 : vp_in (nI (i + 1)) Ln := vp_in_nI (by omega) (by omega)
  refine ax_WPt (l := [(91, dcI g 181 [0]), (181, dmI g 181)]) (ax_oc d_91 (ax_oc dmI_s ax_on)) (fun t => t == 1351) 100 ax_k205_864 rfl ?_
  simp +decide only [↓ax_B, ax_B, ax_kds, ax_gvs, ax_mcs, ax_ia_S, ax_up_ap, ax_vinL, and_self_left, ax_up_up, ax_up_sw, Nat.reduceAdd, Nat.reduceBEq, Nat.reduceLeDiff, Nat.reduceLT, Nat.reduceEqDiff, ↓reduceIte, true_and, and_true, List.cons_append, List.nil_append, Int32.reduceLT, Int32.reduceLE, Int32.reduceAdd, Int32.reduceToNatClampNeg, Int32.reduceOfNat, true_imp_iff, false_imp_iff, not_true_eq_false, not_false_eq_true, or_true, true_or, or_false, false_or, and_self, Bool.or_true, Bool.or_false, Bool.true_or, Bool.false_or, implies_true, forall_const, Bool.false_eq_true, Int32.neg_neg, dcI_r, dmI_r, vsh_0, vsh_1, vsh_2, i1, a1, v1]
  exact ⟨hJ, fun x D' E' hm => ⟨x, hm, fun D'' E'' hJ' => ⟨fun _ => nx D'' E'' hJ', fun z => absurd rfl z⟩⟩⟩
set_option maxRecDepth 10000 in
theorem cs_92 {g : ax_G} {ret : ax_Po} {D : ax_Dn} {E : ax_En} {Ln i : Nat} {xs : Nat → Int32} (hx : ax_xt g 1000 = (Ln, xs)) (hi : i + 6 ≤ Ln) (hL : Ln ≤ 3072) (hJ : J D) (nx : ∀ D E, J D → ax_WP g ax_hL ret 0 92 1351 [some (.ref 1000), some (.ref 0), some (.ref 58), some (.int (nI i))] [] (ax_S D E)) : ax_WP g ax_hL ret 0 92 887 [some (.ref 1000), some (.ref 0), some (.ref 58), some (.int (nI i))] [] (ax_S D E) := by
  have i1 := ia_x hx
  obtain ⟨a1, a2, a3, a4, a5, a6⟩ := nI_k i
  have v1 : vp_in (nI (i + 1)) Ln := vp_in_nI (by omega) (by omega)
  refine ax_WPt (l := [(92, dcI g 182 [0]), (182, dmI g 182)]) (ax_oc d_92 (ax_oc dmI_s ax_on)) (fun t => t == 1351) 100 ax_k205_887 rfl ?_
  simp +decide only [↓ax_B, ax_B, ax_kds, ax_gvs, ax_mcs, ax_ia_S, ax_up_ap, ax_vinL, and_self_left, ax_up_up, ax_up_sw, Nat.reduceAdd, Nat.reduceBEq, Nat.reduceLeDiff, Nat.reduceLT, Nat.reduceEqDiff, ↓reduceIte, true_and, and_true, List.cons_append, List.nil_append, Int32.reduceLT, Int32.reduceLE, Int32.reduceAdd, Int32.reduceToNatClampNeg, Int32.reduceOfNat, true_imp_iff, false_imp_iff, not_true_eq_false, not_false_eq_true, or_true, true_or, or_false, false_or, and_self, Bool.or_true, Bool.or_false, Bool.true_or, Bool.false_or, implies_true, forall_const, Bool.false_eq_true, Int32.neg_neg, dcI_r, dmI_r, vsh_0, vsh_1, vsh_2, i1, a1, v1]
  exact ⟨hJ, fun x D' E' hm => ⟨x, hm, fun D'' E'' hJ' => ⟨fun _ => nx D'' E'' hJ', fun z => absurd rfl z⟩⟩⟩
set_option maxRecDepth 10000 in
theorem cs_93 {g : ax_G} {ret : ax_Po} {D : ax_Dn} {E : ax_En} {Ln i : Nat} {xs : Nat → Int32} (hx : ax_xt g 1000 = (Ln, xs)) (hi : i + 6 ≤ Ln) (hL : Ln ≤ 3072) (hJ : J D) (nx : ∀ D E, J D → ax_WP g ax_hL ret 0 92 1351 [some (.ref 1000), some (.ref 0), some (.ref 58), some (.int (nI i))] [] (ax_S D E)) : ax_WP g ax_hL ret 0 92 910 [some (.ref 1000), some (.ref 0), some (.ref 58), some (.int (nI i))] [] (ax_S D E) := by
  have i1 := ia_x hx
  obtain ⟨a1, a2, a3, a4, a5, a6⟩ := nI_k i
  have v1 : vp_in (nI (i + 1)) Ln := vp_in_nI (by omega) (by omega)
  have v2 : vp_in (nI (i + 2)) Ln := vp_in_nI (by omega) (by omega)
  refine ax_WPt (l := [(93, dcI g 183 [0, 0]), (183, dmI g 183)]) (ax_oc d_93 (ax_oc dmI_s ax_on)) (fun t => t == 1351) 100 ax_k205_910 rfl ?_
  simp +decide only [↓ax_B, ax_B, ax_kds, ax_gvs, ax_mcs, ax_ia_S, ax_up_ap, ax_vinL, and_self_left, ax_up_up, ax_up_sw, Nat.reduceAdd, Nat.reduceBEq, Nat.reduceLeDiff, Nat.reduceLT, Nat.reduceEqDiff, ↓reduceIte, true_and, and_true, List.cons_append, List.nil_append, Int32.reduceLT, Int32.reduceLE, Int32.reduceAdd, Int32.reduceToNatClampNeg, Int32.reduceOfNat, true_imp_iff, false_imp_iff, not_true_eq_false, not_false_eq_true, or_true, true_or, or_false, false_or, and_self, Bool.or_true, Bool.or_false, Bool.true_or, Bool.false_or, implies_true, forall_const, Bool.false_eq_true, Int32.neg_neg, dcI_r, dmI_r, vsh_0, vsh_1, vsh_2, i1, a1, a2, v1, v2]
  exact ⟨hJ, fun x D' E' hm => ⟨x, hm, fun D'' E'' hJ' => ⟨fun _ => nx D'' E'' hJ', fun z => absurd rfl z⟩⟩⟩
set_option maxRecDepth 10000 in
theorem cs_94 {g : ax_G} {ret : ax_Po} {D : ax_Dn} {E : ax_En} {Ln i : Nat} {xs : Nat → Int32} (hx : ax_xt g 1000 = (Ln, xs)) (hi : i + 6 ≤ Ln) (hL : Ln ≤ 3072) (hJ : J D) (nx : ∀ D E, J D → ax_WP g ax_hL ret 0 92 1351 [some (.ref 1000), some (.ref 0), some (.ref 58), some (.int (nI i))] [] (ax_S D E)) : ax_WP g ax_hL ret 0 92 943 [some (.ref 1000), some (.ref 0), some (.ref 58), some (.int (nI i))] [] (ax_S D E) := by
  have i1 := ia_x hx
  obtain ⟨a1, a2, a3, a4, a5, a6⟩ := nI_k i
  have v1 : vp_in (nI (i + 1)) Ln := vp_in_nI (by omega) (by omega)
  have v2 : vp_in (nI (i + 2)) Ln := vp_in_nI (by omega) (by omega)
  have v3 : vp_in (nI (i + 3)) Ln := vp_in_nI (by omega) (by omega)
  refine ax_WPt (l := [(94, dcI g 184 [0, 0, 0]), (184, dmI g 184)]) (ax_oc d_94 (ax_oc dmI_s ax_on)) (fun t => t == 1351) 100 ax_k205_943 rfl ?_
  simp +decide only [↓ax_B, ax_B, ax_kds, ax_gvs, ax_mcs, ax_ia_S, ax_up_ap, ax_vinL, and_self_left, ax_up_up, ax_up_sw, Nat.reduceAdd, Nat.reduceBEq, Nat.reduceLeDiff, Nat.reduceLT, Nat.reduceEqDiff, ↓reduceIte, true_and, and_true, List.cons_append, List.nil_append, Int32.reduceLT, Int32.reduceLE, Int32.reduceAdd, Int32.reduceToNatClampNeg, Int32.reduceOfNat, true_imp_iff, false_imp_iff, not_true_eq_false, not_false_eq_true, or_true, true_or, or_false, false_or, and_self, Bool.or_true, Bool.or_false, Bool.true_or, Bool.false_or, implies_true, forall_const, Bool.false_eq_true, Int32.neg_neg, dcI_r, dmI_r, vsh_0, vsh_1, vsh_2, i1, a1, a2, a3, v1, v2, v3]
  exact ⟨hJ, fun x D' E' hm => ⟨x, hm, fun D'' E'' hJ' => ⟨fun _ => nx D'' E'' hJ', fun z => absurd rfl z⟩⟩⟩
set_option maxRecDepth 10000 in
theorem cs_95 {g : ax_G} {ret : ax_Po} {D : ax_Dn} {E : ax_En} {Ln i : Nat} {xs : Nat → Int32} (hx : ax_xt g 1000 = (Ln, xs)) (hi : i + 6 ≤ Ln) (hL : Ln ≤ 3072) (hJ : J D) (nx : ∀ D E, J D → ax_WP g ax_hL ret 0 92 1351 [some (.ref 1000), some (.ref 0), some (.ref 58), some (.int (nI i))] [] (ax_S D E)) : ax_WP g ax_hL ret 0 92 986 [some (.ref 1000), some (.ref 0), some (.ref 58), some (.int (nI i))] [] (ax_S D E) := by
  have i1 := ia_x hx
  obtain ⟨a1, a2, a3, a4, a5, a6⟩ := nI_k i
  have v1 : vp_in (nI (i + 1)) Ln := vp_in_nI (by omega) (by omega)
  have v2 : vp_in (nI (i + 2)) Ln := vp_in_nI (by omega) (by omega)
  refine ax_WPt (l := [(95, dcI g 185 [1]), (185, dmI g 185)]) (ax_oc d_95 (ax_oc dmI_s ax_on)) (fun t => t == 1351) 100 ax_k205_986 rfl ?_
  simp +decide only [↓ax_B, ax_B, ax_kds, ax_gvs, ax_mcs, ax_ia_S, ax_up_ap, ax_vinL, and_self_left, ax_up_up, ax_up_sw, Nat.reduceAdd, Nat.reduceBEq, Nat.reduceLeDiff, Nat.reduceLT, Nat.reduceEqDiff, ↓reduceIte, true_and, and_true, List.cons_append, List.nil_append, Int32.reduceLT, Int32.reduceLE, Int32.reduceAdd, Int32.reduceToNatClampNeg, Int32.reduceOfNat, true_imp_iff, false_imp_iff, not_true_eq_false, not_false_eq_true, or_true, true_or, or_false, false_or, and_self, Bool.or_true, Bool.or_false, Bool.true_or, Bool.false_or, implies_true, forall_const, Bool.false_eq_true, Int32.neg_neg, dcI_r, dmI_r, vsh_0, vsh_1, vsh_2, i1, a1, a2, v1, v2]
  exact ⟨hJ, fun x D' E' hm => ⟨x, hm, fun D'' E'' hJ' => ⟨fun _ => nx D'' E'' hJ', fun z => absurd rfl z⟩⟩⟩
set_option maxRecDepth 10000 in
theorem cs_96 {g : ax_G} {ret : ax_Po} {D : ax_Dn} {E : ax_En} {Ln i : Nat} {xs : Nat → Int32} (hx : ax_xt g 1000 = (Ln, xs)) (hi : i + 6 ≤ Ln) (hL : Ln ≤ 3072) (hJ : J D) (nx : ∀ D E, J D → ax_WP g ax_hL ret 0 92 1351 [some (.ref 1000), some (.ref 0), some (.ref 58), some (.int (nI i))] [] (ax_S D E)) : ax_WP g ax_hL ret 0 92 1039 [some (.ref 1000), some (.ref 0), some (.ref 58), some (.int (nI i))] [] (ax_S D E) := by
  have i1 := ia_x hx
  obtain ⟨a1, a2, a3, a4, a5, a6⟩ := nI_k i
  have v1 : vp_in (nI (i + 1)) Ln := vp_in_nI (by omega) (by omega)
  refine ax_WPt (l := [(96, dcI g 187 [0]), (187, dmI g 187)]) (ax_oc d_96 (ax_oc dmI_s ax_on)) (fun t => t == 1351) 100 ax_k205_1039 rfl ?_
  simp +decide only [↓ax_B, ax_B, ax_kds, ax_gvs, ax_mcs, ax_ia_S, ax_up_ap, ax_vinL, and_self_left, ax_up_up, ax_up_sw, Nat.reduceAdd, Nat.reduceBEq, Nat.reduceLeDiff, Nat.reduceLT, Nat.reduceEqDiff, ↓reduceIte, true_and, and_true, List.cons_append, List.nil_append, Int32.reduceLT, Int32.reduceLE, Int32.reduceAdd, Int32.reduceToNatClampNeg, Int32.reduceOfNat, true_imp_iff, false_imp_iff, not_true_eq_false, not_false_eq_true, or_true, true_or, or_false, false_or, and_self, Bool.or_true, Bool.or_false, Bool.true_or, Bool.false_or, implies_true, forall_const, Bool.false_eq_true, Int32.neg_neg, dcI_r, dmI_r, vsh_0, vsh_1, vsh_2, i1, a1, v1]
  exact ⟨hJ, fun x D' E' hm => ⟨x, hm, fun D'' E'' hJ' => ⟨fun _ => nx D'' E'' hJ', fun z => absurd rfl z⟩⟩⟩
set_option maxRecDepth 10000 in
theorem cs_97 {g : ax_G} {ret : ax_Po} {D : ax_Dn} {E : ax_En} {Ln i : Nat} {xs : Nat → Int32} (hx : ax_xt g 1000 = (Ln, xs)) (hi : i + 6 ≤ Ln) (hL : Ln ≤ 3072) (hJ : J D) (nx : ∀ D E, J D → ax_WP g ax_hL ret 0 92 1351 [some (.ref 1000), some (.ref 0), some (.ref 58), some (.int (nI i))] [] (ax_S D E)) : ax_WP g ax_hL ret 0 92 1062 [some (.ref 1000), some (.ref 0), some (.ref 58), some (.int (nI i))] [] (ax_S D E) := by
  have i1 := ia_x hx
  refine ax_WPt (l := [(97, dcI g 188 []), (188, dmI g 188)]) (ax_oc d_97 (ax_oc dmI_s ax_on)) (fun t => t == 1351) 100 ax_k205_1062 rfl ?_
  simp +decide only [↓ax_B, ax_B, ax_kds, ax_gvs, ax_mcs, ax_ia_S, ax_up_ap, ax_vinL, and_self_left, ax_up_up, ax_up_sw, Nat.reduceAdd, Nat.reduceBEq, Nat.reduceLeDiff, Nat.reduceLT, Nat.reduceEqDiff, ↓reduceIte, true_and, and_true, List.cons_append, List.nil_append, Int32.reduceLT, Int32.reduceLE, Int32.reduceAdd, Int32.reduceToNatClampNeg, Int32.reduceOfNat, true_imp_iff, false_imp_iff, not_true_eq_false, not_false_eq_true, or_true, true_or, or_false, false_or, and_self, Bool.or_true, Bool.or_false, Bool.true_or, Bool.false_or, implies_true, forall_const, Bool.false_eq_true, Int32.neg_neg, dcI_r, dmI_r, vsh_0, vsh_1, vsh_2, i1]
  exact ⟨hJ, fun x D' E' hm => ⟨x, hm, fun D'' E'' hJ' => ⟨fun _ => nx D'' E'' hJ', fun z => absurd rfl z⟩⟩⟩
set_option maxRecDepth 10000 in
theorem cs_98 {g : ax_G} {ret : ax_Po} {D : ax_Dn} {E : ax_En} {Ln i : Nat} {xs : Nat → Int32} (hx : ax_xt g 1000 = (Ln, xs)) (hi : i + 6 ≤ Ln) (hL : Ln ≤ 3072) (hJ : J D) (nx : ∀ D E, J D → ax_WP g ax_hL ret 0 92 1351 [some (.ref 1000), some (.ref 0), some (.ref 58), some (.int (nI i))] [] (ax_S D E)) : ax_WP g ax_hL ret 0 92 1075 [some (.ref 1000), some (.ref 0), some (.ref 58), some (.int (nI i))] [] (ax_S D E) := by
  have i1 := ia_x hx
  refine ax_WPt (l := [(98, dcI g 189 []), (189, dmI g 189)]) (ax_oc d_98 (ax_oc dmI_s ax_on)) (fun t => t == 1351) 100 ax_k205_1075 rfl ?_
  simp +decide only [↓ax_B, ax_B, ax_kds, ax_gvs, ax_mcs, ax_ia_S, ax_up_ap, ax_vinL, and_self_left, ax_up_up, ax_up_sw, Nat.reduceAdd, Nat.reduceBEq, Nat.reduceLeDiff, Nat.reduceLT, Nat.reduceEqDiff, ↓reduceIte, true_and, and_true, List.cons_append, List.nil_append, Int32.reduceLT, Int32.reduceLE, Int32.reduceAdd, Int32.reduceToNatClampNeg, Int32.reduceOfNat, true_imp_iff, false_imp_iff, not_true_eq_false, not_false_eq_true, or_true, true_or, or_false, false_or, and_self, Bool.or_true, Bool.or_false, Bool.true_or, Bool.false_or, implies_true, forall_const, Bool.false_eq_true, Int32.neg_neg, dcI_r, dmI_r, vsh_0, vsh_1, vsh_2, i1]
  exact ⟨hJ, fun x D' E' hm => ⟨x, hm, fun D'' E'' hJ' => ⟨fun _ => nx D'' E'' hJ', fun z => absurd rfl z⟩⟩⟩
set_option maxRecDepth 10000 in
theorem cs_99 {g : ax_G} {ret : ax_Po} {D : ax_Dn} {E : ax_En} {Ln i : Nat} {xs : Nat → Int32} (hx : ax_xt g 1000 = (Ln, xs)) (hi : i + 6 ≤ Ln) (hL : Ln ≤ 3072) (hJ : J D) (nx : ∀ D E, J D → ax_WP g ax_hL ret 0 92 1351 [some (.ref 1000), some (.ref 0), some (.ref 58), some (.int (nI i))] [] (ax_S D E)) : ax_WP g ax_hL ret 0 92 1088 [some (.ref 1000), some (.ref 0), some (.ref 58), some (.int (nI i))] [] (ax_S D E) := by
  have i1 := ia_x hx
  obtain ⟨a1, a2, a3, a4, a5, a6⟩ := nI_k i
  have v1 : vp_in (nI (i + 1)) Ln := vp_in_nI (by omega) (by omega)
  have v2 : vp_in (nI (i + 2)) Ln := vp_in_nI (by omega) (by omega)
  have v3 : vp_in (nI (i + 3)) Ln := vp_in_nI (by omega) (by omega)
  have v4 : vp_in (nI (i + 4)) Ln := vp_in_nI (by omega) (by omega)
  have v5 : vp_in (nI (i + 5)) Ln := vp_in_nI (by omega) (by omega)
  refine ax_WPt (l := [(99, dcI g 190 [0, 0, 0, 0, 0]), (190, dmI g 190)]) (ax_oc d_99 (ax_oc dmI_s ax_on)) (fun t => t == 1351) 100 ax_k205_1088 rfl ?_
  simp +decide only [↓ax_B, ax_B, ax_kds, ax_gvs, ax_mcs, ax_ia_S, ax_up_ap, ax_vinL, and_self_left, ax_up_up, ax_up_sw, Nat.reduceAdd, Nat.reduceBEq, Nat.reduceLeDiff, Nat.reduceLT, Nat.reduceEqDiff, ↓reduceIte, true_and, and_true, List.cons_append, List.nil_append, Int32.reduceLT, Int32.reduceLE, Int32.reduceAdd, Int32.reduceToNatClampNeg, Int32.reduceOfNat, true_imp_iff, false_imp_iff, not_true_eq_false, not_false_eq_true, or_true, true_or, or_false, false_or, and_self, Bool.or_true, Bool.or_false, Bool.true_or, Bool.false_or, implies_true, forall_const, Bool.false_eq_true, Int32.neg_neg, dcI_r, dmI_r, vsh_0, vsh_1, vsh_2, i1, a1, a2, a3, a4, a5, v1, v2, v3, v4, v5]
  exact ⟨hJ, fun x D' E' hm => ⟨x, hm, fun D'' E'' hJ' => ⟨fun _ => nx D'' E'' hJ', fun z => absurd rfl z⟩⟩⟩
set_option maxRecDepth 10000 in
theorem cs_100 {g : ax_G} {ret : ax_Po} {D : ax_Dn} {E : ax_En} {Ln i : Nat} {xs : Nat → Int32} (hx : ax_xt g 1000 = (Ln, xs)) (hi : i + 6 ≤ Ln) (hL : Ln ≤ 3072) (hJ : J D) (nx : ∀ D E, J D → ax_WP g ax_hL ret 0 92 1351 [some (.ref 1000), some (.ref 0), some (.ref 58), some (.int (nI i))] [] (ax_S D E)) : ax_WP g ax_hL ret 0 92 1151 [some (.ref 1000), some (.ref 0), some (.ref 58), some (.int (nI i))] [] (ax_S D E) := by
  have i1 := ia_x hx
  obtain ⟨a1, a2, a3, a4, a5, a6⟩ := nI_k i
  have v1 : vp_in (nI (i + 1)) Ln := vp_in_nI (by omega) (by omega)
  refine ax_WPt (l := [(100, dcI g 192 [0]), (192, dmI g 192)]) (ax_oc d_100 (ax_oc dmI_s ax_on)) (fun t => t == 1351) 100 ax_k205_1151 rfl ?_
  simp +decide only [↓ax_B, ax_B, ax_kds, ax_gvs, ax_mcs, ax_ia_S, ax_up_ap, ax_vinL, and_self_left, ax_up_up, ax_up_sw, Nat.reduceAdd, Nat.reduceBEq, Nat.reduceLeDiff, Nat.reduceLT, Nat.reduceEqDiff, ↓reduceIte, true_and, and_true, List.cons_append, List.nil_append, Int32.reduceLT, Int32.reduceLE, Int32.reduceAdd, Int32.reduceToNatClampNeg, Int32.reduceOfNat, true_imp_iff, false_imp_iff, not_true_eq_false, not_false_eq_true, or_true, true_or, or_false, false_or, and_self, Bool.or_true, Bool.or_false, Bool.true_or, Bool.false_or, implies_true, forall_const, Bool.false_eq_true, Int32.neg_neg, dcI_r, dmI_r, vsh_0, vsh_1, vsh_2, i1, a1, v1]
  exact ⟨hJ, fun x D' E' hm => ⟨x, hm, fun D'' E'' hJ' => ⟨fun _ => nx D'' E'' hJ', fun z => absurd rfl z⟩⟩⟩
set_option maxRecDepth 10000 in
theorem cs_101 {g : ax_G} {ret : ax_Po} {D : ax_Dn} {E : ax_En} {Ln i : Nat} {xs : Nat → Int32} (hx : ax_xt g 1000 = (Ln, xs)) (hi : i + 6 ≤ Ln) (hL : Ln ≤ 3072) (hJ : J D) (nx : ∀ D E, J D → ax_WP g ax_hL ret 0 92 1351 [some (.ref 1000), some (.ref 0), some (.ref 58), some (.int (nI i))] [] (ax_S D E)) : ax_WP g ax_hL ret 0 92 1174 [some (.ref 1000), some (.ref 0), some (.ref 58), some (.int (nI i))] [] (ax_S D E) := by
  have i1 := ia_x hx
  obtain ⟨a1, a2, a3, a4, a5, a6⟩ := nI_k i
  have v1 : vp_in (nI (i + 1)) Ln := vp_in_nI (by omega) (by omega)
  refine ax_WPt (l := [(101, dcI g 193 [0]), (193, dmI g 193)]) (ax_oc d_101 (ax_oc dmI_s ax_on)) (fun t => t == 1351) 100 ax_k205_1174 rfl ?_
  simp +decide only [↓ax_B, ax_B, ax_kds, ax_gvs, ax_mcs, ax_ia_S, ax_up_ap, ax_vinL, and_self_left, ax_up_up, ax_up_sw, Nat.reduceAdd, Nat.reduceBEq, Nat.reduceLeDiff, Nat.reduceLT, Nat.reduceEqDiff, ↓reduceIte, true_and, and_true, List.cons_append, List.nil_append, Int32.reduceLT, Int32.reduceLE, Int32.reduceAdd, Int32.reduceToNatClampNeg, Int32.reduceOfNat, true_imp_iff, false_imp_iff, not_true_eq_false, not_false_eq_true, or_true, true_or, or_false, false_or, and_self, Bool.or_true, Bool.or_false, Bool.true_or, Bool.false_or, implies_true, forall_const, Bool.false_eq_true, Int32.neg_neg, dcI_r, dmI_r, vsh_0, vsh_1, vsh_2, i1, a1, v1]
  exact ⟨hJ, fun x D' E' hm => ⟨x, hm, fun D'' E'' hJ' => ⟨fun _ => nx D'' E'' hJ', fun z => absurd rfl z⟩⟩⟩
set_option maxRecDepth 10000 in
theorem cs_102 {g : ax_G} {ret : ax_Po} {D : ax_Dn} {E : ax_En} {Ln i : Nat} {xs : Nat → Int32} (hx : ax_xt g 1000 = (Ln, xs)) (hi : i + 6 ≤ Ln) (hL : Ln ≤ 3072) (hJ : J D) (nx : ∀ D E, J D → ax_WP g ax_hL ret 0 92 1351 [some (.ref 1000), some (.ref 0), some (.ref 58), some (.int (nI i))] [] (ax_S D E)) : ax_WP g ax_hL ret 0 92 1197 [some (.ref 1000), some (.ref 0), some (.ref 58), some (.int (nI i))] [] (ax_S D E) := by
  have i1 := ia_x hx
  refine ax_WPt (l := [(102, dcI g 194 []), (194, dmI g 194)]) (ax_oc d_102 (ax_oc dmI_s ax_on)) (fun t => t == 1351) 100 ax_k205_1197 rfl ?_
  simp +decide only [↓ax_B, ax_B, ax_kds, ax_gvs, ax_mcs, ax_ia_S, ax_up_ap, ax_vinL, and_self_left, ax_up_up, ax_up_sw, Nat.reduceAdd, Nat.reduceBEq, Nat.reduceLeDiff, Nat.reduceLT, Nat.reduceEqDiff, ↓reduceIte, true_and, and_true, List.cons_append, List.nil_append, Int32.reduceLT, Int32.reduceLE, Int32.reduceAdd, Int32.reduceToNatClampNeg, Int32.reduceOfNat, true_imp_iff, false_imp_iff, not_true_eq_false, not_false_eq_true, or_true, true_or, or_false, false_or, and_self, Bool.or_true, Bool.or_false, Bool.true_or, Bool.false_or, implies_true, forall_const, Bool.false_eq_true, Int32.neg_neg, dcI_r, dmI_r, vsh_0, vsh_1, vsh_2, i1]
  exact ⟨hJ, fun x D' E' hm => ⟨x, hm, fun D'' E'' hJ' => ⟨fun _ => nx D'' E'' hJ', fun z => absurd rfl z⟩⟩⟩
set_option maxRecDepth 10000 in
theorem cs_103 {g : ax_G} {ret : ax_Po} {D : ax_Dn} {E : ax_En} {Ln i : Nat} {xs : Nat → Int32} (hx : ax_xt g 1000 = (Ln, xs)) (hi : i + 6 ≤ Ln) (hL : Ln ≤ 3072) (hJ : J D) (nx : ∀ D E, J D → ax_WP g ax_hL ret 0 92 1351 [some (.ref 1000), some (.ref 0), some (.ref 58), some (.int (nI i))] [] (ax_S D E)) : ax_WP g ax_hL ret 0 92 1210 [some (.ref 1000), some (.ref 0), some (.ref 58), some (.int (nI i))] [] (ax_S D E) := by
  have i1 := ia_x hx
  obtain ⟨a1, a2, a3, a4, a5, a6⟩ := nI_k i
  have v1 : vp_in (nI (i + 1)) Ln := vp_in_nI (by omega) (by omega)
  have v2 : vp_in (nI (i + 2)) Ln := vp_in_nI (by omega) (by omega)
  refine ax_WPt (l := [(103, dcI g 195 [0, 0]), (195, dmI g 195)]) (ax_oc d_103 (ax_oc dmI_s ax_on)) (fun t => t == 1351) 100 ax_k205_1210 rfl ?_
  simp +decide only [↓ax_B, ax_B, ax_kds, ax_gvs, ax_mcs, ax_ia_S, ax_up_ap, ax_vinL, and_self_left, ax_up_up, ax_up_sw, Nat.reduceAdd, Nat.reduceBEq, Nat.reduceLeDiff, Nat.reduceLT, Nat.reduceEqDiff, ↓reduceIte, true_and, and_true, List.cons_append, List.nil_append, Int32.reduceLT, Int32.reduceLE, Int32.reduceAdd, Int32.reduceToNatClampNeg, Int32.reduceOfNat, true_imp_iff, false_imp_iff, not_true_eq_false, not_false_eq_true, or_true, true_or, or_false, false_or, and_self, Bool.or_true, Bool.or_false, Bool.true_or, Bool.false_or, implies_true, forall_const, Bool.false_eq_true, Int32.neg_neg, dcI_r, dmI_r, vsh_0, vsh_1, vsh_2, i1, a1, a2, v1, v2]
  exact ⟨hJ, fun x D' E' hm => ⟨x, hm, fun D'' E'' hJ' => ⟨fun _ => nx D'' E'' hJ', fun z => absurd rfl z⟩⟩⟩
set_option maxRecDepth 10000 in
theorem cs_104 {g : ax_G} {ret : ax_Po} {D : ax_Dn} {E : ax_En} {Ln i : Nat} {xs : Nat → Int32} (hx : ax_xt g 1000 = (Ln, xs)) (hi : i + 6 ≤ Ln) (hL : Ln ≤ 3072) (hJ : J D) (nx : ∀ D E, J D → ax_WP g ax_hL ret 0 92 1351 [some (.ref 1000), some (.ref 0), some (.ref 58), some (.int (nI i))] [] (ax_S D E)) : ax_WP g ax_hL ret 0 92 1243 [some (.ref 1000), some (.ref 0), some (.ref 58), some (.int (nI i))] [] (ax_S D E) := by
  have i1 := ia_x hx
  obtain ⟨a1, a2, a3, a4, a5, a6⟩ := nI_k i
  have v1 : vp_in (nI (i + 1)) Ln := vp_in_nI (by omega) (by omega)
  refine ax_WPt (l := [(104, dcI g 196 [0]), (196, dmI g 196)]) (ax_oc d_104 (ax_oc dmI_s ax_on)) (fun t => t == 1351) 100 ax_k205_1243 rfl ?_
  simp +decide only [↓ax_B, ax_B, ax_kds, ax_gvs, ax_mcs, ax_ia_S, ax_up_ap, ax_vinL, and_self_left, ax_up_up, ax_up_sw, Nat.reduceAdd, Nat.reduceBEq, Nat.reduceLeDiff, Nat.reduceLT, Nat.reduceEqDiff, ↓reduceIte, true_and, and_true, List.cons_append, List.nil_append, Int32.reduceLT, Int32.reduceLE, Int32.reduceAdd, Int32.reduceToNatClampNeg, Int32.reduceOfNat, true_imp_iff, false_imp_iff, not_true_eq_false, not_false_eq_true, or_true, true_or, or_false, false_or, and_self, Bool.or_true, Bool.or_false, Bool.true_or, Bool.false_or, implies_true, forall_const, Bool.false_eq_true, Int32.neg_neg, dcI_r, dmI_r, vsh_0, vsh_1, vsh_2, i1, a1, v1]
  exact ⟨hJ, fun x D' E' hm => ⟨x, hm, fun D'' E'' hJ' => ⟨fun _ => nx D'' E'' hJ', fun z => absurd rfl z⟩⟩⟩
set_option maxRecDepth 10000 in
theorem cs_105 {g : ax_G} {ret : ax_Po} {D : ax_Dn} {E : ax_En} {Ln i : Nat} {xs : Nat → Int32} (hx : ax_xt g 1000 = (Ln, xs)) (hi : i + 6 ≤ Ln) (hL : Ln ≤ 3072) (hJ : J D) (nx : ∀ D E, J D → ax_WP g ax_hL ret 0 92 1351 [some (.ref 1000), some (.ref 0), some (.ref 58), some (.int (nI i))] [] (ax_S D E)) : ax_WP g ax_hL ret 0 92 1266 [some (.ref 1000), some (.ref 0), some (.ref 58), some (.int (nI i))] [] (ax_S D E) := by
  have i1 := ia_x hx
  obtain ⟨a1, a2, a3, a4, a5, a6⟩ := nI_k i
  have v1 : vp_in (nI (i + 1)) Ln := vp_in_nI (by omega) (by omega)
  refine ax_WPt (l := [(105, dcI g 197 [0]), (197, dmI g 197)]) (ax_oc d_105 (ax_oc dmI_s ax_on)) (fun t => t == 1351) 100 ax_k205_1266 rfl ?_
  simp +decide only [↓ax_B, ax_B, ax_kds, ax_gvs, ax_mcs, ax_ia_S, ax_up_ap, ax_vinL, and_self_left, ax_up_up, ax_up_sw, Nat.reduceAdd, Nat.reduceBEq, Nat.reduceLeDiff, Nat.reduceLT, Nat.reduceEqDiff, ↓reduceIte, true_and, and_true, List.cons_append, List.nil_append, Int32.reduceLT, Int32.reduceLE, Int32.reduceAdd, Int32.reduceToNatClampNeg, Int32.reduceOfNat, true_imp_iff, false_imp_iff, not_true_eq_false, not_false_eq_true, or_true, true_or, or_false, false_or, and_self, Bool.or_true, Bool.or_false, Bool.true_or, Bool.false_or, implies_true, forall_const, Bool.false_eq_true, Int32.neg_neg, dcI_r, dmI_r, vsh_0, vsh_1, vsh_2, i1, a1, v1]
  exact ⟨hJ, fun x D' E' hm => ⟨x, hm, fun D'' E'' hJ' => ⟨fun _ => nx D'' E'' hJ', fun z => absurd rfl z⟩⟩⟩
set_option maxRecDepth 10000 in
theorem cs_106 {g : ax_G} {ret : ax_Po} {D : ax_Dn} {E : ax_En} {Ln i : Nat} {xs : Nat → Int32} (hx : ax_xt g 1000 = (Ln, xs)) (hi : i + 6 ≤ Ln) (hL : Ln ≤ 3072) (hJ : J D) (nx : ∀ D E, J D → ax_WP g ax_hL ret 0 92 1351 [some (.ref 1000), some (.ref 0), some (.ref 58), some (.int (nI i))] [] (ax_S D E)) : ax_WP g ax_hL ret 0 92 1289 [some (.ref 1000), some (.ref 0), some (.ref 58), some (.int (nI i))] [] (ax_S D E) := by
  have i1 := ia_x hx
  refine ax_WPt (l := [(106, dcI g 198 []), (198, dmI g 198)]) (ax_oc d_106 (ax_oc dmI_s ax_on)) (fun t => t == 1351) 100 ax_k205_1289 rfl ?_
  simp +decide only [↓ax_B, ax_B, ax_kds, ax_gvs, ax_mcs, ax_ia_S, ax_up_ap, ax_vinL, and_self_left, ax_up_up, ax_up_sw, Nat.reduceAdd, Nat.reduceBEq, Nat.reduceLeDiff, Nat.reduceLT, Nat.reduceEqDiff, ↓reduceIte, true_and, and_true, List.cons_append, List.nil_append, Int32.reduceLT, Int32.reduceLE, Int32.reduceAdd, Int32.reduceToNatClampNeg, Int32.reduceOfNat, true_imp_iff, false_imp_iff, not_true_eq_false, not_false_eq_true, or_true, true_or, or_false, false_or, and_self, Bool.or_true, Bool.or_false, Bool.true_or, Bool.false_or, implies_true, forall_const, Bool.false_eq_true, Int32.neg_neg, dcI_r, dmI_r, vsh_0, vsh_1, vsh_2, i1]
  exact ⟨hJ, fun x D' E' hm => ⟨x, hm, fun D'' E'' hJ' => ⟨fun _ => nx D'' E'' hJ', fun z => absurd rfl z⟩⟩⟩
set_option maxRecDepth 10000 in
theorem cs_107 {g : ax_G} {ret : ax_Po} {D : ax_Dn} {E : ax_En} {Ln i : Nat} {xs : Nat → Int32} (hx : ax_xt g 1000 = (Ln, xs)) (hi : i + 6 ≤ Ln) (hL : Ln ≤ 3072) (hJ : J D) (nx : ∀ D E, J D → ax_WP g ax_hL ret 0 92 1351 [some (.ref 1000), some (.ref 0), some (.ref 58), some (.int (nI i))] [] (ax_S D E)) : ax_WP g ax_hL ret 0 92 1302 [some (.ref 1000), some (.ref 0), some (.ref 58), some (.int (nI i))] [] (ax_S D E) := by
  have i1 := ia_x hx
  refine ax_WPt (l := [(107, dcI g 202 []), (202, dmI g 202)]) (ax_oc d_107 (ax_oc dmI_s ax_on)) (fun t => t == 1351) 100 ax_k205_1302 rfl ?_
  simp +decide only [↓ax_B, ax_B, ax_kds, ax_gvs, ax_mcs, ax_ia_S, ax_up_ap, ax_vinL, and_self_left, ax_up_up, ax_up_sw, Nat.reduceAdd, Nat.reduceBEq, Nat.reduceLeDiff, Nat.reduceLT, Nat.reduceEqDiff, ↓reduceIte, true_and, and_true, List.cons_append, List.nil_append, Int32.reduceLT, Int32.reduceLE, Int32.reduceAdd, Int32.reduceToNatClampNeg, Int32.reduceOfNat, true_imp_iff, false_imp_iff, not_true_eq_false, not_false_eq_true, or_true, true_or, or_false, false_or, and_self, Bool.or_true, Bool.or_false, Bool.true_or, Bool.false_or, implies_true, forall_const, Bool.false_eq_true, Int32.neg_neg, dcI_r, dmI_r, vsh_0, vsh_1, vsh_2, i1]
  exact ⟨hJ, fun x D' E' hm => ⟨x, hm, fun D'' E'' hJ' => ⟨fun _ => nx D'' E'' hJ', fun z => absurd rfl z⟩⟩⟩
set_option maxRecDepth 10000 in
theorem cs_108 {g : ax_G} {ret : ax_Po} {D : ax_Dn} {E : ax_En} {Ln i : Nat} {xs : Nat → Int32} (hx : ax_xt g 1000 = (Ln, xs)) (hi : i + 6 ≤ Ln) (hL : Ln ≤ 3072) (hJ : J D) (nx : ∀ D E, J D → ax_WP g ax_hL ret 0 92 1351 [some (.ref 1000), some (.ref 0), some (.ref 58), some (.int (nI i))] [] (ax_S D E)) : ax_WP g ax_hL ret 0 92 1315 [some (.ref 1000), some (.ref 0), some (.ref 58), some (.int (nI i))] [] (ax_S D E) := by
  have i1 := ia_x hx
  refine ax_WPt (l := [(108, dcI g 203 []), (203, dmI g 203)]) (ax_oc d_108 (ax_oc dmI_s ax_on)) (fun t => t == 1351) 100 ax_k205_1315 rfl ?_
  simp +decide only [↓ax_B, ax_B, ax_kds, ax_gvs, ax_mcs, ax_ia_S, ax_up_ap, ax_vinL, and_self_left, ax_up_up, ax_up_sw, Nat.reduceAdd, Nat.reduceBEq, Nat.reduceLeDiff, Nat.reduceLT, Nat.reduceEqDiff, ↓reduceIte, true_and, and_true, List.cons_append, List.nil_append, Int32.reduceLT, Int32.reduceLE, Int32.reduceAdd, Int32.reduceToNatClampNeg, Int32.reduceOfNat, true_imp_iff, false_imp_iff, not_true_eq_false, not_false_eq_true, or_true, true_or, or_false, false_or, and_self, Bool.or_true, Bool.or_false, Bool.true_or, Bool.false_or, implies_true, forall_const, Bool.false_eq_true, Int32.neg_neg, dcI_r, dmI_r, vsh_0, vsh_1, vsh_2, i1]
  exact ⟨hJ, fun x D' E' hm => ⟨x, hm, fun D'' E'' hJ' => ⟨fun _ => nx D'' E'' hJ', fun z => absurd rfl z⟩⟩⟩
set_option maxRecDepth 10000 in
theorem cs_109 {g : ax_G} {ret : ax_Po} {D : ax_Dn} {E : ax_En} {Ln i : Nat} {xs : Nat → Int32} (hx : ax_xt g 1000 = (Ln, xs)) (hi : i + 6 ≤ Ln) (hL : Ln ≤ 3072) (hJ : J D) (nx : ∀ D E, J D → ax_WP g ax_hL ret 0 92 1351 [some (.ref 1000), some (.ref 0), some (.ref 58), some (.int (nI i))] [] (ax_S D E)) : ax_WP g ax_hL ret 0 92 1328 [some (.ref 1000), some (.ref 0), some (.ref 58), some (.int (nI i))] [] (ax_S D E) := by
  have i1 := ia_x hx
  obtain ⟨a1, a2, a3, a4, a5, a6⟩ := nI_k i
  have v1 : vp_in (nI (i + 1)) Ln := vp_in_nI (by omega) (by omega)
  refine ax_WPt (l := [(109, dcI g 204 [0]), (204, dmI g 204)]) (ax_oc d_109 (ax_oc dmI_s ax_on)) (fun t => t == 1351) 100 ax_k205_1328 rfl ?_
  simp +decide only [↓ax_B, ax_B, ax_kds, ax_gvs, ax_mcs, ax_ia_S, ax_up_ap, ax_vinL, and_self_left, ax_up_up, ax_up_sw, Nat.reduceAdd, Nat.reduceBEq, Nat.reduceLeDiff, Nat.reduceLT, Nat.reduceEqDiff, ↓reduceIte, true_and, and_true, List.cons_append, List.nil_append, Int32.reduceLT, Int32.reduceLE, Int32.reduceAdd, Int32.reduceToNatClampNeg, Int32.reduceOfNat, true_imp_iff, false_imp_iff, not_true_eq_false, not_false_eq_true, or_true, true_or, or_false, false_or, and_self, Bool.or_true, Bool.or_false, Bool.true_or, Bool.false_or, implies_true, forall_const, Bool.false_eq_true, Int32.neg_neg, dcI_r, dmI_r, vsh_0, vsh_1, vsh_2, i1, a1, v1]
  exact ⟨hJ, fun x D' E' hm => ⟨x, hm, fun D'' E'' hJ' => ⟨fun _ => nx D'' E'' hJ', fun z => absurd rfl z⟩⟩⟩
