/-! Constructors: the model. -/
theorem rw_58 : ax_up (ax_up (ax_up (ax_up (ax_up (ax_up (ax_up (ax_up (ax_up (ax_up (ax_up (ax_up (ax_up (ax_up (ax_up (ax_up (ax_up (ax_up (ax_up (ax_up (ax_up (ax_up (ax_up (ax_up (ax_up (ax_up (ax_up (ax_up (ax_up (ax_up (ax_up (ax_up (ax_up (zR_) 0 (some 59)) 1 (some 60)) 2 (some 61)) 3 (some 62)) 4 (some 63)) 5 (some 64)) 6 (some 65)) 7 (some 66)) 8 (some 67)) 9 (some 68)) 10 (some 69)) 11 (some 70)) 12 (some 71)) 13 (some 72)) 14 (some 73)) 15 (some 74)) 16 (some 75)) 17 (some 76)) 18 (some 77)) 19 (some 78)) 25 (some 79)) 26 (some 80)) 27 (some 81)) 28 (some 82)) 29 (some 83)) 30 (some 84)) 31 (some 85)) 34 (some 86)) 36 (some 87)) 37 (some 88)) 38 (some 89)) 39 (some 90)) 42 (some 91) = ax_R0 58 := by
  funext j
  match j with
  | 0 => rfl
  | 1 => rfl
  | 2 => rfl
  | 3 => rfl
  | 4 => rfl
  | 5 => rfl
  | 6 => rfl
  | 7 => rfl
  | 8 => rfl
  | 9 => rfl
  | 10 => rfl
  | 11 => rfl
  | 12 => rfl
  | 13 => rfl
  | 14 => rfl
  | 15 => rfl
  | 16 => rfl
  | 17 => rfl
  | 18 => rfl
  | 19 => rfl
  | 20 => rfl
  | 21 => rfl
  | 22 => rfl
  | 23 => rfl
  | 24 => rfl
  | 25 => rfl
  | 26 => rfl
  | 27 => rfl
  | 28 => rfl
  | 29 => rfl
  | 30 => rfl
  | 31 => rfl
  | 32 => rfl
  | 33 => rfl
  | 34 => rfl
  | 35 => rfl
  | 36 => rfl
  | 37 => rfl
  | 38 => rfl
  | 39 => rfl
  | 40 => rfl
  | 41 => rfl
  | 42 => rfl
  | 43 => rfl
  | 44 => rfl
  | 45 => rfl
  | n + 46 => rfl
theorem s5_e2 : ax_up (ax_up (ax_up (ax_up (ax_up (zD_) 0 4) 1 6) 2 5) 3 0) 4 20 = s5_ := s5_e
theorem gs_e : ax_up (ax_up (ax_up (ax_up (ax_up (zD_) 0 8) 1 31) 2 99) 3 3) 4 60 = gs0 := by
  funext j
  match j with
  | 0 => rfl
  | 1 => rfl
  | 2 => rfl
  | 3 => rfl
  | 4 => rfl
  | n + 5 => rfl
theorem ls_e : ax_up (zD_) 4 1 = ls0 := by
  funext j
  match j with
  | 0 => rfl
  | 1 => rfl
  | 2 => rfl
  | 3 => rfl
  | 4 => rfl
  | n + 5 => rfl
set_option maxRecDepth 10000 in
theorem c124_0 {g : ax_G} {K : ax_Po} {D : ax_Dn} {E : ax_En} {R : ax_Rn} {q : Nat → Option Nat} (hz : zr_ 59 D E R) (h : ax_WP g (ax_hy 124) K 59 92 52 [some (.ref 58), none] [] (65, D, E, ax_up R 58 (ax_up (ax_up (ax_up (ax_up (ax_up (ax_up (q) 0 (some 59)) 1 (some 60)) 2 (some 61)) 3 (some 62)) 4 (some 63)) 5 (some 64)))) : ax_WP g (ax_hy 124) K 59 92 0 [some (.ref 58), none] [] (59, D, E, ax_up R 58 q) := by
  have hz1 := fun j hj => (zr_at hz j hj).1
  have hz2 := fun j hj => (zr_at hz j hj).2.1
  have hz3 := fun j hj => (zr_at hz j hj).2.2
  refine ax_WPo (l := []) ax_on ax_ok124 (fun t => t == 52) 400 0 rfl ?_
  simp +decide only [↓ax_B, ax_B, ax_kds, ax_gvs, ax_mcs, ax_ia_S, ax_up_ap, ax_vinL, and_self_left, ax_up_up, ax_up_sw, Nat.reduceAdd, Nat.reduceBEq, Nat.reduceLeDiff, Nat.reduceLT, Nat.reduceEqDiff, ↓reduceIte, true_and, and_true, List.cons_append, List.nil_append, Int32.reduceLT, Int32.reduceLE, Int32.reduceAdd, Int32.reduceToNatClampNeg, Int32.reduceOfNat, true_imp_iff, false_imp_iff, not_true_eq_false, not_false_eq_true, or_true, true_or, or_false, false_or, and_self, Bool.or_true, Bool.or_false, Bool.true_or, Bool.false_or, implies_true, forall_const, Bool.false_eq_true, Int32.neg_neg, nw_r, d1_r, e1_r, r1_r, gv2_r, rv_r, up_zd, up_ze, up_zr, up_cd, up_ce, hz1, hz2, hz3]
  exact h
set_option maxRecDepth 10000 in
theorem c124_52 {g : ax_G} {K : ax_Po} {D : ax_Dn} {E : ax_En} {R : ax_Rn} {q : Nat → Option Nat} (hz : zr_ 65 D E R) (h : ax_WP g (ax_hy 124) K 59 92 100 [some (.ref 58), none] [] (71, D, E, ax_up R 58 (ax_up (ax_up (ax_up (ax_up (ax_up (ax_up (q) 6 (some 65)) 7 (some 66)) 8 (some 67)) 9 (some 68)) 10 (some 69)) 11 (some 70)))) : ax_WP g (ax_hy 124) K 59 92 52 [some (.ref 58), none] [] (65, D, E, ax_up R 58 q) := by
  have hz1 := fun j hj => (zr_at hz j hj).1
  have hz2 := fun j hj => (zr_at hz j hj).2.1
  have hz3 := fun j hj => (zr_at hz j hj).2.2
  refine ax_WPo (l := []) ax_on ax_ok124 (fun t => t == 100) 400 52 rfl ?_
  simp +decide only [↓ax_B, ax_B, ax_kds, ax_gvs, ax_mcs, ax_ia_S, ax_up_ap, ax_vinL, and_self_left, ax_up_up, ax_up_sw, Nat.reduceAdd, Nat.reduceBEq, Nat.reduceLeDiff, Nat.reduceLT, Nat.reduceEqDiff, ↓reduceIte, true_and, and_true, List.cons_append, List.nil_append, Int32.reduceLT, Int32.reduceLE, Int32.reduceAdd, Int32.reduceToNatClampNeg, Int32.reduceOfNat, true_imp_iff, false_imp_iff, not_true_eq_false, not_false_eq_true, or_true, true_or, or_false, false_or, and_self, Bool.or_true, Bool.or_false, Bool.true_or, Bool.false_or, implies_true, forall_const, Bool.false_eq_true, Int32.neg_neg, nw_r, d1_r, e1_r, r1_r, gv2_r, rv_r, up_zd, up_ze, up_zr, up_cd, up_ce, hz1, hz2, hz3]
  exact h
set_option maxRecDepth 10000 in
theorem c124_100 {g : ax_G} {K : ax_Po} {D : ax_Dn} {E : ax_En} {R : ax_Rn} {q : Nat → Option Nat} (hz : zr_ 71 D E R) (h : ax_WP g (ax_hy 124) K 59 92 140 [some (.ref 58), none] [] (76, D, E, ax_up R 58 (ax_up (ax_up (ax_up (ax_up (ax_up (q) 12 (some 71)) 13 (some 72)) 14 (some 73)) 15 (some 74)) 16 (some 75)))) : ax_WP g (ax_hy 124) K 59 92 100 [some (.ref 58), none] [] (71, D, E, ax_up R 58 q) := by
  have hz1 := fun j hj => (zr_at hz j hj).1
  have hz2 := fun j hj => (zr_at hz j hj).2.1
  have hz3 := fun j hj => (zr_at hz j hj).2.2
  refine ax_WPo (l := []) ax_on ax_ok124 (fun t => t == 140) 400 100 rfl ?_
  simp +decide only [↓ax_B, ax_B, ax_kds, ax_gvs, ax_mcs, ax_ia_S, ax_up_ap, ax_vinL, and_self_left, ax_up_up, ax_up_sw, Nat.reduceAdd, Nat.reduceBEq, Nat.reduceLeDiff, Nat.reduceLT, Nat.reduceEqDiff, ↓reduceIte, true_and, and_true, List.cons_append, List.nil_append, Int32.reduceLT, Int32.reduceLE, Int32.reduceAdd, Int32.reduceToNatClampNeg, Int32.reduceOfNat, true_imp_iff, false_imp_iff, not_true_eq_false, not_false_eq_true, or_true, true_or, or_false, false_or, and_self, Bool.or_true, Bool.or_false, Bool.true_or, Bool.false_or, implies_true, forall_const, Bool.false_eq_true, Int32.neg_neg, nw_r, d1_r, e1_r, r1_r, gv2_r, rv_r, up_zd, up_ze, up_zr, up_cd, up_ce, hz1, hz2, hz3]
  exact h
set_option maxRecDepth 10000 in
theorem c124_140 {g : ax_G} {K : ax_Po} {D : ax_Dn} {E : ax_En} {R : ax_Rn} {q : Nat → Option Nat} (hz : zr_ 76 D E R) (h : ax_WP g (ax_hy 124) K 59 92 227 [some (.ref 58), none] [] (79, ax_up (ax_up (ax_up (D) 76 s5_) 77 ls0) 78 gs0, E, ax_up R 58 (ax_up (ax_up (ax_up (q) 17 (some 76)) 18 (some 77)) 19 (some 78)))) : ax_WP g (ax_hy 124) K 59 92 140 [some (.ref 58), none] [] (76, D, E, ax_up R 58 q) := by
  have hz1 := fun j hj => (zr_at hz j hj).1
  have hz2 := fun j hj => (zr_at hz j hj).2.1
  have hz3 := fun j hj => (zr_at hz j hj).2.2
  rw [← s5_e2, ← ls_e, ← gs_e] at h
  refine ax_WPo (l := []) ax_on ax_ok124 (fun t => t == 227) 400 140 rfl ?_
  simp +decide only [↓ax_B, ax_B, ax_kds, ax_gvs, ax_mcs, ax_ia_S, ax_up_ap, ax_vinL, and_self_left, ax_up_up, ax_up_sw, Nat.reduceAdd, Nat.reduceBEq, Nat.reduceLeDiff, Nat.reduceLT, Nat.reduceEqDiff, ↓reduceIte, true_and, and_true, List.cons_append, List.nil_append, Int32.reduceLT, Int32.reduceLE, Int32.reduceAdd, Int32.reduceToNatClampNeg, Int32.reduceOfNat, true_imp_iff, false_imp_iff, not_true_eq_false, not_false_eq_true, or_true, true_or, or_false, false_or, and_self, Bool.or_true, Bool.or_false, Bool.true_or, Bool.false_or, implies_true, forall_const, Bool.false_eq_true, Int32.neg_neg, nw_r, d1_r, e1_r, r1_r, gv2_r, rv_r, up_zd, up_ze, up_zr, up_cd, up_ce, hz1, hz2, hz3]
  exact h
set_option maxRecDepth 10000 in
theorem c124_227 {g : ax_G} {K : ax_Po} {D : ax_Dn} {E : ax_En} {R : ax_Rn} {q : Nat → Option Nat} (hz : zr_ 79 D E R) (h : ax_WP g (ax_hy 124) K 59 92 283 [some (.ref 58), none] [] (86, D, E, ax_up R 58 (ax_up (ax_up (ax_up (ax_up (ax_up (ax_up (ax_up (q) 25 (some 79)) 26 (some 80)) 27 (some 81)) 28 (some 82)) 29 (some 83)) 30 (some 84)) 31 (some 85)))) : ax_WP g (ax_hy 124) K 59 92 227 [some (.ref 58), none] [] (79, D, E, ax_up R 58 q) := by
  have hz1 := fun j hj => (zr_at hz j hj).1
  have hz2 := fun j hj => (zr_at hz j hj).2.1
  have hz3 := fun j hj => (zr_at hz j hj).2.2
  refine ax_WPo (l := []) ax_on ax_ok124 (fun t => t == 283) 400 227 rfl ?_
  simp +decide only [↓ax_B, ax_B, ax_kds, ax_gvs, ax_mcs, ax_ia_S, ax_up_ap, ax_vinL, and_self_left, ax_up_up, ax_up_sw, Nat.reduceAdd, Nat.reduceBEq, Nat.reduceLeDiff, Nat.reduceLT, Nat.reduceEqDiff, ↓reduceIte, true_and, and_true, List.cons_append, List.nil_append, Int32.reduceLT, Int32.reduceLE, Int32.reduceAdd, Int32.reduceToNatClampNeg, Int32.reduceOfNat, true_imp_iff, false_imp_iff, not_true_eq_false, not_false_eq_true, or_true, true_or, or_false, false_or, and_self, Bool.or_true, Bool.or_false, Bool.true_or, Bool.false_or, implies_true, forall_const, Bool.false_eq_true, Int32.neg_neg, nw_r, d1_r, e1_r, r1_r, gv2_r, rv_r, up_zd, up_ze, up_zr, up_cd, up_ce, hz1, hz2, hz3]
  exact h
set_option maxRecDepth 10000 in
theorem c124_283 {g : ax_G} {K : ax_Po} {D : ax_Dn} {E : ax_En} {R : ax_Rn} {q : Nat → Option Nat} (hz : zr_ 86 D E R) (h : ax_WP g (ax_hy 124) K 59 92 332 [some (.ref 58), none] [] (92, D, E, ax_up R 58 (ax_up (ax_up (ax_up (ax_up (ax_up (ax_up (q) 34 (some 86)) 36 (some 87)) 37 (some 88)) 38 (some 89)) 39 (some 90)) 42 (some 91)))) : ax_WP g (ax_hy 124) K 59 92 283 [some (.ref 58), none] [] (86, D, E, ax_up R 58 q) := by
  have hz1 := fun j hj => (zr_at hz j hj).1
  have hz2 := fun j hj => (zr_at hz j hj).2.1
  have hz3 := fun j hj => (zr_at hz j hj).2.2
  refine ax_WPo (l := []) ax_on ax_ok124 (fun t => t == 332) 400 283 rfl ?_
  simp +decide only [↓ax_B, ax_B, ax_kds, ax_gvs, ax_mcs, ax_ia_S, ax_up_ap, ax_vinL, and_self_left, ax_up_up, ax_up_sw, Nat.reduceAdd, Nat.reduceBEq, Nat.reduceLeDiff, Nat.reduceLT, Nat.reduceEqDiff, ↓reduceIte, true_and, and_true, List.cons_append, List.nil_append, Int32.reduceLT, Int32.reduceLE, Int32.reduceAdd, Int32.reduceToNatClampNeg, Int32.reduceOfNat, true_imp_iff, false_imp_iff, not_true_eq_false, not_false_eq_true, or_true, true_or, or_false, false_or, and_self, Bool.or_true, Bool.or_false, Bool.true_or, Bool.false_or, implies_true, forall_const, Bool.false_eq_true, Int32.neg_neg, nw_r, d1_r, e1_r, r1_r, gv2_r, rv_r, up_zd, up_ze, up_zr, up_cd, up_ce, hz1, hz2, hz3]
  exact h
set_option maxRecDepth 10000 in
theorem c124_lp {g : ax_G} {K : ax_Po} {D : ax_Dn} {E : ax_En} {R : ax_Rn} (hR : R 58 11 = some 70) (h : K none (92, ax_up D 70 (cp_ (fun _ => 4) (D 70) 10), E, R)) : ∀ (j k : Nat), k + j = 10 → ax_WP g (ax_hy 124) K 59 92 334 [some (.ref 58), some (.int (nI k))] [] (92, ax_up D 70 (cp_ (fun _ => 4) (D 70) k), E, R) := by
  intro j
  induction j with
  | zero =>
    intro k hk
    obtain rfl : k = 10 := by omega
    have c : (10 : Int32) ≤ nI 10 := by decide
    refine ax_WPo (l := []) ax_on ax_ok124 (fun t => t == 334) 400 334 rfl ?_
    simp +decide only [↓ax_B, ax_B, ax_kds, ax_gvs, ax_mcs, ax_ia_S, ax_up_ap, ax_vinL, and_self_left, ax_up_up, ax_up_sw, Nat.reduceAdd, Nat.reduceBEq, Nat.reduceLeDiff, Nat.reduceLT, Nat.reduceEqDiff, ↓reduceIte, true_and, and_true, List.cons_append, List.nil_append, Int32.reduceLT, Int32.reduceLE, Int32.reduceAdd, Int32.reduceToNatClampNeg, Int32.reduceOfNat, true_imp_iff, false_imp_iff, not_true_eq_false, not_false_eq_true, or_true, true_or, or_false, false_or, and_self, Bool.or_true, Bool.or_false, Bool.true_or, Bool.false_or, implies_true, forall_const, Bool.false_eq_true, Int32.neg_neg, nw_r, d1_r, e1_r, r1_r, gv2_r, rv_r, up_zd, up_ze, up_zr, up_cd, up_ce, ax_X124, c]
    exact h
  | succ j ih =>
    intro k hk
    have c : ¬ 10 ≤ nI k := by
      rw [show (10 : Int32) = nI 10 from rfl]
      exact nI_ge (by omega) (by omega)
    have c1 : vp_in (nI k) 10 := vp_in_nI (by omega) (by omega)
    have c2 : (nI k).toNatClampNeg = k := nI_clamp (by omega)
    have c3 : nI k + 1 = nI (k + 1) := nI_1 k
    have q := ih (k + 1) (by omega)
    rw [← cp_1] at q
    refine ax_WPo (l := []) ax_on ax_ok124 (fun t => t == 334) 400 334 rfl ?_
    simp +decide only [↓ax_B, ax_B, ax_kds, ax_gvs, ax_mcs, ax_ia_S, ax_up_ap, ax_vinL, and_self_left, ax_up_up, ax_up_sw, Nat.reduceAdd, Nat.reduceBEq, Nat.reduceLeDiff, Nat.reduceLT, Nat.reduceEqDiff, ↓reduceIte, true_and, and_true, List.cons_append, List.nil_append, Int32.reduceLT, Int32.reduceLE, Int32.reduceAdd, Int32.reduceToNatClampNeg, Int32.reduceOfNat, true_imp_iff, false_imp_iff, not_true_eq_false, not_false_eq_true, or_true, true_or, or_false, false_or, and_self, Bool.or_true, Bool.or_false, Bool.true_or, Bool.false_or, implies_true, forall_const, Bool.false_eq_true, Int32.neg_neg, nw_r, d1_r, e1_r, r1_r, gv2_r, rv_r, up_zd, up_ze, up_zr, up_cd, up_ce, ax_X124, c, c1, c2, c3, hR]
    exact q
theorem r4_cp : cp_ (fun _ => 4) zD_ 10 = r4_ := rfl
/-- AskewLettersModel -/
def cy_124 : ax_P1 := fun as z K => ∃ (k : Nat) (D : ax_Dn) (E : ax_En) (R : ax_Rn), as = [.ref k] ∧ z = (k + 1, D, E, R) ∧ (k = 58) ∧ zr_ k D E R ∧ K none (k + 34, ax_up (ax_up (ax_up (ax_up D 76 s5_) 77 ls0) 78 gs0) 70 r4_, E, ax_up R k (ax_R0 k))
theorem ry_124 (n k : Nat) (D : ax_Dn) (E : ax_En) (R : ax_Rn) (K : ax_Po) : cy_124 [.ref k] (n, D, E, R) K = (n = k + 1 ∧ (k = 58) ∧ zr_ k D E R ∧ K none (k + 34, ax_up (ax_up (ax_up (ax_up D 76 s5_) 77 ls0) 78 gs0) 70 r4_, E, ax_up R k (ax_R0 k))) := propext ⟨fun ⟨k', D', E', R', h1, h2, h3⟩ => by
  cases h1; cases h2; exact ⟨rfl, h3⟩, fun ⟨h1, h3⟩ => ⟨k, D, E, R, rfl, by rw [h1], h3⟩⟩
set_option maxRecDepth 10000 in
theorem c124_st {g : ax_G} {K : ax_Po} {D : ax_Dn} {E : ax_En} {R : ax_Rn} (h : ax_WP g (ax_hy 124) K 59 92 334 [some (.ref 58), some (.int (nI 0))] [] (92, D, E, R)) : ax_WP g (ax_hy 124) K 59 92 332 [some (.ref 58), none] [] (92, D, E, R) := by
  refine ax_WPo (l := []) ax_on ax_ok124 (fun t => t == 334) 400 332 rfl ?_
  simp +decide only [↓ax_B, ax_B, ax_kds, ax_gvs, ax_mcs, ax_ia_S, ax_up_ap, ax_vinL, and_self_left, ax_up_up, ax_up_sw, Nat.reduceAdd, Nat.reduceBEq, Nat.reduceLeDiff, Nat.reduceLT, Nat.reduceEqDiff, ↓reduceIte, true_and, and_true, List.cons_append, List.nil_append, Int32.reduceLT, Int32.reduceLE, Int32.reduceAdd, Int32.reduceToNatClampNeg, Int32.reduceOfNat, true_imp_iff, false_imp_iff, not_true_eq_false, not_false_eq_true, or_true, true_or, or_false, false_or, and_self, Bool.or_true, Bool.or_false, Bool.true_or, Bool.false_or, implies_true, forall_const, Bool.false_eq_true, Int32.neg_neg, nw_r, d1_r, e1_r, r1_r, gv2_r, rv_r, up_zd, up_ze, up_zr, up_cd, up_ce]
  exact h
theorem sy_124 {g : ax_G} : ∀ as z K, cy_124 as z K → ax_MM g 124 as z K := by
  rintro _ _ K ⟨k, D, E, R, rfl, rfl, hk, hz, h⟩
  obtain rfl := hk
  have hW : ax_WP g (ax_hy 124) K 59 92 0 [some (.ref 58), none] [] (59, D, E, ax_up R 58 zR_) := by
    refine c124_0 ?_ (c124_52 ?_ (c124_100 ?_ (c124_140 ?_ (c124_227 ?_ (c124_283 ?_ (c124_st ?_))))))
    all_goals try (repeat' (first | exact zr_m hz (by decide) | refine zr_D ?_ (by decide) | refine zr_R ?_ (by decide)))
    rw [rw_58]
    have q := c124_lp (g := g) (K := K) (D := ax_up (ax_up (ax_up D 76 s5_) 77 ls0) 78 gs0) (E := E) (R := ax_up R 58 (ax_R0 58)) rfl ?_ 10 0 rfl
    · rw [cp_0, ax_up_id] at q
      exact q
    · rw [ax_up_n _ _ (by decide), ax_up_n _ _ (by decide), ax_up_n _ _ (by decide), (zr_at hz 70 (by decide)).1, r4_cp]
      exact h
  rw [up_zr (zr_at hz 58 (Nat.le_refl 58)).2.2] at hW
  exact ax_MM_of (by decide) (Nat.le_of_ble_eq_true rfl) (by simp) hW
