/-! Constructors: a desk, the whole. -/
theorem rw_1 : ax_up (ax_up (ax_up (ax_up (zR_) 0 (some 2)) 1 (some 12)) 2 (some 19)) 3 (some 21) = ax_R0 1 := by
  funext j
  match j with
  | 0 => rfl
  | 1 => rfl
  | 2 => rfl
  | 3 => rfl
  | 4 => rfl
  | 5 => rfl
  | n + 6 => rfl
theorem rw_22 : ax_up (ax_up (ax_up (ax_up (zR_) 0 (some 23)) 1 (some 33)) 2 (some 40)) 3 (some 42) = ax_R0 22 := by
  funext j
  match j with
  | 0 => rfl
  | 1 => rfl
  | 2 => rfl
  | 3 => rfl
  | 4 => rfl
  | 5 => rfl
  | n + 6 => rfl
theorem s5_e : ax_up (ax_up (ax_up (ax_up (ax_up (zD_) 0 4) 1 6) 2 5) 3 0) 4 20 = s5_ := by
  funext j
  match j with
  | 0 => rfl
  | 1 => rfl
  | 2 => rfl
  | 3 => rfl
  | 4 => rfl
  | n + 5 => rfl
/-- AskewLetters$Desk -/
def cy_23 : ax_P1 := fun as z K => ∃ (k : Nat) (D : ax_Dn) (E : ax_En) (R : ax_Rn), as = [.ref k] ∧ z = (k + 1, D, E, R) ∧ (k = 1 ∨ k = 22) ∧ zr_ k D E R ∧ K none (k + 21, ax_up (ax_up D (k + 5) r4_) (k + 20) s5_, E, ax_up (ax_up (ax_up (ax_up R k (ax_R0 k)) (k + 1) (ax_R0 (k + 1))) (k + 11) (ax_R0 (k + 11))) (k + 18) (ax_R0 (k + 18)))
theorem ry_23 (n k : Nat) (D : ax_Dn) (E : ax_En) (R : ax_Rn) (K : ax_Po) : cy_23 [.ref k] (n, D, E, R) K = (n = k + 1 ∧ (k = 1 ∨ k = 22) ∧ zr_ k D E R ∧ K none (k + 21, ax_up (ax_up D (k + 5) r4_) (k + 20) s5_, E, ax_up (ax_up (ax_up (ax_up R k (ax_R0 k)) (k + 1) (ax_R0 (k + 1))) (k + 11) (ax_R0 (k + 11))) (k + 18) (ax_R0 (k + 18)))) := propext ⟨fun ⟨k', D', E', R', h1, h2, h3⟩ => by
  cases h1; cases h2; exact ⟨rfl, h3⟩, fun ⟨h1, h3⟩ => ⟨k, D, E, R, rfl, by rw [h1], h3⟩⟩
set_option maxRecDepth 10000 in
theorem sy_23 {g : ax_G} : ∀ as z K, cy_23 as z K → ax_MM g 23 as z K := by
  rintro _ _ K ⟨k, D, E, R, rfl, rfl, hk, hz, h⟩
  rcases hk with rfl | rfl
  · have hW : ax_WP g (ax_hy 23) K 2 22 0 [some (.ref 1)] [] (2, D, E, R) := by
      have hz1 := fun j hj => (zr_at hz j hj).1
      have hz2 := fun j hj => (zr_at hz j hj).2.1
      have hz3 := fun j hj => (zr_at hz j hj).2.2
      refine ax_WPo (l := [(59, cy_59), (48, cy_48), (37, cy_37)]) (ax_oc sy_59 (ax_oc sy_48 (ax_oc sy_37 ax_on))) ax_ok23 (fun _ => false) 400 0 rfl ?_
      simp +decide only [↓ax_B, ax_B, ax_kds, ax_gvs, ax_mcs, ax_ia_S, ax_up_ap, ax_vinL, and_self_left, ax_up_up, ax_up_sw, Nat.reduceAdd, Nat.reduceBEq, Nat.reduceLeDiff, Nat.reduceLT, Nat.reduceEqDiff, ↓reduceIte, true_and, and_true, List.cons_append, List.nil_append, Int32.reduceLT, Int32.reduceLE, Int32.reduceAdd, Int32.reduceToNatClampNeg, Int32.reduceOfNat, true_imp_iff, false_imp_iff, not_true_eq_false, not_false_eq_true, or_true, true_or, or_false, false_or, and_self, Bool.or_true, Bool.or_false, Bool.true_or, Bool.false_or, implies_true, forall_const, Bool.false_eq_true, Int32.neg_neg, nw_r, d1_r, e1_r, r1_r, gv2_r, rv_r, up_zd, up_ze, up_zr, up_cd, up_ce, hz1, hz2, hz3, ry_59, ry_48, ry_37]
      rw [rw_1, s5_e]
      refine ⟨zr_m hz (by decide), ?_, ?_, h⟩
      all_goals repeat' (first | exact zr_m hz (by decide) | refine zr_D ?_ (by decide) | refine zr_R ?_ (by decide))
    exact ax_MM_of (by decide) (Nat.le_of_ble_eq_true rfl) (by simp) hW
  · have hW : ax_WP g (ax_hy 23) K 23 43 0 [some (.ref 22)] [] (23, D, E, R) := by
      have hz1 := fun j hj => (zr_at hz j hj).1
      have hz2 := fun j hj => (zr_at hz j hj).2.1
      have hz3 := fun j hj => (zr_at hz j hj).2.2
      refine ax_WPo (l := [(59, cy_59), (48, cy_48), (37, cy_37)]) (ax_oc sy_59 (ax_oc sy_48 (ax_oc sy_37 ax_on))) ax_ok23 (fun _ => false) 400 0 rfl ?_
      simp +decide only [↓ax_B, ax_B, ax_kds, ax_gvs, ax_mcs, ax_ia_S, ax_up_ap, ax_vinL, and_self_left, ax_up_up, ax_up_sw, Nat.reduceAdd, Nat.reduceBEq, Nat.reduceLeDiff, Nat.reduceLT, Nat.reduceEqDiff, ↓reduceIte, true_and, and_true, List.cons_append, List.nil_append, Int32.reduceLT, Int32.reduceLE, Int32.reduceAdd, Int32.reduceToNatClampNeg, Int32.reduceOfNat, true_imp_iff, false_imp_iff, not_true_eq_false, not_false_eq_true, or_true, true_or, or_false, false_or, and_self, Bool.or_true, Bool.or_false, Bool.true_or, Bool.false_or, implies_true, forall_const, Bool.false_eq_true, Int32.neg_neg, nw_r, d1_r, e1_r, r1_r, gv2_r, rv_r, up_zd, up_ze, up_zr, up_cd, up_ce, hz1, hz2, hz3, ry_59, ry_48, ry_37]
      rw [rw_22, s5_e]
      refine ⟨zr_m hz (by decide), ?_, ?_, h⟩
      all_goals repeat' (first | exact zr_m hz (by decide) | refine zr_D ?_ (by decide) | refine zr_R ?_ (by decide))
    exact ax_MM_of (by decide) (Nat.le_of_ble_eq_true rfl) (by simp) hW
theorem rw_0 : ax_up (ax_up (ax_up (ax_up (ax_up (ax_up (ax_up (ax_up (zR_) 0 (some 1)) 1 (some 22)) 3 (some 43)) 4 (some 50)) 6 (some 51)) 7 (some 52)) 8 (some 54)) 9 (some 56) = ax_R0 0 := by
  funext j
  match j with
  | 0 => rfl
  | 1 => rfl
  | 2 => rfl
  | 3 => rfl
  | 4 => rfl
  | 5 => rfl
  | 6 => rfl
  | 7 => rfl
  | 8 => rfl
  | 9 => rfl
  | n + 10 => rfl
set_option maxRecDepth 10000 in
theorem c72_0 {g : ax_G} {K : ax_Po} {D : ax_Dn} {E : ax_En} {R : ax_Rn} {q : Nat → Option Nat} (hz : zr_ 1 D E R) (h0 : D 0 = zD_) (h : ax_WP g (ax_hy 72) K 1 58 15 [some (.ref 0)] [] (22, ax_up (ax_up (D) 6 r4_) 21 s5_, E, ax_up (ax_up (ax_up (ax_up (ax_up (R) 1 (ax_R0 1)) 2 (ax_R0 2)) 12 (ax_R0 12)) 19 (ax_R0 19)) 0 (ax_up (q) 0 (some 1)))) : ax_WP g (ax_hy 72) K 1 58 0 [some (.ref 0)] [] (1, D, E, ax_up R 0 q) := by
  have hz1 := fun j hj => (zr_at hz j hj).1
  have hz2 := fun j hj => (zr_at hz j hj).2.1
  have hz3 := fun j hj => (zr_at hz j hj).2.2
  rw [ax_up_sw 19 0 _ _ _ (by decide), ax_up_sw 12 0 _ _ _ (by decide), ax_up_sw 2 0 _ _ _ (by decide), ax_up_sw 1 0 _ _ _ (by decide)] at h
  refine ax_WPo (l := [(23, cy_23)]) (ax_oc sy_23 ax_on) ax_ok72 (fun t => t == 15) 400 0 rfl ?_
  simp +decide only [↓ax_B, ax_B, ax_kds, ax_gvs, ax_mcs, ax_ia_S, ax_up_ap, ax_vinL, and_self_left, ax_up_up, ax_up_sw, Nat.reduceAdd, Nat.reduceBEq, Nat.reduceLeDiff, Nat.reduceLT, Nat.reduceEqDiff, ↓reduceIte, true_and, and_true, List.cons_append, List.nil_append, Int32.reduceLT, Int32.reduceLE, Int32.reduceAdd, Int32.reduceToNatClampNeg, Int32.reduceOfNat, true_imp_iff, false_imp_iff, not_true_eq_false, not_false_eq_true, or_true, true_or, or_false, false_or, and_self, Bool.or_true, Bool.or_false, Bool.true_or, Bool.false_or, implies_true, forall_const, Bool.false_eq_true, Int32.neg_neg, nw_r, d1_r, e1_r, r1_r, gv2_r, rv_r, up_zd, up_ze, up_zr, up_cd, up_ce, hz1, hz2, hz3, h0, ry_23]
  refine ⟨?_, h⟩
  repeat' (first | exact zr_m hz (by decide) | refine zr_D ?_ (by decide) | refine zr_R ?_ (by decide))
set_option maxRecDepth 10000 in
theorem c72_15 {g : ax_G} {K : ax_Po} {D : ax_Dn} {E : ax_En} {R : ax_Rn} {q : Nat → Option Nat} (hz : zr_ 22 D E R) (h0 : D 0 = zD_) (h : ax_WP g (ax_hy 72) K 1 58 26 [some (.ref 0)] [] (43, ax_up (ax_up (D) 27 r4_) 42 s5_, E, ax_up (ax_up (ax_up (ax_up (ax_up (R) 22 (ax_R0 22)) 23 (ax_R0 23)) 33 (ax_R0 33)) 40 (ax_R0 40)) 0 (ax_up (q) 1 (some 22)))) : ax_WP g (ax_hy 72) K 1 58 15 [some (.ref 0)] [] (22, D, E, ax_up R 0 q) := by
  have hz1 := fun j hj => (zr_at hz j hj).1
  have hz2 := fun j hj => (zr_at hz j hj).2.1
  have hz3 := fun j hj => (zr_at hz j hj).2.2
  rw [ax_up_sw 40 0 _ _ _ (by decide), ax_up_sw 33 0 _ _ _ (by decide), ax_up_sw 23 0 _ _ _ (by decide), ax_up_sw 22 0 _ _ _ (by decide)] at h
  refine ax_WPo (l := [(23, cy_23)]) (ax_oc sy_23 ax_on) ax_ok72 (fun t => t == 26) 400 15 rfl ?_
  simp +decide only [↓ax_B, ax_B, ax_kds, ax_gvs, ax_mcs, ax_ia_S, ax_up_ap, ax_vinL, and_self_left, ax_up_up, ax_up_sw, Nat.reduceAdd, Nat.reduceBEq, Nat.reduceLeDiff, Nat.reduceLT, Nat.reduceEqDiff, ↓reduceIte, true_and, and_true, List.cons_append, List.nil_append, Int32.reduceLT, Int32.reduceLE, Int32.reduceAdd, Int32.reduceToNatClampNeg, Int32.reduceOfNat, true_imp_iff, false_imp_iff, not_true_eq_false, not_false_eq_true, or_true, true_or, or_false, false_or, and_self, Bool.or_true, Bool.or_false, Bool.true_or, Bool.false_or, implies_true, forall_const, Bool.false_eq_true, Int32.neg_neg, nw_r, d1_r, e1_r, r1_r, gv2_r, rv_r, up_zd, up_ze, up_zr, up_cd, up_ce, hz1, hz2, hz3, h0, ry_23]
  refine ⟨?_, h⟩
  repeat' (first | exact zr_m hz (by decide) | refine zr_D ?_ (by decide) | refine zr_R ?_ (by decide))
set_option maxRecDepth 10000 in
theorem c72_26 {g : ax_G} {K : ax_Po} {D : ax_Dn} {E : ax_En} {R : ax_Rn} {q : Nat → Option Nat} (hz : zr_ 43 D E R) (h0 : D 0 = zD_) (h : ax_WP g (ax_hy 72) K 1 58 42 [some (.ref 0)] [] (50, D, E, ax_up (ax_up (R) 43 (ax_R0 43)) 0 (ax_up (q) 3 (some 43)))) : ax_WP g (ax_hy 72) K 1 58 26 [some (.ref 0)] [] (43, D, E, ax_up R 0 q) := by
  have hz1 := fun j hj => (zr_at hz j hj).1
  have hz2 := fun j hj => (zr_at hz j hj).2.1
  have hz3 := fun j hj => (zr_at hz j hj).2.2
  rw [ax_up_sw 43 0 _ _ _ (by decide)] at h
  refine ax_WPo (l := [(0, cy_0)]) (ax_oc sy_0 ax_on) ax_ok72 (fun t => t == 42) 400 26 rfl ?_
  simp +decide only [↓ax_B, ax_B, ax_kds, ax_gvs, ax_mcs, ax_ia_S, ax_up_ap, ax_vinL, and_self_left, ax_up_up, ax_up_sw, Nat.reduceAdd, Nat.reduceBEq, Nat.reduceLeDiff, Nat.reduceLT, Nat.reduceEqDiff, ↓reduceIte, true_and, and_true, List.cons_append, List.nil_append, Int32.reduceLT, Int32.reduceLE, Int32.reduceAdd, Int32.reduceToNatClampNeg, Int32.reduceOfNat, true_imp_iff, false_imp_iff, not_true_eq_false, not_false_eq_true, or_true, true_or, or_false, false_or, and_self, Bool.or_true, Bool.or_false, Bool.true_or, Bool.false_or, implies_true, forall_const, Bool.false_eq_true, Int32.neg_neg, nw_r, d1_r, e1_r, r1_r, gv2_r, rv_r, up_zd, up_ze, up_zr, up_cd, up_ce, hz1, hz2, hz3, h0, ry_0]
  refine ⟨?_, h⟩
  repeat' (first | exact zr_m hz (by decide) | refine zr_D ?_ (by decide) | refine zr_R ?_ (by decide))
set_option maxRecDepth 10000 in
theorem c72_42 {g : ax_G} {K : ax_Po} {D : ax_Dn} {E : ax_En} {R : ax_Rn} {q : Nat → Option Nat} (hz : zr_ 50 D E R) (h0 : D 0 = zD_) (h : ax_WP g (ax_hy 72) K 1 58 63 [some (.ref 0)] [] (52, D, E, ax_up (R) 0 (ax_up (ax_up (q) 4 (some 50)) 6 (some 51)))) : ax_WP g (ax_hy 72) K 1 58 42 [some (.ref 0)] [] (50, D, E, ax_up R 0 q) := by
  have hz1 := fun j hj => (zr_at hz j hj).1
  have hz2 := fun j hj => (zr_at hz j hj).2.1
  have hz3 := fun j hj => (zr_at hz j hj).2.2
  refine ax_WPo (l := []) ax_on ax_ok72 (fun t => t == 63) 400 42 rfl ?_
  simp +decide only [↓ax_B, ax_B, ax_kds, ax_gvs, ax_mcs, ax_ia_S, ax_up_ap, ax_vinL, and_self_left, ax_up_up, ax_up_sw, Nat.reduceAdd, Nat.reduceBEq, Nat.reduceLeDiff, Nat.reduceLT, Nat.reduceEqDiff, ↓reduceIte, true_and, and_true, List.cons_append, List.nil_append, Int32.reduceLT, Int32.reduceLE, Int32.reduceAdd, Int32.reduceToNatClampNeg, Int32.reduceOfNat, true_imp_iff, false_imp_iff, not_true_eq_false, not_false_eq_true, or_true, true_or, or_false, false_or, and_self, Bool.or_true, Bool.or_false, Bool.true_or, Bool.false_or, implies_true, forall_const, Bool.false_eq_true, Int32.neg_neg, nw_r, d1_r, e1_r, r1_r, gv2_r, rv_r, up_zd, up_ze, up_zr, up_cd, up_ce, hz1, hz2, hz3, h0]
  exact h
set_option maxRecDepth 10000 in
theorem c72_63 {g : ax_G} {K : ax_Po} {D : ax_Dn} {E : ax_En} {R : ax_Rn} {q : Nat → Option Nat} (hz : zr_ 52 D E R) (h0 : D 0 = zD_) (h : ax_WP g (ax_hy 72) K 1 58 74 [some (.ref 0)] [] (54, D, E, ax_up (ax_up (R) 52 (ax_R0 52)) 0 (ax_up (q) 7 (some 52)))) : ax_WP g (ax_hy 72) K 1 58 63 [some (.ref 0)] [] (52, D, E, ax_up R 0 q) := by
  have hz1 := fun j hj => (zr_at hz j hj).1
  have hz2 := fun j hj => (zr_at hz j hj).2.1
  have hz3 := fun j hj => (zr_at hz j hj).2.2
  rw [ax_up_sw 52 0 _ _ _ (by decide)] at h
  refine ax_WPo (l := [(43, cy_43)]) (ax_oc sy_43 ax_on) ax_ok72 (fun t => t == 74) 400 63 rfl ?_
  simp +decide only [↓ax_B, ax_B, ax_kds, ax_gvs, ax_mcs, ax_ia_S, ax_up_ap, ax_vinL, and_self_left, ax_up_up, ax_up_sw, Nat.reduceAdd, Nat.reduceBEq, Nat.reduceLeDiff, Nat.reduceLT, Nat.reduceEqDiff, ↓reduceIte, true_and, and_true, List.cons_append, List.nil_append, Int32.reduceLT, Int32.reduceLE, Int32.reduceAdd, Int32.reduceToNatClampNeg, Int32.reduceOfNat, true_imp_iff, false_imp_iff, not_true_eq_false, not_false_eq_true, or_true, true_or, or_false, false_or, and_self, Bool.or_true, Bool.or_false, Bool.true_or, Bool.false_or, implies_true, forall_const, Bool.false_eq_true, Int32.neg_neg, nw_r, d1_r, e1_r, r1_r, gv2_r, rv_r, up_zd, up_ze, up_zr, up_cd, up_ce, hz1, hz2, hz3, h0, ry_43]
  refine ⟨?_, h⟩
  repeat' (first | exact zr_m hz (by decide) | refine zr_D ?_ (by decide) | refine zr_R ?_ (by decide))
set_option maxRecDepth 10000 in
theorem c72_74 {g : ax_G} {K : ax_Po} {D : ax_Dn} {E : ax_En} {R : ax_Rn} {q : Nat → Option Nat} (hz : zr_ 54 D E R) (h0 : D 0 = zD_) (h : ax_WP g (ax_hy 72) K 1 58 85 [some (.ref 0)] [] (56, D, E, ax_up (ax_up (R) 54 (ax_R0 54)) 0 (ax_up (q) 8 (some 54)))) : ax_WP g (ax_hy 72) K 1 58 74 [some (.ref 0)] [] (54, D, E, ax_up R 0 q) := by
  have hz1 := fun j hj => (zr_at hz j hj).1
  have hz2 := fun j hj => (zr_at hz j hj).2.1
  have hz3 := fun j hj => (zr_at hz j hj).2.2
  rw [ax_up_sw 54 0 _ _ _ (by decide)] at h
  refine ax_WPo (l := [(17, cy_17)]) (ax_oc sy_17 ax_on) ax_ok72 (fun t => t == 85) 400 74 rfl ?_
  simp +decide only [↓ax_B, ax_B, ax_kds, ax_gvs, ax_mcs, ax_ia_S, ax_up_ap, ax_vinL, and_self_left, ax_up_up, ax_up_sw, Nat.reduceAdd, Nat.reduceBEq, Nat.reduceLeDiff, Nat.reduceLT, Nat.reduceEqDiff, ↓reduceIte, true_and, and_true, List.cons_append, List.nil_append, Int32.reduceLT, Int32.reduceLE, Int32.reduceAdd, Int32.reduceToNatClampNeg, Int32.reduceOfNat, true_imp_iff, false_imp_iff, not_true_eq_false, not_false_eq_true, or_true, true_or, or_false, false_or, and_self, Bool.or_true, Bool.or_false, Bool.true_or, Bool.false_or, implies_true, forall_const, Bool.false_eq_true, Int32.neg_neg, nw_r, d1_r, e1_r, r1_r, gv2_r, rv_r, up_zd, up_ze, up_zr, up_cd, up_ce, hz1, hz2, hz3, h0, ry_17]
  refine ⟨?_, h⟩
  repeat' (first | exact zr_m hz (by decide) | refine zr_D ?_ (by decide) | refine zr_R ?_ (by decide))
/-- AskewLetters -/
def cy_72 : ax_P1 := fun as z K => ∃ (k : Nat) (D : ax_Dn) (E : ax_En) (R : ax_Rn), as = [.ref k] ∧ z = (k + 1, D, E, R) ∧ (k = 0) ∧ zr_ k D E R ∧ K none (k + 58, ax_up (ax_up (ax_up (ax_up D 6 r4_) 21 s5_) 27 r4_) 42 s5_, E, ax_up (ax_up (ax_up (ax_up (ax_up (ax_up (ax_up (ax_up (ax_up (ax_up (ax_up (ax_up (ax_up (R) 1 (ax_R0 1)) 2 (ax_R0 2)) 12 (ax_R0 12)) 19 (ax_R0 19)) 22 (ax_R0 22)) 23 (ax_R0 23)) 33 (ax_R0 33)) 40 (ax_R0 40)) 43 (ax_R0 43)) 52 (ax_R0 52)) 54 (ax_R0 54)) 56 (ax_R0 56)) 0 (ax_R0 0))
theorem ry_72 (n k : Nat) (D : ax_Dn) (E : ax_En) (R : ax_Rn) (K : ax_Po) : cy_72 [.ref k] (n, D, E, R) K = (n = k + 1 ∧ (k = 0) ∧ zr_ k D E R ∧ K none (k + 58, ax_up (ax_up (ax_up (ax_up D 6 r4_) 21 s5_) 27 r4_) 42 s5_, E, ax_up (ax_up (ax_up (ax_up (ax_up (ax_up (ax_up (ax_up (ax_up (ax_up (ax_up (ax_up (ax_up (R) 1 (ax_R0 1)) 2 (ax_R0 2)) 12 (ax_R0 12)) 19 (ax_R0 19)) 22 (ax_R0 22)) 23 (ax_R0 23)) 33 (ax_R0 33)) 40 (ax_R0 40)) 43 (ax_R0 43)) 52 (ax_R0 52)) 54 (ax_R0 54)) 56 (ax_R0 56)) 0 (ax_R0 0))) := propext ⟨fun ⟨k', D', E', R', h1, h2, h3⟩ => by
  cases h1; cases h2; exact ⟨rfl, h3⟩, fun ⟨h1, h3⟩ => ⟨k, D, E, R, rfl, by rw [h1], h3⟩⟩
set_option maxRecDepth 10000 in
theorem c72_85 {g : ax_G} {K : ax_Po} {D : ax_Dn} {E : ax_En} {R : ax_Rn} {q : Nat → Option Nat} (hz : zr_ 56 D E R) (h : K none (58, D, E, ax_up (ax_up R 56 (ax_R0 56)) 0 (ax_up q 9 (some 56)))) : ax_WP g (ax_hy 72) K 1 58 85 [some (.ref 0)] [] (56, D, E, ax_up R 0 q) := by
  have hz1 := fun j hj => (zr_at hz j hj).1
  have hz2 := fun j hj => (zr_at hz j hj).2.1
  have hz3 := fun j hj => (zr_at hz j hj).2.2
  rw [ax_up_sw 56 0 _ _ _ (by decide)] at h
  refine ax_WPo (l := [(67, cy_67)]) (ax_oc sy_67 ax_on) ax_ok72 (fun _ => false) 400 85 rfl ?_
  simp +decide only [↓ax_B, ax_B, ax_kds, ax_gvs, ax_mcs, ax_ia_S, ax_up_ap, ax_vinL, and_self_left, ax_up_up, ax_up_sw, Nat.reduceAdd, Nat.reduceBEq, Nat.reduceLeDiff, Nat.reduceLT, Nat.reduceEqDiff, ↓reduceIte, true_and, and_true, List.cons_append, List.nil_append, Int32.reduceLT, Int32.reduceLE, Int32.reduceAdd, Int32.reduceToNatClampNeg, Int32.reduceOfNat, true_imp_iff, false_imp_iff, not_true_eq_false, not_false_eq_true, or_true, true_or, or_false, false_or, and_self, Bool.or_true, Bool.or_false, Bool.true_or, Bool.false_or, implies_true, forall_const, Bool.false_eq_true, Int32.neg_neg, nw_r, d1_r, e1_r, r1_r, gv2_r, rv_r, up_zd, up_ze, up_zr, up_cd, up_ce, hz1, hz2, hz3, ry_67]
  refine ⟨?_, h⟩
  repeat' (first | exact zr_m hz (by decide) | refine zr_D ?_ (by decide) | refine zr_R ?_ (by decide))
theorem sy_72 {g : ax_G} : ∀ as z K, cy_72 as z K → ax_MM g 72 as z K := by
  rintro _ _ K ⟨k, D, E, R, rfl, rfl, hk, hz, h⟩
  obtain rfl := hk
  have hW : ax_WP g (ax_hy 72) K 1 58 0 [some (.ref 0)] [] (1, D, E, ax_up R 0 zR_) := by
    have z0 := (zr_at hz 0 (Nat.le_refl 0)).1
    refine c72_0 (zr_m hz (by decide)) z0 (c72_15 ?_ ?_ (c72_26 ?_ ?_ (c72_42 ?_ ?_ (c72_63 ?_ ?_ (c72_74 ?_ ?_ (c72_85 ?_ ?_))))))
    case refine_12 => rw [rw_0]; exact h
    all_goals first | (rw [ax_up_n _ _ (by decide), ax_up_n _ _ (by decide), ax_up_n _ _ (by decide), ax_up_n _ _ (by decide)]; exact z0) | (rw [ax_up_n _ _ (by decide), ax_up_n _ _ (by decide)]; exact z0) | skip
    all_goals repeat' (first | exact zr_m hz (by decide) | refine zr_D ?_ (by decide) | refine zr_R ?_ (by decide))
  rw [up_zr (zr_at hz 0 (Nat.le_refl 0)).2.2] at hW
  exact ax_MM_of (by decide) (Nat.le_of_ble_eq_true rfl) (by simp) hW
