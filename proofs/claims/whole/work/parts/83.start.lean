/-! The law: its beginning. -/
def dz_ : ax_Dn := fun _ => zD_
def ez_ : ax_En := fun _ => zE_
def rz_ : ax_Rn := fun _ => zR_
def dA_ : ax_Dn := ax_up (ax_up (ax_up (ax_up dz_ 6 r4_) 21 s5_) 27 r4_) 42 s5_
def d0_ : ax_Dn := ax_up (ax_up (ax_up (ax_up dA_ 76 s5_) 77 ls0) 78 gs0) 70 r4_
def rA_ : ax_Rn := ax_up (ax_up (ax_up (ax_up (ax_up (ax_up (ax_up (ax_up (ax_up (ax_up (ax_up (ax_up (ax_up (rz_) 1 (ax_R0 1)) 2 (ax_R0 2)) 12 (ax_R0 12)) 19 (ax_R0 19)) 22 (ax_R0 22)) 23 (ax_R0 23)) 33 (ax_R0 33)) 40 (ax_R0 40)) 43 (ax_R0 43)) 52 (ax_R0 52)) 54 (ax_R0 54)) 56 (ax_R0 56)) 0 (ax_R0 0)
theorem zr_0 : zr_ 0 dz_ ez_ rz_ := fun _ _ => ⟨rfl, rfl, rfl⟩
theorem zr_58 : zr_ 58 dA_ ez_ rA_ := by
  unfold dA_ rA_
  repeat' (first | exact zr_m zr_0 (by decide) | refine zr_D ?_ (by decide) | refine zr_R ?_ (by decide))
theorem rA_e : ax_up rA_ 58 (ax_R0 58) = ax_R0 := by
  funext k
  have h : ∀ k, k ∉ [0, 1, 2, 12, 19, 22, 23, 33, 40, 43, 52, 54, 56, 58] → ax_R0 k = zR_ := by
    intro k hk
    funext j
    unfold ax_R0
    have e : ax_r0l.getD k [] = [] := by
      by_cases h92 : k < 92
      · have q : ∀ k, k < 92 → k ∉ [0, 1, 2, 12, 19, 22, 23, 33, 40, 43, 52, 54, 56, 58] → ax_r0l.getD k [] = [] := by decide
        exact q k h92 hk
      · rw [List.getD_eq_getElem?_getD, List.getElem?_eq_none (by show 92 ≤ k; omega)]
        rfl
    rw [e]
    rfl
  by_cases c : k ∈ [0, 1, 2, 12, 19, 22, 23, 33, 40, 43, 52, 54, 56, 58]
  · simp only [List.mem_cons, List.not_mem_nil, or_false] at c
    rcases c with rfl | rfl | rfl | rfl | rfl | rfl | rfl | rfl | rfl | rfl | rfl | rfl | rfl | rfl <;> rfl
  · rw [h k c]
    simp only [List.mem_cons, List.not_mem_nil, or_false, not_or] at c
    unfold rA_
    rw [ax_up_n _ _ (by omega), ax_up_n _ _ (by omega), ax_up_n _ _ (by omega), ax_up_n _ _ (by omega), ax_up_n _ _ (by omega), ax_up_n _ _ (by omega), ax_up_n _ _ (by omega), ax_up_n _ _ (by omega), ax_up_n _ _ (by omega), ax_up_n _ _ (by omega), ax_up_n _ _ (by omega), ax_up_n _ _ (by omega), ax_up_n _ _ (by omega), ax_up_n _ _ (by omega)]
    rfl
set_option maxRecDepth 10000 in
theorem lw_beg {g : ax_G} {ret : ax_Po} {Ln : Nat} {xs : Nat → Int32} (hg : gok g) (hx : ax_xt g 1000 = (Ln, xs)) (hL : Ln ≤ 3072) (hJ : J d0_) (fin : ∀ D E, J D → ret (some (.int 1)) (ax_S D E)) : ax_WP g ax_hL ret 0 92 0 [some (.ref 1000), none, none, none] [] (0, dz_, ez_, rz_) := by
  have h := lw_loop (ret := ret) hg hx hL fin Ln 0 d0_ ez_ (by omega) (by omega) hJ
  have h : ax_WP g ax_hL ret 0 92 18 [some (.ref 1000), some (.ref 0), some (.ref 58), some (.int 0)] [] (92, d0_, ez_, ax_R0) := h
  have u1 : ax_up dz_ 0 zD_ = dz_ := up_zd rfl
  have u2 : ax_up ez_ 0 zE_ = ez_ := up_ze rfl
  have u3 : ax_up rz_ 0 zR_ = rz_ := up_zr rfl
  have w1 : ax_up dA_ 58 zD_ = dA_ := up_zd rfl
  have w2 : ax_up ez_ 58 zE_ = ez_ := up_ze rfl
  have w3 : ax_up rA_ 58 zR_ = rA_ := up_zr rfl
  have k72 : ∀ K, K none (58, dA_, ez_, rA_) → cy_72 [.ref 0] (1, dz_, ez_, rz_) K := fun K hK => ⟨0, dz_, ez_, rz_, rfl, rfl, rfl, zr_0, hK⟩
  have k124 : ∀ K, K none (92, d0_, ez_, ax_R0) → cy_124 [.ref 58] (59, dA_, ez_, rA_) K := fun K hK => ⟨58, dA_, ez_, rA_, rfl, rfl, rfl, zr_58, by rw [rA_e]; exact hK⟩
  refine ax_WPt (l := [(72, cy_72), (124, cy_124)]) (ax_oc sy_72 (ax_oc sy_124 ax_on)) (fun t => t == 18) 100 ax_k205_0 rfl ?_
  simp +decide only [↓ax_B, ax_B, ax_kds, ax_gvs, ax_mcs, ax_ia_S, ax_up_ap, ax_vinL, and_self_left, ax_up_up, ax_up_sw, Nat.reduceAdd, Nat.reduceBEq, Nat.reduceLeDiff, Nat.reduceLT, Nat.reduceEqDiff, ↓reduceIte, true_and, and_true, List.cons_append, List.nil_append, Int32.reduceLT, Int32.reduceLE, Int32.reduceAdd, Int32.reduceToNatClampNeg, Int32.reduceOfNat, true_imp_iff, false_imp_iff, not_true_eq_false, not_false_eq_true, or_true, true_or, or_false, false_or, and_self, Bool.or_true, Bool.or_false, Bool.true_or, Bool.false_or, implies_true, forall_const, Bool.false_eq_true, Int32.neg_neg, nw_r, u1, u2, u3]
  refine k72 _ ?_
  simp +decide only [↓ax_B, ax_B, ax_kds, ax_gvs, ax_mcs, ax_ia_S, ax_up_ap, ax_vinL, and_self_left, ax_up_up, ax_up_sw, Nat.reduceAdd, Nat.reduceBEq, Nat.reduceLeDiff, Nat.reduceLT, Nat.reduceEqDiff, ↓reduceIte, true_and, and_true, List.cons_append, List.nil_append, Int32.reduceLT, Int32.reduceLE, Int32.reduceAdd, Int32.reduceToNatClampNeg, Int32.reduceOfNat, true_imp_iff, false_imp_iff, not_true_eq_false, not_false_eq_true, or_true, true_or, or_false, false_or, and_self, Bool.or_true, Bool.or_false, Bool.true_or, Bool.false_or, implies_true, forall_const, Bool.false_eq_true, Int32.neg_neg, nw_r, w1, w2, w3]
  refine k124 _ ?_
  simp +decide only [↓ax_B, ax_B, ax_kds, ax_gvs, ax_mcs, ax_ia_S, ax_up_ap, ax_vinL, and_self_left, ax_up_up, ax_up_sw, Nat.reduceAdd, Nat.reduceBEq, Nat.reduceLeDiff, Nat.reduceLT, Nat.reduceEqDiff, ↓reduceIte, true_and, and_true, List.cons_append, List.nil_append, Int32.reduceLT, Int32.reduceLE, Int32.reduceAdd, Int32.reduceToNatClampNeg, Int32.reduceOfNat, true_imp_iff, false_imp_iff, not_true_eq_false, not_false_eq_true, or_true, true_or, or_false, false_or, and_self, Bool.or_true, Bool.or_false, Bool.true_or, Bool.false_or, implies_true, forall_const, Bool.false_eq_true, Int32.neg_neg]
  exact h
/-- at the beginning both agree -/
theorem okC_0 {C : ax_Dn} (h2 : C 2 = zD_) (h12 : C 12 = zD_) (h13 : C 13 = zD_) (h14 : C 14 = zD_) (h15 : C 15 = zD_) (h16 : C 16 = zD_) (h17 : C 17 = zD_) (h6 : C 6 = r4_) (h5 : C 5 = zD_) (h21 : C 21 = s5_) (h19 : C 19 = zD_) (h20 : C 20 = zD_) : okC C := by
  unfold okC sg_ok
  rw [h2, h12, h13, h14, h15, h16, h17, h6, h5, h21, h19, h20]
  have z0 : ∀ n : Nat, ax_cnt 0 n := fun n => ⟨by decide, Int.natCast_nonneg n⟩
  have z1 : rg_ 0 (-9) 9 := ⟨by decide, by decide⟩
  refine ⟨z0 _, z0 _, z0 _, fun _ => z0 _, fun _ => z1, fun _ => z0 _, fun _ => z0 _, fun _ => z0 _, fun k => ?_, fun _ => z1, ⟨by decide, by decide⟩, ⟨by decide, by decide⟩, ⟨by decide, by decide⟩, ⟨by decide, by decide⟩, ⟨by decide, by decide⟩, z0 _, fun _ => z0 _⟩
  unfold r4_
  split
  · exact ⟨by decide, by decide⟩
  · exact z0 _
theorem J_0 : J d0_ := by
  have z0 : ∀ n : Nat, ax_cnt 0 n := fun n => ⟨by decide, Int.natCast_nonneg n⟩
  have z1 : rg_ 0 (-9) 9 := ⟨by decide, by decide⟩
  have zi : ¬ ((0 : Int32).toInt > 0) := by decide
  refine ⟨⟨okC_0 rfl rfl rfl rfl rfl rfl rfl rfl rfl rfl rfl rfl, ⟨rfl, rfl, rfl, rfl, rfl⟩, ⟨z0 _, fun j _ h => ?_, ?_, rfl, fun k _ => ⟨z1, z1⟩, fun j _ => z0 _, fun i h _ => ?_⟩, ⟨rfl, rfl, rfl, rfl, rfl, rfl, rfl, rfl, rfl, rfl⟩, fun _ => z1, fun _ => z1⟩, rfl, ⟨rfl, rfl, z0 _, fun _ => z0 _⟩, ⟨rfl, rfl, z0 _⟩, ⟨rfl, rfl⟩, okC_0 rfl rfl rfl rfl rfl rfl rfl rfl rfl rfl rfl rfl, rfl, Or.inl rfl⟩
  · exact absurd (show (j : Int) < 0 from h) (by omega)
  · exact ⟨[], List.Perm.refl _, List.Pairwise.nil, fun i e h => by cases h⟩
  · exact absurd (show (i : Int) < 0 from h) (by omega)
