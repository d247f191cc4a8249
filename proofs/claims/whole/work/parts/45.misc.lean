/-! Set, feed, readers. -/
def ls0 : Nat → Int32 := fun j => ([0, 0, 0, 0, 1] : List Int32).getD j 0
def gs0 : Nat → Int32 := fun j => ([8, 31, 99, 3, 60] : List Int32).getD j 0
def gok (g : ax_G) : Prop := ax_xt g 1001 = (5, ls0) ∧ ax_xt g 1002 = (5, gs0)
/-- AskewLetters.set(II)I -/
def cy_79 : ax_P1 := fun as z K => ∃ (p1 : Int32) (p2 : Int32) (D : ax_Dn) (E : ax_En), as = [.ref 0, .int p1, .int p2] ∧ z = ax_S D E ∧ ((p1 < 0 → K (some (.int (-2))) (ax_S (ax_up D 51 (ax_up (D 51) 2 (D 51 2 + 1))) E)) ∧ (¬p1 < 0 → (p1 < 5 → vp_in p1 5 ∧ (ls0 p1.toNatClampNeg ≤ p2 → (p2 ≤ gs0 p1.toNatClampNeg → K (some (.int (D 21 p1.toNatClampNeg))) (ax_S (ax_up D 21 (ax_up (D 21) p1.toNatClampNeg p2)) E)) ∧ (¬p2 ≤ gs0 p1.toNatClampNeg → K (some (.int (-6))) (ax_S (ax_up D 51 (ax_up (D 51) 6 (D 51 6 + 1))) E))) ∧ (¬ls0 p1.toNatClampNeg ≤ p2 → K (some (.int (-4))) (ax_S (ax_up D 51 (ax_up (D 51) 4 (D 51 4 + 1))) E))) ∧ (¬p1 < 5 → K (some (.int (-2))) (ax_S (ax_up D 51 (ax_up (D 51) 2 (D 51 2 + 1))) E))))
theorem ry_79 (p1 : Int32) (p2 : Int32) (D : ax_Dn) (E : ax_En) (K : ax_Po) : cy_79 [.ref 0, .int p1, .int p2] (ax_S D E) K = ((p1 < 0 → K (some (.int (-2))) (ax_S (ax_up D 51 (ax_up (D 51) 2 (D 51 2 + 1))) E)) ∧ (¬p1 < 0 → (p1 < 5 → vp_in p1 5 ∧ (ls0 p1.toNatClampNeg ≤ p2 → (p2 ≤ gs0 p1.toNatClampNeg → K (some (.int (D 21 p1.toNatClampNeg))) (ax_S (ax_up D 21 (ax_up (D 21) p1.toNatClampNeg p2)) E)) ∧ (¬p2 ≤ gs0 p1.toNatClampNeg → K (some (.int (-6))) (ax_S (ax_up D 51 (ax_up (D 51) 6 (D 51 6 + 1))) E))) ∧ (¬ls0 p1.toNatClampNeg ≤ p2 → K (some (.int (-4))) (ax_S (ax_up D 51 (ax_up (D 51) 4 (D 51 4 + 1))) E))) ∧ (¬p1 < 5 → K (some (.int (-2))) (ax_S (ax_up D 51 (ax_up (D 51) 2 (D 51 2 + 1))) E)))) := propext ⟨fun ⟨p1', p2', D', E', h1, h2, h3⟩ => by cases h1; obtain ⟨rfl, rfl⟩ := ax_S_inj h2; exact h3, fun h => ⟨p1, p2, D, E, rfl, rfl, h⟩⟩
theorem sy_79 {g : ax_G} (hg : gok g) : ∀ as z K, cy_79 as z K → ax_MM g 79 as z K := by
  rintro _ _ K ⟨p1, p2, D, E, rfl, rfl, h⟩
  have i1 : ∀ F, ax_ia (ax_S D E) (ax_xt g) 1001 F = F 5 ls0 := fun F => by
    unfold ax_ia
    rw [if_neg (by decide), hg.1]
    simp
  have i2 : ∀ F, ax_ia (ax_S D E) (ax_xt g) 1002 F = F 5 gs0 := fun F => by
    unfold ax_ia
    rw [if_neg (by decide), hg.2]
    simp
  refine ax_go79 _ _ _ ?_
  refine ax_WPo (l := [(110, cy_110), (117, cy_117)]) (ax_oc sy_110 (ax_oc sy_117 ax_on)) ax_ok79 (fun _ => false) 400 0 rfl ?_
  simp +decide only [↓ax_B, ax_B, ax_kds, ax_gvs, ax_mcs, ax_ia_S, ax_up_ap, ax_vinL, and_self_left, ax_up_up, ax_up_sw, Nat.reduceAdd, Nat.reduceBEq, Nat.reduceLeDiff, Nat.reduceLT, Nat.reduceEqDiff, ↓reduceIte, true_and, and_true, List.cons_append, List.nil_append, Int32.reduceLT, Int32.reduceLE, Int32.reduceAdd, Int32.reduceToNatClampNeg, Int32.reduceOfNat, true_imp_iff, false_imp_iff, not_true_eq_false, not_false_eq_true, or_true, true_or, or_false, false_or, and_self, Bool.or_true, Bool.or_false, Bool.true_or, Bool.false_or, implies_true, forall_const, Bool.false_eq_true, Int32.neg_neg, ax_X79, ry_110, ry_117, i1, i2]
  refine ⟨h.1, fun c => ⟨fun c2 => ?_, (h.2 c).2⟩⟩
  obtain ⟨hv, h3⟩ := (h.2 c).1 c2
  simp only [hv, true_and]
  exact h3
/-- the bytes that come, in the class, in the model -/
def by_ (b : Int64) (i : Nat) : Int32 := (b.toUInt64 >>> ((8 * nI i).toInt64.toUInt64 &&& Int64.toUInt64 63)).toInt64.toInt32 &&& 255
def bm_ (b : Int64) (i : Nat) : Int32 := (b >>> ((8 * nI i).toInt64 &&& 63) &&& 255).toInt32
theorem bb_ (w : BitVec 64) (k : Nat) (hk : k ≤ 56) : ((w >>> k).signExtend 32 &&& 255#32) = ((w.sshiftRight k) &&& 255#64).signExtend 32 := by
  rw [BitVec.signExtend_eq_setWidth_of_le _ (by decide), BitVec.signExtend_eq_setWidth_of_le _ (by decide)]
  have d1 : ∀ j, j < 32 → (255#32).getLsbD j = decide (j < 8) := by decide
  have d2 : ∀ j, j < 32 → (255#64).getLsbD j = decide (j < 8) := by decide
  apply BitVec.eq_of_getLsbD_eq
  intro j hj
  simp only [BitVec.getLsbD_and, BitVec.getLsbD_setWidth, BitVec.getLsbD_ushiftRight, BitVec.getLsbD_sshiftRight, d1 j hj, d2 j hj]
  by_cases h8 : j < 8
  · have a1 : ¬ 64 ≤ j := by omega
    have a2 : k + j < 64 := by omega
    simp [hj, a1, a2]
  · simp [h8]
theorem by_bm (b : Int64) {i : Nat} (hi : i < 8) : by_ b i = bm_ b i := by
  apply Int32.toBitVec_inj.mp
  match i, hi with
  | 0, _ => exact bb_ b.toBitVec 0 (by decide)
  | 1, _ => exact bb_ b.toBitVec 8 (by decide)
  | 2, _ => exact bb_ b.toBitVec 16 (by decide)
  | 3, _ => exact bb_ b.toBitVec 24 (by decide)
  | 4, _ => exact bb_ b.toBitVec 32 (by decide)
  | 5, _ => exact bb_ b.toBitVec 40 (by decide)
  | 6, _ => exact bb_ b.toBitVec 48 (by decide)
  | 7, _ => exact bb_ b.toBitVec 56 (by decide)
  | n + 8, h => exact absurd h (by omega)
theorem lp_73 {g : ax_G} {K : ax_Po} {E : ax_En} (n c : Nat) (b : Int64) (hn : n ≤ 8) (h64 : c + n ≤ 64) : ∀ (j k : Nat) (D : ax_Dn), k + j = n → D 43 1 = nI (c + k) → K (some (.int (nI (c + n)))) (ax_S (ax_up (ax_up D 43 (ax_up (D 43) 1 (nI (c + n)))) 44 (kl_ (by_ b) c j k (D 44))) E) → ax_WP g (ax_hy 73) K 92 92 42 [some (.ref 0), some (.int (nI n)), some (.long b), none, some (.int (nI k))] [] (ax_S D E) := by
  have e64 : (64 : Int32) = nI 64 := by decide
  intro j
  induction j with
  | zero =>
    intro k D hk h43 h
    have hc : nI n ≤ nI k := nI_le (by omega) (by omega)
    obtain rfl : k = n := by omega
    unfold kl_ at h
    rw [← h43, ax_up_id, ax_up_id, ax_up_id] at h
    refine ax_WPo (l := [(1, cy_1), (110, cy_110)]) (ax_oc sy_1 (ax_oc sy_110 ax_on)) ax_ok73 (fun t => t == 42) 400 42 rfl ?_
    simp +decide only [↓ax_B, ax_B, ax_kds, ax_gvs, ax_mcs, ax_ia_S, ax_up_ap, ax_vinL, and_self_left, ax_up_up, ax_up_sw, Nat.reduceAdd, Nat.reduceBEq, Nat.reduceLeDiff, Nat.reduceLT, Nat.reduceEqDiff, ↓reduceIte, true_and, and_true, List.cons_append, List.nil_append, Int32.reduceLT, Int32.reduceLE, Int32.reduceAdd, Int32.reduceToNatClampNeg, Int32.reduceOfNat, true_imp_iff, false_imp_iff, not_true_eq_false, not_false_eq_true, or_true, true_or, or_false, false_or, and_self, Bool.or_true, Bool.or_false, Bool.true_or, Bool.false_or, implies_true, forall_const, Bool.false_eq_true, Int32.neg_neg, ax_X73, ry_1, ry_110, hc]
    exact h
  | succ j ih =>
    intro k D hk h43 h
    have hc : ¬ nI n ≤ nI k := nI_ge (by omega) (by omega)
    have h3 : nI k + 1 = nI (k + 1) := nI_1 k
    have h4 : ¬ (64 : Int32) ≤ nI (c + k) := by rw [e64]; exact nI_ge (by omega) (by omega)
    have h5 : vp_in (nI (c + k)) 64 := vp_in_nI (by omega) (by omega)
    have h6 : (nI (c + k)).toNatClampNeg = c + k := nI_clamp (by omega)
    have h7 : nI (c + k) + 1 = nI (c + (k + 1)) := nI_1 _
    unfold kl_ at h
    have hnx := ih (k + 1) (ax_up (ax_up D 43 (ax_up (D 43) 1 (nI (c + (k + 1))))) 44 (ax_up (D 44) (c + k) (by_ b k))) (by omega) (by simp only [ax_up_ap, Nat.reduceEqDiff, ↓reduceIte]) (by
      rw [up2_ (by decide)]
      simp only [ax_up_ap, ax_up_up, Nat.reduceEqDiff, ↓reduceIte]
      exact h)
    refine ax_WPo (l := [(1, cy_1), (110, cy_110)]) (ax_oc sy_1 (ax_oc sy_110 ax_on)) ax_ok73 (fun t => t == 42) 400 42 rfl ?_
    simp +decide only [↓ax_B, ax_B, ax_kds, ax_gvs, ax_mcs, ax_ia_S, ax_up_ap, ax_vinL, and_self_left, ax_up_up, ax_up_sw, Nat.reduceAdd, Nat.reduceBEq, Nat.reduceLeDiff, Nat.reduceLT, Nat.reduceEqDiff, ↓reduceIte, true_and, and_true, List.cons_append, List.nil_append, Int32.reduceLT, Int32.reduceLE, Int32.reduceAdd, Int32.reduceToNatClampNeg, Int32.reduceOfNat, true_imp_iff, false_imp_iff, not_true_eq_false, not_false_eq_true, or_true, true_or, or_false, false_or, and_self, Bool.or_true, Bool.or_false, Bool.true_or, Bool.false_or, implies_true, forall_const, Bool.false_eq_true, Int32.neg_neg, ax_X73, ry_1, ry_110, hc, h3, h4, h5, h6, h7, h43]
    exact hnx
/-- AskewLetters.feed(IJ)I -/
def cy_73 : ax_P1 := fun as z K => ∃ (p1 : Int32) (p2 : Int64) (D : ax_Dn) (E : ax_En), as = [.ref 0, .int p1, .long p2] ∧ z = ax_S D E ∧ (ax_cnt (D 43 1) 64 ∧ (1 ≤ p1 → (8 < p1 → K (some (.int (-6))) (ax_S (ax_up D 51 (ax_up (D 51) 6 (D 51 6 + 1))) E)) ∧ (¬8 < p1 → (D 43 1 + p1 ≤ 64 → K (some (.int (D 43 1 + p1))) (ax_S (ax_up (ax_up D 43 (ax_up (D 43) 1 (D 43 1 + p1))) 44 (kl_ (by_ p2) (D 43 1).toNatClampNeg p1.toNatClampNeg 0 (D 44))) E)) ∧ (¬D 43 1 + p1 ≤ 64 → K (some (.int (-6))) (ax_S (ax_up D 51 (ax_up (D 51) 6 (D 51 6 + 1))) E)))) ∧ (¬1 ≤ p1 → K (some (.int (-4))) (ax_S (ax_up D 51 (ax_up (D 51) 4 (D 51 4 + 1))) E)))
theorem ry_73 (p1 : Int32) (p2 : Int64) (D : ax_Dn) (E : ax_En) (K : ax_Po) : cy_73 [.ref 0, .int p1, .long p2] (ax_S D E) K = (ax_cnt (D 43 1) 64 ∧ (1 ≤ p1 → (8 < p1 → K (some (.int (-6))) (ax_S (ax_up D 51 (ax_up (D 51) 6 (D 51 6 + 1))) E)) ∧ (¬8 < p1 → (D 43 1 + p1 ≤ 64 → K (some (.int (D 43 1 + p1))) (ax_S (ax_up (ax_up D 43 (ax_up (D 43) 1 (D 43 1 + p1))) 44 (kl_ (by_ p2) (D 43 1).toNatClampNeg p1.toNatClampNeg 0 (D 44))) E)) ∧ (¬D 43 1 + p1 ≤ 64 → K (some (.int (-6))) (ax_S (ax_up D 51 (ax_up (D 51) 6 (D 51 6 + 1))) E)))) ∧ (¬1 ≤ p1 → K (some (.int (-4))) (ax_S (ax_up D 51 (ax_up (D 51) 4 (D 51 4 + 1))) E))) := propext ⟨fun ⟨p1', p2', D', E', h1, h2, h3⟩ => by cases h1; obtain ⟨rfl, rfl⟩ := ax_S_inj h2; exact h3, fun h => ⟨p1, p2, D, E, rfl, rfl, h⟩⟩
theorem p8_ {p : Int32} (h1 : 1 ≤ p) (h2 : ¬ 8 < p) : ∃ n : Nat, p = nI n ∧ 1 ≤ n ∧ n ≤ 8 := by
  have a1 : (1 : Int32).toInt ≤ p.toInt := na_le.mp h1
  have a2 : ¬ (8 : Int32).toInt < p.toInt := fun q => h2 (na_lt.mpr q)
  have e1 : (1 : Int32).toInt = 1 := rfl
  have e8 : (8 : Int32).toInt = 8 := rfl
  obtain ⟨n, hn, q1, q2⟩ := na_of (x := p) (by omega)
  exact ⟨n, hn, by omega, by omega⟩
theorem le64_ {a : Nat} (ha : a < 2000) : (nI a ≤ 64) ↔ a ≤ 64 := by
  rw [show (64 : Int32) = nI 64 by decide, nI_leI (by omega) (by omega)]
theorem sy_73 {g : ax_G} : ∀ as z K, cy_73 as z K → ax_MM g 73 as z K := by
  rintro _ _ K ⟨p1, p2, D, E, rfl, rfl, h⟩
  refine ax_go73 _ _ _ ?_
  obtain ⟨h0, h⟩ := h
  obtain ⟨c, hc, hc64, hcc⟩ := ax_cnt_of h0 (by decide)
  refine ax_WPo (l := [(1, cy_1), (110, cy_110)]) (ax_oc sy_1 (ax_oc sy_110 ax_on)) ax_ok73 (fun t => t == 42) 400 0 rfl ?_
  simp +decide only [↓ax_B, ax_B, ax_kds, ax_gvs, ax_mcs, ax_ia_S, ax_up_ap, ax_vinL, and_self_left, ax_up_up, ax_up_sw, Nat.reduceAdd, Nat.reduceBEq, Nat.reduceLeDiff, Nat.reduceLT, Nat.reduceEqDiff, ↓reduceIte, true_and, and_true, List.cons_append, List.nil_append, Int32.reduceLT, Int32.reduceLE, Int32.reduceAdd, Int32.reduceToNatClampNeg, Int32.reduceOfNat, true_imp_iff, false_imp_iff, not_true_eq_false, not_false_eq_true, or_true, true_or, or_false, false_or, and_self, Bool.or_true, Bool.or_false, Bool.true_or, Bool.false_or, implies_true, forall_const, Bool.false_eq_true, Int32.neg_neg, ax_X73, ry_1, ry_110]
  refine ⟨fun c1 => ⟨((h.1 c1).1), fun c2 => ⟨fun c3 => ?_, ((h.1 c1).2 c2).2⟩⟩, h.2⟩
  have hK := ((h.1 c1).2 c2).1 c3
  obtain ⟨n, rfl, n1, n8⟩ := p8_ c1 c2
  rw [hc, nI_add, le64_ (by omega)] at c3
  rw [hc, nI_add, nI_clamp (by omega), nI_clamp (by omega)] at hK
  exact lp_73 n c p2 n8 c3 n 0 D (by omega) hc hK
theorem lp_130 {g : ax_G} {K : ax_Po} {E : ax_En} (n c : Nat) (b : Int64) (w : Int32) (hn : n ≤ 8) (h64 : c + n ≤ 64) : ∀ (j k : Nat) (D : ax_Dn), k + j = n → D 58 20 = nI (c + k) → K (some (.int (nI (c + n)))) (ax_S (ax_up (ax_up D 58 (ax_up (D 58) 20 (nI (c + n)))) 60 (kl_ (bm_ b) c j k (D 60))) E) → ax_WP g (ax_hy 130) K 92 92 44 [some (.ref 58), some (.int (nI n)), some (.long b), none, some (.int w), some (.int (nI k))] [] (ax_S D E) := by
  intro j
  induction j with
  | zero =>
    intro k D hk h43 h
    have hc : nI n ≤ nI k := nI_le (by omega) (by omega)
    obtain rfl : k = n := by omega
    unfold kl_ at h
    rw [← h43, ax_up_id, ax_up_id, ax_up_id] at h
    refine ax_WPo (l := [(125, cy_125), (129, cy_129)]) (ax_oc sy_125 (ax_oc sy_129 ax_on)) ax_ok130 (fun t => t == 44) 400 44 rfl ?_
    simp +decide only [↓ax_B, ax_B, ax_kds, ax_gvs, ax_mcs, ax_ia_S, ax_up_ap, ax_vinL, and_self_left, ax_up_up, ax_up_sw, Nat.reduceAdd, Nat.reduceBEq, Nat.reduceLeDiff, Nat.reduceLT, Nat.reduceEqDiff, ↓reduceIte, true_and, and_true, List.cons_append, List.nil_append, Int32.reduceLT, Int32.reduceLE, Int32.reduceAdd, Int32.reduceToNatClampNeg, Int32.reduceOfNat, true_imp_iff, false_imp_iff, not_true_eq_false, not_false_eq_true, or_true, true_or, or_false, false_or, and_self, Bool.or_true, Bool.or_false, Bool.true_or, Bool.false_or, implies_true, forall_const, Bool.false_eq_true, Int32.neg_neg, ax_X130, ry_125, ry_129, hc]
    exact h
  | succ j ih =>
    intro k D hk h43 h
    have hc : ¬ nI n ≤ nI k := nI_ge (by omega) (by omega)
    have h3 : nI k + 1 = nI (k + 1) := nI_1 k
    have h5 : vp_in (nI (c + k)) 64 := vp_in_nI (by omega) (by omega)
    have h6 : (nI (c + k)).toNatClampNeg = c + k := nI_clamp (by omega)
    have h7 : nI (c + k) + 1 = nI (c + (k + 1)) := nI_1 _
    unfold kl_ at h
    have hnx := ih (k + 1) (ax_up (ax_up D 58 (ax_up (D 58) 20 (nI (c + (k + 1))))) 60 (ax_up (D 60) (c + k) (bm_ b k))) (by omega) (by simp only [ax_up_ap, Nat.reduceEqDiff, ↓reduceIte]) (by
      rw [up2_ (by decide)]
      simp only [ax_up_ap, ax_up_up, Nat.reduceEqDiff, ↓reduceIte]
      exact h)
    refine ax_WPo (l := [(125, cy_125), (129, cy_129)]) (ax_oc sy_125 (ax_oc sy_129 ax_on)) ax_ok130 (fun t => t == 44) 400 44 rfl ?_
    simp +decide only [↓ax_B, ax_B, ax_kds, ax_gvs, ax_mcs, ax_ia_S, ax_up_ap, ax_vinL, and_self_left, ax_up_up, ax_up_sw, Nat.reduceAdd, Nat.reduceBEq, Nat.reduceLeDiff, Nat.reduceLT, Nat.reduceEqDiff, ↓reduceIte, true_and, and_true, List.cons_append, List.nil_append, Int32.reduceLT, Int32.reduceLE, Int32.reduceAdd, Int32.reduceToNatClampNeg, Int32.reduceOfNat, true_imp_iff, false_imp_iff, not_true_eq_false, not_false_eq_true, or_true, true_or, or_false, false_or, and_self, Bool.or_true, Bool.or_false, Bool.true_or, Bool.false_or, implies_true, forall_const, Bool.false_eq_true, Int32.neg_neg, ax_X130, ry_125, ry_129, hc, h3, h5, h6, h7, h43]
    exact hnx
/-- AskewLettersModel.feed(IJ)I -/
def cy_130 : ax_P1 := fun as z K => ∃ (p1 : Int32) (p2 : Int64) (D : ax_Dn) (E : ax_En), as = [.ref 58, .int p1, .long p2] ∧ z = ax_S D E ∧ (ax_cnt (D 58 20) 64 ∧ (1 ≤ p1 → (p1 ≤ 8 → (D 58 20 + p1 ≤ 64 → K (some (.int (D 58 20 + p1))) (ax_S (ax_up (ax_up D 58 (ax_up (D 58) 20 (D 58 20 + p1))) 60 (kl_ (bm_ p2) (D 58 20).toNatClampNeg p1.toNatClampNeg 0 (D 60))) E)) ∧ (¬D 58 20 + p1 ≤ 64 → K (some (.int (-6))) (ax_S (ax_up D 59 (ax_up (D 59) 6 (D 59 6 + 1))) E))) ∧ (¬p1 ≤ 8 → K (some (.int (-6))) (ax_S (ax_up D 59 (ax_up (D 59) 6 (D 59 6 + 1))) E))) ∧ (¬1 ≤ p1 → K (some (.int (-4))) (ax_S (ax_up D 59 (ax_up (D 59) 4 (D 59 4 + 1))) E)))
theorem ry_130 (p1 : Int32) (p2 : Int64) (D : ax_Dn) (E : ax_En) (K : ax_Po) : cy_130 [.ref 58, .int p1, .long p2] (ax_S D E) K = (ax_cnt (D 58 20) 64 ∧ (1 ≤ p1 → (p1 ≤ 8 → (D 58 20 + p1 ≤ 64 → K (some (.int (D 58 20 + p1))) (ax_S (ax_up (ax_up D 58 (ax_up (D 58) 20 (D 58 20 + p1))) 60 (kl_ (bm_ p2) (D 58 20).toNatClampNeg p1.toNatClampNeg 0 (D 60))) E)) ∧ (¬D 58 20 + p1 ≤ 64 → K (some (.int (-6))) (ax_S (ax_up D 59 (ax_up (D 59) 6 (D 59 6 + 1))) E))) ∧ (¬p1 ≤ 8 → K (some (.int (-6))) (ax_S (ax_up D 59 (ax_up (D 59) 6 (D 59 6 + 1))) E))) ∧ (¬1 ≤ p1 → K (some (.int (-4))) (ax_S (ax_up D 59 (ax_up (D 59) 4 (D 59 4 + 1))) E))) := propext ⟨fun ⟨p1', p2', D', E', h1, h2, h3⟩ => by cases h1; obtain ⟨rfl, rfl⟩ := ax_S_inj h2; exact h3, fun h => ⟨p1, p2, D, E, rfl, rfl, h⟩⟩
theorem sy_130 {g : ax_G} : ∀ as z K, cy_130 as z K → ax_MM g 130 as z K := by
  rintro _ _ K ⟨p1, p2, D, E, rfl, rfl, h⟩
  refine ax_go130 _ _ _ ?_
  obtain ⟨h0, h⟩ := h
  obtain ⟨c, hc, hc64, hcc⟩ := ax_cnt_of h0 (by decide)
  refine ax_WPo (l := [(125, cy_125), (129, cy_129)]) (ax_oc sy_125 (ax_oc sy_129 ax_on)) ax_ok130 (fun t => t == 44) 400 0 rfl ?_
  simp +decide only [↓ax_B, ax_B, ax_kds, ax_gvs, ax_mcs, ax_ia_S, ax_up_ap, ax_vinL, and_self_left, ax_up_up, ax_up_sw, Nat.reduceAdd, Nat.reduceBEq, Nat.reduceLeDiff, Nat.reduceLT, Nat.reduceEqDiff, ↓reduceIte, true_and, and_true, List.cons_append, List.nil_append, Int32.reduceLT, Int32.reduceLE, Int32.reduceAdd, Int32.reduceToNatClampNeg, Int32.reduceOfNat, true_imp_iff, false_imp_iff, not_true_eq_false, not_false_eq_true, or_true, true_or, or_false, false_or, and_self, Bool.or_true, Bool.or_false, Bool.true_or, Bool.false_or, implies_true, forall_const, Bool.false_eq_true, Int32.neg_neg, ax_X130, ry_125, ry_129]
  refine ⟨fun c1 => ⟨fun c2 => ⟨fun c3 => ?_, ((h.1 c1).1 c2).2⟩, (h.1 c1).2⟩, h.2⟩
  have hK := ((h.1 c1).1 c2).1 c3
  obtain ⟨n, rfl, n1, n8⟩ := p8_ c1 (Int32.not_lt.mpr c2)
  rw [hc, nI_add, le64_ (by omega)] at c3
  rw [hc, nI_add, nI_clamp (by omega), nI_clamp (by omega)] at hK
  exact lp_130 n c p2 0 n8 c3 n 0 D (by omega) hc hK
/-! Readers' leans. -/
def su_ (t r : Nat → Int32) : Nat → Int32
  | 0 => 0
  | n + 1 => su_ t r n + (t n - r n)
theorem su_rg {t r : Nat → Int32} (ht : ∀ k, rg_ (t k) (-9) 9) (hr : ∀ k, rg_ (r k) (-9) 9) : ∀ n : Nat, n ≤ 20 → -(18 * (n : Int)) ≤ (su_ t r n).toInt ∧ (su_ t r n).toInt ≤ 18 * (n : Int) := by
  intro n
  induction n with
  | zero => intro _; unfold su_; decide
  | succ n ih =>
    intro hn
    obtain ⟨a1, a2⟩ := ih (by omega)
    obtain ⟨b1, b2⟩ := ht n
    obtain ⟨c1, c2⟩ := hr n
    have e1 : (t n - r n).toInt = (t n).toInt - (r n).toInt := na_sub (by omega) (by omega)
    have e2 : (su_ t r n + (t n - r n)).toInt = (su_ t r n).toInt + (t n - r n).toInt := na_add (by omega) (by omega)
    unfold su_
    rw [e2, e1]
    omega
def an_ (x : Int32) (b : Nat) (part : Int32) : Int32 := (if part = 0 then x else nI b) / nI (Nat.gcd x.toInt.natAbs b)
theorem ab64 {x : Int32} (h : rg_ x (-1000) 1000) : (if 0 < x.toInt64 then x.toInt64 else -x.toInt64) = lN x.toInt.natAbs := by
  obtain ⟨h1, h2⟩ := h
  have e := Int32.toInt_toInt64 x
  have z : (0 : Int64).toInt = 0 := rfl
  apply la_eq.mpr
  rw [pk_lT (by omega)]
  by_cases c : 0 < x.toInt64
  · rw [if_pos c, e]
    have c := la_lt.mp c
    omega
  · rw [if_neg c]
    have c : ¬ (0 : Int64).toInt < x.toInt64.toInt := fun q => c (la_lt.mpr q)
    rw [Int64.toInt_neg, Int.bmod_eq_of_le (by omega) (by omega), e]
    omega
theorem gg_ {x : Int32} {b : Nat} (hb : 0 < b) (h20 : b ≤ 20) : 0 < Nat.gcd x.toInt.natAbs b ∧ Nat.gcd x.toInt.natAbs b ≤ 20 := ⟨Nat.gcd_pos_of_pos_right _ hb, Nat.le_trans (Nat.gcd_le_right _ hb) h20⟩
theorem dv64 {y : Int32} {q : Nat} (hq : 0 < q) (h20 : q ≤ 20) : (y.toInt64 / lN q).toInt32 = y / nI q := by
  have hy1 := na_lo y
  have hy2 := na_hi y
  have e1 : (lN q).toInt = q := pk_lT (by omega)
  have e2 : (nI q).toInt = q := na_nI (by omega)
  have n1 : lN q ≠ -1 := fun z => by
    have := congrArg Int64.toInt z
    rw [e1] at this
    have m : (-1 : Int64).toInt = -1 := rfl
    omega
  have n2 : nI q ≠ -1 := fun z => by
    have := congrArg Int32.toInt z
    rw [e2] at this
    have m : (-1 : Int32).toInt = -1 := rfl
    omega
  apply na_eq.mpr
  rw [Int64.toInt_toInt32, la_div n1, e1, Int32.toInt_toInt64, Int32.toInt_div_of_ne_right y (nI q) n2, e2]
  have hb1 : (y.toInt.tdiv q).natAbs ≤ y.toInt.natAbs := by
    rw [Int.natAbs_tdiv]
    exact Nat.div_le_self _ _
  rw [Int.bmod_eq_of_le (by omega) (by
    by_cases h0 : 0 ≤ y.toInt
    · omega
    · have : y.toInt.tdiv q ≤ 0 := by
        have := Int.tdiv_nonneg (a := -y.toInt) (b := q) (by omega) (by omega)
        rw [Int.neg_tdiv] at this
        omega
      omega)]
/-- AskewLetters.leastTerms(JJI)J -/
def cy_122s : ax_P1 := fun as z K => ∃ (p1 : Int64) (p2 : Int64) (p3 : Int32) (D : ax_Dn) (E : ax_En), as = [.long p1, .long p2, .int p3] ∧ z = ax_S D E ∧ (∃ (x : Int32) (b : Nat), p1 = x.toInt64 ∧ p2 = (nI b).toInt64 ∧ rg_ x (-1000) 1000 ∧ 0 < b ∧ b ≤ 20 ∧ K (some (.long ((if p3 = 0 then p1 else p2) / lN (Nat.gcd x.toInt.natAbs b)))) (ax_S D E))
theorem ry_122s (p1 : Int64) (p2 : Int64) (p3 : Int32) (D : ax_Dn) (E : ax_En) (K : ax_Po) : cy_122s [.long p1, .long p2, .int p3] (ax_S D E) K = (∃ (x : Int32) (b : Nat), p1 = x.toInt64 ∧ p2 = (nI b).toInt64 ∧ rg_ x (-1000) 1000 ∧ 0 < b ∧ b ≤ 20 ∧ K (some (.long ((if p3 = 0 then p1 else p2) / lN (Nat.gcd x.toInt.natAbs b)))) (ax_S D E)) := propext ⟨fun ⟨p1', p2', p3', D', E', h1, h2, h3⟩ => by cases h1; obtain ⟨rfl, rfl⟩ := ax_S_inj h2; exact h3, fun h => ⟨p1, p2, p3, D, E, rfl, rfl, h⟩⟩
theorem sy_122s {g : ax_G} : ∀ as z K, cy_122s as z K → ax_MM g 122 as z K := by
  rintro _ _ K ⟨p1, p2, p3, D, E, rfl, rfl, h⟩
  refine ax_go122 _ _ _ ?_
  obtain ⟨x, b, rfl, rfl, h1, h2, h3, h⟩ := h
  obtain ⟨g1, g2⟩ := gg_ (x := x) h2 h3
  have hr := h1
  unfold rg_ at hr
  have hq := gc_cmp (b := Nat.gcd x.toInt.natAbs b) (by omega)
  have hz : ¬ Nat.gcd x.toInt.natAbs b = 0 := by omega
  have hz2 : ¬ lN (Nat.gcd x.toInt.natAbs b) = 0 := fun z => hz ((pk_lEQ (by omega) (by decide)).mp z)
  refine ax_WPo (l := [(123, cy_123)]) (ax_oc sy_123 ax_on) ax_ok122 (fun _ => false) 400 0 rfl ?_
  simp +decide only [↓ax_B, ax_B, ax_kds, ax_gvs, ax_mcs, ax_ia_S, ax_up_ap, ax_vinL, and_self_left, ax_up_up, ax_up_sw, Nat.reduceAdd, Nat.reduceBEq, Nat.reduceLeDiff, Nat.reduceLT, Nat.reduceEqDiff, ↓reduceIte, true_and, and_true, List.cons_append, List.nil_append, Int32.reduceLT, Int32.reduceLE, Int32.reduceAdd, Int32.reduceToNatClampNeg, Int32.reduceOfNat, true_imp_iff, false_imp_iff, not_true_eq_false, not_false_eq_true, or_true, true_or, or_false, false_or, and_self, Bool.or_true, Bool.or_false, Bool.true_or, Bool.false_or, implies_true, forall_const, Bool.false_eq_true, Int32.neg_neg, ax_X122, ry_123, ab64 h1]
  refine ⟨x.toInt.natAbs, b, rfl, nI_l (by omega), by omega, by omega, ?_⟩
  simp only [hq, hz, hz2, not_false_eq_true, true_and, and_true, true_imp_iff, false_imp_iff, not_true_eq_false]
  refine ⟨fun c => ?_, fun c => ?_⟩
  · rw [if_neg c] at h; exact h
  · rw [if_pos c] at h; exact h
theorem lp_196 {g : ax_G} {K : ax_Po} {D : ax_Dn} {E : ax_En} (part : Int32) (n : Nat) (hn : D 58 40 = nI n) (n0 : 0 < n) (n20 : n ≤ 20) (ht : ∀ k, rg_ (D 88 k) (-9) 9) (hr : ∀ k, rg_ (D 89 k) (-9) 9) (h : K (some (.int (an_ (su_ (D 88) (D 89) n) n part))) (ax_S D E)) : ∀ (j k : Nat), k + j = n → ax_WP g (ax_hy 196) K 92 92 34 [some (.ref 58), some (.int part), some (.int (su_ (D 88) (D 89) k)), some (.int (nI k))] [] (ax_S D E) := by
  intro j
  induction j with
  | zero =>
    intro k hk
    have hc : nI n ≤ nI k := nI_le (by omega) (by omega)
    obtain rfl : k = n := by omega
    obtain ⟨r1, r2⟩ := su_rg ht hr k n20
    obtain ⟨g1, g2⟩ := gg_ (x := su_ (D 88) (D 89) k) n0 n20
    refine ax_WPo (l := [(126, cy_126), (128, cy_128), (170, cy_170)]) (ax_oc sy_126 (ax_oc sy_128 (ax_oc sy_170 ax_on))) ax_ok196 (fun t => t == 34) 400 34 rfl ?_
    simp +decide only [↓ax_B, ax_B, ax_kds, ax_gvs, ax_mcs, ax_ia_S, ax_up_ap, ax_vinL, and_self_left, ax_up_up, ax_up_sw, Nat.reduceAdd, Nat.reduceBEq, Nat.reduceLeDiff, Nat.reduceLT, Nat.reduceEqDiff, ↓reduceIte, true_and, and_true, List.cons_append, List.nil_append, Int32.reduceLT, Int32.reduceLE, Int32.reduceAdd, Int32.reduceToNatClampNeg, Int32.reduceOfNat, true_imp_iff, false_imp_iff, not_true_eq_false, not_false_eq_true, or_true, true_or, or_false, false_or, and_self, Bool.or_true, Bool.or_false, Bool.true_or, Bool.false_or, implies_true, forall_const, Bool.false_eq_true, Int32.neg_neg, ax_X196, ry_126, ry_128, ry_170, hn, hc]
    have e1 : (lN (Nat.gcd (su_ (D 88) (D 89) k).toInt.natAbs k)).toInt32 = nI (Nat.gcd (su_ (D 88) (D 89) k).toInt.natAbs k) := lN_i _
    have z : ¬ nI (Nat.gcd (su_ (D 88) (D 89) k).toInt.natAbs k) = 0 := nI_ne0 g1 (by omega)
    unfold an_ at h
    have ee := Int32.toInt_toInt64 (su_ (D 88) (D 89) k)
    have fin : (¬part = 0 → ¬(lN (Nat.gcd (su_ (D 88) (D 89) k).toInt.natAbs k)).toInt32 = 0 ∧ K (some (.int (nI k / (lN (Nat.gcd (su_ (D 88) (D 89) k).toInt.natAbs k)).toInt32))) (ax_S D E)) ∧ (part = 0 → ¬(lN (Nat.gcd (su_ (D 88) (D 89) k).toInt.natAbs k)).toInt32 = 0 ∧ K (some (.int (su_ (D 88) (D 89) k / (lN (Nat.gcd (su_ (D 88) (D 89) k).toInt.natAbs k)).toInt32))) (ax_S D E)) := by
      rw [e1]
      refine ⟨fun c => ⟨z, ?_⟩, fun c => ⟨z, ?_⟩⟩
      · rw [if_neg c] at h; exact h
      · rw [if_pos c] at h; exact h
    have z0 : (0 : Int32).toInt = 0 := rfl
    refine ⟨fun c => ⟨(su_ (D 88) (D 89) k).toInt.natAbs, k, ?_, nI_l (by omega), by omega, by omega, fin⟩, fun c => ⟨(su_ (D 88) (D 89) k).toInt.natAbs, k, ?_, nI_l (by omega), by omega, by omega, fin⟩⟩
    · have c := na_le.mp c
      apply la_eq.mpr
      rw [ee, pk_lT (by omega)]
      omega
    · have c : ¬ (0 : Int32).toInt ≤ (su_ (D 88) (D 89) k).toInt := fun q => c (na_le.mpr q)
      apply la_eq.mpr
      rw [Int32.toInt_toInt64, na_neg (by omega), pk_lT (by omega)]
      omega
  | succ j ih =>
    intro k hk
    have hc : ¬ nI n ≤ nI k := nI_ge (by omega) (by omega)
    have h1 : vp_in (nI k) 20 := vp_in_nI (by omega) (by omega)
    have h2 : (nI k).toNatClampNeg = k := nI_clamp (by omega)
    have h3 : nI k + 1 = nI (k + 1) := nI_1 k
    have := ih (k + 1) (by omega)
    unfold su_ at this
    refine ax_WPo (l := [(126, cy_126), (128, cy_128), (170, cy_170)]) (ax_oc sy_126 (ax_oc sy_128 (ax_oc sy_170 ax_on))) ax_ok196 (fun t => t == 34) 400 34 rfl ?_
    simp +decide only [↓ax_B, ax_B, ax_kds, ax_gvs, ax_mcs, ax_ia_S, ax_up_ap, ax_vinL, and_self_left, ax_up_up, ax_up_sw, Nat.reduceAdd, Nat.reduceBEq, Nat.reduceLeDiff, Nat.reduceLT, Nat.reduceEqDiff, ↓reduceIte, true_and, and_true, List.cons_append, List.nil_append, Int32.reduceLT, Int32.reduceLE, Int32.reduceAdd, Int32.reduceToNatClampNeg, Int32.reduceOfNat, true_imp_iff, false_imp_iff, not_true_eq_false, not_false_eq_true, or_true, true_or, or_false, false_or, and_self, Bool.or_true, Bool.or_false, Bool.true_or, Bool.false_or, implies_true, forall_const, Bool.false_eq_true, Int32.neg_neg, ax_X196, ry_126, ry_128, ry_170, hn, hc, h1, h2, h3]
    exact this
/-- AskewLettersModel.reader(I)I -/
def cy_196 : ax_P1 := fun as z K => ∃ (p1 : Int32) (D : ax_Dn) (E : ax_En), as = [.ref 58, .int p1] ∧ z = ax_S D E ∧ ((p1 < 0 → K (some (.int (1000000000 - -2))) (ax_S (ax_up D 59 (ax_up (D 59) 2 (D 59 2 + 1))) E)) ∧ (¬p1 < 0 → (1 < p1 → K (some (.int (1000000000 - -2))) (ax_S (ax_up D 59 (ax_up (D 59) 2 (D 59 2 + 1))) E)) ∧ (¬1 < p1 → (¬D 58 40 = 0 → ax_cnt (D 58 40) 20 ∧ (∀ k, rg_ (D 88 k) (-9) 9) ∧ (∀ k, rg_ (D 89 k) (-9) 9) ∧ K (some (.int (an_ (su_ (D 88) (D 89) (D 58 40).toNatClampNeg) (D 58 40).toNatClampNeg p1))) (ax_S D E)) ∧ (D 58 40 = 0 → K (some (.int (1000000000 - -3))) (ax_S (ax_up D 59 (ax_up (D 59) 3 (D 59 3 + 1))) E)))))
theorem ry_196 (p1 : Int32) (D : ax_Dn) (E : ax_En) (K : ax_Po) : cy_196 [.ref 58, .int p1] (ax_S D E) K = ((p1 < 0 → K (some (.int (1000000000 - -2))) (ax_S (ax_up D 59 (ax_up (D 59) 2 (D 59 2 + 1))) E)) ∧ (¬p1 < 0 → (1 < p1 → K (some (.int (1000000000 - -2))) (ax_S (ax_up D 59 (ax_up (D 59) 2 (D 59 2 + 1))) E)) ∧ (¬1 < p1 → (¬D 58 40 = 0 → ax_cnt (D 58 40) 20 ∧ (∀ k, rg_ (D 88 k) (-9) 9) ∧ (∀ k, rg_ (D 89 k) (-9) 9) ∧ K (some (.int (an_ (su_ (D 88) (D 89) (D 58 40).toNatClampNeg) (D 58 40).toNatClampNeg p1))) (ax_S D E)) ∧ (D 58 40 = 0 → K (some (.int (1000000000 - -3))) (ax_S (ax_up D 59 (ax_up (D 59) 3 (D 59 3 + 1))) E))))) := propext ⟨fun ⟨p1', D', E', h1, h2, h3⟩ => by cases h1; obtain ⟨rfl, rfl⟩ := ax_S_inj h2; exact h3, fun h => ⟨p1, D, E, rfl, rfl, h⟩⟩
theorem sy_196 {g : ax_G} : ∀ as z K, cy_196 as z K → ax_MM g 196 as z K := by
  rintro _ _ K ⟨p1, D, E, rfl, rfl, h⟩
  refine ax_go196 _ _ ?_
  refine ax_WPo (l := [(126, cy_126), (128, cy_128), (170, cy_170)]) (ax_oc sy_126 (ax_oc sy_128 (ax_oc sy_170 ax_on))) ax_ok196 (fun t => t == 34) 400 0 rfl ?_
  simp +decide only [↓ax_B, ax_B, ax_kds, ax_gvs, ax_mcs, ax_ia_S, ax_up_ap, ax_vinL, and_self_left, ax_up_up, ax_up_sw, Nat.reduceAdd, Nat.reduceBEq, Nat.reduceLeDiff, Nat.reduceLT, Nat.reduceEqDiff, ↓reduceIte, true_and, and_true, List.cons_append, List.nil_append, Int32.reduceLT, Int32.reduceLE, Int32.reduceAdd, Int32.reduceToNatClampNeg, Int32.reduceOfNat, true_imp_iff, false_imp_iff, not_true_eq_false, not_false_eq_true, or_true, true_or, or_false, false_or, and_self, Bool.or_true, Bool.or_false, Bool.true_or, Bool.false_or, implies_true, forall_const, Bool.false_eq_true, Int32.neg_neg, ax_X196, ry_126, ry_128, ry_170]
  refine ⟨h.1, fun c => ⟨(h.2 c).1, fun c2 => ⟨fun c3 => ?_, ((h.2 c).2 c2).2⟩⟩⟩
  obtain ⟨h1, ht, hr, hK⟩ := ((h.2 c).2 c2).1 c3
  obtain ⟨n, hn, h20, hc⟩ := ax_cnt_of h1 (by decide)
  rw [hc] at hK
  have n0 : 0 < n := by
    rcases Nat.eq_zero_or_pos n with q | q
    · rw [hn, q] at c3; exact absurd nI_0 c3
    · exact q
  exact lp_196 p1 n hn n0 h20 ht hr hK n 0 (by omega)
