/-! Longs; a hand's forces. -/
theorem la_add {x y : Int64} (h1 : -9223372036854775808 ≤ x.toInt + y.toInt) (h2 : x.toInt + y.toInt < 9223372036854775808) : (x + y).toInt = x.toInt + y.toInt := by
  rw [Int64.toInt_add, Int.bmod_eq_of_le (by omega) (by omega)]
theorem la_sub {x y : Int64} (h1 : -9223372036854775808 ≤ x.toInt - y.toInt) (h2 : x.toInt - y.toInt < 9223372036854775808) : (x - y).toInt = x.toInt - y.toInt := by
  rw [Int64.toInt_sub, Int.bmod_eq_of_le (by omega) (by omega)]
theorem la_mul {x y : Int64} (h1 : -9223372036854775808 ≤ x.toInt * y.toInt) (h2 : x.toInt * y.toInt < 9223372036854775808) : (x * y).toInt = x.toInt * y.toInt := by
  rw [Int64.toInt_mul, Int.bmod_eq_of_le (by omega) (by omega)]
theorem la_lo (x : Int64) : -9223372036854775808 ≤ x.toInt := Int64.le_toInt x
theorem la_hi (x : Int64) : x.toInt < 9223372036854775808 := Int64.toInt_lt x
theorem la_lt {x y : Int64} : x < y ↔ x.toInt < y.toInt := Int64.lt_iff_toInt_lt
theorem la_le {x y : Int64} : x ≤ y ↔ x.toInt ≤ y.toInt := Int64.le_iff_toInt_le
theorem la_eq {x y : Int64} : x = y ↔ x.toInt = y.toInt := Int64.toInt_inj.symm
theorem la_div {x y : Int64} (h : y ≠ -1) : (x / y).toInt = x.toInt.tdiv y.toInt := Int64.toInt_div_of_ne_right x y h
theorem cm_cases (x y : Int64) : (x < y ∧ lg_cmp x y = -1) ∨ (x = y ∧ lg_cmp x y = 0) ∨ (y < x ∧ lg_cmp x y = 1) := by
  unfold lg_cmp
  by_cases h : x > y
  · rw [if_pos h]; exact .inr (.inr ⟨h, rfl⟩)
  · rw [if_neg h]
    by_cases h2 : x = y
    · rw [if_pos h2]; exact .inr (.inl ⟨h2, rfl⟩)
    · rw [if_neg h2]
      refine .inl ⟨?_, rfl⟩
      have h : ¬ y.toInt < x.toInt := fun q => h (la_lt.mpr q)
      have h2 : ¬ x.toInt = y.toInt := fun q => h2 (la_eq.mpr q)
      exact la_lt.mpr (by omega)
theorem cm_ge0 (x y : Int64) : (0 ≤ lg_cmp x y) ↔ y ≤ x := by
  rcases cm_cases x y with ⟨a, b⟩ | ⟨a, b⟩ | ⟨a, b⟩ <;> rw [b]
  · have a := la_lt.mp a
    exact ⟨fun q => absurd q (by decide), fun q => absurd (la_le.mp q) (by omega)⟩
  · subst a
    exact ⟨fun _ => la_le.mpr (by omega), fun _ => by decide⟩
  · have a := la_lt.mp a
    exact ⟨fun _ => la_le.mpr (by omega), fun _ => by decide⟩
theorem cm_gt0 (x y : Int64) : (0 < lg_cmp x y) ↔ y < x := by
  rcases cm_cases x y with ⟨a, b⟩ | ⟨a, b⟩ | ⟨a, b⟩ <;> rw [b]
  · have a := la_lt.mp a
    exact ⟨fun q => absurd q (by decide), fun q => absurd (la_lt.mp q) (by omega)⟩
  · subst a
    exact ⟨fun q => absurd q (by decide), fun q => absurd (la_lt.mp q) (by omega)⟩
  · exact ⟨fun _ => a, fun _ => by decide⟩
theorem cm_le0 (x y : Int64) : (lg_cmp x y ≤ 0) ↔ x ≤ y := by
  rcases cm_cases x y with ⟨a, b⟩ | ⟨a, b⟩ | ⟨a, b⟩ <;> rw [b]
  · have a := la_lt.mp a
    exact ⟨fun _ => la_le.mpr (by omega), fun _ => by decide⟩
  · subst a
    exact ⟨fun _ => la_le.mpr (by omega), fun _ => by decide⟩
  · have a := la_lt.mp a
    exact ⟨fun q => absurd q (by decide), fun q => absurd (la_le.mp q) (by omega)⟩
theorem cm_lt0 (x y : Int64) : (lg_cmp x y < 0) ↔ x < y := by
  rcases cm_cases x y with ⟨a, b⟩ | ⟨a, b⟩ | ⟨a, b⟩ <;> rw [b]
  · exact ⟨fun _ => a, fun _ => by decide⟩
  · subst a
    exact ⟨fun q => absurd q (by decide), fun q => absurd (la_lt.mp q) (by omega)⟩
  · have a := la_lt.mp a
    exact ⟨fun q => absurd q (by decide), fun q => absurd (la_lt.mp q) (by omega)⟩
theorem cm_eq0 (x y : Int64) : (lg_cmp x y = 0) ↔ x = y := by
  rcases cm_cases x y with ⟨a, b⟩ | ⟨a, b⟩ | ⟨a, b⟩ <;> rw [b]
  · have a := la_lt.mp a
    exact ⟨fun q => absurd q (by decide), fun q => absurd (la_eq.mp q) (by omega)⟩
  · exact ⟨fun _ => a, fun _ => rfl⟩
  · have a := la_lt.mp a
    exact ⟨fun q => absurd q (by decide), fun q => absurd (la_eq.mp q) (by omega)⟩
/-- the last digit -/
theorem dg_ {r : Int64} (h : 0 ≤ r.toInt) : ax_cnt (r - r / 10 * 10).toInt32 9 ∧ 0 ≤ (r / 10).toInt ∧ (r / 10).toInt = r.toInt / 10 := by
  have hh := la_hi r
  have e10 : (10 : Int64).toInt = 10 := rfl
  have hd : (r / 10).toInt = r.toInt / 10 := by
    rw [la_div (by decide), e10, Int.tdiv_eq_ediv_of_nonneg h]
  have hm : (r / 10 * 10).toInt = r.toInt / 10 * 10 := by
    rw [la_mul (by rw [hd, e10]; omega) (by rw [hd, e10]; omega), hd, e10]
  have hs : (r - r / 10 * 10).toInt = r.toInt % 10 := by
    rw [la_sub (by rw [hm]; omega) (by rw [hm]; omega), hm]
    omega
  refine ⟨?_, by omega, hd⟩
  have e : (r - r / 10 * 10).toInt32.toInt = r.toInt % 10 := by
    rw [Int64.toInt_toInt32, hs, Int.bmod_eq_of_le (by omega) (by omega)]
  unfold ax_cnt
  rw [e]
  omega
/-- a hand's forces written out -/
def ad_ (h : Nat) : Nat → Nat → Int64 → (Nat → Int32) → Nat → Int32
  | 0, _, _, F => F
  | j + 1, k, r, F => ad_ h j (k + 1) (r / 10) (ax_up F (h * 10 + k) (r - r / 10 * 10).toInt32)
theorem ad_ok (h : Nat) : ∀ (j k : Nat) (r : Int64) (F : Nat → Int32), 0 ≤ r.toInt → (∀ i, ax_cnt (F i) 9) → ∀ i, ax_cnt (ad_ h j k r F i) 9 := by
  intro j
  induction j with
  | zero => intro k r F _ hF; exact hF
  | succ j ih =>
    intro k r F hr hF
    unfold ad_
    obtain ⟨d1, d2, -⟩ := dg_ hr
    refine ih (k + 1) _ _ d2 (fun i => ?_)
    rw [ax_up_ap]
    split
    · exact d1
    · exact hF i
theorem ix2_ {h k : Nat} (hh : h < 4) (hk : k < 10) : nI h * 10 + nI k = nI (h * 10 + k) ∧ 10 * nI h + nI k = nI (h * 10 + k) ∧ vp_in (nI (h * 10 + k)) 40 ∧ (nI (h * 10 + k)).toNatClampNeg = h * 10 + k := by
  have q := ix_ hh (s := nI k) ⟨by rw [na_nI (by omega)]; omega, by rw [na_nI (by omega)]; omega⟩
  rw [nI_clamp (by omega)] at q
  exact ⟨q.1, q.2.1, vp_in_nI (by omega) (by omega), nI_clamp (by omega)⟩
theorem lp_39 {g : ax_G} {K : ax_Po} {E : ax_En} {n : Nat} (h4 : n < 4) (u : Int64) : ∀ (j k : Nat) (r : Int64) (D : ax_Dn), D 19 0 = nI n → k + j = 10 → K (some (.int (nI n + 1 - 1))) (ax_S (ax_up (ax_up D 19 (ax_up (D 19) 0 (nI n + 1))) 20 (ad_ n j k r (D 20))) E) → ax_WP g (ax_hy 39) K 92 92 16 [some (.ref 19), some (.long u), none, some (.long r), none, some (.int (nI k))] [] (ax_S D E) := by
  have e10 : (10 : Int32) = nI 10 := by decide
  intro j
  induction j with
  | zero =>
    intro k r D hn hk h
    have hc : (10 : Int32) ≤ nI k := by rw [e10]; exact nI_le (by omega) (by omega)
    unfold ad_ at h
    refine ax_WPo (l := []) ax_on ax_ok39 (fun t => t == 16) 400 16 rfl ?_
    simp +decide only [↓ax_B, ax_B, ax_kds, ax_gvs, ax_mcs, ax_ia_S, ax_up_ap, ax_vinL, and_self_left, ax_up_up, ax_up_sw, Nat.reduceAdd, Nat.reduceBEq, Nat.reduceLeDiff, Nat.reduceLT, Nat.reduceEqDiff, ↓reduceIte, true_and, and_true, List.cons_append, List.nil_append, Int32.reduceLT, Int32.reduceLE, Int32.reduceAdd, Int32.reduceToNatClampNeg, Int32.reduceOfNat, true_imp_iff, false_imp_iff, not_true_eq_false, not_false_eq_true, or_true, true_or, or_false, false_or, and_self, Bool.or_true, Bool.or_false, Bool.true_or, Bool.false_or, implies_true, forall_const, Bool.false_eq_true, Int32.neg_neg, ax_X39, hn, hc]
    rw [show D 20 = (ax_up D 19 (ax_up (D 19) 0 (nI n + 1))) 20 from (ax_up_n D _ (by decide)).symm, ax_up_id] at h
    exact h
  | succ j ih =>
    intro k r D hn hk h
    have hc : ¬ (10 : Int32) ≤ nI k := by rw [e10]; exact nI_ge (by omega) (by omega)
    have h3 : nI k + 1 = nI (k + 1) := nI_1 k
    obtain ⟨i1, i2, i3, i4⟩ := ix2_ h4 (show k < 10 by omega)
    unfold ad_ at h
    refine ax_WPo (l := []) ax_on ax_ok39 (fun t => t == 16) 400 16 rfl ?_
    simp +decide only [↓ax_B, ax_B, ax_kds, ax_gvs, ax_mcs, ax_ia_S, ax_up_ap, ax_vinL, and_self_left, ax_up_up, ax_up_sw, Nat.reduceAdd, Nat.reduceBEq, Nat.reduceLeDiff, Nat.reduceLT, Nat.reduceEqDiff, ↓reduceIte, true_and, and_true, List.cons_append, List.nil_append, Int32.reduceLT, Int32.reduceLE, Int32.reduceAdd, Int32.reduceToNatClampNeg, Int32.reduceOfNat, true_imp_iff, false_imp_iff, not_true_eq_false, not_false_eq_true, or_true, true_or, or_false, false_or, and_self, Bool.or_true, Bool.or_false, Bool.true_or, Bool.false_or, implies_true, forall_const, Bool.false_eq_true, Int32.neg_neg, ax_X39, hn, hc, h3, i1, i3, i4]
    refine ih (k + 1) _ _ (by rw [ax_up_n D _ (by decide)]; exact hn) (by omega) ?_
    rw [ax_up_n D _ (show 19 ≠ 20 by decide), ax_up_s, ax_up_sw 20 19 D _ _ (show 19 < 20 by decide), ax_up_up]
    exact h
/-- AskewLetters$Hands.add(J)I -/
def cy_39 : ax_P1 := fun as z K => ∃ (p1 : Int64) (D : ax_Dn) (E : ax_En), as = [.ref 19, .long p1] ∧ z = ax_S D E ∧ (vp_in (D 19 0) 4 ∧ K (some (.int (D 19 0 + 1 - 1))) (ax_S (ax_up (ax_up D 19 (ax_up (D 19) 0 (D 19 0 + 1))) 20 (ad_ (D 19 0).toNatClampNeg 10 0 p1 (D 20))) E))
theorem ry_39 (p1 : Int64) (D : ax_Dn) (E : ax_En) (K : ax_Po) : cy_39 [.ref 19, .long p1] (ax_S D E) K = (vp_in (D 19 0) 4 ∧ K (some (.int (D 19 0 + 1 - 1))) (ax_S (ax_up (ax_up D 19 (ax_up (D 19) 0 (D 19 0 + 1))) 20 (ad_ (D 19 0).toNatClampNeg 10 0 p1 (D 20))) E)) := propext ⟨fun ⟨p1', D', E', h1, h2, h3⟩ => by cases h1; obtain ⟨rfl, rfl⟩ := ax_S_inj h2; exact h3, fun h => ⟨p1, D, E, rfl, rfl, h⟩⟩
theorem sy_39 {g : ax_G} : ∀ as z K, cy_39 as z K → ax_MM g 39 as z K := by
  rintro _ _ K ⟨p1, D, E, rfl, rfl, h⟩
  refine ax_go39 _ _ ?_
  obtain ⟨h1, h⟩ := h
  obtain ⟨n, h4, hn⟩ := vp_in_of h1 (by decide)
  rw [hn, nI_clamp (by omega)] at h
  have hlt : nI n < 4 := by rw [show (4 : Int32) = nI 4 by decide, nI_ltI (by omega) (by omega)]; exact h4
  refine ax_WPo (l := []) ax_on ax_ok39 (fun t => t == 16) 400 0 rfl ?_
  simp +decide only [↓ax_B, ax_B, ax_kds, ax_gvs, ax_mcs, ax_ia_S, ax_up_ap, ax_vinL, and_self_left, ax_up_up, ax_up_sw, Nat.reduceAdd, Nat.reduceBEq, Nat.reduceLeDiff, Nat.reduceLT, Nat.reduceEqDiff, ↓reduceIte, true_and, and_true, List.cons_append, List.nil_append, Int32.reduceLT, Int32.reduceLE, Int32.reduceAdd, Int32.reduceToNatClampNeg, Int32.reduceOfNat, true_imp_iff, false_imp_iff, not_true_eq_false, not_false_eq_true, or_true, true_or, or_false, false_or, and_self, Bool.or_true, Bool.or_false, Bool.true_or, Bool.false_or, implies_true, forall_const, Bool.false_eq_true, Int32.neg_neg, ax_X39, hn, hlt]
  exact lp_39 h4 p1 10 0 p1 D hn (by omega) h
theorem lp_185 {g : ax_G} {K : ax_Po} {E : ax_En} {n : Nat} (h4 : n < 4) (u : Int64) : ∀ (j k : Nat) (r : Int64) (D : ax_Dn), D 58 35 = nI n → k + j = 10 → K (some (.int (nI n + 1 - 1))) (ax_S (ax_up (ax_up D 58 (ax_up (D 58) 35 (nI n + 1))) 86 (ad_ n j k r (D 86))) E) → ax_WP g (ax_hy 185) K 92 92 41 [some (.ref 58), some (.long u), none, some (.long r), none, some (.int (nI k))] [] (ax_S D E) := by
  have e10 : (10 : Int32) = nI 10 := by decide
  intro j
  induction j with
  | zero =>
    intro k r D hn hk h
    have hc : (10 : Int32) ≤ nI k := by rw [e10]; exact nI_le (by omega) (by omega)
    unfold ad_ at h
    refine ax_WPo (l := []) ax_on ax_ok185 (fun t => t == 41) 400 41 rfl ?_
    simp +decide only [↓ax_B, ax_B, ax_kds, ax_gvs, ax_mcs, ax_ia_S, ax_up_ap, ax_vinL, and_self_left, ax_up_up, ax_up_sw, Nat.reduceAdd, Nat.reduceBEq, Nat.reduceLeDiff, Nat.reduceLT, Nat.reduceEqDiff, ↓reduceIte, true_and, and_true, List.cons_append, List.nil_append, Int32.reduceLT, Int32.reduceLE, Int32.reduceAdd, Int32.reduceToNatClampNeg, Int32.reduceOfNat, true_imp_iff, false_imp_iff, not_true_eq_false, not_false_eq_true, or_true, true_or, or_false, false_or, and_self, Bool.or_true, Bool.or_false, Bool.true_or, Bool.false_or, implies_true, forall_const, Bool.false_eq_true, Int32.neg_neg, ax_X185, hn, hc]
    rw [show D 86 = (ax_up D 58 (ax_up (D 58) 35 (nI n + 1))) 86 from (ax_up_n D _ (by decide)).symm, ax_up_id] at h
    exact h
  | succ j ih =>
    intro k r D hn hk h
    have hc : ¬ (10 : Int32) ≤ nI k := by rw [e10]; exact nI_ge (by omega) (by omega)
    have h3 : nI k + 1 = nI (k + 1) := nI_1 k
    obtain ⟨i1, i2, i3, i4⟩ := ix2_ h4 (show k < 10 by omega)
    unfold ad_ at h
    refine ax_WPo (l := []) ax_on ax_ok185 (fun t => t == 41) 400 41 rfl ?_
    simp +decide only [↓ax_B, ax_B, ax_kds, ax_gvs, ax_mcs, ax_ia_S, ax_up_ap, ax_vinL, and_self_left, ax_up_up, ax_up_sw, Nat.reduceAdd, Nat.reduceBEq, Nat.reduceLeDiff, Nat.reduceLT, Nat.reduceEqDiff, ↓reduceIte, true_and, and_true, List.cons_append, List.nil_append, Int32.reduceLT, Int32.reduceLE, Int32.reduceAdd, Int32.reduceToNatClampNeg, Int32.reduceOfNat, true_imp_iff, false_imp_iff, not_true_eq_false, not_false_eq_true, or_true, true_or, or_false, false_or, and_self, Bool.or_true, Bool.or_false, Bool.true_or, Bool.false_or, implies_true, forall_const, Bool.false_eq_true, Int32.neg_neg, ax_X185, hn, hc, h3, i2, i3, i4]
    refine ih (k + 1) _ _ (by rw [ax_up_n D _ (by decide)]; exact hn) (by omega) ?_
    rw [ax_up_n D _ (show 58 ≠ 86 by decide), ax_up_s, ax_up_sw 86 58 D _ _ (show 58 < 86 by decide), ax_up_up]
    exact h
/-- AskewLettersModel.hand(J)I -/
def cy_185 : ax_P1 := fun as z K => ∃ (p1 : Int64) (D : ax_Dn) (E : ax_En), as = [.ref 58, .long p1] ∧ z = ax_S D E ∧ (ax_cnt (D 58 35) 4 ∧ (p1 < 0 → K (some (.int (-4))) (ax_S (ax_up D 59 (ax_up (D 59) 4 (D 59 4 + 1))) E)) ∧ (¬ p1 < 0 → (9999999999 < p1 ∨ D 58 35 = 4 → K (some (.int (-6))) (ax_S (ax_up D 59 (ax_up (D 59) 6 (D 59 6 + 1))) E)) ∧ (¬ (9999999999 < p1 ∨ D 58 35 = 4) → K (some (.int (D 58 35 + 1 - 1))) (ax_S (ax_up (ax_up D 58 (ax_up (D 58) 35 (D 58 35 + 1))) 86 (ad_ (D 58 35).toNatClampNeg 10 0 p1 (D 86))) E))))
theorem ry_185 (p1 : Int64) (D : ax_Dn) (E : ax_En) (K : ax_Po) : cy_185 [.ref 58, .long p1] (ax_S D E) K = (ax_cnt (D 58 35) 4 ∧ (p1 < 0 → K (some (.int (-4))) (ax_S (ax_up D 59 (ax_up (D 59) 4 (D 59 4 + 1))) E)) ∧ (¬ p1 < 0 → (9999999999 < p1 ∨ D 58 35 = 4 → K (some (.int (-6))) (ax_S (ax_up D 59 (ax_up (D 59) 6 (D 59 6 + 1))) E)) ∧ (¬ (9999999999 < p1 ∨ D 58 35 = 4) → K (some (.int (D 58 35 + 1 - 1))) (ax_S (ax_up (ax_up D 58 (ax_up (D 58) 35 (D 58 35 + 1))) 86 (ad_ (D 58 35).toNatClampNeg 10 0 p1 (D 86))) E)))) := propext ⟨fun ⟨p1', D', E', h1, h2, h3⟩ => by cases h1; obtain ⟨rfl, rfl⟩ := ax_S_inj h2; exact h3, fun h => ⟨p1, D, E, rfl, rfl, h⟩⟩
theorem sy_185 {g : ax_G} : ∀ as z K, cy_185 as z K → ax_MM g 185 as z K := by
  rintro _ _ K ⟨p1, D, E, rfl, rfl, h⟩
  refine ax_go185 _ _ ?_
  obtain ⟨h1, h2, h⟩ := h
  obtain ⟨n, hn, h4, hc⟩ := ax_cnt_of h1 (by decide)
  rw [hc] at h
  refine ax_WPo (l := [(125, cy_125)]) (ax_oc sy_125 ax_on) ax_ok185 (fun t => t == 41) 400 0 rfl ?_
  simp +decide only [↓ax_B, ax_B, ax_kds, ax_gvs, ax_mcs, ax_ia_S, ax_up_ap, ax_vinL, and_self_left, ax_up_up, ax_up_sw, Nat.reduceAdd, Nat.reduceBEq, Nat.reduceLeDiff, Nat.reduceLT, Nat.reduceEqDiff, ↓reduceIte, true_and, and_true, List.cons_append, List.nil_append, Int32.reduceLT, Int32.reduceLE, Int32.reduceAdd, Int32.reduceToNatClampNeg, Int32.reduceOfNat, true_imp_iff, false_imp_iff, not_true_eq_false, not_false_eq_true, or_true, true_or, or_false, false_or, and_self, Bool.or_true, Bool.or_false, Bool.true_or, Bool.false_or, implies_true, forall_const, Bool.false_eq_true, Int32.neg_neg, ax_X185, ry_125, cm_ge0, cm_gt0]
  have key : 0 ≤ p1 ↔ ¬ p1 < 0 := Int64.not_lt.symm
  refine ⟨fun c => ⟨fun c2 => ?_, fun c2 => ⟨fun c3 => ?_, fun c3 => ?_⟩⟩, fun c => ?_⟩
  · exact (h (key.mp c)).1 (.inl c2)
  · have := (h (key.mp c)).2 (fun q => q.elim c2 c3)
    rw [hn] at this
    refine lp_185 ?_ p1 10 0 p1 D hn (by omega) this
    rcases Nat.lt_or_ge n 4 with q | q
    · exact q
    · exact absurd (by rw [hn, show n = 4 by omega]; decide) c3
  · exact (h (key.mp c)).1 (.inr c3)
  · exact h2 (Classical.not_not.mp (fun q => c (key.mpr q)))
