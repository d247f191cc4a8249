/-! Strokes that are typed, in the model. -/
set_option maxRecDepth 10000 in
theorem lp_190b {g : ax_G} {K : ax_Po} {E : ax_En} {D0 : ax_Dn} (hok : okM D0) (m d : Int32) (h : Nat) (hm : vp_in m 6) (hh : h < 4) (sg sd : Int32) (n : Nat) (hn : n ≤ 10) : ∀ (Q : List Int32) (k N : Nat) (z : Int32) (D : ax_Dn), k + Q.length = n → (∀ i, i < Q.length → D0 87 (k + i) = Q.getD i 0) → (∀ s ∈ Q, ax_cnt s 9) → D 58 32 = nI N → N + Q.length ≤ 30 → (∀ k, (k ≠ 58 ∧ k ≠ 81 ∧ k ≠ 82 ∧ k ≠ 83 ∧ k ≠ 84 ∧ k ≠ 85) → D k = D0 k) → (∀ j, j ≠ 32 → D 58 j = D0 58 j) → K (some (.int ((tz_ (VM D0 m d h) Q z).foldl aM D 58 32))) (ax_S ((tz_ (VM D0 m d h) Q z).foldl aM D) E) → ax_WP g (ax_hy 190) K 92 92 126 [some (.ref 58), some (.int m), some (.int d), some (.int (nI h)), some (.int sg), some (.int sd), some (.int (nI n)), some (.int 0), some (.int z), some (.int (nI k)), none, none] [] (ax_S D E) := by
  have w1 := w21 (hok.2.2.2.2.2.2.2.2.2.2.2.2.2.1)
  have g4 := hok.2.1
  intro Q
  induction Q with
  | nil =>
    intro k N z D hk hQ hs hN h30 hD hD58 hK
    have hc : nI n ≤ nI k := nI_le (by simp at hk; omega) (by simp at hk; omega)
    refine ax_WPo (l := [(125, cy_125), (128, cy_128), (141, cy_141), (142, cy_142), (143, cy_143), (144, cy_144), (152, cy_152)]) (ax_oc sy_125 (ax_oc sy_128 (ax_oc sy_141 (ax_oc sy_142 (ax_oc sy_143 (ax_oc sy_144 (ax_oc sy_152 ax_on))))))) ax_ok190 (fun t => t == 35 || t == 126) 400 126 rfl ?_
    simp +decide only [↓ax_B, ax_B, ax_kds, ax_gvs, ax_mcs, ax_ia_S, ax_up_ap, ax_vinL, and_self_left, ax_up_up, ax_up_sw, Nat.reduceAdd, Nat.reduceBEq, Nat.reduceLeDiff, Nat.reduceLT, Nat.reduceEqDiff, ↓reduceIte, true_and, and_true, List.cons_append, List.nil_append, Int32.reduceLT, Int32.reduceLE, Int32.reduceAdd, Int32.reduceToNatClampNeg, Int32.reduceOfNat, true_imp_iff, false_imp_iff, not_true_eq_false, not_false_eq_true, or_true, true_or, or_false, false_or, and_self, Bool.or_true, Bool.or_false, Bool.true_or, Bool.false_or, implies_true, forall_const, Bool.false_eq_true, Int32.neg_neg, ax_X190, ry_125, ry_128, ry_141, ry_142, ry_143, ry_144, ry_152, hc]
    exact hK
  | cons s Q ih =>
    intro k N z D hk hQ hs hN h30 hD hD58 hK
    rw [List.length_cons] at hk h30
    have hc : ¬ nI n ≤ nI k := nI_ge (by omega) (by omega)
    have h1 : vp_in (nI k) 10 := vp_in_nI (by omega) (by omega)
    have h2 : (nI k).toNatClampNeg = k := nI_clamp (by omega)
    have h3 : nI k + 1 = nI (k + 1) := nI_1 k
    have dg := hs s List.mem_cons_self
    have hs0 := hQ 0 (by simp)
    rw [Nat.add_zero] at hs0
    have hs0 : D 87 k = s := by rw [hD 87 (by decide), hs0]; rfl
    have i1 : vp_in (nI N) 30 := vp_in_nI (by omega) (by omega)
    have s10 : vp_in s 10 := cnt_in dg (by decide)
    obtain ⟨x1, x2, x3⟩ := ix_ hh dg
    have f1 : vp_in (nI (h * 10 + s.toNatClampNeg)) 40 := vp_in_nI (by omega) (by omega)
    have f2 : (nI (h * 10 + s.toNatClampNeg)).toNatClampNeg = h * 10 + s.toNatClampNeg := nI_clamp (by omega)
    have e23 := hD58 23 (by decide)
    have e68 := hD 68 (by decide)
    have e69 := hD 69 (by decide)
    have e70 := hD 70 (by decide)
    have e71 := hD 71 (by decide)
    have e72 := hD 72 (by decide)
    have e73 := hD 73 (by decide)
    have e74 := hD 74 (by decide)
    have e75 := hD 75 (by decide)
    have e76 := hD 76 (by decide)
    have e86 := hD 86 (by decide)
    unfold tz_ at hK
    rw [List.foldl_cons] at hK
    have hnx := ih (k + 1) (N + 1) (z * 1664525 + 1013904223) (aM D (VM D0 m d h s (z * 1664525 + 1013904223))) (by omega) (fun i hi => by have := hQ (i + 1) (by rw [List.length_cons]; omega); rw [show k + 1 + i = k + (i + 1) by omega, this]; rfl) (fun q hq => hs q (List.mem_cons_of_mem _ hq)) (by rw [aM_32, hN, nI_1]) (by omega) (fun k hk => by rw [aM_n _ _ hk, hD k hk]) (fun j hj => by rw [aM_58 _ _ hj, hD58 j hj]) hK
    unfold aM VM sv_ dw_ dr_ at hnx
    rw [hN] at hnx
    have W : ∀ {x v a b : Int32} {Z : ax_St}, ax_WP g (ax_hy 190) K 92 92 126 [some (.ref 58), some (.int m), some (.int d), some (.int (nI h)), some (.int sg), some (.int sd), some (.int (nI n)), some (.int 0), some (.int x), some (.int v), none, none] [] Z → ax_WP g (ax_hy 190) K 92 92 126 [some (.ref 58), some (.int m), some (.int d), some (.int (nI h)), some (.int sg), some (.int sd), some (.int (nI n)), some (.int 0), some (.int x), some (.int v), some (.int a), some (.int b)] [] Z := fun q => ax_WP_w (by simp only [ax_le, and_self]) q
    refine ax_WPo (l := [(125, cy_125), (128, cy_128), (141, cy_141), (142, cy_142), (143, cy_143), (144, cy_144), (152, cy_152)]) (ax_oc sy_125 (ax_oc sy_128 (ax_oc sy_141 (ax_oc sy_142 (ax_oc sy_143 (ax_oc sy_144 (ax_oc sy_152 ax_on))))))) ax_ok190 (fun t => t == 35 || t == 126) 400 126 rfl ?_
    simp +decide only [↓ax_B, ax_B, ax_kds, ax_gvs, ax_mcs, ax_ia_S, ax_up_ap, ax_vinL, and_self_left, ax_up_up, ax_up_sw, Nat.reduceAdd, Nat.reduceBEq, Nat.reduceLeDiff, Nat.reduceLT, Nat.reduceEqDiff, ↓reduceIte, true_and, and_true, List.cons_append, List.nil_append, Int32.reduceLT, Int32.reduceLE, Int32.reduceAdd, Int32.reduceToNatClampNeg, Int32.reduceOfNat, true_imp_iff, false_imp_iff, not_true_eq_false, not_false_eq_true, or_true, true_or, or_false, false_or, and_self, Bool.or_true, Bool.or_false, Bool.true_or, Bool.false_or, implies_true, forall_const, Bool.false_eq_true, Int32.neg_neg, ax_X190, ry_125, ry_128, ry_141, ry_142, ry_143, ry_144, ry_152, hc, h1, h2, h3, hs0, hN, i1, s10, x2, f1, f2, e23, e68, e69, e70, e71, e72, e73, e74, e75, e76, e86, g4, w1.2, hm]
    refine ⟨fun c1 => ⟨fun c2 => ?_, fun c2 => ?_⟩, fun c1 => ?_⟩
    · rw [hd9_mid c1 c2] at hnx
      exact W hnx
    · rw [hd9_hi c2] at hnx
      exact W hnx
    · rw [hd9_lo c1] at hnx
      exact W hnx
theorem dl_cnt : ∀ (j : Nat) (r : Int32), ∀ s ∈ dl_ j r, ax_cnt s 9 := by
  intro j
  induction j with
  | zero => intro r s hs; cases hs
  | succ j ih =>
    intro r s hs
    unfold dl_ at hs
    split at hs
    · rename_i c
      have hr : 0 ≤ r.toInt := by have := na_lt.mp c; have e : (0 : Int32).toInt = 0 := rfl; omega
      rcases List.mem_cons.mp hs with rfl | hs
      · exact (dgI hr).1
      · exact ih _ s hs
    · cases hs
theorem lp_190a {g : ax_G} {K : ax_Po} {E : ax_En} {D0 : ax_Dn} (hok : okM D0) (m d : Int32) (h : Nat) (hm : vp_in m 6) (hh : h < 4) (sg sd : Int32) (L : List Int32) (hL : L = dl_ 10 sg)
    (hx : ∀ D', (∀ k, k ≠ 87 → D' k = D0 k) → (d < 0 → K (some (.int (-4))) (ax_S (ax_up D' 59 (ax_up (D' 59) 4 (D' 59 4 + 1))) E)) ∧ (¬d < 0 → (1 ≤ sg → (365 < d → K (some (.int (-6))) (ax_S (ax_up D' 59 (ax_up (D' 59) 6 (D' 59 6 + 1))) E)) ∧ (¬365 < d → (D' 58 32 + nI L.length ≤ 30 → K (some (.int ((tz_ (VM D' m d h) L sd).foldl aM D' 58 32))) (ax_S ((tz_ (VM D' m d h) L sd).foldl aM D') E)) ∧ (¬D' 58 32 + nI L.length ≤ 30 → K (some (.int (-6))) (ax_S (ax_up D' 59 (ax_up (D' 59) 6 (D' 59 6 + 1))) E)))) ∧ (¬1 ≤ sg → K (some (.int (-4))) (ax_S (ax_up D' 59 (ax_up (D' 59) 4 (D' 59 4 + 1))) E)))) :
    ∀ (j k : Nat) (r : Int32) (P : List Int32) (D : ax_Dn), k + j = 10 → r.toInt < (10 : Int) ^ j → P.length = k → P ++ dl_ j r = L → (∀ i, i < k → D 87 i = P.getD i 0) → (∀ k, k ≠ 87 → D k = D0 k) → ax_WP g (ax_hy 190) K 92 92 35 [some (.ref 58), some (.int m), some (.int d), some (.int (nI h)), some (.int sg), some (.int sd), some (.int (nI k)), some (.int r), none, none, none, none] [] (ax_S D E) := by
  have e30 : (30 : Int32) = nI 30 := by decide
  have e0 : (0 : Int32).toInt = 0 := rfl
  intro j
  induction j with
  | zero =>
    intro k r P D hk hr hP hPL hd hD
    have cr : r ≤ 0 := na_le.mpr (by rw [e0]; simp at hr; omega)
    have hPe : P = L := by rw [← hPL]; unfold dl_; rw [List.append_nil]
    have hkl : L.length = k := by rw [← hPe]; exact hP
    have e32 : D 58 = D0 58 := hD 58 (by decide)
    have hx := hx D hD
    refine ax_WPo (l := [(125, cy_125), (128, cy_128), (141, cy_141), (142, cy_142), (143, cy_143), (144, cy_144), (152, cy_152)]) (ax_oc sy_125 (ax_oc sy_128 (ax_oc sy_141 (ax_oc sy_142 (ax_oc sy_143 (ax_oc sy_144 (ax_oc sy_152 ax_on))))))) ax_ok190 (fun t => t == 35 || t == 126) 400 35 rfl ?_
    simp +decide only [↓ax_B, ax_B, ax_kds, ax_gvs, ax_mcs, ax_ia_S, ax_up_ap, ax_vinL, and_self_left, ax_up_up, ax_up_sw, Nat.reduceAdd, Nat.reduceBEq, Nat.reduceLeDiff, Nat.reduceLT, Nat.reduceEqDiff, ↓reduceIte, true_and, and_true, List.cons_append, List.nil_append, Int32.reduceLT, Int32.reduceLE, Int32.reduceAdd, Int32.reduceToNatClampNeg, Int32.reduceOfNat, true_imp_iff, false_imp_iff, not_true_eq_false, not_false_eq_true, or_true, true_or, or_false, false_or, and_self, Bool.or_true, Bool.or_false, Bool.true_or, Bool.false_or, implies_true, forall_const, Bool.false_eq_true, Int32.neg_neg, ax_X190, ry_125, ry_128, ry_141, ry_142, ry_143, ry_144, ry_152, cr]
    obtain ⟨x1, x2⟩ := hx
    refine ⟨x1, fun c => ?_⟩
    obtain ⟨x3, x4⟩ := x2 c
    refine ⟨fun c2 => ?_, x4⟩
    obtain ⟨x5, x6⟩ := x3 c2
    refine ⟨x5, fun c3 => ?_⟩
    obtain ⟨x7, x8⟩ := x6 c3
    rw [hkl] at x7 x8
    refine ⟨fun c4 => ?_, x8⟩
    obtain ⟨S, hS, h30, hc⟩ := ax_cnt_of hok.2.2.1 (by decide)
    have hokD : okM D := by
      rw [show D = ax_up D0 87 (D 87) by
        funext a
        by_cases q : a = 87
        · subst q; rw [ax_up_s]
        · rw [ax_up_n _ _ q]; exact hD a q]
      rw [okM_up D0 87 (D 87) (by decide)]
      exact hok
    have c4' := c4
    rw [e32, hS, nI_add, e30, nI_leI (by omega) (by omega)] at c4'
    exact lp_190b hokD m d h hm hh sg sd k (by omega) L 0 S sd D (by omega) (fun i hi => by rw [Nat.zero_add, hd i (by omega), hPe]) (by rw [hL]; exact dl_cnt 10 sg) (by rw [e32]; exact hS) (by omega) (fun _ _ => rfl) (fun _ _ => rfl) (x7 c4)
  | succ j ih =>
    intro k r P D hk hr hP hPL hd hD
    by_cases c : 0 < r
    · have cr : ¬ r ≤ 0 := Int32.not_le.mpr c
      have h1 : vp_in (nI k) 10 := vp_in_nI (by omega) (by omega)
      have h2 : (nI k).toNatClampNeg = k := nI_clamp (by omega)
      have h3 : nI k + 1 = nI (k + 1) := nI_1 k
      have hr0 : 0 ≤ r.toInt := by have := na_lt.mp c; omega
      obtain ⟨dg1, dg2⟩ := dgI hr0
      unfold dl_ at hPL
      rw [if_pos c] at hPL
      refine ax_WPo (l := [(125, cy_125), (128, cy_128), (141, cy_141), (142, cy_142), (143, cy_143), (144, cy_144), (152, cy_152)]) (ax_oc sy_125 (ax_oc sy_128 (ax_oc sy_141 (ax_oc sy_142 (ax_oc sy_143 (ax_oc sy_144 (ax_oc sy_152 ax_on))))))) ax_ok190 (fun t => t == 35 || t == 126) 400 35 rfl ?_
      simp +decide only [↓ax_B, ax_B, ax_kds, ax_gvs, ax_mcs, ax_ia_S, ax_up_ap, ax_vinL, and_self_left, ax_up_up, ax_up_sw, Nat.reduceAdd, Nat.reduceBEq, Nat.reduceLeDiff, Nat.reduceLT, Nat.reduceEqDiff, ↓reduceIte, true_and, and_true, List.cons_append, List.nil_append, Int32.reduceLT, Int32.reduceLE, Int32.reduceAdd, Int32.reduceToNatClampNeg, Int32.reduceOfNat, true_imp_iff, false_imp_iff, not_true_eq_false, not_false_eq_true, or_true, true_or, or_false, false_or, and_self, Bool.or_true, Bool.or_false, Bool.true_or, Bool.false_or, implies_true, forall_const, Bool.false_eq_true, Int32.neg_neg, ax_X190, ry_125, ry_128, ry_141, ry_142, ry_143, ry_144, ry_152, cr, h1, h2, h3]
      refine ih (k + 1) (r / 10) (P ++ [r - r / 10 * 10]) _ (by omega) ?_ (by simp [hP]) (by rw [List.append_assoc]; exact hPL) (fun i hi => ?_) (fun a ha => ?_)
      · rw [dg2]
        rw [Int.pow_succ] at hr
        omega
      · rw [ax_up_s]
        by_cases q : i = k
        · subst q
          rw [ax_up_s, List.getD_eq_getElem?_getD, List.getElem?_append_right (by omega), hP, Nat.sub_self]
          rfl
        · rw [ax_up_n _ _ q, hd i (by omega), List.getD_eq_getElem?_getD, List.getD_eq_getElem?_getD, List.getElem?_append_left (by omega)]
      · rw [ax_up_n _ _ ha]; exact hD a ha
    · have cr : r ≤ 0 := Int32.not_lt.mp c
      have hz : dl_ (j + 1) r = [] := by unfold dl_; rw [if_neg c]
      have hPe : P = L := by rw [← hPL, hz, List.append_nil]
      have hkl : L.length = k := by rw [← hPe]; exact hP
      have e32 : D 58 = D0 58 := hD 58 (by decide)
      have hx := hx D hD
      refine ax_WPo (l := [(125, cy_125), (128, cy_128), (141, cy_141), (142, cy_142), (143, cy_143), (144, cy_144), (152, cy_152)]) (ax_oc sy_125 (ax_oc sy_128 (ax_oc sy_141 (ax_oc sy_142 (ax_oc sy_143 (ax_oc sy_144 (ax_oc sy_152 ax_on))))))) ax_ok190 (fun t => t == 35 || t == 126) 400 35 rfl ?_
      simp +decide only [↓ax_B, ax_B, ax_kds, ax_gvs, ax_mcs, ax_ia_S, ax_up_ap, ax_vinL, and_self_left, ax_up_up, ax_up_sw, Nat.reduceAdd, Nat.reduceBEq, Nat.reduceLeDiff, Nat.reduceLT, Nat.reduceEqDiff, ↓reduceIte, true_and, and_true, List.cons_append, List.nil_append, Int32.reduceLT, Int32.reduceLE, Int32.reduceAdd, Int32.reduceToNatClampNeg, Int32.reduceOfNat, true_imp_iff, false_imp_iff, not_true_eq_false, not_false_eq_true, or_true, true_or, or_false, false_or, and_self, Bool.or_true, Bool.or_false, Bool.true_or, Bool.false_or, implies_true, forall_const, Bool.false_eq_true, Int32.neg_neg, ax_X190, ry_125, ry_128, ry_141, ry_142, ry_143, ry_144, ry_152, cr]
      obtain ⟨x1, x2⟩ := hx
      refine ⟨x1, fun c => ?_⟩
      obtain ⟨x3, x4⟩ := x2 c
      refine ⟨fun c2 => ?_, x4⟩
      obtain ⟨x5, x6⟩ := x3 c2
      refine ⟨x5, fun c3 => ?_⟩
      obtain ⟨x7, x8⟩ := x6 c3
      rw [hkl] at x7 x8
      refine ⟨fun c4 => ?_, x8⟩
      obtain ⟨S, hS, h30, hc⟩ := ax_cnt_of hok.2.2.1 (by decide)
      have hokD : okM D := by
        rw [show D = ax_up D0 87 (D 87) by
          funext a
          by_cases q : a = 87
          · subst q; rw [ax_up_s]
          · rw [ax_up_n _ _ q]; exact hD a q]
        rw [okM_up D0 87 (D 87) (by decide)]
        exact hok
      have c4' := c4
      rw [e32, hS, nI_add, e30, nI_leI (by omega) (by omega)] at c4'
      exact lp_190b hokD m d h hm hh sg sd k (by omega) L 0 S sd D (by omega) (fun i hi => by rw [Nat.zero_add, hd i (by omega), hPe]) (by rw [hL]; exact dl_cnt 10 sg) (by rw [e32]; exact hS) (by omega) (fun _ _ => rfl) (fun _ _ => rfl) (x7 c4)
/-- AskewLettersModel.type(IIIII)I -/
def cy_190 : ax_P1 := fun as z K => ∃ (p1 : Int32) (p2 : Int32) (p3 : Int32) (p4 : Int32) (p5 : Int32) (D : ax_Dn) (E : ax_En), as = [.ref 58, .int p1, .int p2, .int p3, .int p4, .int p5] ∧ z = ax_S D E ∧ ((p1 < 0 → K (some (.int (-1))) (ax_S (ax_up D 59 (ax_up (D 59) 1 (D 59 1 + 1))) E)) ∧ (¬p1 < 0 → (D 58 22 ≤ p1 → K (some (.int (-1))) (ax_S (ax_up D 59 (ax_up (D 59) 1 (D 59 1 + 1))) E)) ∧ (¬D 58 22 ≤ p1 → (p3 < 0 → K (some (.int (-1))) (ax_S (ax_up D 59 (ax_up (D 59) 1 (D 59 1 + 1))) E)) ∧ (¬p3 < 0 → (D 58 35 - 1 < p3 → K (some (.int (-1))) (ax_S (ax_up D 59 (ax_up (D 59) 1 (D 59 1 + 1))) E)) ∧ (¬D 58 35 - 1 < p3 → okM D ∧ vp_in p1 6 ∧ vp_in p3 4 ∧ ∀ D', (∀ k, k ≠ 87 → D' k = D k) → (p2 < 0 → K (some (.int (-4))) (ax_S (ax_up D' 59 (ax_up (D' 59) 4 (D' 59 4 + 1))) E)) ∧ (¬p2 < 0 → (1 ≤ p4 → (365 < p2 → K (some (.int (-6))) (ax_S (ax_up D' 59 (ax_up (D' 59) 6 (D' 59 6 + 1))) E)) ∧ (¬365 < p2 → (D' 58 32 + nI (dl_ 10 p4).length ≤ 30 → K (some (.int ((tz_ (VM D' p1 p2 p3.toNatClampNeg) (dl_ 10 p4) p5).foldl aM D' 58 32))) (ax_S ((tz_ (VM D' p1 p2 p3.toNatClampNeg) (dl_ 10 p4) p5).foldl aM D') E)) ∧ (¬D' 58 32 + nI (dl_ 10 p4).length ≤ 30 → K (some (.int (-6))) (ax_S (ax_up D' 59 (ax_up (D' 59) 6 (D' 59 6 + 1))) E)))) ∧ (¬1 ≤ p4 → K (some (.int (-4))) (ax_S (ax_up D' 59 (ax_up (D' 59) 4 (D' 59 4 + 1))) E))))))))
theorem ry_190 (p1 : Int32) (p2 : Int32) (p3 : Int32) (p4 : Int32) (p5 : Int32) (D : ax_Dn) (E : ax_En) (K : ax_Po) : cy_190 [.ref 58, .int p1, .int p2, .int p3, .int p4, .int p5] (ax_S D E) K = ((p1 < 0 → K (some (.int (-1))) (ax_S (ax_up D 59 (ax_up (D 59) 1 (D 59 1 + 1))) E)) ∧ (¬p1 < 0 → (D 58 22 ≤ p1 → K (some (.int (-1))) (ax_S (ax_up D 59 (ax_up (D 59) 1 (D 59 1 + 1))) E)) ∧ (¬D 58 22 ≤ p1 → (p3 < 0 → K (some (.int (-1))) (ax_S (ax_up D 59 (ax_up (D 59) 1 (D 59 1 + 1))) E)) ∧ (¬p3 < 0 → (D 58 35 - 1 < p3 → K (some (.int (-1))) (ax_S (ax_up D 59 (ax_up (D 59) 1 (D 59 1 + 1))) E)) ∧ (¬D 58 35 - 1 < p3 → okM D ∧ vp_in p1 6 ∧ vp_in p3 4 ∧ ∀ D', (∀ k, k ≠ 87 → D' k = D k) → (p2 < 0 → K (some (.int (-4))) (ax_S (ax_up D' 59 (ax_up (D' 59) 4 (D' 59 4 + 1))) E)) ∧ (¬p2 < 0 → (1 ≤ p4 → (365 < p2 → K (some (.int (-6))) (ax_S (ax_up D' 59 (ax_up (D' 59) 6 (D' 59 6 + 1))) E)) ∧ (¬365 < p2 → (D' 58 32 + nI (dl_ 10 p4).length ≤ 30 → K (some (.int ((tz_ (VM D' p1 p2 p3.toNatClampNeg) (dl_ 10 p4) p5).foldl aM D' 58 32))) (ax_S ((tz_ (VM D' p1 p2 p3.toNatClampNeg) (dl_ 10 p4) p5).foldl aM D') E)) ∧ (¬D' 58 32 + nI (dl_ 10 p4).length ≤ 30 → K (some (.int (-6))) (ax_S (ax_up D' 59 (ax_up (D' 59) 6 (D' 59 6 + 1))) E)))) ∧ (¬1 ≤ p4 → K (some (.int (-4))) (ax_S (ax_up D' 59 (ax_up (D' 59) 4 (D' 59 4 + 1))) E)))))))) := propext ⟨fun ⟨p1', p2', p3', p4', p5', D', E', h1, h2, h3⟩ => by cases h1; obtain ⟨rfl, rfl⟩ := ax_S_inj h2; exact h3, fun h => ⟨p1, p2, p3, p4, p5, D, E, rfl, rfl, h⟩⟩
theorem sy_190 {g : ax_G} : ∀ as z K, cy_190 as z K → ax_MM g 190 as z K := by
  rintro _ _ K ⟨p1, p2, p3, p4, p5, D, E, rfl, rfl, h⟩
  refine ax_go190 _ _ _ _ _ _ ?_
  refine ax_WPo (l := [(125, cy_125), (128, cy_128), (141, cy_141), (142, cy_142), (143, cy_143), (144, cy_144), (152, cy_152)]) (ax_oc sy_125 (ax_oc sy_128 (ax_oc sy_141 (ax_oc sy_142 (ax_oc sy_143 (ax_oc sy_144 (ax_oc sy_152 ax_on))))))) ax_ok190 (fun t => t == 35 || t == 126) 400 0 rfl ?_
  simp +decide only [↓ax_B, ax_B, ax_kds, ax_gvs, ax_mcs, ax_ia_S, ax_up_ap, ax_vinL, and_self_left, ax_up_up, ax_up_sw, Nat.reduceAdd, Nat.reduceBEq, Nat.reduceLeDiff, Nat.reduceLT, Nat.reduceEqDiff, ↓reduceIte, true_and, and_true, List.cons_append, List.nil_append, Int32.reduceLT, Int32.reduceLE, Int32.reduceAdd, Int32.reduceToNatClampNeg, Int32.reduceOfNat, true_imp_iff, false_imp_iff, not_true_eq_false, not_false_eq_true, or_true, true_or, or_false, false_or, and_self, Bool.or_true, Bool.or_false, Bool.true_or, Bool.false_or, implies_true, forall_const, Bool.false_eq_true, Int32.neg_neg, ax_X190, ry_125, ry_128, ry_141, ry_142, ry_143, ry_144, ry_152]
  refine ⟨h.1, fun c => ⟨(h.2 c).1, fun c2 => ?_⟩⟩
  have h := (h.2 c).2 c2
  refine ⟨h.1, fun c3 => ⟨(h.2 c3).1, fun c4 => ?_⟩⟩
  obtain ⟨hok, hm, h3, hx⟩ := (h.2 c3).2 c4
  obtain ⟨i, hi, rfl⟩ := vp_in_of h3 (by decide)
  rw [nI_clamp (by omega)] at hx
  have hp := na_hi p4
  exact lp_190a hok p1 p2 i hm hi p4 p5 _ rfl hx 10 0 p4 [] D rfl (by show p4.toInt < 10000000000; omega) rfl rfl (fun i hi => absurd hi (Nat.not_lt_zero _)) (fun _ _ => rfl)
