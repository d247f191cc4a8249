/-! Strokes that are typed. -/
abbrev ty5 : Type := Int32 × Int32 × Int32 × Int32 × Int32
def aC (D : ax_Dn) (t : ty5) : ax_Dn := ax_up (ax_up (ax_up (ax_up (ax_up (ax_up D 12 (ax_up (D 12) 0 (D 12 0 + 1))) 13 (ax_up (D 13) (D 12 0).toNatClampNeg t.1)) 14 (ax_up (D 14) (D 12 0).toNatClampNeg t.2.1)) 15 (ax_up (D 15) (D 12 0).toNatClampNeg t.2.2.1)) 16 (ax_up (D 16) (D 12 0).toNatClampNeg t.2.2.2.1)) 17 (ax_up (D 17) (D 12 0).toNatClampNeg t.2.2.2.2)
def aM (D : ax_Dn) (t : ty5) : ax_Dn := ax_up (ax_up (ax_up (ax_up (ax_up (ax_up D 58 (ax_up (D 58) 32 (D 58 32 + 1))) 81 (ax_up (D 81) (D 58 32).toNatClampNeg t.1)) 82 (ax_up (D 82) (D 58 32).toNatClampNeg t.2.1)) 83 (ax_up (D 83) (D 58 32).toNatClampNeg t.2.2.1)) 84 (ax_up (D 84) (D 58 32).toNatClampNeg t.2.2.2.1)) 85 (ax_up (D 85) (D 58 32).toNatClampNeg t.2.2.2.2)
theorem aC_n (D : ax_Dn) (t : ty5) {k : Nat} (h : k ≠ 12 ∧ k ≠ 13 ∧ k ≠ 14 ∧ k ≠ 15 ∧ k ≠ 16 ∧ k ≠ 17) : aC D t k = D k := by
  unfold aC
  rw [ax_up_n _ _ h.2.2.2.2.2, ax_up_n _ _ h.2.2.2.2.1, ax_up_n _ _ h.2.2.2.1, ax_up_n _ _ h.2.2.1, ax_up_n _ _ h.2.1, ax_up_n _ _ h.1]
theorem aC_12 (D : ax_Dn) (t : ty5) : aC D t 12 0 = D 12 0 + 1 := by
  unfold aC
  simp only [ax_up_ap, Nat.reduceEqDiff, ↓reduceIte]
theorem aM_n (D : ax_Dn) (t : ty5) {k : Nat} (h : k ≠ 58 ∧ k ≠ 81 ∧ k ≠ 82 ∧ k ≠ 83 ∧ k ≠ 84 ∧ k ≠ 85) : aM D t k = D k := by
  unfold aM
  rw [ax_up_n _ _ h.2.2.2.2.2, ax_up_n _ _ h.2.2.2.2.1, ax_up_n _ _ h.2.2.2.1, ax_up_n _ _ h.2.2.1, ax_up_n _ _ h.2.1, ax_up_n _ _ h.1]
theorem aM_32 (D : ax_Dn) (t : ty5) : aM D t 58 32 = D 58 32 + 1 := by
  unfold aM
  simp only [ax_up_ap, Nat.reduceEqDiff, ↓reduceIte]
theorem aM_58 (D : ax_Dn) (t : ty5) {j : Nat} (h : j ≠ 32) : aM D t 58 j = D 58 j := by
  unfold aM
  simp only [ax_up_ap, Nat.reduceEqDiff, ↓reduceIte, h]
def dw_ (z w : Int32) : Int32 := (z &&& 2147483647) / 256 - (z &&& 2147483647) / 256 / (2 * w + 1) * (2 * w + 1)
def sv_ (lf nf df : Int32 → Int32 → Int32 → Int32) (w : Int32) (hf : Nat → Int32) (m d : Int32) (h : Nat) (s z : Int32) : ty5 := (s, hd9 (lf m s d + dw_ z w - w), nf m s d, df m s d, hf (h * 10 + s.toNatClampNeg))
def dl_ : Nat → Int32 → List Int32
  | 0, _ => []
  | j + 1, r => if 0 < r then (r - r / 10 * 10) :: dl_ j (r / 10) else []
def tz_ (V : Int32 → Int32 → ty5) : List Int32 → Int32 → List ty5
  | [], _ => []
  | s :: l, z => V s (z * 1664525 + 1013904223) :: tz_ V l (z * 1664525 + 1013904223)
theorem tz_len (V : Int32 → Int32 → ty5) : ∀ (l : List Int32) (z : Int32), (tz_ V l z).length = l.length := by
  intro l
  induction l with
  | nil => intro z; rfl
  | cons a l ih => intro z; unfold tz_; rw [List.length_cons, List.length_cons, ih]
theorem dl_len : ∀ (j : Nat) (r : Int32), (dl_ j r).length ≤ j := by
  intro j
  induction j with
  | zero => intro r; exact Nat.le_refl _
  | succ j ih =>
    intro r
    unfold dl_
    split
    · have := ih (r / 10)
      rw [List.length_cons]
      omega
    · exact Nat.zero_le _
/-- the last digit of an int -/
theorem dgI {r : Int32} (h : 0 ≤ r.toInt) : ax_cnt (r - r / 10 * 10) 9 ∧ (r / 10).toInt = r.toInt / 10 := by
  have hh := na_hi r
  have e10 : (10 : Int32).toInt = 10 := rfl
  have hd : (r / 10).toInt = r.toInt / 10 := by
    rw [Int32.toInt_div_of_ne_right r 10 (by decide), e10, Int.tdiv_eq_ediv_of_nonneg h]
  have hm : (r / 10 * 10).toInt = r.toInt / 10 * 10 := by
    rw [na_mul (by rw [hd, e10]; omega) (by rw [hd, e10]; omega), hd, e10]
  have hs : (r - r / 10 * 10).toInt = r.toInt - r.toInt / 10 * 10 := by
    rw [na_sub (by rw [hm]; omega) (by rw [hm]; omega), hm]
  refine ⟨?_, hd⟩
  unfold ax_cnt
  rw [hs]
  omega
theorem lp_121 {g : ax_G} {K : ax_Po} {D : ax_Dn} {E : ax_En} (p : Int32) : ∀ (j k : Nat) (r : Int32), k + j = 10 → K (some (.int (nI (k + (dl_ j r).length)))) (ax_S D E) → ax_WP g (ax_hy 121) K 92 92 4 [some (.int p), some (.int (nI k)), some (.int r)] [] (ax_S D E) := by
  have e10 : (10 : Int32) = nI 10 := by decide
  intro j
  induction j with
  | zero =>
    intro k r hk h
    have hc : (10 : Int32) ≤ nI k := by rw [e10]; exact nI_le (by omega) (by omega)
    refine ax_WPo (l := []) ax_on ax_ok121 (fun t => t == 4) 400 4 rfl ?_
    simp +decide only [↓ax_B, ax_B, ax_kds, ax_gvs, ax_mcs, ax_ia_S, ax_up_ap, ax_vinL, and_self_left, ax_up_up, ax_up_sw, Nat.reduceAdd, Nat.reduceBEq, Nat.reduceLeDiff, Nat.reduceLT, Nat.reduceEqDiff, ↓reduceIte, true_and, and_true, List.cons_append, List.nil_append, Int32.reduceLT, Int32.reduceLE, Int32.reduceAdd, Int32.reduceToNatClampNeg, Int32.reduceOfNat, true_imp_iff, false_imp_iff, not_true_eq_false, not_false_eq_true, or_true, true_or, or_false, false_or, and_self, Bool.or_true, Bool.or_false, Bool.true_or, Bool.false_or, implies_true, forall_const, Bool.false_eq_true, Int32.neg_neg, ax_X121, hc]
    exact h
  | succ j ih =>
    intro k r hk h
    have hc : ¬ (10 : Int32) ≤ nI k := by rw [e10]; exact nI_ge (by omega) (by omega)
    have h3 : nI k + 1 = nI (k + 1) := nI_1 k
    unfold dl_ at h
    refine ax_WPo (l := []) ax_on ax_ok121 (fun t => t == 4) 400 4 rfl ?_
    simp +decide only [↓ax_B, ax_B, ax_kds, ax_gvs, ax_mcs, ax_ia_S, ax_up_ap, ax_vinL, and_self_left, ax_up_up, ax_up_sw, Nat.reduceAdd, Nat.reduceBEq, Nat.reduceLeDiff, Nat.reduceLT, Nat.reduceEqDiff, ↓reduceIte, true_and, and_true, List.cons_append, List.nil_append, Int32.reduceLT, Int32.reduceLE, Int32.reduceAdd, Int32.reduceToNatClampNeg, Int32.reduceOfNat, true_imp_iff, false_imp_iff, not_true_eq_false, not_false_eq_true, or_true, true_or, or_false, false_or, and_self, Bool.or_true, Bool.or_false, Bool.true_or, Bool.false_or, implies_true, forall_const, Bool.false_eq_true, Int32.neg_neg, ax_X121, hc, h3]
    refine ⟨fun c => ?_, fun c => ?_⟩
    · rw [if_neg (Int32.not_lt.mpr c)] at h
      exact h
    · rw [if_pos (Int32.not_le.mp c), List.length_cons] at h
      refine ih (k + 1) _ (by omega) ?_
      rw [show k + 1 + (dl_ j (r / 10)).length = k + ((dl_ j (r / 10)).length + 1) by omega]
      exact h
/-- AskewLetters.digitsOf(I)I -/
def cy_121 : ax_P1 := fun as z K => ∃ (p1 : Int32) (D : ax_Dn) (E : ax_En), as = [.int p1] ∧ z = ax_S D E ∧ (K (some (.int (nI (dl_ 10 p1).length))) (ax_S D E))
theorem ry_121 (p1 : Int32) (D : ax_Dn) (E : ax_En) (K : ax_Po) : cy_121 [.int p1] (ax_S D E) K = (K (some (.int (nI (dl_ 10 p1).length))) (ax_S D E)) := propext ⟨fun ⟨p1', D', E', h1, h2, h3⟩ => by cases h1; obtain ⟨rfl, rfl⟩ := ax_S_inj h2; exact h3, fun h => ⟨p1, D, E, rfl, rfl, h⟩⟩
theorem sy_121 {g : ax_G} : ∀ as z K, cy_121 as z K → ax_MM g 121 as z K := by
  rintro _ _ K ⟨p1, D, E, rfl, rfl, h⟩
  refine ax_go121 _ ?_
  refine ax_WPo (l := []) ax_on ax_ok121 (fun t => t == 4) 400 0 rfl ?_
  simp +decide only [↓ax_B, ax_B, ax_kds, ax_gvs, ax_mcs, ax_ia_S, ax_up_ap, ax_vinL, and_self_left, ax_up_up, ax_up_sw, Nat.reduceAdd, Nat.reduceBEq, Nat.reduceLeDiff, Nat.reduceLT, Nat.reduceEqDiff, ↓reduceIte, true_and, and_true, List.cons_append, List.nil_append, Int32.reduceLT, Int32.reduceLE, Int32.reduceAdd, Int32.reduceToNatClampNeg, Int32.reduceOfNat, true_imp_iff, false_imp_iff, not_true_eq_false, not_false_eq_true, or_true, true_or, or_false, false_or, and_self, Bool.or_true, Bool.or_false, Bool.true_or, Bool.false_or, implies_true, forall_const, Bool.false_eq_true, Int32.neg_neg, ax_X121]
  exact lp_121 p1 10 0 p1 rfl (by rw [Nat.zero_add]; exact h)
def VC (D : ax_Dn) (m d : Int32) (h : Nat) : Int32 → Int32 → ty5 := sv_ (lC_ (D 5) (D 7) (D 8) (D 9) (D 10) (D 11) (D 2 5).toNatClampNeg) (nC_ (D 7) (D 8) (D 9) (D 10) (D 11) (D 2 5).toNatClampNeg) (dr_ (D 4) (D 6)) (D 21 3) (D 20) m d h
def VM (D : ax_Dn) (m d : Int32) (h : Nat) : Int32 → Int32 → ty5 := sv_ (lM_ (D 69) (D 71) (D 72) (D 73) (D 74) (D 75) (D 58 23).toNatClampNeg) (nM_ (D 71) (D 72) (D 73) (D 74) (D 75) (D 58 23).toNatClampNeg) (dr_ (D 68) (D 70)) (D 76 3) (D 86) m d h
theorem w21 {w : Int32} (h : rg_ w 0 3) : 1 ≤ 2 * w + 1 ∧ ¬ 2 * w + 1 = 0 := by
  obtain ⟨h1, h2⟩ := h
  have e2 : (2 : Int32).toInt = 2 := rfl
  have a1 : (2 * w).toInt = 2 * w.toInt := by rw [na_mul (by rw [e2]; omega) (by rw [e2]; omega), e2]
  have a2 : (2 * w + 1).toInt = 2 * w.toInt + 1 := by rw [na_add (by rw [a1, na_k1]; omega) (by rw [a1, na_k1]; omega), a1, na_k1]
  refine ⟨na_le.mpr (by rw [a2, na_k1]; omega), fun z => ?_⟩
  rw [z] at a2
  have : (0 : Int32).toInt = 0 := rfl
  omega
set_option maxRecDepth 10000 in
theorem lp_35 {g : ax_G} {K : ax_Po} {E : ax_En} {D0 : ax_Dn} (hok : okC D0) (m d : Int32) (h : Nat) (hm : vp_in m 6) (hh : h < 4) (sg sd : Int32) : ∀ (j k N : Nat) (r z : Int32) (u v : Option Value) (D : ax_Dn), k + j = 10 → 0 ≤ r.toInt → D 12 0 = nI N → N + (dl_ j r).length ≤ 30 → (∀ k, (k ≠ 12 ∧ k ≠ 13 ∧ k ≠ 14 ∧ k ≠ 15 ∧ k ≠ 16 ∧ k ≠ 17) → D k = D0 k) → K none (ax_S ((tz_ (VC D0 m d h) (dl_ j r) z).foldl aC D) E) → ax_WP g (ax_hy 35) K 92 92 19 [some (.ref 1), some (.int m), some (.int d), some (.int (nI h)), some (.int sg), some (.int sd), some (.int (D0 21 3)), some (.int z), some (.int r), some (.int (nI k)), u, v] [] (ax_S D E) := by
  have e10 : (10 : Int32) = nI 10 := by decide
  have e30 : (30 : Int32) = nI 30 := by decide
  have g4 := hok.2.1
  have w1 := w21 (hok.2.2.2.2.2.2.2.2.2.2.2.2.2.1)
  intro j
  induction j with
  | zero =>
    intro k N r z u v D hk hr hN h30 hD hK
    have hc : (10 : Int32) ≤ nI k := by rw [e10]; exact nI_le (by omega) (by omega)
    refine ax_WPo (l := [(36, cy_36), (40, cy_40), (50, cy_50), (64, cy_64), (65, cy_65), (66, cy_66)]) (ax_oc sy_36 (ax_oc sy_40 (ax_oc sy_50 (ax_oc sy_64 (ax_oc sy_65 (ax_oc sy_66 ax_on)))))) ax_ok35 (fun t => t == 19) 400 19 rfl ?_
    simp +decide only [↓ax_B, ax_B, ax_kds, ax_gvs, ax_mcs, ax_ia_S, ax_up_ap, ax_vinL, and_self_left, ax_up_up, ax_up_sw, Nat.reduceAdd, Nat.reduceBEq, Nat.reduceLeDiff, Nat.reduceLT, Nat.reduceEqDiff, ↓reduceIte, true_and, and_true, List.cons_append, List.nil_append, Int32.reduceLT, Int32.reduceLE, Int32.reduceAdd, Int32.reduceToNatClampNeg, Int32.reduceOfNat, true_imp_iff, false_imp_iff, not_true_eq_false, not_false_eq_true, or_true, true_or, or_false, false_or, and_self, Bool.or_true, Bool.or_false, Bool.true_or, Bool.false_or, implies_true, forall_const, Bool.false_eq_true, Int32.neg_neg, ax_X35, ry_36, ry_40, ry_50, ry_64, ry_65, ry_66, hc]
    exact hK
  | succ j ih =>
    intro k N r z u v D hk hr hN h30 hD hK
    have hc : ¬ (10 : Int32) ≤ nI k := by rw [e10]; exact nI_ge (by omega) (by omega)
    have h3 : nI k + 1 = nI (k + 1) := nI_1 k
    by_cases c : 0 < r
    · have cr : ¬ r ≤ 0 := Int32.not_le.mpr c
      obtain ⟨dg1, dg2⟩ := dgI hr
      unfold dl_ at hK h30
      rw [if_pos c] at hK h30
      unfold tz_ at hK
      rw [List.foldl_cons] at hK
      rw [List.length_cons] at h30
      have hn30 : ¬ (30 : Int32) ≤ nI N := by rw [e30]; exact nI_ge (by omega) (by omega)
      have i1 : vp_in (nI N) 30 := vp_in_nI (by omega) (by omega)
      have s10 : vp_in (r - r / 10 * 10) 10 := cnt_in dg1 (by decide)
      obtain ⟨x1, x2, x3⟩ := ix_ hh dg1
      have f1 : vp_in (nI (h * 10 + (r - r / 10 * 10).toNatClampNeg)) 40 := vp_in_nI (by omega) (by omega)
      have f2 : (nI (h * 10 + (r - r / 10 * 10).toNatClampNeg)).toNatClampNeg = h * 10 + (r - r / 10 * 10).toNatClampNeg := nI_clamp (by omega)
      have e2 := hD 2 (by decide)
      have e4 := hD 4 (by decide)
      have e5 := hD 5 (by decide)
      have e6 := hD 6 (by decide)
      have e7 := hD 7 (by decide)
      have e8 := hD 8 (by decide)
      have e9 := hD 9 (by decide)
      have e10' := hD 10 (by decide)
      have e11 := hD 11 (by decide)
      have e20 := hD 20 (by decide)
      have hnx := ih (k + 1) (N + 1) (r / 10) (z * 1664525 + 1013904223) (some (.int (r - r / 10 * 10))) (some (.int (lC_ (D0 5) (D0 7) (D0 8) (D0 9) (D0 10) (D0 11) (D0 2 5).toNatClampNeg m (r - r / 10 * 10) d + dw_ (z * 1664525 + 1013904223) (D0 21 3) - D0 21 3))) (aC D (VC D0 m d h (r - r / 10 * 10) (z * 1664525 + 1013904223))) (by omega) (by rw [dg2]; omega) (by rw [aC_12, hN, nI_1]) (by omega) (fun k hk => by rw [aC_n _ _ hk, hD k hk]) hK
      unfold aC VC sv_ dw_ hd9 dr_ at hnx
      rw [hN] at hnx
      refine ax_WPo (l := [(36, cy_36), (40, cy_40), (50, cy_50), (64, cy_64), (65, cy_65), (66, cy_66)]) (ax_oc sy_36 (ax_oc sy_40 (ax_oc sy_50 (ax_oc sy_64 (ax_oc sy_65 (ax_oc sy_66 ax_on)))))) ax_ok35 (fun t => t == 19) 400 19 rfl ?_
      simp +decide only [↓ax_B, ax_B, ax_kds, ax_gvs, ax_mcs, ax_ia_S, ax_up_ap, ax_vinL, and_self_left, ax_up_up, ax_up_sw, Nat.reduceAdd, Nat.reduceBEq, Nat.reduceLeDiff, Nat.reduceLT, Nat.reduceEqDiff, ↓reduceIte, true_and, and_true, List.cons_append, List.nil_append, Int32.reduceLT, Int32.reduceLE, Int32.reduceAdd, Int32.reduceToNatClampNeg, Int32.reduceOfNat, true_imp_iff, false_imp_iff, not_true_eq_false, not_false_eq_true, or_true, true_or, or_false, false_or, and_self, Bool.or_true, Bool.or_false, Bool.true_or, Bool.false_or, implies_true, forall_const, Bool.false_eq_true, Int32.neg_neg, ax_X35, ry_36, ry_40, ry_50, ry_64, ry_65, ry_66, hc, h3, cr, hN, hn30, i1, s10, x1, f1, f2, e2, e4, e5, e6, e7, e8, e9, e10', e11, e20, g4, w1.1, w1.2, hm]
      exact hnx
    · have cr : r ≤ 0 := Int32.not_lt.mp c
      unfold dl_ at hK
      rw [if_neg c] at hK
      refine ax_WPo (l := [(36, cy_36), (40, cy_40), (50, cy_50), (64, cy_64), (65, cy_65), (66, cy_66)]) (ax_oc sy_36 (ax_oc sy_40 (ax_oc sy_50 (ax_oc sy_64 (ax_oc sy_65 (ax_oc sy_66 ax_on)))))) ax_ok35 (fun t => t == 19) 400 19 rfl ?_
      simp +decide only [↓ax_B, ax_B, ax_kds, ax_gvs, ax_mcs, ax_ia_S, ax_up_ap, ax_vinL, and_self_left, ax_up_up, ax_up_sw, Nat.reduceAdd, Nat.reduceBEq, Nat.reduceLeDiff, Nat.reduceLT, Nat.reduceEqDiff, ↓reduceIte, true_and, and_true, List.cons_append, List.nil_append, Int32.reduceLT, Int32.reduceLE, Int32.reduceAdd, Int32.reduceToNatClampNeg, Int32.reduceOfNat, true_imp_iff, false_imp_iff, not_true_eq_false, not_false_eq_true, or_true, true_or, or_false, false_or, and_self, Bool.or_true, Bool.or_false, Bool.true_or, Bool.false_or, implies_true, forall_const, Bool.false_eq_true, Int32.neg_neg, ax_X35, ry_36, ry_40, ry_50, ry_64, ry_65, ry_66, hc, cr]
      exact hK
/-- AskewLetters$Desk.strike(IIIII)V -/
def cy_35 : ax_P1 := fun as z K => ∃ (p1 : Int32) (p2 : Int32) (p3 : Int32) (p4 : Int32) (p5 : Int32) (D : ax_Dn) (E : ax_En), as = [.ref 1, .int p1, .int p2, .int p3, .int p4, .int p5] ∧ z = ax_S D E ∧ (okC D ∧ vp_in p1 6 ∧ vp_in p3 4 ∧ 0 ≤ p4.toInt ∧ (D 12 0).toNatClampNeg + (dl_ 10 p4).length ≤ 30 ∧ K none (ax_S ((tz_ (VC D p1 p2 p3.toNatClampNeg) (dl_ 10 p4) p5).foldl aC D) E))
theorem ry_35 (p1 : Int32) (p2 : Int32) (p3 : Int32) (p4 : Int32) (p5 : Int32) (D : ax_Dn) (E : ax_En) (K : ax_Po) : cy_35 [.ref 1, .int p1, .int p2, .int p3, .int p4, .int p5] (ax_S D E) K = (okC D ∧ vp_in p1 6 ∧ vp_in p3 4 ∧ 0 ≤ p4.toInt ∧ (D 12 0).toNatClampNeg + (dl_ 10 p4).length ≤ 30 ∧ K none (ax_S ((tz_ (VC D p1 p2 p3.toNatClampNeg) (dl_ 10 p4) p5).foldl aC D) E)) := propext ⟨fun ⟨p1', p2', p3', p4', p5', D', E', h1, h2, h3⟩ => by cases h1; obtain ⟨rfl, rfl⟩ := ax_S_inj h2; exact h3, fun h => ⟨p1, p2, p3, p4, p5, D, E, rfl, rfl, h⟩⟩
theorem sy_35 {g : ax_G} : ∀ as z K, cy_35 as z K → ax_MM g 35 as z K := by
  rintro _ _ K ⟨p1, p2, p3, p4, p5, D, E, rfl, rfl, h⟩
  refine ax_go35 _ _ _ _ _ _ ?_
  obtain ⟨hok, hm, h3, h4, h5, h⟩ := h
  obtain ⟨i, hi, rfl⟩ := vp_in_of h3 (by decide)
  obtain ⟨n, hn, h30, hc⟩ := ax_cnt_of hok.2.2.1 (by decide)
  rw [hc] at h5
  rw [nI_clamp (by omega)] at h
  refine ax_WPo (l := [(36, cy_36), (40, cy_40), (50, cy_50), (64, cy_64), (65, cy_65), (66, cy_66)]) (ax_oc sy_36 (ax_oc sy_40 (ax_oc sy_50 (ax_oc sy_64 (ax_oc sy_65 (ax_oc sy_66 ax_on)))))) ax_ok35 (fun t => t == 19) 400 0 rfl ?_
  simp +decide only [↓ax_B, ax_B, ax_kds, ax_gvs, ax_mcs, ax_ia_S, ax_up_ap, ax_vinL, and_self_left, ax_up_up, ax_up_sw, Nat.reduceAdd, Nat.reduceBEq, Nat.reduceLeDiff, Nat.reduceLT, Nat.reduceEqDiff, ↓reduceIte, true_and, and_true, List.cons_append, List.nil_append, Int32.reduceLT, Int32.reduceLE, Int32.reduceAdd, Int32.reduceToNatClampNeg, Int32.reduceOfNat, true_imp_iff, false_imp_iff, not_true_eq_false, not_false_eq_true, or_true, true_or, or_false, false_or, and_self, Bool.or_true, Bool.or_false, Bool.true_or, Bool.false_or, implies_true, forall_const, Bool.false_eq_true, Int32.neg_neg, ax_X35, ry_36, ry_40, ry_50, ry_64, ry_65, ry_66]
  exact lp_35 hok p1 p2 i hm hi p4 p5 10 0 n p4 p5 none none D rfl h4 hn h5 (fun _ _ => rfl) h
