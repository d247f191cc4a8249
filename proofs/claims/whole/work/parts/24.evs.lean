/-! Readers over the rows of events. -/
def ax_cnt (x : Int32) (n : Nat) : Prop := 0 ≤ x.toInt ∧ x.toInt ≤ n
theorem ax_cnt_of {x : Int32} {n : Nat} (h : ax_cnt x n) (hn : n < 1000) : ∃ k : Nat, x = nI k ∧ k ≤ n ∧ x.toNatClampNeg = k := by
  obtain ⟨k, rfl, h1, h2⟩ := na_of h.1
  exact ⟨k, rfl, by have := h.2; omega, nI_clamp (by omega)⟩
def nk_C (lt mc sg dy vl : Nat → Int32) (m s d : Int32) : Nat → Nat → Int32 → Int32
  | 0, _, acc => acc
  | j + 1, k, acc => if d < dy k then acc else nk_C lt mc sg dy vl m s d j (k + 1) (if lt k = 110 then if mc k = m then if sg k = s then acc ||| 1 <<< (vl k &&& 31) else acc else acc else acc)
theorem lp_65 {g : ax_G} {K : ax_Po} {D : ax_Dn} {E : ax_En} {n : Nat} (hn : D 2 5 = nI n) (h20 : n ≤ 20) (m s d : Int32) : ∀ (j k : Nat) (acc : Int32), k + j = n → K (some (.int (nk_C (D 7) (D 8) (D 9) (D 10) (D 11) m s d j k acc))) (ax_S D E) → ax_WP g (ax_hy 65) K 92 92 6 [some (.ref 2), some (.int m), some (.int s), some (.int d), some (.int acc), some (.int (nI k))] [] (ax_S D E) := by
  intro j
  induction j with
  | zero =>
    intro k acc hk h
    have hc : nI n ≤ nI k := nI_le (by omega) (by omega)
    refine ax_WPo (l := []) ax_on ax_ok65 (fun t => t == 6) 400 6 rfl ?_
    simp +decide only [↓ax_B, ax_B, ax_kds, ax_gvs, ax_mcs, ax_ia_S, ax_up_ap, Nat.reduceAdd, Nat.reduceBEq, Nat.reduceLeDiff, Nat.reduceLT, Nat.reduceEqDiff, ↓reduceIte, true_and, and_true, List.cons_append, List.nil_append, Int32.reduceLT, Int32.reduceLE, Int32.reduceAdd, Int32.reduceToNatClampNeg, Int32.reduceOfNat, true_imp_iff, false_imp_iff, not_true_eq_false, not_false_eq_true, or_true, true_or, or_false, false_or, and_self, Bool.or_true, Bool.or_false, Bool.true_or, Bool.false_or, implies_true, forall_const, Bool.false_eq_true, Int32.neg_neg, ax_X65, hn, hc]
    exact h
  | succ j ih =>
    intro k acc hk h
    have hc : ¬ nI n ≤ nI k := nI_ge (by omega) (by omega)
    have h1 : vp_in (nI k) 20 := vp_in_nI (by omega) (by omega)
    have h2 : (nI k).toNatClampNeg = k := nI_clamp (by omega)
    have h3 : nI k + 1 = nI (k + 1) := nI_1 k
    unfold nk_C at h
    refine ax_WPo (l := []) ax_on ax_ok65 (fun t => t == 6) 400 6 rfl ?_
    simp +decide only [↓ax_B, ax_B, ax_kds, ax_gvs, ax_mcs, ax_ia_S, ax_up_ap, Nat.reduceAdd, Nat.reduceBEq, Nat.reduceLeDiff, Nat.reduceLT, Nat.reduceEqDiff, ↓reduceIte, true_and, and_true, List.cons_append, List.nil_append, Int32.reduceLT, Int32.reduceLE, Int32.reduceAdd, Int32.reduceToNatClampNeg, Int32.reduceOfNat, true_imp_iff, false_imp_iff, not_true_eq_false, not_false_eq_true, or_true, true_or, or_false, false_or, and_self, Bool.or_true, Bool.or_false, Bool.true_or, Bool.false_or, implies_true, forall_const, Bool.false_eq_true, Int32.neg_neg, ax_X65, hn, hc, h1, h2, h3]
    repeat' (first | with_reducible apply And.intro | with_reducible intro _)
    all_goals first | (simpa [*] using h) | (refine ih (k + 1) _ (by omega) ?_; simpa [*] using h)
/-- AskewLetters$Shop.nicksOn(III)I -/
def cy_65 : ax_P1 := fun as z K => ∃ (p1 : Int32) (p2 : Int32) (p3 : Int32) (D : ax_Dn) (E : ax_En), as = [.ref 2, .int p1, .int p2, .int p3] ∧ z = ax_S D E ∧ (ax_cnt (D 2 5) 20 ∧ K (some (.int (nk_C (D 7) (D 8) (D 9) (D 10) (D 11) p1 p2 p3 (D 2 5).toNatClampNeg 0 0))) (ax_S D E))
theorem ry_65 (p1 : Int32) (p2 : Int32) (p3 : Int32) (D : ax_Dn) (E : ax_En) (K : ax_Po) : cy_65 [.ref 2, .int p1, .int p2, .int p3] (ax_S D E) K = (ax_cnt (D 2 5) 20 ∧ K (some (.int (nk_C (D 7) (D 8) (D 9) (D 10) (D 11) p1 p2 p3 (D 2 5).toNatClampNeg 0 0))) (ax_S D E)) := propext ⟨fun ⟨p1', p2', p3', D', E', h1, h2, h3⟩ => by cases h1; obtain ⟨rfl, rfl⟩ := ax_S_inj h2; exact h3, fun h => ⟨p1, p2, p3, D, E, rfl, rfl, h⟩⟩
theorem sy_65 {g : ax_G} : ∀ as z K, cy_65 as z K → ax_MM g 65 as z K := by
  rintro _ _ K ⟨p1, p2, p3, D, E, rfl, rfl, h⟩
  refine ax_go65 _ _ _ _ ?_
  obtain ⟨h1, h⟩ := h
  obtain ⟨n, hn, h20, hc⟩ := ax_cnt_of h1 (by decide)
  rw [hc] at h
  refine ax_WPo (l := []) ax_on ax_ok65 (fun t => t == 6) 400 0 rfl ?_
  simp +decide only [↓ax_B, ax_B, ax_kds, ax_gvs, ax_mcs, ax_ia_S, ax_up_ap, Nat.reduceAdd, Nat.reduceBEq, Nat.reduceLeDiff, Nat.reduceLT, Nat.reduceEqDiff, ↓reduceIte, true_and, and_true, List.cons_append, List.nil_append, Int32.reduceLT, Int32.reduceLE, Int32.reduceAdd, Int32.reduceToNatClampNeg, Int32.reduceOfNat, true_imp_iff, false_imp_iff, not_true_eq_false, not_false_eq_true, or_true, true_or, or_false, false_or, and_self, Bool.or_true, Bool.or_false, Bool.true_or, Bool.false_or, implies_true, forall_const, Bool.false_eq_true, Int32.neg_neg, ax_X65]
  exact lp_65 hn h20 p1 p2 p3 n 0 0 (by omega) h
def ln_C (lt mc sg dy vl : Nat → Int32) (m s d : Int32) : Nat → Nat → Int32 → Int32
  | 0, _, acc => acc
  | j + 1, k, acc => if d < dy k then acc else ln_C lt mc sg dy vl m s d j (k + 1) (if mc k = m then if sg k = s then if lt k = 115 then 0 else if lt k = 98 then acc + vl k else acc else acc else acc)
/-- held to -9 .. 9, as the machine does it -/
def hd9 (x : Int32) : Int32 := if -9 < (if x < 9 then x else 9) then (if x < 9 then x else 9) else -9
theorem lp_64 {g : ax_G} {K : ax_Po} {D : ax_Dn} {E : ax_En} {n : Nat} (hn : D 2 5 = nI n) (h20 : n ≤ 20) (m s d : Int32) (hs : vp_in s 10) : ∀ (j k : Nat) (acc : Int32), k + j = n → K (some (.int (hd9 (D 5 s.toNatClampNeg + ln_C (D 7) (D 8) (D 9) (D 10) (D 11) m s d j k acc)))) (ax_S D E) → ax_WP g (ax_hy 64) K 92 92 6 [some (.ref 2), some (.int m), some (.int s), some (.int d), some (.int acc), some (.int (nI k))] [] (ax_S D E) := by
  intro j
  induction j with
  | zero =>
    intro k acc hk h
    have hc : nI n ≤ nI k := nI_le (by omega) (by omega)
    refine ax_WPo (l := []) ax_on ax_ok64 (fun t => t == 6) 400 6 rfl ?_
    simp +decide only [↓ax_B, ax_B, ax_kds, ax_gvs, ax_mcs, ax_ia_S, ax_up_ap, Nat.reduceAdd, Nat.reduceBEq, Nat.reduceLeDiff, Nat.reduceLT, Nat.reduceEqDiff, ↓reduceIte, true_and, and_true, List.cons_append, List.nil_append, Int32.reduceLT, Int32.reduceLE, Int32.reduceAdd, Int32.reduceToNatClampNeg, Int32.reduceOfNat, true_imp_iff, false_imp_iff, not_true_eq_false, not_false_eq_true, or_true, true_or, or_false, false_or, and_self, Bool.or_true, Bool.or_false, Bool.true_or, Bool.false_or, implies_true, forall_const, Bool.false_eq_true, Int32.neg_neg, ax_X64, hn, hc, hs]
    exact h
  | succ j ih =>
    intro k acc hk h
    have hc : ¬ nI n ≤ nI k := nI_ge (by omega) (by omega)
    have h1 : vp_in (nI k) 20 := vp_in_nI (by omega) (by omega)
    have h2 : (nI k).toNatClampNeg = k := nI_clamp (by omega)
    have h3 : nI k + 1 = nI (k + 1) := nI_1 k
    unfold ln_C at h
    refine ax_WPo (l := []) ax_on ax_ok64 (fun t => t == 6) 400 6 rfl ?_
    simp +decide only [↓ax_B, ax_B, ax_kds, ax_gvs, ax_mcs, ax_ia_S, ax_up_ap, Nat.reduceAdd, Nat.reduceBEq, Nat.reduceLeDiff, Nat.reduceLT, Nat.reduceEqDiff, ↓reduceIte, true_and, and_true, List.cons_append, List.nil_append, Int32.reduceLT, Int32.reduceLE, Int32.reduceAdd, Int32.reduceToNatClampNeg, Int32.reduceOfNat, true_imp_iff, false_imp_iff, not_true_eq_false, not_false_eq_true, or_true, true_or, or_false, false_or, and_self, Bool.or_true, Bool.or_false, Bool.true_or, Bool.false_or, implies_true, forall_const, Bool.false_eq_true, Int32.neg_neg, ax_X64, hn, hc, h1, h2, h3, hs]
    repeat' (first | with_reducible apply And.intro | with_reducible intro _)
    all_goals first | (simpa [*, hd9] using h) | (refine ih (k + 1) _ (by omega) ?_; simpa [*] using h)
/-- AskewLetters$Shop.leanOn(III)I -/
def cy_64 : ax_P1 := fun as z K => ∃ (p1 : Int32) (p2 : Int32) (p3 : Int32) (D : ax_Dn) (E : ax_En), as = [.ref 2, .int p1, .int p2, .int p3] ∧ z = ax_S D E ∧ (ax_cnt (D 2 5) 20 ∧ vp_in p2 10 ∧ K (some (.int (hd9 (D 5 p2.toNatClampNeg + ln_C (D 7) (D 8) (D 9) (D 10) (D 11) p1 p2 p3 (D 2 5).toNatClampNeg 0 0)))) (ax_S D E))
theorem ry_64 (p1 : Int32) (p2 : Int32) (p3 : Int32) (D : ax_Dn) (E : ax_En) (K : ax_Po) : cy_64 [.ref 2, .int p1, .int p2, .int p3] (ax_S D E) K = (ax_cnt (D 2 5) 20 ∧ vp_in p2 10 ∧ K (some (.int (hd9 (D 5 p2.toNatClampNeg + ln_C (D 7) (D 8) (D 9) (D 10) (D 11) p1 p2 p3 (D 2 5).toNatClampNeg 0 0)))) (ax_S D E)) := propext ⟨fun ⟨p1', p2', p3', D', E', h1, h2, h3⟩ => by cases h1; obtain ⟨rfl, rfl⟩ := ax_S_inj h2; exact h3, fun h => ⟨p1, p2, p3, D, E, rfl, rfl, h⟩⟩
theorem sy_64 {g : ax_G} : ∀ as z K, cy_64 as z K → ax_MM g 64 as z K := by
  rintro _ _ K ⟨p1, p2, p3, D, E, rfl, rfl, h⟩
  refine ax_go64 _ _ _ _ ?_
  obtain ⟨h1, hs, h⟩ := h
  obtain ⟨n, hn, h20, hc⟩ := ax_cnt_of h1 (by decide)
  rw [hc] at h
  refine ax_WPo (l := []) ax_on ax_ok64 (fun t => t == 6) 400 0 rfl ?_
  simp +decide only [↓ax_B, ax_B, ax_kds, ax_gvs, ax_mcs, ax_ia_S, ax_up_ap, Nat.reduceAdd, Nat.reduceBEq, Nat.reduceLeDiff, Nat.reduceLT, Nat.reduceEqDiff, ↓reduceIte, true_and, and_true, List.cons_append, List.nil_append, Int32.reduceLT, Int32.reduceLE, Int32.reduceAdd, Int32.reduceToNatClampNeg, Int32.reduceOfNat, true_imp_iff, false_imp_iff, not_true_eq_false, not_false_eq_true, or_true, true_or, or_false, false_or, and_self, Bool.or_true, Bool.or_false, Bool.true_or, Bool.false_or, implies_true, forall_const, Bool.false_eq_true, Int32.neg_neg, ax_X64]
  exact lp_64 hn h20 p1 p2 p3 hs n 0 0 (by omega) h
