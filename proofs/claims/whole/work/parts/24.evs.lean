/-! Readers over the rows of events. -/
def ax_cnt (x : Int32) (n : Nat) : Prop := 0 ≤ x.toInt ∧ x.toInt ≤ n
theorem ax_cnt_of {x : Int32} {n : Nat} (h : ax_cnt x n) (hn : n < 1000) : ∃ k : Nat, x = nI k ∧ k ≤ n ∧ x.toNatClampNeg = k := by
  obtain ⟨k, rfl, h1, h2⟩ := na_of h.1
  exact ⟨k, rfl, by have := h.2; omega, nI_clamp (by omega)⟩
def nk_C (lt mc sg dy vl : Nat → Int32) (m s d : Int32) : Nat → Nat → Int32 → Int32
  | 0, _, acc => acc
  | j + 1, k, acc => if d < dy k then acc else nk_C lt mc sg dy vl m s d j (k + 1) (if lt k = 110 then if mc k = m then if sg k = s then acc ||| 1 <<< (vl k &&& 31) else acc else acc else acc)
theorem lp_65 {g : ax_G} {K : ax_Po} {D : ax_Dn} {E : ax_En} {n : Nat} (hn : D 2 5 = nI n) (h20 : n ≤ 20) (m s d : Int32) : ∀ (j k : Nat) (acc : Int32), k + j = n → K (some (.int (nk_C (D 7) (D 8) (D 9) (D 10) (D 11) m s d j k acc))) (ax_S D E) → ax_WP g (ax_hy 65) K 92 92 6 [some (.ref 2), some (.int m), some (.int s), some (.int d), some (.int acc), some (.int (nI k))] [] (ax_S D E) := by
  intro j
  induction j with
  | zero =>
    intro k acc hk h
    have hc : nI n ≤ nI k := nI_le (by omega) (by omega)
    refine ax_WPo (l := []) ax_on ax_ok65 (fun t => t == 6) 400 6 rfl ?_
    simp +decide only [↓ax_B, ax_B, ax_kds, ax_gvs, ax_mcs, ax_ia_S, ax_up_ap, ax_vinL, and_self_left, ax_up_up, ax_up_sw, Nat.reduceAdd, Nat.reduceBEq, Nat.reduceLeDiff, Nat.reduceLT, Nat.reduceEqDiff, ↓reduceIte, true_and, and_true, List.cons_append, List.nil_append, Int32.reduceLT, Int32.reduceLE, Int32.reduceAdd, Int32.reduceToNatClampNeg, Int32.reduceOfNat, true_imp_iff, false_imp_iff, not_true_eq_false, not_false_eq_true, or_true, true_or, or_false, false_or, and_self, Bool.or_true, Bool.or_false, Bool.true_or, Bool.false_or, implies_true, forall_const, Bool.false_eq_true, Int32.neg_neg, ax_X65, hn, hc]
    exact h
  | succ j ih =>
    intro k acc hk h
    have hc : ¬ nI n ≤ nI k := nI_ge (by omega) (by omega)
    have h1 : vp_in (nI k) 20 := vp_in_nI (by omega) (by omega)
    have h2 : (nI k).toNatClampNeg = k := nI_clamp (by omega)
    have h3 : nI k + 1 = nI (k + 1) := nI_1 k
    unfold nk_C at h
    refine ax_WPo (l := []) ax_on ax_ok65 (fun t => t == 6) 400 6 rfl ?_
    simp +decide only [↓ax_B, ax_B, ax_kds, ax_gvs, ax_mcs, ax_ia_S, ax_up_ap, ax_vinL, and_self_left, ax_up_up, ax_up_sw, Nat.reduceAdd, Nat.reduceBEq, Nat.reduceLeDiff, Nat.reduceLT, Nat.reduceEqDiff, ↓reduceIte, true_and, and_true, List.cons_append, List.nil_append, Int32.reduceLT, Int32.reduceLE, Int32.reduceAdd, Int32.reduceToNatClampNeg, Int32.reduceOfNat, true_imp_iff, false_imp_iff, not_true_eq_false, not_false_eq_true, or_true, true_or, or_false, false_or, and_self, Bool.or_true, Bool.or_false, Bool.true_or, Bool.false_or, implies_true, forall_const, Bool.false_eq_true, Int32.neg_neg, ax_X65, hn, hc, h1, h2, h3]
    repeat' (first | with_reducible apply And.intro | with_reducible intro _)
    all_goals first | (simpa [*] using h) | (refine ih (k + 1) _ (by omega) ?_; simpa [*] using h)
def nC_ (lt mc sg dy vl : Nat → Int32) (n : Nat) (m s d : Int32) : Int32 := nk_C lt mc sg dy vl m s d n 0 0
/-- AskewLetters$Shop.nicksOn(III)I -/
def cy_65 : ax_P1 := fun as z K => ∃ (p1 : Int32) (p2 : Int32) (p3 : Int32) (D : ax_Dn) (E : ax_En), as = [.ref 2, .int p1, .int p2, .int p3] ∧ z = ax_S D E ∧ (ax_cnt (D 2 5) 20 ∧ K (some (.int (nC_ (D 7) (D 8) (D 9) (D 10) (D 11) (D 2 5).toNatClampNeg p1 p2 p3))) (ax_S D E))
theorem ry_65 (p1 : Int32) (p2 : Int32) (p3 : Int32) (D : ax_Dn) (E : ax_En) (K : ax_Po) : cy_65 [.ref 2, .int p1, .int p2, .int p3] (ax_S D E) K = (ax_cnt (D 2 5) 20 ∧ K (some (.int (nC_ (D 7) (D 8) (D 9) (D 10) (D 11) (D 2 5).toNatClampNeg p1 p2 p3))) (ax_S D E)) := propext ⟨fun ⟨p1', p2', p3', D', E', h1, h2, h3⟩ => by cases h1; obtain ⟨rfl, rfl⟩ := ax_S_inj h2; exact h3, fun h => ⟨p1, p2, p3, D, E, rfl, rfl, h⟩⟩
theorem sy_65 {g : ax_G} : ∀ as z K, cy_65 as z K → ax_MM g 65 as z K := by
  rintro _ _ K ⟨p1, p2, p3, D, E, rfl, rfl, h⟩
  refine ax_go65 _ _ _ _ ?_
  obtain ⟨h1, h⟩ := h
  obtain ⟨n, hn, h20, hc⟩ := ax_cnt_of h1 (by decide)
  rw [hc] at h
  refine ax_WPo (l := []) ax_on ax_ok65 (fun t => t == 6) 400 0 rfl ?_
  simp +decide only [↓ax_B, ax_B, ax_kds, ax_gvs, ax_mcs, ax_ia_S, ax_up_ap, ax_vinL, and_self_left, ax_up_up, ax_up_sw, Nat.reduceAdd, Nat.reduceBEq, Nat.reduceLeDiff, Nat.reduceLT, Nat.reduceEqDiff, ↓reduceIte, true_and, and_true, List.cons_append, List.nil_append, Int32.reduceLT, Int32.reduceLE, Int32.reduceAdd, Int32.reduceToNatClampNeg, Int32.reduceOfNat, true_imp_iff, false_imp_iff, not_true_eq_false, not_false_eq_true, or_true, true_or, or_false, false_or, and_self, Bool.or_true, Bool.or_false, Bool.true_or, Bool.false_or, implies_true, forall_const, Bool.false_eq_true, Int32.neg_neg, ax_X65]
  exact lp_65 hn h20 p1 p2 p3 n 0 0 (by omega) h
def ln_C (lt mc sg dy vl : Nat → Int32) (m s d : Int32) : Nat → Nat → Int32 → Int32
  | 0, _, acc => acc
  | j + 1, k, acc => if d < dy k then acc else ln_C lt mc sg dy vl m s d j (k + 1) (if mc k = m then if sg k = s then if lt k = 115 then 0 else if lt k = 98 then acc + vl k else acc else acc else acc)
/-- held to -9 .. 9, as the machine does it -/
def hd9 (x : Int32) : Int32 := if -9 < (if x < 9 then x else 9) then (if x < 9 then x else 9) else -9
theorem hd9_toInt (x : Int32) : (hd9 x).toInt = max (-9) (min 9 x.toInt) := by
  have e9 : (9 : Int32).toInt = 9 := rfl
  have em : (-9 : Int32).toInt = -9 := rfl
  unfold hd9
  by_cases h : x < 9
  · rw [if_pos h]
    have h' := na_lt.mp h
    rw [e9] at h'
    by_cases h2 : -9 < x
    · rw [if_pos h2]
      have h2' := na_lt.mp h2
      rw [em] at h2'
      omega
    · rw [if_neg h2]
      have h2' : ¬ (-9 : Int) < x.toInt := fun q => h2 (na_lt.mpr q)
      rw [em]
      omega
  · rw [if_neg h]
    have h' : ¬ x.toInt < (9 : Int) := fun q => h (na_lt.mpr q)
    rw [if_pos (by decide), e9]
    omega
theorem hd9_mid {x : Int32} (h1 : -9 ≤ x) (h2 : x ≤ 9) : hd9 x = x := by
  apply na_eq.mpr
  rw [hd9_toInt]
  have h1 : -9 ≤ x.toInt := na_le.mp h1
  have h2 : x.toInt ≤ 9 := na_le.mp h2
  omega
theorem hd9_hi {x : Int32} (h2 : ¬ x ≤ 9) : hd9 x = 9 := by
  apply na_eq.mpr
  rw [hd9_toInt]
  have h2 : ¬ x.toInt ≤ 9 := fun q => h2 (na_le.mpr q)
  show _ = (9 : Int)
  omega
theorem hd9_lo {x : Int32} (h2 : ¬ -9 ≤ x) : hd9 x = -9 := by
  apply na_eq.mpr
  rw [hd9_toInt]
  have h2 : ¬ -9 ≤ x.toInt := fun q => h2 (na_le.mpr q)
  show _ = (-9 : Int)
  omega
theorem lp_64 {g : ax_G} {K : ax_Po} {D : ax_Dn} {E : ax_En} {n : Nat} (hn : D 2 5 = nI n) (h20 : n ≤ 20) (m s d : Int32) (hs : vp_in s 10) : ∀ (j k : Nat) (acc : Int32), k + j = n → K (some (.int (hd9 (D 5 s.toNatClampNeg + ln_C (D 7) (D 8) (D 9) (D 10) (D 11) m s d j k acc)))) (ax_S D E) → ax_WP g (ax_hy 64) K 92 92 6 [some (.ref 2), some (.int m), some (.int s), some (.int d), some (.int acc), some (.int (nI k))] [] (ax_S D E) := by
  intro j
  induction j with
  | zero =>
    intro k acc hk h
    have hc : nI n ≤ nI k := nI_le (by omega) (by omega)
    refine ax_WPo (l := []) ax_on ax_ok64 (fun t => t == 6) 400 6 rfl ?_
    simp +decide only [↓ax_B, ax_B, ax_kds, ax_gvs, ax_mcs, ax_ia_S, ax_up_ap, ax_vinL, and_self_left, ax_up_up, ax_up_sw, Nat.reduceAdd, Nat.reduceBEq, Nat.reduceLeDiff, Nat.reduceLT, Nat.reduceEqDiff, ↓reduceIte, true_and, and_true, List.cons_append, List.nil_append, Int32.reduceLT, Int32.reduceLE, Int32.reduceAdd, Int32.reduceToNatClampNeg, Int32.reduceOfNat, true_imp_iff, false_imp_iff, not_true_eq_false, not_false_eq_true, or_true, true_or, or_false, false_or, and_self, Bool.or_true, Bool.or_false, Bool.true_or, Bool.false_or, implies_true, forall_const, Bool.false_eq_true, Int32.neg_neg, ax_X64, hn, hc, hs]
    exact h
  | succ j ih =>
    intro k acc hk h
    have hc : ¬ nI n ≤ nI k := nI_ge (by omega) (by omega)
    have h1 : vp_in (nI k) 20 := vp_in_nI (by omega) (by omega)
    have h2 : (nI k).toNatClampNeg = k := nI_clamp (by omega)
    have h3 : nI k + 1 = nI (k + 1) := nI_1 k
    unfold ln_C at h
    refine ax_WPo (l := []) ax_on ax_ok64 (fun t => t == 6) 400 6 rfl ?_
    simp +decide only [↓ax_B, ax_B, ax_kds, ax_gvs, ax_mcs, ax_ia_S, ax_up_ap, ax_vinL, and_self_left, ax_up_up, ax_up_sw, Nat.reduceAdd, Nat.reduceBEq, Nat.reduceLeDiff, Nat.reduceLT, Nat.reduceEqDiff, ↓reduceIte, true_and, and_true, List.cons_append, List.nil_append, Int32.reduceLT, Int32.reduceLE, Int32.reduceAdd, Int32.reduceToNatClampNeg, Int32.reduceOfNat, true_imp_iff, false_imp_iff, not_true_eq_false, not_false_eq_true, or_true, true_or, or_false, false_or, and_self, Bool.or_true, Bool.or_false, Bool.true_or, Bool.false_or, implies_true, forall_const, Bool.false_eq_true, Int32.neg_neg, ax_X64, hn, hc, h1, h2, h3, hs]
    repeat' (first | with_reducible apply And.intro | with_reducible intro _)
    all_goals first | (simpa [*, hd9] using h) | (refine ih (k + 1) _ (by omega) ?_; simpa [*] using h)
def lC_ (mk lt mc sg dy vl : Nat → Int32) (n : Nat) (m s d : Int32) : Int32 := hd9 (mk s.toNatClampNeg + ln_C lt mc sg dy vl m s d n 0 0)
/-- AskewLetters$Shop.leanOn(III)I -/
def cy_64 : ax_P1 := fun as z K => ∃ (p1 : Int32) (p2 : Int32) (p3 : Int32) (D : ax_Dn) (E : ax_En), as = [.ref 2, .int p1, .int p2, .int p3] ∧ z = ax_S D E ∧ (ax_cnt (D 2 5) 20 ∧ vp_in p2 10 ∧ K (some (.int (lC_ (D 5) (D 7) (D 8) (D 9) (D 10) (D 11) (D 2 5).toNatClampNeg p1 p2 p3))) (ax_S D E))
theorem ry_64 (p1 : Int32) (p2 : Int32) (p3 : Int32) (D : ax_Dn) (E : ax_En) (K : ax_Po) : cy_64 [.ref 2, .int p1, .int p2, .int p3] (ax_S D E) K = (ax_cnt (D 2 5) 20 ∧ vp_in p2 10 ∧ K (some (.int (lC_ (D 5) (D 7) (D 8) (D 9) (D 10) (D 11) (D 2 5).toNatClampNeg p1 p2 p3))) (ax_S D E)) := propext ⟨fun ⟨p1', p2', p3', D', E', h1, h2, h3⟩ => by cases h1; obtain ⟨rfl, rfl⟩ := ax_S_inj h2; exact h3, fun h => ⟨p1, p2, p3, D, E, rfl, rfl, h⟩⟩
theorem sy_64 {g : ax_G} : ∀ as z K, cy_64 as z K → ax_MM g 64 as z K := by
  rintro _ _ K ⟨p1, p2, p3, D, E, rfl, rfl, h⟩
  refine ax_go64 _ _ _ _ ?_
  obtain ⟨h1, hs, h⟩ := h
  obtain ⟨n, hn, h20, hc⟩ := ax_cnt_of h1 (by decide)
  rw [hc] at h
  refine ax_WPo (l := []) ax_on ax_ok64 (fun t => t == 6) 400 0 rfl ?_
  simp +decide only [↓ax_B, ax_B, ax_kds, ax_gvs, ax_mcs, ax_ia_S, ax_up_ap, ax_vinL, and_self_left, ax_up_up, ax_up_sw, Nat.reduceAdd, Nat.reduceBEq, Nat.reduceLeDiff, Nat.reduceLT, Nat.reduceEqDiff, ↓reduceIte, true_and, and_true, List.cons_append, List.nil_append, Int32.reduceLT, Int32.reduceLE, Int32.reduceAdd, Int32.reduceToNatClampNeg, Int32.reduceOfNat, true_imp_iff, false_imp_iff, not_true_eq_false, not_false_eq_true, or_true, true_or, or_false, false_or, and_self, Bool.or_true, Bool.or_false, Bool.true_or, Bool.false_or, implies_true, forall_const, Bool.false_eq_true, Int32.neg_neg, ax_X64]
  exact lp_64 hn h20 p1 p2 p3 hs n 0 0 (by omega) h
/-- the latest set of a bar: its number, -1 none -/
def lt_M (ev eo es ed : Nat → Int32) (m s d : Int32) : Nat → Nat → Int32 → Int32
  | 0, _, acc => acc
  | j + 1, k, acc => lt_M ev eo es ed m s d j (k + 1) (if ev k = 115 then if eo k = m then if es k = s then if d < ed k then acc else if acc < 0 then nI k else if ed acc.toNatClampNeg < ed k then nI k else if ed acc.toNatClampNeg = ed k then (if nI k ≤ acc then acc else nI k) else acc else acc else acc else acc)
/-- what it was bent by behind that -/
def sm_M (ev eo es ed eb : Nat → Int32) (m s d lat : Int32) : Nat → Nat → Int32 → Int32
  | 0, _, acc => acc
  | j + 1, k, acc => sm_M ev eo es ed eb m s d lat j (k + 1) (if ev k = 98 then if eo k = m then if es k = s then if d < ed k then acc else if lat < 0 then acc + eb k else if ed lat.toNatClampNeg < ed k then acc + eb k else if ed lat.toNatClampNeg = ed k then (if nI k ≤ lat then acc else acc + eb k) else acc else acc else acc else acc)
theorem lp_141b {g : ax_G} {K : ax_Po} {D : ax_Dn} {E : ax_En} {n : Nat} (hn : D 58 23 = nI n) (h20 : n ≤ 20) (m s d lat : Int32) (hlat : ¬ lat < 0 → vp_in lat 20) : ∀ (j k : Nat) (acc : Int32), k + j = n → K (some (.int (hd9 (sm_M (D 71) (D 72) (D 73) (D 74) (D 75) m s d lat j k acc)))) (ax_S D E) → ax_WP g (ax_hy 141) K 92 92 76 [some (.ref 58), some (.int m), some (.int s), some (.int d), some (.int lat), some (.int acc), some (.int (nI k))] [] (ax_S D E) := by
  intro j
  induction j with
  | zero =>
    intro k acc hk h
    have hc : nI n ≤ nI k := nI_le (by omega) (by omega)
    refine ax_WPo (l := [(139, cy_139), (140, cy_140)]) (ax_oc sy_139 (ax_oc sy_140 ax_on)) ax_ok141 (fun t => t == 6 || t == 76) 400 76 rfl ?_
    simp +decide only [↓ax_B, ax_B, ax_kds, ax_gvs, ax_mcs, ax_ia_S, ax_up_ap, ax_vinL, and_self_left, ax_up_up, ax_up_sw, Nat.reduceAdd, Nat.reduceBEq, Nat.reduceLeDiff, Nat.reduceLT, Nat.reduceEqDiff, ↓reduceIte, true_and, and_true, List.cons_append, List.nil_append, Int32.reduceLT, Int32.reduceLE, Int32.reduceAdd, Int32.reduceToNatClampNeg, Int32.reduceOfNat, true_imp_iff, false_imp_iff, not_true_eq_false, not_false_eq_true, or_true, true_or, or_false, false_or, and_self, Bool.or_true, Bool.or_false, Bool.true_or, Bool.false_or, implies_true, forall_const, Bool.false_eq_true, Int32.neg_neg, ax_X141, ry_139, ry_140, hn, hc]
    unfold sm_M at h
    refine ⟨fun c1 => ⟨fun c2 => ?_, fun c2 => ?_⟩, fun c1 => ?_⟩
    · rw [hd9_mid c1 c2] at h
      exact h
    · rw [hd9_hi c2] at h
      exact h
    · rw [hd9_lo c1] at h
      exact h
  | succ j ih =>
    intro k acc hk h
    have hc : ¬ nI n ≤ nI k := nI_ge (by omega) (by omega)
    have h1 : vp_in (nI k) 20 := vp_in_nI (by omega) (by omega)
    have h2 : (nI k).toNatClampNeg = k := nI_clamp (by omega)
    have h3 : nI k + 1 = nI (k + 1) := nI_1 k
    unfold sm_M at h
    refine ax_WPo (l := [(139, cy_139), (140, cy_140)]) (ax_oc sy_139 (ax_oc sy_140 ax_on)) ax_ok141 (fun t => t == 6 || t == 76) 400 76 rfl ?_
    simp +decide only [↓ax_B, ax_B, ax_kds, ax_gvs, ax_mcs, ax_ia_S, ax_up_ap, ax_vinL, and_self_left, ax_up_up, ax_up_sw, Nat.reduceAdd, Nat.reduceBEq, Nat.reduceLeDiff, Nat.reduceLT, Nat.reduceEqDiff, ↓reduceIte, true_and, and_true, List.cons_append, List.nil_append, Int32.reduceLT, Int32.reduceLE, Int32.reduceAdd, Int32.reduceToNatClampNeg, Int32.reduceOfNat, true_imp_iff, false_imp_iff, not_true_eq_false, not_false_eq_true, or_true, true_or, or_false, false_or, and_self, Bool.or_true, Bool.or_false, Bool.true_or, Bool.false_or, implies_true, forall_const, Bool.false_eq_true, Int32.neg_neg, ax_X141, ry_139, ry_140, hn, hc, h1, h2, h3]
    repeat' (first | with_reducible apply And.intro | with_reducible intro _)
    all_goals first | (exact hlat (by assumption)) | (refine ih (k + 1) _ (by omega) ?_; simpa [*] using h)
theorem lp_141a {g : ax_G} {K : ax_Po} {D : ax_Dn} {E : ax_En} {n : Nat} (hn : D 58 23 = nI n) (h20 : n ≤ 20) (m s d : Int32) (hs : vp_in s 10) : ∀ (j k : Nat) (acc : Int32), k + j = n → (¬ acc < 0 → vp_in acc 20) → K (some (.int (hd9 (sm_M (D 71) (D 72) (D 73) (D 74) (D 75) m s d (lt_M (D 71) (D 72) (D 73) (D 74) m s d j k acc) n 0 (D 69 s.toNatClampNeg))))) (ax_S D E) → ax_WP g (ax_hy 141) K 92 92 6 [some (.ref 58), some (.int m), some (.int s), some (.int d), some (.int acc), some (.int (nI k)), none] [] (ax_S D E) := by
  intro j
  induction j with
  | zero =>
    intro k acc hk ha h
    have hc : nI n ≤ nI k := nI_le (by omega) (by omega)
    refine ax_WPo (l := [(139, cy_139), (140, cy_140)]) (ax_oc sy_139 (ax_oc sy_140 ax_on)) ax_ok141 (fun t => t == 6 || t == 76) 400 6 rfl ?_
    simp +decide only [↓ax_B, ax_B, ax_kds, ax_gvs, ax_mcs, ax_ia_S, ax_up_ap, ax_vinL, and_self_left, ax_up_up, ax_up_sw, Nat.reduceAdd, Nat.reduceBEq, Nat.reduceLeDiff, Nat.reduceLT, Nat.reduceEqDiff, ↓reduceIte, true_and, and_true, List.cons_append, List.nil_append, Int32.reduceLT, Int32.reduceLE, Int32.reduceAdd, Int32.reduceToNatClampNeg, Int32.reduceOfNat, true_imp_iff, false_imp_iff, not_true_eq_false, not_false_eq_true, or_true, true_or, or_false, false_or, and_self, Bool.or_true, Bool.or_false, Bool.true_or, Bool.false_or, implies_true, forall_const, Bool.false_eq_true, Int32.neg_neg, ax_X141, ry_139, ry_140, hn, hc, hs]
    exact lp_141b hn h20 m s d acc ha n 0 _ (by omega) h
  | succ j ih =>
    intro k acc hk ha h
    have hc : ¬ nI n ≤ nI k := nI_ge (by omega) (by omega)
    have h1 : vp_in (nI k) 20 := vp_in_nI (by omega) (by omega)
    have h2 : (nI k).toNatClampNeg = k := nI_clamp (by omega)
    have h3 : nI k + 1 = nI (k + 1) := nI_1 k
    unfold lt_M at h
    refine ax_WPo (l := [(139, cy_139), (140, cy_140)]) (ax_oc sy_139 (ax_oc sy_140 ax_on)) ax_ok141 (fun t => t == 6 || t == 76) 400 6 rfl ?_
    simp +decide only [↓ax_B, ax_B, ax_kds, ax_gvs, ax_mcs, ax_ia_S, ax_up_ap, ax_vinL, and_self_left, ax_up_up, ax_up_sw, Nat.reduceAdd, Nat.reduceBEq, Nat.reduceLeDiff, Nat.reduceLT, Nat.reduceEqDiff, ↓reduceIte, true_and, and_true, List.cons_append, List.nil_append, Int32.reduceLT, Int32.reduceLE, Int32.reduceAdd, Int32.reduceToNatClampNeg, Int32.reduceOfNat, true_imp_iff, false_imp_iff, not_true_eq_false, not_false_eq_true, or_true, true_or, or_false, false_or, and_self, Bool.or_true, Bool.or_false, Bool.true_or, Bool.false_or, implies_true, forall_const, Bool.false_eq_true, Int32.neg_neg, ax_X141, ry_139, ry_140, hn, hc, h1, h2, h3]
    repeat' (first | with_reducible apply And.intro | with_reducible intro _)
    all_goals first | (exact ha (by assumption)) | (refine ih (k + 1) _ (by omega) ha ?_; simpa [*] using h) | (refine ih (k + 1) _ (by omega) (fun _ => h1) ?_; simpa [*] using h)
def lM_ (mk ev eo es ed eb : Nat → Int32) (n : Nat) (m s d : Int32) : Int32 := hd9 (sm_M ev eo es ed eb m s d (lt_M ev eo es ed m s d n 0 (-1)) n 0 (mk s.toNatClampNeg))
/-- AskewLettersModel.leanOf(III)I -/
def cy_141 : ax_P1 := fun as z K => ∃ (p1 : Int32) (p2 : Int32) (p3 : Int32) (D : ax_Dn) (E : ax_En), as = [.ref 58, .int p1, .int p2, .int p3] ∧ z = ax_S D E ∧ (ax_cnt (D 58 23) 20 ∧ vp_in p2 10 ∧ K (some (.int (lM_ (D 69) (D 71) (D 72) (D 73) (D 74) (D 75) (D 58 23).toNatClampNeg p1 p2 p3))) (ax_S D E))
theorem ry_141 (p1 : Int32) (p2 : Int32) (p3 : Int32) (D : ax_Dn) (E : ax_En) (K : ax_Po) : cy_141 [.ref 58, .int p1, .int p2, .int p3] (ax_S D E) K = (ax_cnt (D 58 23) 20 ∧ vp_in p2 10 ∧ K (some (.int (lM_ (D 69) (D 71) (D 72) (D 73) (D 74) (D 75) (D 58 23).toNatClampNeg p1 p2 p3))) (ax_S D E)) := propext ⟨fun ⟨p1', p2', p3', D', E', h1, h2, h3⟩ => by cases h1; obtain ⟨rfl, rfl⟩ := ax_S_inj h2; exact h3, fun h => ⟨p1, p2, p3, D, E, rfl, rfl, h⟩⟩
theorem sy_141 {g : ax_G} : ∀ as z K, cy_141 as z K → ax_MM g 141 as z K := by
  rintro _ _ K ⟨p1, p2, p3, D, E, rfl, rfl, h⟩
  refine ax_go141 _ _ _ _ ?_
  obtain ⟨h1, hs, h⟩ := h
  obtain ⟨n, hn, h20, hc⟩ := ax_cnt_of h1 (by decide)
  rw [hc] at h
  refine ax_WPo (l := [(139, cy_139), (140, cy_140)]) (ax_oc sy_139 (ax_oc sy_140 ax_on)) ax_ok141 (fun t => t == 6 || t == 76) 400 0 rfl ?_
  simp +decide only [↓ax_B, ax_B, ax_kds, ax_gvs, ax_mcs, ax_ia_S, ax_up_ap, ax_vinL, and_self_left, ax_up_up, ax_up_sw, Nat.reduceAdd, Nat.reduceBEq, Nat.reduceLeDiff, Nat.reduceLT, Nat.reduceEqDiff, ↓reduceIte, true_and, and_true, List.cons_append, List.nil_append, Int32.reduceLT, Int32.reduceLE, Int32.reduceAdd, Int32.reduceToNatClampNeg, Int32.reduceOfNat, true_imp_iff, false_imp_iff, not_true_eq_false, not_false_eq_true, or_true, true_or, or_false, false_or, and_self, Bool.or_true, Bool.or_false, Bool.true_or, Bool.false_or, implies_true, forall_const, Bool.false_eq_true, Int32.neg_neg, ax_X141, ry_139, ry_140]
  exact lp_141a hn h20 p1 p2 p3 hs n 0 (-1) (by omega) (fun q => absurd (by decide) q) h
def nk_M (ev eo es ed eb : Nat → Int32) (m s d : Int32) : Nat → Nat → Int32 → Int32
  | 0, _, acc => acc
  | j + 1, k, acc => nk_M ev eo es ed eb m s d j (k + 1) (if ev k = 110 then if eo k = m then if es k = s then if d < ed k then acc else acc ||| 1 <<< (eb k &&& 31) else acc else acc else acc)
theorem lp_142 {g : ax_G} {K : ax_Po} {D : ax_Dn} {E : ax_En} {n : Nat} (hn : D 58 23 = nI n) (h20 : n ≤ 20) (m s d : Int32) : ∀ (j k : Nat) (acc : Int32), k + j = n → K (some (.int (nk_M (D 71) (D 72) (D 73) (D 74) (D 75) m s d j k acc))) (ax_S D E) → ax_WP g (ax_hy 142) K 92 92 6 [some (.ref 58), some (.int m), some (.int s), some (.int d), some (.int acc), some (.int (nI k))] [] (ax_S D E) := by
  intro j
  induction j with
  | zero =>
    intro k acc hk h
    have hc : nI n ≤ nI k := nI_le (by omega) (by omega)
    refine ax_WPo (l := [(139, cy_139)]) (ax_oc sy_139 ax_on) ax_ok142 (fun t => t == 6) 400 6 rfl ?_
    simp +decide only [↓ax_B, ax_B, ax_kds, ax_gvs, ax_mcs, ax_ia_S, ax_up_ap, ax_vinL, and_self_left, ax_up_up, ax_up_sw, Nat.reduceAdd, Nat.reduceBEq, Nat.reduceLeDiff, Nat.reduceLT, Nat.reduceEqDiff, ↓reduceIte, true_and, and_true, List.cons_append, List.nil_append, Int32.reduceLT, Int32.reduceLE, Int32.reduceAdd, Int32.reduceToNatClampNeg, Int32.reduceOfNat, true_imp_iff, false_imp_iff, not_true_eq_false, not_false_eq_true, or_true, true_or, or_false, false_or, and_self, Bool.or_true, Bool.or_false, Bool.true_or, Bool.false_or, implies_true, forall_const, Bool.false_eq_true, Int32.neg_neg, ax_X142, ry_139, hn, hc]
    exact h
  | succ j ih =>
    intro k acc hk h
    have hc : ¬ nI n ≤ nI k := nI_ge (by omega) (by omega)
    have h1 : vp_in (nI k) 20 := vp_in_nI (by omega) (by omega)
    have h2 : (nI k).toNatClampNeg = k := nI_clamp (by omega)
    have h3 : nI k + 1 = nI (k + 1) := nI_1 k
    unfold nk_M at h
    refine ax_WPo (l := [(139, cy_139)]) (ax_oc sy_139 ax_on) ax_ok142 (fun t => t == 6) 400 6 rfl ?_
    simp +decide only [↓ax_B, ax_B, ax_kds, ax_gvs, ax_mcs, ax_ia_S, ax_up_ap, ax_vinL, and_self_left, ax_up_up, ax_up_sw, Nat.reduceAdd, Nat.reduceBEq, Nat.reduceLeDiff, Nat.reduceLT, Nat.reduceEqDiff, ↓reduceIte, true_and, and_true, List.cons_append, List.nil_append, Int32.reduceLT, Int32.reduceLE, Int32.reduceAdd, Int32.reduceToNatClampNeg, Int32.reduceOfNat, true_imp_iff, false_imp_iff, not_true_eq_false, not_false_eq_true, or_true, true_or, or_false, false_or, and_self, Bool.or_true, Bool.or_false, Bool.true_or, Bool.false_or, implies_true, forall_const, Bool.false_eq_true, Int32.neg_neg, ax_X142, ry_139, hn, hc, h1, h2, h3]
    repeat' (first | with_reducible apply And.intro | with_reducible intro _)
    all_goals first | (simpa [*] using h) | (refine ih (k + 1) _ (by omega) ?_; simpa [*] using h)
def nM_ (ev eo es ed eb : Nat → Int32) (n : Nat) (m s d : Int32) : Int32 := nk_M ev eo es ed eb m s d n 0 0
/-- AskewLettersModel.nicksOf(III)I -/
def cy_142 : ax_P1 := fun as z K => ∃ (p1 : Int32) (p2 : Int32) (p3 : Int32) (D : ax_Dn) (E : ax_En), as = [.ref 58, .int p1, .int p2, .int p3] ∧ z = ax_S D E ∧ (ax_cnt (D 58 23) 20 ∧ K (some (.int (nM_ (D 71) (D 72) (D 73) (D 74) (D 75) (D 58 23).toNatClampNeg p1 p2 p3))) (ax_S D E))
theorem ry_142 (p1 : Int32) (p2 : Int32) (p3 : Int32) (D : ax_Dn) (E : ax_En) (K : ax_Po) : cy_142 [.ref 58, .int p1, .int p2, .int p3] (ax_S D E) K = (ax_cnt (D 58 23) 20 ∧ K (some (.int (nM_ (D 71) (D 72) (D 73) (D 74) (D 75) (D 58 23).toNatClampNeg p1 p2 p3))) (ax_S D E)) := propext ⟨fun ⟨p1', p2', p3', D', E', h1, h2, h3⟩ => by cases h1; obtain ⟨rfl, rfl⟩ := ax_S_inj h2; exact h3, fun h => ⟨p1, p2, p3, D, E, rfl, rfl, h⟩⟩
theorem sy_142 {g : ax_G} : ∀ as z K, cy_142 as z K → ax_MM g 142 as z K := by
  rintro _ _ K ⟨p1, p2, p3, D, E, rfl, rfl, h⟩
  refine ax_go142 _ _ _ _ ?_
  obtain ⟨h1, h⟩ := h
  obtain ⟨n, hn, h20, hc⟩ := ax_cnt_of h1 (by decide)
  rw [hc] at h
  refine ax_WPo (l := [(139, cy_139)]) (ax_oc sy_139 ax_on) ax_ok142 (fun t => t == 6) 400 0 rfl ?_
  simp +decide only [↓ax_B, ax_B, ax_kds, ax_gvs, ax_mcs, ax_ia_S, ax_up_ap, ax_vinL, and_self_left, ax_up_up, ax_up_sw, Nat.reduceAdd, Nat.reduceBEq, Nat.reduceLeDiff, Nat.reduceLT, Nat.reduceEqDiff, ↓reduceIte, true_and, and_true, List.cons_append, List.nil_append, Int32.reduceLT, Int32.reduceLE, Int32.reduceAdd, Int32.reduceToNatClampNeg, Int32.reduceOfNat, true_imp_iff, false_imp_iff, not_true_eq_false, not_false_eq_true, or_true, true_or, or_false, false_or, and_self, Bool.or_true, Bool.or_false, Bool.true_or, Bool.false_or, implies_true, forall_const, Bool.false_eq_true, Int32.neg_neg, ax_X142, ry_139]
  exact lp_142 hn h20 p1 p2 p3 n 0 0 (by omega) h
