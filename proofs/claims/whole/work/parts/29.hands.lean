/-! The row, the palest sign, hands. -/
def ju_ (sg rw : Nat → Int32) : Nat → Nat → Option Nat
  | 0, _ => none
  | j + 1, k => if sg k = rw k then ju_ sg rw j (k + 1) else some k
/-- JUDGED: a page of n strokes, a row of t -/
def jd_ (sg rw : Nat → Int32) (n t : Nat) : Int32 := match ju_ sg rw (min n t) 0 with
  | some k => nI k
  | none => if n = t then -9 else nI (min n t)
theorem lp_58 {g : ax_G} {K : ax_Po} {D : ax_Dn} {E : ax_En} {n t : Nat} (hn : D 12 0 = nI n) (h30 : n ≤ 30) (t30 : t ≤ 30) : ∀ (j k : Nat), k + j = min n t → (∀ q, ju_ (D 13) (D 50) j k = some q → K (some (.int (nI q))) (ax_S D E)) → (ju_ (D 13) (D 50) j k = none → K (some (.int (if n = t then -9 else nI (min n t)))) (ax_S D E)) → ax_WP g (ax_hy 58) K 92 92 12 [some (.ref 12), some (.ref 50), some (.int (nI t)), some (.int (nI (min n t))), some (.int (nI k))] [] (ax_S D E) := by
  intro j
  induction j with
  | zero =>
    intro k hk hs hf
    have hc : nI (min n t) ≤ nI k := nI_le (by omega) (by omega)
    have he : (nI n = nI t) ↔ n = t := nI_eq (by omega) (by omega)
    have hf := hf rfl
    refine ax_WPo (l := []) ax_on ax_ok58 (fun t => t == 12) 400 12 rfl ?_
    simp +decide only [↓ax_B, ax_B, ax_kds, ax_gvs, ax_mcs, ax_ia_S, ax_up_ap, ax_vinL, and_self_left, ax_up_up, ax_up_sw, Nat.reduceAdd, Nat.reduceBEq, Nat.reduceLeDiff, Nat.reduceLT, Nat.reduceEqDiff, ↓reduceIte, true_and, and_true, List.cons_append, List.nil_append, Int32.reduceLT, Int32.reduceLE, Int32.reduceAdd, Int32.reduceToNatClampNeg, Int32.reduceOfNat, true_imp_iff, false_imp_iff, not_true_eq_false, not_false_eq_true, or_true, true_or, or_false, false_or, and_self, Bool.or_true, Bool.or_false, Bool.true_or, Bool.false_or, implies_true, forall_const, Bool.false_eq_true, Int32.neg_neg, ax_X58, hn, hc, he]
    refine ⟨fun c => ?_, fun c => ?_⟩
    · rw [if_neg c] at hf
      exact hf
    · rw [if_pos c] at hf
      exact hf
  | succ j ih =>
    intro k hk hs hf
    have hc : ¬ nI (min n t) ≤ nI k := nI_ge (by omega) (by omega)
    have h1 : vp_in (nI k) 30 := vp_in_nI (by omega) (by omega)
    have h2 : (nI k).toNatClampNeg = k := nI_clamp (by omega)
    have h3 : nI k + 1 = nI (k + 1) := nI_1 k
    unfold ju_ at hs hf
    refine ax_WPo (l := []) ax_on ax_ok58 (fun t => t == 12) 400 12 rfl ?_
    simp +decide only [↓ax_B, ax_B, ax_kds, ax_gvs, ax_mcs, ax_ia_S, ax_up_ap, ax_vinL, and_self_left, ax_up_up, ax_up_sw, Nat.reduceAdd, Nat.reduceBEq, Nat.reduceLeDiff, Nat.reduceLT, Nat.reduceEqDiff, ↓reduceIte, true_and, and_true, List.cons_append, List.nil_append, Int32.reduceLT, Int32.reduceLE, Int32.reduceAdd, Int32.reduceToNatClampNeg, Int32.reduceOfNat, true_imp_iff, false_imp_iff, not_true_eq_false, not_false_eq_true, or_true, true_or, or_false, false_or, and_self, Bool.or_true, Bool.or_false, Bool.true_or, Bool.false_or, implies_true, forall_const, Bool.false_eq_true, Int32.neg_neg, ax_X58, hn, hc, h1, h2, h3]
    refine ⟨fun c => ?_, fun c => ?_⟩
    · rw [if_pos c] at hs hf
      exact ih (k + 1) (by omega) hs hf
    · rw [if_neg c] at hs
      exact hs k rfl
/-- AskewLetters$Page.firstUnlike([II)I -/
def cy_58 : ax_P1 := fun as z K => ∃ (p2 : Int32) (D : ax_Dn) (E : ax_En), as = [.ref 12, .ref 50, .int p2] ∧ z = ax_S D E ∧ (ax_cnt (D 12 0) 30 ∧ ax_cnt p2 30 ∧ K (some (.int (jd_ (D 13) (D 50) (D 12 0).toNatClampNeg p2.toNatClampNeg))) (ax_S D E))
theorem ry_58 (p2 : Int32) (D : ax_Dn) (E : ax_En) (K : ax_Po) : cy_58 [.ref 12, .ref 50, .int p2] (ax_S D E) K = (ax_cnt (D 12 0) 30 ∧ ax_cnt p2 30 ∧ K (some (.int (jd_ (D 13) (D 50) (D 12 0).toNatClampNeg p2.toNatClampNeg))) (ax_S D E)) := propext ⟨fun ⟨p2', D', E', h1, h2, h3⟩ => by cases h1; obtain ⟨rfl, rfl⟩ := ax_S_inj h2; exact h3, fun h => ⟨p2, D, E, rfl, rfl, h⟩⟩
theorem sy_58 {g : ax_G} : ∀ as z K, cy_58 as z K → ax_MM g 58 as z K := by
  rintro _ _ K ⟨p2, D, E, rfl, rfl, h⟩
  refine ax_go58 _ _ _ ?_
  obtain ⟨g1, g2, h⟩ := h
  obtain ⟨n, hn, h30, hc⟩ := ax_cnt_of g1 (by decide)
  obtain ⟨t, rfl, t30, hc2⟩ := ax_cnt_of g2 (by decide)
  rw [hc, hc2] at h
  have hm : (if nI t < nI n then nI t else nI n) = nI (min n t) := by
    by_cases q : t < n
    · rw [if_pos ((nI_ltI (by omega) (by omega)).mpr q), Nat.min_eq_right (by omega)]
    · rw [if_neg (fun z => q ((nI_ltI (by omega) (by omega)).mp z)), Nat.min_eq_left (by omega)]
  refine ax_WPo (l := []) ax_on ax_ok58 (fun t => t == 12) 400 0 rfl ?_
  simp +decide only [↓ax_B, ax_B, ax_kds, ax_gvs, ax_mcs, ax_ia_S, ax_up_ap, ax_vinL, and_self_left, ax_up_up, ax_up_sw, Nat.reduceAdd, Nat.reduceBEq, Nat.reduceLeDiff, Nat.reduceLT, Nat.reduceEqDiff, ↓reduceIte, true_and, and_true, List.cons_append, List.nil_append, Int32.reduceLT, Int32.reduceLE, Int32.reduceAdd, Int32.reduceToNatClampNeg, Int32.reduceOfNat, true_imp_iff, false_imp_iff, not_true_eq_false, not_false_eq_true, or_true, true_or, or_false, false_or, and_self, Bool.or_true, Bool.or_false, Bool.true_or, Bool.false_or, implies_true, forall_const, Bool.false_eq_true, Int32.neg_neg, ax_X58, hn, hm]
  unfold jd_ at h
  refine lp_58 hn h30 t30 (min n t) 0 (by omega) (fun q hq => ?_) (fun hq => ?_)
  · rw [hq] at h
    exact h
  · rw [hq] at h
    exact h
theorem lp_198 {g : ax_G} {K : ax_Po} {D : ax_Dn} {E : ax_En} {n t : Nat} (hn : D 58 32 = nI n) (h30 : n ≤ 30) (t30 : t ≤ 30) : ∀ (j k : Nat), k + j = min n t → (∀ q, ju_ (D 81) (D 90) j k = some q → K (some (.int (nI q))) (ax_S D E)) → (ju_ (D 81) (D 90) j k = none → K (some (.int (if n = t then -9 else nI (min n t)))) (ax_S D E)) → ax_WP g (ax_hy 198) K 92 92 12 [some (.ref 58), some (.int (nI t)), some (.int (nI k))] [] (ax_S D E) := by
  have q1 : (nI n ≤ nI t) ↔ n ≤ t := nI_leI (by omega) (by omega)
  have q2 : (nI t ≤ nI n) ↔ t ≤ n := nI_leI (by omega) (by omega)
  intro j
  induction j with
  | zero =>
    intro k hk hs hf
    have q3 : (nI n ≤ nI k) ↔ n ≤ k := nI_leI (by omega) (by omega)
    have q4 : (nI t ≤ nI k) ↔ t ≤ k := nI_leI (by omega) (by omega)
    have hf := hf rfl
    refine ax_WPo (l := []) ax_on ax_ok198 (fun t => t == 12) 400 12 rfl ?_
    simp +decide only [↓ax_B, ax_B, ax_kds, ax_gvs, ax_mcs, ax_ia_S, ax_up_ap, ax_vinL, and_self_left, ax_up_up, ax_up_sw, Nat.reduceAdd, Nat.reduceBEq, Nat.reduceLeDiff, Nat.reduceLT, Nat.reduceEqDiff, ↓reduceIte, true_and, and_true, List.cons_append, List.nil_append, Int32.reduceLT, Int32.reduceLE, Int32.reduceAdd, Int32.reduceToNatClampNeg, Int32.reduceOfNat, true_imp_iff, false_imp_iff, not_true_eq_false, not_false_eq_true, or_true, true_or, or_false, false_or, and_self, Bool.or_true, Bool.or_false, Bool.true_or, Bool.false_or, implies_true, forall_const, Bool.false_eq_true, Int32.neg_neg, ax_X198, hn, q1, q2, q3, q4]
    have key : (n ≤ t → (t ≤ n → K (some (.int (-9))) (ax_S D E)) ∧ (¬ t ≤ n → K (some (.int (nI n))) (ax_S D E))) ∧ (¬ n ≤ t → K (some (.int (nI t))) (ax_S D E)) := by
      refine ⟨fun c => ⟨fun c2 => ?_, fun c2 => ?_⟩, fun c => ?_⟩
      · rw [if_pos (by omega)] at hf
        exact hf
      · rw [if_neg (by omega), Nat.min_eq_left (by omega)] at hf
        exact hf
      · rw [if_neg (by omega), Nat.min_eq_right (by omega)] at hf
        exact hf
    refine ⟨fun c => key, fun c => ⟨fun c2 => key, fun c2 => ?_⟩⟩
    exfalso
    omega
  | succ j ih =>
    intro k hk hs hf
    have hc : ¬ nI n ≤ nI k := nI_ge (by omega) (by omega)
    have hc2 : ¬ nI t ≤ nI k := nI_ge (by omega) (by omega)
    have h1 : vp_in (nI k) 30 := vp_in_nI (by omega) (by omega)
    have h2 : (nI k).toNatClampNeg = k := nI_clamp (by omega)
    have h3 : nI k + 1 = nI (k + 1) := nI_1 k
    unfold ju_ at hs hf
    refine ax_WPo (l := []) ax_on ax_ok198 (fun t => t == 12) 400 12 rfl ?_
    simp +decide only [↓ax_B, ax_B, ax_kds, ax_gvs, ax_mcs, ax_ia_S, ax_up_ap, ax_vinL, and_self_left, ax_up_up, ax_up_sw, Nat.reduceAdd, Nat.reduceBEq, Nat.reduceLeDiff, Nat.reduceLT, Nat.reduceEqDiff, ↓reduceIte, true_and, and_true, List.cons_append, List.nil_append, Int32.reduceLT, Int32.reduceLE, Int32.reduceAdd, Int32.reduceToNatClampNeg, Int32.reduceOfNat, true_imp_iff, false_imp_iff, not_true_eq_false, not_false_eq_true, or_true, true_or, or_false, false_or, and_self, Bool.or_true, Bool.or_false, Bool.true_or, Bool.false_or, implies_true, forall_const, Bool.false_eq_true, Int32.neg_neg, ax_X198, hn, hc, hc2, h1, h2, h3]
    refine ⟨fun c => ?_, fun c => ?_⟩
    · rw [if_pos c] at hs hf
      exact ih (k + 1) (by omega) hs hf
    · rw [if_neg c] at hs
      exact hs k rfl
/-- AskewLettersModel.judge()I -/
def cy_198 : ax_P1 := fun as z K => ∃ (D : ax_Dn) (E : ax_En), as = [.ref 58] ∧ z = ax_S D E ∧ (ax_cnt (D 58 32) 30 ∧ ax_cnt (D 58 41) 30 ∧ K (some (.int (jd_ (D 81) (D 90) (D 58 32).toNatClampNeg (D 58 41).toNatClampNeg))) (ax_S (ax_up D 58 (ax_up (D 58) 41 0)) E))
theorem ry_198  (D : ax_Dn) (E : ax_En) (K : ax_Po) : cy_198 [.ref 58] (ax_S D E) K = (ax_cnt (D 58 32) 30 ∧ ax_cnt (D 58 41) 30 ∧ K (some (.int (jd_ (D 81) (D 90) (D 58 32).toNatClampNeg (D 58 41).toNatClampNeg))) (ax_S (ax_up D 58 (ax_up (D 58) 41 0)) E)) := propext ⟨fun ⟨D', E', h1, h2, h3⟩ => by cases h1; obtain ⟨rfl, rfl⟩ := ax_S_inj h2; exact h3, fun h => ⟨D, E, rfl, rfl, h⟩⟩
theorem sy_198 {g : ax_G} : ∀ as z K, cy_198 as z K → ax_MM g 198 as z K := by
  rintro _ _ K ⟨D, E, rfl, rfl, h⟩
  refine ax_go198 _ ?_
  obtain ⟨g1, g2, h⟩ := h
  obtain ⟨n, hn, h30, hc⟩ := ax_cnt_of g1 (by decide)
  obtain ⟨t, ht, t30, hc2⟩ := ax_cnt_of g2 (by decide)
  rw [hc, hc2] at h
  refine ax_WPo (l := []) ax_on ax_ok198 (fun t => t == 12) 400 0 rfl ?_
  simp +decide only [↓ax_B, ax_B, ax_kds, ax_gvs, ax_mcs, ax_ia_S, ax_up_ap, ax_vinL, and_self_left, ax_up_up, ax_up_sw, Nat.reduceAdd, Nat.reduceBEq, Nat.reduceLeDiff, Nat.reduceLT, Nat.reduceEqDiff, ↓reduceIte, true_and, and_true, List.cons_append, List.nil_append, Int32.reduceLT, Int32.reduceLE, Int32.reduceAdd, Int32.reduceToNatClampNeg, Int32.reduceOfNat, true_imp_iff, false_imp_iff, not_true_eq_false, not_false_eq_true, or_true, true_or, or_false, false_or, and_self, Bool.or_true, Bool.or_false, Bool.true_or, Bool.false_or, implies_true, forall_const, Bool.false_eq_true, Int32.neg_neg, ax_X198, ht]
  unfold jd_ at h
  have hn' : ax_up D 58 (ax_up (D 58) 41 0) 58 32 = nI n := by simp only [ax_up_ap, Nat.reduceEqDiff, ↓reduceIte]; exact hn
  have e1 : ax_up D 58 (ax_up (D 58) 41 0) 81 = D 81 := by simp only [ax_up_ap, Nat.reduceEqDiff, ↓reduceIte]
  have e2 : ax_up D 58 (ax_up (D 58) 41 0) 90 = D 90 := by simp only [ax_up_ap, Nat.reduceEqDiff, ↓reduceIte]
  refine lp_198 hn' h30 t30 (min n t) 0 (by omega) (fun q hq => ?_) (fun hq => ?_)
  · rw [e1, e2] at hq
    rw [hq] at h
    exact h
  · rw [e1, e2] at hq
    rw [hq] at h
    exact h
/-- sum and number of the forces of a sign -/
def pi_ (sg fc : Nat → Int32) (s : Int32) : Nat → Nat → Int32 → Nat → Int32 × Nat
  | 0, _, a, c => (a, c)
  | j + 1, k, a, c => if sg k = s then pi_ sg fc s j (k + 1) (a + fc k) (c + 1) else pi_ sg fc s j (k + 1) a c
theorem pi_le (sg fc : Nat → Int32) (s : Int32) : ∀ (j k : Nat) (a : Int32) (c : Nat), (pi_ sg fc s j k a c).2 ≤ c + j := by
  intro j
  induction j with
  | zero => intro k a c; exact Nat.le_refl _
  | succ j ih =>
    intro k a c
    unfold pi_
    split
    · have := ih (k + 1) (a + fc k) (c + 1); omega
    · have := ih (k + 1) a c; omega
/-- the best so far: its sign, sum, number -/
def po_ (sg fc : Nat → Int32) (n : Nat) : Nat → Nat → Option (Nat × Int32 × Int32) → Option (Nat × Int32 × Int32)
  | 0, _, b => b
  | j + 1, s, b => po_ sg fc n j (s + 1) (if (pi_ sg fc (nI s) n 0 0 0).2 = 0 then b else match b with
    | none => some (s, (pi_ sg fc (nI s) n 0 0 0).1, nI (pi_ sg fc (nI s) n 0 0 0).2)
    | some q => if (pi_ sg fc (nI s) n 0 0 0).1 * q.2.2 < q.2.1 * nI (pi_ sg fc (nI s) n 0 0 0).2 then some (s, (pi_ sg fc (nI s) n 0 0 0).1, nI (pi_ sg fc (nI s) n 0 0 0).2) else b)
def pa_ (b : Option (Nat × Int32 × Int32)) : Int32 := match b with
  | none => -9
  | some q => nI q.1
/-- locals of the walk for a best so far -/
def pr3 (b : Option (Nat × Int32 × Int32)) (x y z : Int32) : Prop := match b with
  | none => x = -9
  | some q => q.1 < 10 ∧ x = nI q.1 ∧ y = q.2.1 ∧ z = q.2.2
theorem lp_53b {g : ax_G} {K : ax_Po} {D : ax_Dn} {E : ax_En} {n : Nat} (hn : D 12 0 = nI n) (h30 : n ≤ 30) (x y w : Int32) (s : Nat) (L10 : Int32 → Int32 → Int32 → Prop) (hL : ∀ x y w u v z, L10 x y w → ax_WP g (ax_hy 53) K 92 92 10 [some (.ref 12), some (.int x), some (.int y), some (.int w), some (.int (nI s + 1)), u, v, z] [] (ax_S D E)) :
    ∀ (j k : Nat) (a : Int32) (c : Nat), k + j = n → c ≤ k → ((pi_ (D 13) (D 17) (nI s) j k a c).2 = 0 → L10 x y w) → (¬ (pi_ (D 13) (D 17) (nI s) j k a c).2 = 0 → (x = -9 → L10 (nI s) (pi_ (D 13) (D 17) (nI s) j k a c).1 (nI (pi_ (D 13) (D 17) (nI s) j k a c).2)) ∧ (¬ x = -9 → (y * nI (pi_ (D 13) (D 17) (nI s) j k a c).2 ≤ (pi_ (D 13) (D 17) (nI s) j k a c).1 * w → L10 x y w) ∧ (¬ y * nI (pi_ (D 13) (D 17) (nI s) j k a c).2 ≤ (pi_ (D 13) (D 17) (nI s) j k a c).1 * w → L10 (nI s) (pi_ (D 13) (D 17) (nI s) j k a c).1 (nI (pi_ (D 13) (D 17) (nI s) j k a c).2)))) →
    ax_WP g (ax_hy 53) K 92 92 26 [some (.ref 12), some (.int x), some (.int y), some (.int w), some (.int (nI s)), some (.int a), some (.int (nI c)), some (.int (nI k))] [] (ax_S D E) := by
  intro j
  induction j with
  | zero =>
    intro k a c hk hck h0 h1
    have hc : nI n ≤ nI k := nI_le (by omega) (by omega)
    have e0 : (nI c ≤ 0) ↔ c = 0 := by
      rw [← nI_0, nI_leI (by omega) (by omega)]
      omega
    unfold pi_ at h0 h1
    refine ax_WPo (l := []) ax_on ax_ok53 (fun t => t == 10 || t == 26) 400 26 rfl ?_
    simp +decide only [↓ax_B, ax_B, ax_kds, ax_gvs, ax_mcs, ax_ia_S, ax_up_ap, ax_vinL, and_self_left, ax_up_up, ax_up_sw, Nat.reduceAdd, Nat.reduceBEq, Nat.reduceLeDiff, Nat.reduceLT, Nat.reduceEqDiff, ↓reduceIte, true_and, and_true, List.cons_append, List.nil_append, Int32.reduceLT, Int32.reduceLE, Int32.reduceAdd, Int32.reduceToNatClampNeg, Int32.reduceOfNat, true_imp_iff, false_imp_iff, not_true_eq_false, not_false_eq_true, or_true, true_or, or_false, false_or, and_self, Bool.or_true, Bool.or_false, Bool.true_or, Bool.false_or, implies_true, forall_const, Bool.false_eq_true, Int32.neg_neg, ax_X53, hn, hc, e0]
    refine ⟨fun q => hL _ _ _ _ _ _ (h0 q), fun q => ⟨fun q2 => hL _ _ _ _ _ _ ((h1 q).1 q2), fun q2 => ⟨fun q3 => hL _ _ _ _ _ _ (((h1 q).2 q2).1 q3), fun q3 => hL _ _ _ _ _ _ (((h1 q).2 q2).2 q3)⟩⟩⟩
  | succ j ih =>
    intro k a c hk hck h0 h1
    have hc : ¬ nI n ≤ nI k := nI_ge (by omega) (by omega)
    have g1 : vp_in (nI k) 30 := vp_in_nI (by omega) (by omega)
    have g2 : (nI k).toNatClampNeg = k := nI_clamp (by omega)
    have g3 : nI k + 1 = nI (k + 1) := nI_1 k
    have g4 : nI c + 1 = nI (c + 1) := nI_1 c
    unfold pi_ at h0 h1
    refine ax_WPo (l := []) ax_on ax_ok53 (fun t => t == 10 || t == 26) 400 26 rfl ?_
    simp +decide only [↓ax_B, ax_B, ax_kds, ax_gvs, ax_mcs, ax_ia_S, ax_up_ap, ax_vinL, and_self_left, ax_up_up, ax_up_sw, Nat.reduceAdd, Nat.reduceBEq, Nat.reduceLeDiff, Nat.reduceLT, Nat.reduceEqDiff, ↓reduceIte, true_and, and_true, List.cons_append, List.nil_append, Int32.reduceLT, Int32.reduceLE, Int32.reduceAdd, Int32.reduceToNatClampNeg, Int32.reduceOfNat, true_imp_iff, false_imp_iff, not_true_eq_false, not_false_eq_true, or_true, true_or, or_false, false_or, and_self, Bool.or_true, Bool.or_false, Bool.true_or, Bool.false_or, implies_true, forall_const, Bool.false_eq_true, Int32.neg_neg, ax_X53, hn, hc, g1, g2, g3, g4]
    refine ⟨fun q => ?_, fun q => ?_⟩
    · rw [if_neg q] at h0 h1
      exact ih (k + 1) a c (by omega) (by omega) h0 h1
    · rw [if_pos q] at h0 h1
      exact ih (k + 1) _ (c + 1) (by omega) (by omega) h0 h1
theorem lp_53a {g : ax_G} {K : ax_Po} {D : ax_Dn} {E : ax_En} {n : Nat} (hn : D 12 0 = nI n) (h30 : n ≤ 30) : ∀ (j s : Nat) (b : Option (Nat × Int32 × Int32)), s + j = 10 → K (some (.int (pa_ (po_ (D 13) (D 17) n j s b)))) (ax_S D E) → ∀ x y w u v z, pr3 b x y w → ax_WP g (ax_hy 53) K 92 92 10 [some (.ref 12), some (.int x), some (.int y), some (.int w), some (.int (nI s)), u, v, z] [] (ax_S D E) := by
  have e10 : (10 : Int32) = nI 10 := by decide
  intro j
  induction j with
  | zero =>
    intro s b hs h x y w u v z hb
    have hc : (10 : Int32) ≤ nI s := by rw [e10]; exact nI_le (by omega) (by omega)
    have hx : x = pa_ b := by
      unfold pr3 at hb
      unfold pa_
      cases b with
      | none => exact hb
      | some q => exact hb.2.1
    unfold po_ at h
    refine ax_WPo (l := []) ax_on ax_ok53 (fun t => t == 10 || t == 26) 400 10 rfl ?_
    simp +decide only [↓ax_B, ax_B, ax_kds, ax_gvs, ax_mcs, ax_ia_S, ax_up_ap, ax_vinL, and_self_left, ax_up_up, ax_up_sw, Nat.reduceAdd, Nat.reduceBEq, Nat.reduceLeDiff, Nat.reduceLT, Nat.reduceEqDiff, ↓reduceIte, true_and, and_true, List.cons_append, List.nil_append, Int32.reduceLT, Int32.reduceLE, Int32.reduceAdd, Int32.reduceToNatClampNeg, Int32.reduceOfNat, true_imp_iff, false_imp_iff, not_true_eq_false, not_false_eq_true, or_true, true_or, or_false, false_or, and_self, Bool.or_true, Bool.or_false, Bool.true_or, Bool.false_or, implies_true, forall_const, Bool.false_eq_true, Int32.neg_neg, ax_X53, hc]
    rw [hx]
    exact h
  | succ j ih =>
    intro s b hs h x y w u v z hb
    have hc : ¬ (10 : Int32) ≤ nI s := by rw [e10]; exact nI_ge (by omega) (by omega)
    have g3 : nI s + 1 = nI (s + 1) := nI_1 s
    unfold po_ at h
    refine ax_WPo (l := []) ax_on ax_ok53 (fun t => t == 10 || t == 26) 400 10 rfl ?_
    simp +decide only [↓ax_B, ax_B, ax_kds, ax_gvs, ax_mcs, ax_ia_S, ax_up_ap, ax_vinL, and_self_left, ax_up_up, ax_up_sw, Nat.reduceAdd, Nat.reduceBEq, Nat.reduceLeDiff, Nat.reduceLT, Nat.reduceEqDiff, ↓reduceIte, true_and, and_true, List.cons_append, List.nil_append, Int32.reduceLT, Int32.reduceLE, Int32.reduceAdd, Int32.reduceToNatClampNeg, Int32.reduceOfNat, true_imp_iff, false_imp_iff, not_true_eq_false, not_false_eq_true, or_true, true_or, or_false, false_or, and_self, Bool.or_true, Bool.or_false, Bool.true_or, Bool.false_or, implies_true, forall_const, Bool.false_eq_true, Int32.neg_neg, ax_X53, hc]
    have h9 : ∀ q : Nat, q < 10 → ¬ nI q = -9 := by
      intro q hq z
      have := congrArg Int32.toInt z
      rw [na_nI (by omega)] at this
      have e : (-9 : Int32).toInt = -9 := rfl
      rw [e] at this
      omega
    refine lp_53b hn h30 x y w s (fun x y w => ∃ b', K (some (.int (pa_ (po_ (D 13) (D 17) n j (s + 1) b')))) (ax_S D E) ∧ pr3 b' x y w) (fun x y w u v z ⟨b', hb', hp⟩ => by rw [g3]; exact ih (s + 1) b' (by omega) hb' x y w u v z hp) n 0 0 0 (by omega) (Nat.le_refl _) (fun q => ?_) (fun q => ⟨fun q2 => ?_, fun q2 => ⟨fun q3 => ?_, fun q3 => ?_⟩⟩)
    · rw [if_pos q] at h
      exact ⟨b, h, hb⟩
    · rw [if_neg q] at h
      cases b with
      | none => exact ⟨_, h, (by omega : s < 10), rfl, rfl, rfl⟩
      | some p =>
        exfalso
        obtain ⟨p1, p2, -⟩ := hb
        exact h9 p.1 p1 (by rw [← p2]; exact q2)
    · rw [if_neg q] at h
      cases b with
      | none => exact absurd hb q2
      | some p =>
        obtain ⟨p1, p2, p3, p4⟩ := hb
        subst p3; subst p4
        have h : K (some (.int (pa_ (po_ (D 13) (D 17) n j (s + 1) (if (pi_ (D 13) (D 17) (nI s) n 0 0 0).1 * p.2.2 < p.2.1 * nI (pi_ (D 13) (D 17) (nI s) n 0 0 0).2 then some (s, (pi_ (D 13) (D 17) (nI s) n 0 0 0).1, nI (pi_ (D 13) (D 17) (nI s) n 0 0 0).2) else some p))))) (ax_S D E) := h
        rw [if_neg (Int32.not_lt.mpr q3)] at h
        exact ⟨some p, h, p1, p2, rfl, rfl⟩
    · rw [if_neg q] at h
      cases b with
      | none => exact absurd hb q2
      | some p =>
        obtain ⟨p1, p2, p3, p4⟩ := hb
        subst p3; subst p4
        have h : K (some (.int (pa_ (po_ (D 13) (D 17) n j (s + 1) (if (pi_ (D 13) (D 17) (nI s) n 0 0 0).1 * p.2.2 < p.2.1 * nI (pi_ (D 13) (D 17) (nI s) n 0 0 0).2 then some (s, (pi_ (D 13) (D 17) (nI s) n 0 0 0).1, nI (pi_ (D 13) (D 17) (nI s) n 0 0 0).2) else some p))))) (ax_S D E) := h
        rw [if_pos (Int32.not_le.mp q3)] at h
        exact ⟨_, h, (by omega : s < 10), rfl, rfl, rfl⟩
/-- AskewLetters$Page.palest()I -/
def cy_53 : ax_P1 := fun as z K => ∃ (D : ax_Dn) (E : ax_En), as = [.ref 12] ∧ z = ax_S D E ∧ (ax_cnt (D 12 0) 30 ∧ K (some (.int (pa_ (po_ (D 13) (D 17) (D 12 0).toNatClampNeg 10 0 none)))) (ax_S D E))
theorem ry_53  (D : ax_Dn) (E : ax_En) (K : ax_Po) : cy_53 [.ref 12] (ax_S D E) K = (ax_cnt (D 12 0) 30 ∧ K (some (.int (pa_ (po_ (D 13) (D 17) (D 12 0).toNatClampNeg 10 0 none)))) (ax_S D E)) := propext ⟨fun ⟨D', E', h1, h2, h3⟩ => by cases h1; obtain ⟨rfl, rfl⟩ := ax_S_inj h2; exact h3, fun h => ⟨D, E, rfl, rfl, h⟩⟩
theorem sy_53 {g : ax_G} : ∀ as z K, cy_53 as z K → ax_MM g 53 as z K := by
  rintro _ _ K ⟨D, E, rfl, rfl, h⟩
  refine ax_go53 _ ?_
  obtain ⟨h1, h⟩ := h
  obtain ⟨n, hn, h30, hc⟩ := ax_cnt_of h1 (by decide)
  rw [hc] at h
  refine ax_WPo (l := []) ax_on ax_ok53 (fun t => t == 10 || t == 26) 400 0 rfl ?_
  simp +decide only [↓ax_B, ax_B, ax_kds, ax_gvs, ax_mcs, ax_ia_S, ax_up_ap, ax_vinL, and_self_left, ax_up_up, ax_up_sw, Nat.reduceAdd, Nat.reduceBEq, Nat.reduceLeDiff, Nat.reduceLT, Nat.reduceEqDiff, ↓reduceIte, true_and, and_true, List.cons_append, List.nil_append, Int32.reduceLT, Int32.reduceLE, Int32.reduceAdd, Int32.reduceToNatClampNeg, Int32.reduceOfNat, true_imp_iff, false_imp_iff, not_true_eq_false, not_false_eq_true, or_true, true_or, or_false, false_or, and_self, Bool.or_true, Bool.or_false, Bool.true_or, Bool.false_or, implies_true, forall_const, Bool.false_eq_true, Int32.neg_neg, ax_X53]
  exact lp_53a hn h30 10 0 none (by omega) h (-9) 0 0 none none none rfl
theorem lp_189b {g : ax_G} {K : ax_Po} {D : ax_Dn} {E : ax_En} {n : Nat} (hn : D 58 32 = nI n) (h30 : n ≤ 30) (x y w : Int32) (s : Nat) (L10 : Int32 → Int32 → Int32 → Prop) (hL : ∀ x y w u v z, L10 x y w → ax_WP g (ax_hy 189) K 92 92 10 [some (.ref 58), some (.int x), some (.int y), some (.int w), some (.int (nI s + 1)), u, v, z] [] (ax_S D E)) :
    ∀ (j k : Nat) (a : Int32) (c : Nat), k + j = n → c ≤ k → ((pi_ (D 81) (D 85) (nI s) j k a c).2 = 0 → L10 x y w) → (¬ (pi_ (D 81) (D 85) (nI s) j k a c).2 = 0 → (x < 0 → L10 (nI s) (pi_ (D 81) (D 85) (nI s) j k a c).1 (nI (pi_ (D 81) (D 85) (nI s) j k a c).2)) ∧ (¬ x < 0 → ((pi_ (D 81) (D 85) (nI s) j k a c).1 * w < y * nI (pi_ (D 81) (D 85) (nI s) j k a c).2 → L10 (nI s) (pi_ (D 81) (D 85) (nI s) j k a c).1 (nI (pi_ (D 81) (D 85) (nI s) j k a c).2)) ∧ (¬ (pi_ (D 81) (D 85) (nI s) j k a c).1 * w < y * nI (pi_ (D 81) (D 85) (nI s) j k a c).2 → L10 x y w))) →
    ax_WP g (ax_hy 189) K 92 92 26 [some (.ref 58), some (.int x), some (.int y), some (.int w), some (.int (nI s)), some (.int a), some (.int (nI c)), some (.int (nI k))] [] (ax_S D E) := by
  intro j
  induction j with
  | zero =>
    intro k a c hk hck h0 h1
    have hc : nI n ≤ nI k := nI_le (by omega) (by omega)
    have e0 : (nI c = 0) ↔ c = 0 := by
      rw [← nI_0, nI_eq (by omega) (by omega)]
    unfold pi_ at h0 h1
    refine ax_WPo (l := []) ax_on ax_ok189 (fun t => t == 10 || t == 26) 400 26 rfl ?_
    simp +decide only [↓ax_B, ax_B, ax_kds, ax_gvs, ax_mcs, ax_ia_S, ax_up_ap, ax_vinL, and_self_left, ax_up_up, ax_up_sw, Nat.reduceAdd, Nat.reduceBEq, Nat.reduceLeDiff, Nat.reduceLT, Nat.reduceEqDiff, ↓reduceIte, true_and, and_true, List.cons_append, List.nil_append, Int32.reduceLT, Int32.reduceLE, Int32.reduceAdd, Int32.reduceToNatClampNeg, Int32.reduceOfNat, true_imp_iff, false_imp_iff, not_true_eq_false, not_false_eq_true, or_true, true_or, or_false, false_or, and_self, Bool.or_true, Bool.or_false, Bool.true_or, Bool.false_or, implies_true, forall_const, Bool.false_eq_true, Int32.neg_neg, ax_X189, hn, hc, e0]
    refine ⟨fun q => hL _ _ _ _ _ _ (h0 q), fun q => ⟨fun q2 => hL _ _ _ _ _ _ ((h1 q).1 q2), fun q2 => ⟨fun q3 => hL _ _ _ _ _ _ (((h1 q).2 q2).1 q3), fun q3 => hL _ _ _ _ _ _ (((h1 q).2 q2).2 q3)⟩⟩⟩
  | succ j ih =>
    intro k a c hk hck h0 h1
    have hc : ¬ nI n ≤ nI k := nI_ge (by omega) (by omega)
    have g1 : vp_in (nI k) 30 := vp_in_nI (by omega) (by omega)
    have g2 : (nI k).toNatClampNeg = k := nI_clamp (by omega)
    have g3 : nI k + 1 = nI (k + 1) := nI_1 k
    have g4 : nI c + 1 = nI (c + 1) := nI_1 c
    unfold pi_ at h0 h1
    refine ax_WPo (l := []) ax_on ax_ok189 (fun t => t == 10 || t == 26) 400 26 rfl ?_
    simp +decide only [↓ax_B, ax_B, ax_kds, ax_gvs, ax_mcs, ax_ia_S, ax_up_ap, ax_vinL, and_self_left, ax_up_up, ax_up_sw, Nat.reduceAdd, Nat.reduceBEq, Nat.reduceLeDiff, Nat.reduceLT, Nat.reduceEqDiff, ↓reduceIte, true_and, and_true, List.cons_append, List.nil_append, Int32.reduceLT, Int32.reduceLE, Int32.reduceAdd, Int32.reduceToNatClampNeg, Int32.reduceOfNat, true_imp_iff, false_imp_iff, not_true_eq_false, not_false_eq_true, or_true, true_or, or_false, false_or, and_self, Bool.or_true, Bool.or_false, Bool.true_or, Bool.false_or, implies_true, forall_const, Bool.false_eq_true, Int32.neg_neg, ax_X189, hn, hc, g1, g2, g3, g4]
    refine ⟨fun q => ?_, fun q => ?_⟩
    · rw [if_pos q] at h0 h1
      exact ih (k + 1) _ (c + 1) (by omega) (by omega) h0 h1
    · rw [if_neg q] at h0 h1
      exact ih (k + 1) a c (by omega) (by omega) h0 h1
theorem lp_189a {g : ax_G} {K : ax_Po} {D : ax_Dn} {E : ax_En} {n : Nat} (hn : D 58 32 = nI n) (h30 : n ≤ 30) : ∀ (j s : Nat) (b : Option (Nat × Int32 × Int32)), s + j = 10 → K (some (.int (pa_ (po_ (D 81) (D 85) n j s b)))) (ax_S D E) → ∀ x y w u v z, pr3 b x y w → ax_WP g (ax_hy 189) K 92 92 10 [some (.ref 58), some (.int x), some (.int y), some (.int w), some (.int (nI s)), u, v, z] [] (ax_S D E) := by
  have e10 : (10 : Int32) = nI 10 := by decide
  intro j
  induction j with
  | zero =>
    intro s b hs h x y w u v z hb
    have hc : (10 : Int32) ≤ nI s := by rw [e10]; exact nI_le (by omega) (by omega)
    have hx : x = pa_ b := by
      unfold pr3 at hb
      unfold pa_
      cases b with
      | none => exact hb
      | some q => exact hb.2.1
    unfold po_ at h
    refine ax_WPo (l := []) ax_on ax_ok189 (fun t => t == 10 || t == 26) 400 10 rfl ?_
    simp +decide only [↓ax_B, ax_B, ax_kds, ax_gvs, ax_mcs, ax_ia_S, ax_up_ap, ax_vinL, and_self_left, ax_up_up, ax_up_sw, Nat.reduceAdd, Nat.reduceBEq, Nat.reduceLeDiff, Nat.reduceLT, Nat.reduceEqDiff, ↓reduceIte, true_and, and_true, List.cons_append, List.nil_append, Int32.reduceLT, Int32.reduceLE, Int32.reduceAdd, Int32.reduceToNatClampNeg, Int32.reduceOfNat, true_imp_iff, false_imp_iff, not_true_eq_false, not_false_eq_true, or_true, true_or, or_false, false_or, and_self, Bool.or_true, Bool.or_false, Bool.true_or, Bool.false_or, implies_true, forall_const, Bool.false_eq_true, Int32.neg_neg, ax_X189, hc]
    rw [hx]
    exact h
  | succ j ih =>
    intro s b hs h x y w u v z hb
    have hc : ¬ (10 : Int32) ≤ nI s := by rw [e10]; exact nI_ge (by omega) (by omega)
    have g3 : nI s + 1 = nI (s + 1) := nI_1 s
    unfold po_ at h
    refine ax_WPo (l := []) ax_on ax_ok189 (fun t => t == 10 || t == 26) 400 10 rfl ?_
    simp +decide only [↓ax_B, ax_B, ax_kds, ax_gvs, ax_mcs, ax_ia_S, ax_up_ap, ax_vinL, and_self_left, ax_up_up, ax_up_sw, Nat.reduceAdd, Nat.reduceBEq, Nat.reduceLeDiff, Nat.reduceLT, Nat.reduceEqDiff, ↓reduceIte, true_and, and_true, List.cons_append, List.nil_append, Int32.reduceLT, Int32.reduceLE, Int32.reduceAdd, Int32.reduceToNatClampNeg, Int32.reduceOfNat, true_imp_iff, false_imp_iff, not_true_eq_false, not_false_eq_true, or_true, true_or, or_false, false_or, and_self, Bool.or_true, Bool.or_false, Bool.true_or, Bool.false_or, implies_true, forall_const, Bool.false_eq_true, Int32.neg_neg, ax_X189, hc]
    have h9 : ∀ q : Nat, q < 10 → ¬ nI q < 0 := by
      intro q hq z
      have := na_lt.mp z
      rw [na_nI (by omega)] at this
      have e : (0 : Int32).toInt = 0 := rfl
      rw [e] at this
      omega
    refine lp_189b hn h30 x y w s (fun x y w => ∃ b', K (some (.int (pa_ (po_ (D 81) (D 85) n j (s + 1) b')))) (ax_S D E) ∧ pr3 b' x y w) (fun x y w u v z ⟨b', hb', hp⟩ => by rw [g3]; exact ih (s + 1) b' (by omega) hb' x y w u v z hp) n 0 0 0 (by omega) (Nat.le_refl _) (fun q => ?_) (fun q => ⟨fun q2 => ?_, fun q2 => ⟨fun q3 => ?_, fun q3 => ?_⟩⟩)
    · rw [if_pos q] at h
      exact ⟨b, h, hb⟩
    · rw [if_neg q] at h
      cases b with
      | none => exact ⟨_, h, (by omega : s < 10), rfl, rfl, rfl⟩
      | some p =>
        exfalso
        obtain ⟨p1, p2, -⟩ := hb
        exact h9 p.1 p1 (by rw [← p2]; exact q2)
    · rw [if_neg q] at h
      cases b with
      | none => exact absurd (by rw [show x = -9 from hb]; decide) q2
      | some p =>
        obtain ⟨p1, p2, p3, p4⟩ := hb
        subst p3; subst p4
        have h : K (some (.int (pa_ (po_ (D 81) (D 85) n j (s + 1) (if (pi_ (D 81) (D 85) (nI s) n 0 0 0).1 * p.2.2 < p.2.1 * nI (pi_ (D 81) (D 85) (nI s) n 0 0 0).2 then some (s, (pi_ (D 81) (D 85) (nI s) n 0 0 0).1, nI (pi_ (D 81) (D 85) (nI s) n 0 0 0).2) else some p))))) (ax_S D E) := h
        rw [if_pos q3] at h
        exact ⟨_, h, (by omega : s < 10), rfl, rfl, rfl⟩
    · rw [if_neg q] at h
      cases b with
      | none => exact absurd (by rw [show x = -9 from hb]; decide) q2
      | some p =>
        obtain ⟨p1, p2, p3, p4⟩ := hb
        subst p3; subst p4
        have h : K (some (.int (pa_ (po_ (D 81) (D 85) n j (s + 1) (if (pi_ (D 81) (D 85) (nI s) n 0 0 0).1 * p.2.2 < p.2.1 * nI (pi_ (D 81) (D 85) (nI s) n 0 0 0).2 then some (s, (pi_ (D 81) (D 85) (nI s) n 0 0 0).1, nI (pi_ (D 81) (D 85) (nI s) n 0 0 0).2) else some p))))) (ax_S D E) := h
        rw [if_neg q3] at h
        exact ⟨some p, h, p1, p2, rfl, rfl⟩
/-- AskewLettersModel.pale()I -/
def cy_189 : ax_P1 := fun as z K => ∃ (D : ax_Dn) (E : ax_En), as = [.ref 58] ∧ z = ax_S D E ∧ (ax_cnt (D 58 32) 30 ∧ K (some (.int (pa_ (po_ (D 81) (D 85) (D 58 32).toNatClampNeg 10 0 none)))) (ax_S D E))
theorem ry_189  (D : ax_Dn) (E : ax_En) (K : ax_Po) : cy_189 [.ref 58] (ax_S D E) K = (ax_cnt (D 58 32) 30 ∧ K (some (.int (pa_ (po_ (D 81) (D 85) (D 58 32).toNatClampNeg 10 0 none)))) (ax_S D E)) := propext ⟨fun ⟨D', E', h1, h2, h3⟩ => by cases h1; obtain ⟨rfl, rfl⟩ := ax_S_inj h2; exact h3, fun h => ⟨D, E, rfl, rfl, h⟩⟩
theorem sy_189 {g : ax_G} : ∀ as z K, cy_189 as z K → ax_MM g 189 as z K := by
  rintro _ _ K ⟨D, E, rfl, rfl, h⟩
  refine ax_go189 _ ?_
  obtain ⟨h1, h⟩ := h
  obtain ⟨n, hn, h30, hc⟩ := ax_cnt_of h1 (by decide)
  rw [hc] at h
  refine ax_WPo (l := []) ax_on ax_ok189 (fun t => t == 10 || t == 26) 400 0 rfl ?_
  simp +decide only [↓ax_B, ax_B, ax_kds, ax_gvs, ax_mcs, ax_ia_S, ax_up_ap, ax_vinL, and_self_left, ax_up_up, ax_up_sw, Nat.reduceAdd, Nat.reduceBEq, Nat.reduceLeDiff, Nat.reduceLT, Nat.reduceEqDiff, ↓reduceIte, true_and, and_true, List.cons_append, List.nil_append, Int32.reduceLT, Int32.reduceLE, Int32.reduceAdd, Int32.reduceToNatClampNeg, Int32.reduceOfNat, true_imp_iff, false_imp_iff, not_true_eq_false, not_false_eq_true, or_true, true_or, or_false, false_or, and_self, Bool.or_true, Bool.or_false, Bool.true_or, Bool.false_or, implies_true, forall_const, Bool.false_eq_true, Int32.neg_neg, ax_X189]
  exact lp_189a hn h30 10 0 none (by omega) h (-9) 0 1 none none none rfl
