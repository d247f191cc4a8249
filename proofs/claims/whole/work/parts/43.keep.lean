/-! The image: what is copied. -/
/-- AskewLetters$Hands.takeFrom(LAskewLetters$Hands;)V -/
def cy_38a : ax_P1 := fun as z K => ∃ (D : ax_Dn) (E : ax_En), as = [.ref 40, .ref 19] ∧ z = ax_S D E ∧ (K none (ax_S (ax_up (ax_up D 40 (ax_up (D 40) 0 (D 19 0))) 41 (va_cpy (D 20) (D 41) 0 0 40)) E))
theorem ry_38a  (D : ax_Dn) (E : ax_En) (K : ax_Po) : cy_38a [.ref 40, .ref 19] (ax_S D E) K = (K none (ax_S (ax_up (ax_up D 40 (ax_up (D 40) 0 (D 19 0))) 41 (va_cpy (D 20) (D 41) 0 0 40)) E)) := propext ⟨fun ⟨D', E', h1, h2, h3⟩ => by cases h1; obtain ⟨rfl, rfl⟩ := ax_S_inj h2; exact h3, fun h => ⟨D, E, rfl, rfl, h⟩⟩
set_option maxRecDepth 10000 in
theorem sy_38a {g : ax_G} : ∀ as z K, cy_38a as z K → ax_MM g 38 as z K := by
  rintro _ _ K ⟨D, E, rfl, rfl, h⟩
  refine ax_go38 _ _ ?_
  refine ax_WPo (l := []) ax_on ax_ok38 (fun _ => false) 400 0 rfl ?_
  simp +decide only [↓ax_B, ax_B, ax_kds, ax_gvs, ax_mcs, ax_ia_S, ax_up_ap, ax_vinL, and_self_left, ax_up_up, ax_up_sw, Nat.reduceAdd, Nat.reduceBEq, Nat.reduceLeDiff, Nat.reduceLT, Nat.reduceEqDiff, ↓reduceIte, true_and, and_true, List.cons_append, List.nil_append, Int32.reduceLT, Int32.reduceLE, Int32.reduceAdd, Int32.reduceToNatClampNeg, Int32.reduceOfNat, true_imp_iff, false_imp_iff, not_true_eq_false, not_false_eq_true, or_true, true_or, or_false, false_or, and_self, Bool.or_true, Bool.or_false, Bool.true_or, Bool.false_or, implies_true, forall_const, Bool.false_eq_true, Int32.neg_neg]
  exact h
/-- AskewLetters$Hands.takeFrom(LAskewLetters$Hands;)V -/
def cy_38b : ax_P1 := fun as z K => ∃ (D : ax_Dn) (E : ax_En), as = [.ref 19, .ref 40] ∧ z = ax_S D E ∧ (K none (ax_S (ax_up (ax_up D 19 (ax_up (D 19) 0 (D 40 0))) 20 (va_cpy (D 41) (D 20) 0 0 40)) E))
theorem ry_38b  (D : ax_Dn) (E : ax_En) (K : ax_Po) : cy_38b [.ref 19, .ref 40] (ax_S D E) K = (K none (ax_S (ax_up (ax_up D 19 (ax_up (D 19) 0 (D 40 0))) 20 (va_cpy (D 41) (D 20) 0 0 40)) E)) := propext ⟨fun ⟨D', E', h1, h2, h3⟩ => by cases h1; obtain ⟨rfl, rfl⟩ := ax_S_inj h2; exact h3, fun h => ⟨D, E, rfl, rfl, h⟩⟩
set_option maxRecDepth 10000 in
theorem sy_38b {g : ax_G} : ∀ as z K, cy_38b as z K → ax_MM g 38 as z K := by
  rintro _ _ K ⟨D, E, rfl, rfl, h⟩
  refine ax_go38 _ _ ?_
  refine ax_WPo (l := []) ax_on ax_ok38 (fun _ => false) 400 0 rfl ?_
  simp +decide only [↓ax_B, ax_B, ax_kds, ax_gvs, ax_mcs, ax_ia_S, ax_up_ap, ax_vinL, and_self_left, ax_up_up, ax_up_sw, Nat.reduceAdd, Nat.reduceBEq, Nat.reduceLeDiff, Nat.reduceLT, Nat.reduceEqDiff, ↓reduceIte, true_and, and_true, List.cons_append, List.nil_append, Int32.reduceLT, Int32.reduceLE, Int32.reduceAdd, Int32.reduceToNatClampNeg, Int32.reduceOfNat, true_imp_iff, false_imp_iff, not_true_eq_false, not_false_eq_true, or_true, true_or, or_false, false_or, and_self, Bool.or_true, Bool.or_false, Bool.true_or, Bool.false_or, implies_true, forall_const, Bool.false_eq_true, Int32.neg_neg]
  exact h
/-- AskewLetters$Page.takeFrom(LAskewLetters$Page;)V -/
def cy_49a : ax_P1 := fun as z K => ∃ (D : ax_Dn) (E : ax_En), as = [.ref 33, .ref 12] ∧ z = ax_S D E ∧ (K none (ax_S (ax_up (ax_up (ax_up (ax_up (ax_up (ax_up D 33 (ax_up (D 33) 0 (D 12 0))) 34 (va_cpy (D 13) (D 34) 0 0 30)) 35 (va_cpy (D 14) (D 35) 0 0 30)) 36 (va_cpy (D 15) (D 36) 0 0 30)) 37 (va_cpy (D 16) (D 37) 0 0 30)) 38 (va_cpy (D 17) (D 38) 0 0 30)) E))
theorem ry_49a  (D : ax_Dn) (E : ax_En) (K : ax_Po) : cy_49a [.ref 33, .ref 12] (ax_S D E) K = (K none (ax_S (ax_up (ax_up (ax_up (ax_up (ax_up (ax_up D 33 (ax_up (D 33) 0 (D 12 0))) 34 (va_cpy (D 13) (D 34) 0 0 30)) 35 (va_cpy (D 14) (D 35) 0 0 30)) 36 (va_cpy (D 15) (D 36) 0 0 30)) 37 (va_cpy (D 16) (D 37) 0 0 30)) 38 (va_cpy (D 17) (D 38) 0 0 30)) E)) := propext ⟨fun ⟨D', E', h1, h2, h3⟩ => by cases h1; obtain ⟨rfl, rfl⟩ := ax_S_inj h2; exact h3, fun h => ⟨D, E, rfl, rfl, h⟩⟩
set_option maxRecDepth 10000 in
theorem sy_49a {g : ax_G} : ∀ as z K, cy_49a as z K → ax_MM g 49 as z K := by
  rintro _ _ K ⟨D, E, rfl, rfl, h⟩
  refine ax_go49 _ _ ?_
  refine ax_WPo (l := []) ax_on ax_ok49 (fun _ => false) 400 0 rfl ?_
  simp +decide only [↓ax_B, ax_B, ax_kds, ax_gvs, ax_mcs, ax_ia_S, ax_up_ap, ax_vinL, and_self_left, ax_up_up, ax_up_sw, Nat.reduceAdd, Nat.reduceBEq, Nat.reduceLeDiff, Nat.reduceLT, Nat.reduceEqDiff, ↓reduceIte, true_and, and_true, List.cons_append, List.nil_append, Int32.reduceLT, Int32.reduceLE, Int32.reduceAdd, Int32.reduceToNatClampNeg, Int32.reduceOfNat, true_imp_iff, false_imp_iff, not_true_eq_false, not_false_eq_true, or_true, true_or, or_false, false_or, and_self, Bool.or_true, Bool.or_false, Bool.true_or, Bool.false_or, implies_true, forall_const, Bool.false_eq_true, Int32.neg_neg]
  exact h
/-- AskewLetters$Page.takeFrom(LAskewLetters$Page;)V -/
def cy_49b : ax_P1 := fun as z K => ∃ (D : ax_Dn) (E : ax_En), as = [.ref 12, .ref 33] ∧ z = ax_S D E ∧ (K none (ax_S (ax_up (ax_up (ax_up (ax_up (ax_up (ax_up D 12 (ax_up (D 12) 0 (D 33 0))) 13 (va_cpy (D 34) (D 13) 0 0 30)) 14 (va_cpy (D 35) (D 14) 0 0 30)) 15 (va_cpy (D 36) (D 15) 0 0 30)) 16 (va_cpy (D 37) (D 16) 0 0 30)) 17 (va_cpy (D 38) (D 17) 0 0 30)) E))
theorem ry_49b  (D : ax_Dn) (E : ax_En) (K : ax_Po) : cy_49b [.ref 12, .ref 33] (ax_S D E) K = (K none (ax_S (ax_up (ax_up (ax_up (ax_up (ax_up (ax_up D 12 (ax_up (D 12) 0 (D 33 0))) 13 (va_cpy (D 34) (D 13) 0 0 30)) 14 (va_cpy (D 35) (D 14) 0 0 30)) 15 (va_cpy (D 36) (D 15) 0 0 30)) 16 (va_cpy (D 37) (D 16) 0 0 30)) 17 (va_cpy (D 38) (D 17) 0 0 30)) E)) := propext ⟨fun ⟨D', E', h1, h2, h3⟩ => by cases h1; obtain ⟨rfl, rfl⟩ := ax_S_inj h2; exact h3, fun h => ⟨D, E, rfl, rfl, h⟩⟩
set_option maxRecDepth 10000 in
theorem sy_49b {g : ax_G} : ∀ as z K, cy_49b as z K → ax_MM g 49 as z K := by
  rintro _ _ K ⟨D, E, rfl, rfl, h⟩
  refine ax_go49 _ _ ?_
  refine ax_WPo (l := []) ax_on ax_ok49 (fun _ => false) 400 0 rfl ?_
  simp +decide only [↓ax_B, ax_B, ax_kds, ax_gvs, ax_mcs, ax_ia_S, ax_up_ap, ax_vinL, and_self_left, ax_up_up, ax_up_sw, Nat.reduceAdd, Nat.reduceBEq, Nat.reduceLeDiff, Nat.reduceLT, Nat.reduceEqDiff, ↓reduceIte, true_and, and_true, List.cons_append, List.nil_append, Int32.reduceLT, Int32.reduceLE, Int32.reduceAdd, Int32.reduceToNatClampNeg, Int32.reduceOfNat, true_imp_iff, false_imp_iff, not_true_eq_false, not_false_eq_true, or_true, true_or, or_false, false_or, and_self, Bool.or_true, Bool.or_false, Bool.true_or, Bool.false_or, implies_true, forall_const, Bool.false_eq_true, Int32.neg_neg]
  exact h
/-- AskewLetters$Shop.takeFrom(LAskewLetters$Shop;)V -/
def cy_60a : ax_P1 := fun as z K => ∃ (D : ax_Dn) (E : ax_En), as = [.ref 23, .ref 2] ∧ z = ax_S D E ∧ (K none (ax_S (ax_up (ax_up (ax_up (ax_up (ax_up (ax_up (ax_up (ax_up (ax_up (ax_up D 23 (ax_up (ax_up (D 23) 0 (D 2 0)) 5 (D 2 5))) 24 (va_cpy (D 3) (D 24) 0 0 6)) 25 (va_cpy (D 4) (D 25) 0 0 6)) 26 (va_cpy (D 5) (D 26) 0 0 10)) 27 (va_cpy (D 6) (D 27) 0 0 10)) 28 (va_cpy (D 7) (D 28) 0 0 20)) 29 (va_cpy (D 8) (D 29) 0 0 20)) 30 (va_cpy (D 9) (D 30) 0 0 20)) 31 (va_cpy (D 10) (D 31) 0 0 20)) 32 (va_cpy (D 11) (D 32) 0 0 20)) E))
theorem ry_60a  (D : ax_Dn) (E : ax_En) (K : ax_Po) : cy_60a [.ref 23, .ref 2] (ax_S D E) K = (K none (ax_S (ax_up (ax_up (ax_up (ax_up (ax_up (ax_up (ax_up (ax_up (ax_up (ax_up D 23 (ax_up (ax_up (D 23) 0 (D 2 0)) 5 (D 2 5))) 24 (va_cpy (D 3) (D 24) 0 0 6)) 25 (va_cpy (D 4) (D 25) 0 0 6)) 26 (va_cpy (D 5) (D 26) 0 0 10)) 27 (va_cpy (D 6) (D 27) 0 0 10)) 28 (va_cpy (D 7) (D 28) 0 0 20)) 29 (va_cpy (D 8) (D 29) 0 0 20)) 30 (va_cpy (D 9) (D 30) 0 0 20)) 31 (va_cpy (D 10) (D 31) 0 0 20)) 32 (va_cpy (D 11) (D 32) 0 0 20)) E)) := propext ⟨fun ⟨D', E', h1, h2, h3⟩ => by cases h1; obtain ⟨rfl, rfl⟩ := ax_S_inj h2; exact h3, fun h => ⟨D, E, rfl, rfl, h⟩⟩
set_option maxRecDepth 10000 in
theorem sy_60a {g : ax_G} : ∀ as z K, cy_60a as z K → ax_MM g 60 as z K := by
  rintro _ _ K ⟨D, E, rfl, rfl, h⟩
  refine ax_go60 _ _ ?_
  refine ax_WPo (l := []) ax_on ax_ok60 (fun _ => false) 400 0 rfl ?_
  simp +decide only [↓ax_B, ax_B, ax_kds, ax_gvs, ax_mcs, ax_ia_S, ax_up_ap, ax_vinL, and_self_left, ax_up_up, ax_up_sw, Nat.reduceAdd, Nat.reduceBEq, Nat.reduceLeDiff, Nat.reduceLT, Nat.reduceEqDiff, ↓reduceIte, true_and, and_true, List.cons_append, List.nil_append, Int32.reduceLT, Int32.reduceLE, Int32.reduceAdd, Int32.reduceToNatClampNeg, Int32.reduceOfNat, true_imp_iff, false_imp_iff, not_true_eq_false, not_false_eq_true, or_true, true_or, or_false, false_or, and_self, Bool.or_true, Bool.or_false, Bool.true_or, Bool.false_or, implies_true, forall_const, Bool.false_eq_true, Int32.neg_neg]
  exact h
/-- AskewLetters$Shop.takeFrom(LAskewLetters$Shop;)V -/
def cy_60b : ax_P1 := fun as z K => ∃ (D : ax_Dn) (E : ax_En), as = [.ref 2, .ref 23] ∧ z = ax_S D E ∧ (K none (ax_S (ax_up (ax_up (ax_up (ax_up (ax_up (ax_up (ax_up (ax_up (ax_up (ax_up D 2 (ax_up (ax_up (D 2) 0 (D 23 0)) 5 (D 23 5))) 3 (va_cpy (D 24) (D 3) 0 0 6)) 4 (va_cpy (D 25) (D 4) 0 0 6)) 5 (va_cpy (D 26) (D 5) 0 0 10)) 6 (va_cpy (D 27) (D 6) 0 0 10)) 7 (va_cpy (D 28) (D 7) 0 0 20)) 8 (va_cpy (D 29) (D 8) 0 0 20)) 9 (va_cpy (D 30) (D 9) 0 0 20)) 10 (va_cpy (D 31) (D 10) 0 0 20)) 11 (va_cpy (D 32) (D 11) 0 0 20)) E))
theorem ry_60b  (D : ax_Dn) (E : ax_En) (K : ax_Po) : cy_60b [.ref 2, .ref 23] (ax_S D E) K = (K none (ax_S (ax_up (ax_up (ax_up (ax_up (ax_up (ax_up (ax_up (ax_up (ax_up (ax_up D 2 (ax_up (ax_up (D 2) 0 (D 23 0)) 5 (D 23 5))) 3 (va_cpy (D 24) (D 3) 0 0 6)) 4 (va_cpy (D 25) (D 4) 0 0 6)) 5 (va_cpy (D 26) (D 5) 0 0 10)) 6 (va_cpy (D 27) (D 6) 0 0 10)) 7 (va_cpy (D 28) (D 7) 0 0 20)) 8 (va_cpy (D 29) (D 8) 0 0 20)) 9 (va_cpy (D 30) (D 9) 0 0 20)) 10 (va_cpy (D 31) (D 10) 0 0 20)) 11 (va_cpy (D 32) (D 11) 0 0 20)) E)) := propext ⟨fun ⟨D', E', h1, h2, h3⟩ => by cases h1; obtain ⟨rfl, rfl⟩ := ax_S_inj h2; exact h3, fun h => ⟨D, E, rfl, rfl, h⟩⟩
set_option maxRecDepth 10000 in
theorem sy_60b {g : ax_G} : ∀ as z K, cy_60b as z K → ax_MM g 60 as z K := by
  rintro _ _ K ⟨D, E, rfl, rfl, h⟩
  refine ax_go60 _ _ ?_
  refine ax_WPo (l := []) ax_on ax_ok60 (fun _ => false) 400 0 rfl ?_
  simp +decide only [↓ax_B, ax_B, ax_kds, ax_gvs, ax_mcs, ax_ia_S, ax_up_ap, ax_vinL, and_self_left, ax_up_up, ax_up_sw, Nat.reduceAdd, Nat.reduceBEq, Nat.reduceLeDiff, Nat.reduceLT, Nat.reduceEqDiff, ↓reduceIte, true_and, and_true, List.cons_append, List.nil_append, Int32.reduceLT, Int32.reduceLE, Int32.reduceAdd, Int32.reduceToNatClampNeg, Int32.reduceOfNat, true_imp_iff, false_imp_iff, not_true_eq_false, not_false_eq_true, or_true, true_or, or_false, false_or, and_self, Bool.or_true, Bool.or_false, Bool.true_or, Bool.false_or, implies_true, forall_const, Bool.false_eq_true, Int32.neg_neg]
  exact h
theorem up2_ {D : ax_Dn} {k j : Nat} {a a' b b' : Nat → Int32} (h : k ≠ j) : ax_up (ax_up (ax_up (ax_up D k a) j b) k a') j b' = ax_up (ax_up D k a') j b' := by
  funext x
  unfold ax_up
  by_cases h1 : x = j
  · rw [if_pos h1, if_pos h1]
  · rw [if_neg h1, if_neg h1, if_neg h1]
    by_cases h2 : x = k
    · rw [if_pos h2, if_pos h2]
    · rw [if_neg h2, if_neg h2, if_neg h2]
theorem up_c {D : ax_Dn} {k j : Nat} {a b : Nat → Int32} (h : k ≠ j) : ax_up (ax_up D k a) j b = ax_up (ax_up D j b) k a := by
  funext x
  unfold ax_up
  by_cases h1 : x = j
  · subst h1
    rw [if_pos rfl, if_neg (Ne.symm h), if_pos rfl]
  · rw [if_neg h1, if_neg h1]
theorem up_s2 {D : ax_Dn} {k j : Nat} (h : k ≠ j) : ax_up (ax_up D k (D k)) j (D j) = D := by
  funext x
  unfold ax_up
  by_cases h1 : x = j
  · rw [if_pos h1, h1]
  · rw [if_neg h1]
    by_cases h2 : x = k
    · rw [if_pos h2, h2]
    · rw [if_neg h2]
/-- a row is written into the keeper, from the cursor on -/
def kl_ (f : Nat → Int32) (c : Nat) : Nat → Nat → (Nat → Int32) → Nat → Int32
  | 0, _, G => G
  | j + 1, k, G => kl_ f c j (k + 1) (ax_up G (c + k) (f k))
/-- and taken out of it -/
def rl_ (f : Nat → Int32) (c : Nat) : Nat → Nat → (Nat → Int32) → Nat → Int32
  | 0, _, G => G
  | j + 1, k, G => rl_ f c j (k + 1) (ax_up G k (f (c + k)))
def kp_ (c n : Nat) (f G : Nat → Int32) : Nat → Int32 := fun x => if c ≤ x ∧ x < c + n then f (x - c) else G x
def rs_ (c n : Nat) (f G : Nat → Int32) : Nat → Int32 := fun x => if x < n then f (c + x) else G x
theorem kl_eq (f : Nat → Int32) (c : Nat) : ∀ (j k : Nat) (G : Nat → Int32), kl_ f c j k G = fun x => if c + k ≤ x ∧ x < c + k + j then f (x - c) else G x := by
  intro j
  induction j with
  | zero => intro k G; funext x; unfold kl_; rw [if_neg (by omega)]
  | succ j ih =>
    intro k G
    unfold kl_
    rw [ih]
    funext x
    by_cases h : c + k ≤ x ∧ x < c + k + (j + 1)
    · rw [if_pos h]
      by_cases h2 : x = c + k
      · rw [if_neg (by omega), h2, ax_up_s]
        congr 1
        omega
      · rw [if_pos (by omega)]
    · rw [if_neg h, if_neg (by omega), ax_up_n _ _ (by omega)]
theorem rl_eq (f : Nat → Int32) (c : Nat) : ∀ (j k : Nat) (G : Nat → Int32), rl_ f c j k G = fun x => if k ≤ x ∧ x < k + j then f (c + x) else G x := by
  intro j
  induction j with
  | zero => intro k G; funext x; unfold rl_; rw [if_neg (by omega)]
  | succ j ih =>
    intro k G
    unfold rl_
    rw [ih]
    funext x
    by_cases h : k ≤ x ∧ x < k + (j + 1)
    · rw [if_pos h]
      by_cases h2 : x = k
      · rw [if_neg (by omega), h2, ax_up_s]
      · rw [if_pos (by omega)]
    · rw [if_neg h, if_neg (by omega), ax_up_n _ _ (by omega)]
theorem kl_kp (f G : Nat → Int32) (c n : Nat) : kl_ f c n 0 G = kp_ c n f G := by
  rw [kl_eq]
  funext x
  unfold kp_
  rw [Nat.add_zero]
theorem rl_rs (f G : Nat → Int32) (c n : Nat) : rl_ f c n 0 G = rs_ c n f G := by
  rw [rl_eq]
  funext x
  unfold rs_
  by_cases h : x < n
  · rw [if_pos h, if_pos (by omega)]
  · rw [if_neg h, if_neg (by omega)]
theorem lp_199k {g : ax_G} {K : ax_Po} {E : ax_En} {q n c : Nat} (hq : ax_kd q = (10, n)) (hq92 : q < 92) (hq58 : ¬ q = 58) (hq91 : ¬ q = 91) (hn : n ≤ 40) (hc : c + n ≤ 500) : ∀ (j k : Nat) (D : ax_Dn), k + j = n → D 58 44 = 1 → D 58 45 = nI (c + k) → K none (ax_S (ax_up (ax_up D 91 (kl_ (D q) c j k (D 91))) 58 (ax_up (D 58) 45 (nI (c + n)))) E) → ax_WP g (ax_hy 199) K 92 92 2 [some (.ref 58), some (.ref q), some (.int (nI k))] [] (ax_S D E) := by
  have hq1000 : q < 1000 := by omega
  have hon : Int32.ofNat n = nI n := rfl
  intro j
  induction j with
  | zero =>
    intro k D hk h44 h45 h
    have hcc : nI n ≤ nI k := nI_le (by omega) (by omega)
    obtain rfl : k = n := by omega
    unfold kl_ at h
    rw [← h45, ax_up_id, ax_up_id, ax_up_id] at h
    refine ax_WPo (l := []) ax_on ax_ok199 (fun t => t == 2) 400 2 rfl ?_
    simp +decide only [↓ax_B, ax_B, ax_kds, ax_gvs, ax_mcs, ax_ia_S, ax_up_ap, ax_vinL, and_self_left, ax_up_up, ax_up_sw, Nat.reduceAdd, Nat.reduceBEq, Nat.reduceLeDiff, Nat.reduceLT, Nat.reduceEqDiff, ↓reduceIte, true_and, and_true, List.cons_append, List.nil_append, Int32.reduceLT, Int32.reduceLE, Int32.reduceAdd, Int32.reduceToNatClampNeg, Int32.reduceOfNat, true_imp_iff, false_imp_iff, not_true_eq_false, not_false_eq_true, or_true, true_or, or_false, false_or, and_self, Bool.or_true, Bool.or_false, Bool.true_or, Bool.false_or, implies_true, forall_const, Bool.false_eq_true, Int32.neg_neg, ax_X199, hq, hq92, hq1000, hon, hcc]
    exact h
  | succ j ih =>
    intro k D hk h44 h45 h
    have hcc : ¬ nI n ≤ nI k := nI_ge (by omega) (by omega)
    have h1 : vp_in (nI k) n := vp_in_nI (by omega) (by omega)
    have h2 : (nI k).toNatClampNeg = k := nI_clamp (by omega)
    have h3 : nI k + 1 = nI (k + 1) := nI_1 k
    have h4 : vp_in (nI (c + k)) 500 := vp_in_nI (by omega) (by omega)
    have h5 : (nI (c + k)).toNatClampNeg = c + k := nI_clamp (by omega)
    have h6 : nI (c + k) + 1 = nI (c + (k + 1)) := nI_1 _
    unfold kl_ at h
    have hnx := ih (k + 1) (ax_up (ax_up D 91 (ax_up (D 91) (c + k) (D q k))) 58 (ax_up (D 58) 45 (nI (c + (k + 1))))) (by omega) (by simp only [ax_up_ap, Nat.reduceEqDiff, ↓reduceIte]; exact h44) (by simp only [ax_up_ap, Nat.reduceEqDiff, ↓reduceIte]) (by
      rw [up2_ (by decide)]
      simp only [ax_up_ap, ax_up_up, Nat.reduceEqDiff, ↓reduceIte, hq58, hq91]
      exact h)
    refine ax_WPo (l := []) ax_on ax_ok199 (fun t => t == 2) 400 2 rfl ?_
    simp +decide only [↓ax_B, ax_B, ax_kds, ax_gvs, ax_mcs, ax_ia_S, ax_up_ap, ax_vinL, and_self_left, ax_up_up, ax_up_sw, Nat.reduceAdd, Nat.reduceBEq, Nat.reduceLeDiff, Nat.reduceLT, Nat.reduceEqDiff, ↓reduceIte, true_and, and_true, List.cons_append, List.nil_append, Int32.reduceLT, Int32.reduceLE, Int32.reduceAdd, Int32.reduceToNatClampNeg, Int32.reduceOfNat, true_imp_iff, false_imp_iff, not_true_eq_false, not_false_eq_true, or_true, true_or, or_false, false_or, and_self, Bool.or_true, Bool.or_false, Bool.true_or, Bool.false_or, implies_true, forall_const, Bool.false_eq_true, Int32.neg_neg, ax_X199, hq, hq92, hq1000, hon, hcc, h1, h2, h3, h4, h5, h6, h44, h45, hq58, hq91]
    exact hnx
theorem lp_199r {g : ax_G} {K : ax_Po} {E : ax_En} {q n c : Nat} (hq : ax_kd q = (10, n)) (hq92 : q < 92) (hq58 : ¬ q = 58) (hq91 : ¬ q = 91) (hn : n ≤ 40) (hc : c + n ≤ 500) : ∀ (j k : Nat) (D : ax_Dn), k + j = n → D 58 44 = 0 → D 58 45 = nI (c + k) → K none (ax_S (ax_up (ax_up D q (rl_ (D 91) c j k (D q))) 58 (ax_up (D 58) 45 (nI (c + n)))) E) → ax_WP g (ax_hy 199) K 92 92 2 [some (.ref 58), some (.ref q), some (.int (nI k))] [] (ax_S D E) := by
  have hq1000 : q < 1000 := by omega
  have hon : Int32.ofNat n = nI n := rfl
  have h58q : ¬ 58 = q := fun z => hq58 z.symm
  have h91q : ¬ 91 = q := fun z => hq91 z.symm
  intro j
  induction j with
  | zero =>
    intro k D hk h44 h45 h
    have hcc : nI n ≤ nI k := nI_le (by omega) (by omega)
    obtain rfl : k = n := by omega
    unfold rl_ at h
    rw [← h45, ax_up_id, ax_up_id, ax_up_id] at h
    refine ax_WPo (l := []) ax_on ax_ok199 (fun t => t == 2) 400 2 rfl ?_
    simp +decide only [↓ax_B, ax_B, ax_kds, ax_gvs, ax_mcs, ax_ia_S, ax_up_ap, ax_vinL, and_self_left, ax_up_up, ax_up_sw, Nat.reduceAdd, Nat.reduceBEq, Nat.reduceLeDiff, Nat.reduceLT, Nat.reduceEqDiff, ↓reduceIte, true_and, and_true, List.cons_append, List.nil_append, Int32.reduceLT, Int32.reduceLE, Int32.reduceAdd, Int32.reduceToNatClampNeg, Int32.reduceOfNat, true_imp_iff, false_imp_iff, not_true_eq_false, not_false_eq_true, or_true, true_or, or_false, false_or, and_self, Bool.or_true, Bool.or_false, Bool.true_or, Bool.false_or, implies_true, forall_const, Bool.false_eq_true, Int32.neg_neg, ax_X199, hq, hq92, hq1000, hon, hcc]
    exact h
  | succ j ih =>
    intro k D hk h44 h45 h
    have hcc : ¬ nI n ≤ nI k := nI_ge (by omega) (by omega)
    have h1 : vp_in (nI k) n := vp_in_nI (by omega) (by omega)
    have h2 : (nI k).toNatClampNeg = k := nI_clamp (by omega)
    have h3 : nI k + 1 = nI (k + 1) := nI_1 k
    have h4 : vp_in (nI (c + k)) 500 := vp_in_nI (by omega) (by omega)
    have h5 : (nI (c + k)).toNatClampNeg = c + k := nI_clamp (by omega)
    have h6 : nI (c + k) + 1 = nI (c + (k + 1)) := nI_1 _
    unfold rl_ at h
    have hnx := ih (k + 1) (ax_up (ax_up D q (ax_up (D q) k (D 91 (c + k)))) 58 (ax_up (D 58) 45 (nI (c + (k + 1))))) (by omega) (by simp only [ax_up_ap, Nat.reduceEqDiff, ↓reduceIte, h58q]; exact h44) (by simp only [ax_up_ap, Nat.reduceEqDiff, ↓reduceIte]) (by
      rw [up2_ hq58]
      simp only [ax_up_ap, ax_up_up, Nat.reduceEqDiff, ↓reduceIte, hq58, hq91, h58q, h91q]
      exact h)
    refine ax_WPo (l := []) ax_on ax_ok199 (fun t => t == 2) 400 2 rfl ?_
    simp +decide only [↓ax_B, ax_B, ax_kds, ax_gvs, ax_mcs, ax_ia_S, ax_up_ap, ax_vinL, and_self_left, ax_up_up, ax_up_sw, Nat.reduceAdd, Nat.reduceBEq, Nat.reduceLeDiff, Nat.reduceLT, Nat.reduceEqDiff, ↓reduceIte, true_and, and_true, List.cons_append, List.nil_append, Int32.reduceLT, Int32.reduceLE, Int32.reduceAdd, Int32.reduceToNatClampNeg, Int32.reduceOfNat, true_imp_iff, false_imp_iff, not_true_eq_false, not_false_eq_true, or_true, true_or, or_false, false_or, and_self, Bool.or_true, Bool.or_false, Bool.true_or, Bool.false_or, implies_true, forall_const, Bool.false_eq_true, Int32.neg_neg, ax_X199, hq, hq92, hq1000, hon, hcc, h1, h2, h3, h4, h5, h6, h44, h45, hq58, hq91, h58q, h91q]
    first | exact hnx | (rw [up_c (Ne.symm hq58)]; exact hnx)
def cy_199k : ax_P1 := fun as z K => ∃ (p1 : Nat) (D : ax_Dn) (E : ax_En), as = [.ref 58, .ref p1] ∧ z = ax_S D E ∧ ((ax_kd p1).1 = 10 ∧ (ax_kd p1).2 ≤ 40 ∧ p1 < 92 ∧ ¬ p1 = 58 ∧ ¬ p1 = 91 ∧ D 58 44 = 1 ∧ 0 ≤ D 58 45 ∧ (D 58 45).toNatClampNeg + (ax_kd p1).2 ≤ 500 ∧ K none (ax_S (ax_up (ax_up D 91 (kp_ (D 58 45).toNatClampNeg (ax_kd p1).2 (D p1) (D 91))) 58 (ax_up (D 58) 45 (D 58 45 + Int32.ofNat (ax_kd p1).2))) E))
theorem ry_199k (p1 : Nat) (D : ax_Dn) (E : ax_En) (K : ax_Po) : cy_199k [.ref 58, .ref p1] (ax_S D E) K = ((ax_kd p1).1 = 10 ∧ (ax_kd p1).2 ≤ 40 ∧ p1 < 92 ∧ ¬ p1 = 58 ∧ ¬ p1 = 91 ∧ D 58 44 = 1 ∧ 0 ≤ D 58 45 ∧ (D 58 45).toNatClampNeg + (ax_kd p1).2 ≤ 500 ∧ K none (ax_S (ax_up (ax_up D 91 (kp_ (D 58 45).toNatClampNeg (ax_kd p1).2 (D p1) (D 91))) 58 (ax_up (D 58) 45 (D 58 45 + Int32.ofNat (ax_kd p1).2))) E)) := propext ⟨fun ⟨p1', D', E', h1, h2, h3⟩ => by cases h1; obtain ⟨rfl, rfl⟩ := ax_S_inj h2; exact h3, fun h => ⟨p1, D, E, rfl, rfl, h⟩⟩
theorem sy_199k {g : ax_G} : ∀ as z K, cy_199k as z K → ax_MM g 199 as z K := by
  rintro _ _ K ⟨q, D, E, rfl, rfl, h1, h2, h3, h4, h5, h6, h7, h8, h⟩
  obtain ⟨c, hc, q1, q2⟩ := na_of (na_le.mp h7)
  rw [hc, nI_clamp (by omega)] at h8 h
  refine ax_go199 _ _ ?_
  refine ax_WPo (l := []) ax_on ax_ok199 (fun t => t == 2) 400 0 rfl ?_
  simp +decide only [↓ax_B, ax_B, ax_kds, ax_gvs, ax_mcs, ax_ia_S, ax_up_ap, ax_vinL, and_self_left, ax_up_up, ax_up_sw, Nat.reduceAdd, Nat.reduceBEq, Nat.reduceLeDiff, Nat.reduceLT, Nat.reduceEqDiff, ↓reduceIte, true_and, and_true, List.cons_append, List.nil_append, Int32.reduceLT, Int32.reduceLE, Int32.reduceAdd, Int32.reduceToNatClampNeg, Int32.reduceOfNat, true_imp_iff, false_imp_iff, not_true_eq_false, not_false_eq_true, or_true, true_or, or_false, false_or, and_self, Bool.or_true, Bool.or_false, Bool.true_or, Bool.false_or, implies_true, forall_const, Bool.false_eq_true, Int32.neg_neg, ax_X199]
  refine lp_199k (c := c) (n := (ax_kd q).2) (by rw [← h1]) h3 h4 h5 h2 h8 (ax_kd q).2 0 D (by omega) h6 hc ?_
  rw [kl_kp]
  have e : nI c + Int32.ofNat (ax_kd q).2 = nI (c + (ax_kd q).2) := nI_add _ _
  rw [e] at h
  exact h
def cy_199r : ax_P1 := fun as z K => ∃ (p1 : Nat) (D : ax_Dn) (E : ax_En), as = [.ref 58, .ref p1] ∧ z = ax_S D E ∧ ((ax_kd p1).1 = 10 ∧ (ax_kd p1).2 ≤ 40 ∧ p1 < 92 ∧ ¬ p1 = 58 ∧ ¬ p1 = 91 ∧ D 58 44 = 0 ∧ 0 ≤ D 58 45 ∧ (D 58 45).toNatClampNeg + (ax_kd p1).2 ≤ 500 ∧ K none (ax_S (ax_up (ax_up D p1 (rs_ (D 58 45).toNatClampNeg (ax_kd p1).2 (D 91) (D p1))) 58 (ax_up (D 58) 45 (D 58 45 + Int32.ofNat (ax_kd p1).2))) E))
theorem ry_199r (p1 : Nat) (D : ax_Dn) (E : ax_En) (K : ax_Po) : cy_199r [.ref 58, .ref p1] (ax_S D E) K = ((ax_kd p1).1 = 10 ∧ (ax_kd p1).2 ≤ 40 ∧ p1 < 92 ∧ ¬ p1 = 58 ∧ ¬ p1 = 91 ∧ D 58 44 = 0 ∧ 0 ≤ D 58 45 ∧ (D 58 45).toNatClampNeg + (ax_kd p1).2 ≤ 500 ∧ K none (ax_S (ax_up (ax_up D p1 (rs_ (D 58 45).toNatClampNeg (ax_kd p1).2 (D 91) (D p1))) 58 (ax_up (D 58) 45 (D 58 45 + Int32.ofNat (ax_kd p1).2))) E)) := propext ⟨fun ⟨p1', D', E', h1, h2, h3⟩ => by cases h1; obtain ⟨rfl, rfl⟩ := ax_S_inj h2; exact h3, fun h => ⟨p1, D, E, rfl, rfl, h⟩⟩
theorem sy_199r {g : ax_G} : ∀ as z K, cy_199r as z K → ax_MM g 199 as z K := by
  rintro _ _ K ⟨q, D, E, rfl, rfl, h1, h2, h3, h4, h5, h6, h7, h8, h⟩
  obtain ⟨c, hc, q1, q2⟩ := na_of (na_le.mp h7)
  rw [hc, nI_clamp (by omega)] at h8 h
  refine ax_go199 _ _ ?_
  refine ax_WPo (l := []) ax_on ax_ok199 (fun t => t == 2) 400 0 rfl ?_
  simp +decide only [↓ax_B, ax_B, ax_kds, ax_gvs, ax_mcs, ax_ia_S, ax_up_ap, ax_vinL, and_self_left, ax_up_up, ax_up_sw, Nat.reduceAdd, Nat.reduceBEq, Nat.reduceLeDiff, Nat.reduceLT, Nat.reduceEqDiff, ↓reduceIte, true_and, and_true, List.cons_append, List.nil_append, Int32.reduceLT, Int32.reduceLE, Int32.reduceAdd, Int32.reduceToNatClampNeg, Int32.reduceOfNat, true_imp_iff, false_imp_iff, not_true_eq_false, not_false_eq_true, or_true, true_or, or_false, false_or, and_self, Bool.or_true, Bool.or_false, Bool.true_or, Bool.false_or, implies_true, forall_const, Bool.false_eq_true, Int32.neg_neg, ax_X199]
  refine lp_199r (c := c) (n := (ax_kd q).2) (by rw [← h1]) h3 h4 h5 h2 h8 (ax_kd q).2 0 D (by omega) h6 hc ?_
  rw [rl_rs]
  have e : nI c + Int32.ofNat (ax_kd q).2 = nI (c + (ax_kd q).2) := nI_add _ _
  rw [e] at h
  exact h
/-- AskewLettersModel.passOne(I)I -/
def cy_200k : ax_P1 := fun as z K => ∃ (p1 : Int32) (D : ax_Dn) (E : ax_En), as = [.ref 58, .int p1] ∧ z = ax_S D E ∧ (¬ D 58 44 = 0 ∧ vp_in (D 58 45) 500 ∧ K (some (.int p1)) (ax_S (ax_up (ax_up D 91 (ax_up (D 91) (D 58 45).toNatClampNeg p1)) 58 (ax_up (D 58) 45 (D 58 45 + 1))) E))
theorem ry_200k (p1 : Int32) (D : ax_Dn) (E : ax_En) (K : ax_Po) : cy_200k [.ref 58, .int p1] (ax_S D E) K = (¬ D 58 44 = 0 ∧ vp_in (D 58 45) 500 ∧ K (some (.int p1)) (ax_S (ax_up (ax_up D 91 (ax_up (D 91) (D 58 45).toNatClampNeg p1)) 58 (ax_up (D 58) 45 (D 58 45 + 1))) E)) := propext ⟨fun ⟨p1', D', E', h1, h2, h3⟩ => by cases h1; obtain ⟨rfl, rfl⟩ := ax_S_inj h2; exact h3, fun h => ⟨p1, D, E, rfl, rfl, h⟩⟩
theorem sy_200k {g : ax_G} : ∀ as z K, cy_200k as z K → ax_MM g 200 as z K := by
  rintro _ _ K ⟨p1, D, E, rfl, rfl, h⟩
  refine ax_go200 _ _ ?_
  obtain ⟨h1, h2, h⟩ := h
  refine ax_WPo (l := []) ax_on ax_ok200 (fun _ => false) 400 0 rfl ?_
  simp +decide only [↓ax_B, ax_B, ax_kds, ax_gvs, ax_mcs, ax_ia_S, ax_up_ap, ax_vinL, and_self_left, ax_up_up, ax_up_sw, Nat.reduceAdd, Nat.reduceBEq, Nat.reduceLeDiff, Nat.reduceLT, Nat.reduceEqDiff, ↓reduceIte, true_and, and_true, List.cons_append, List.nil_append, Int32.reduceLT, Int32.reduceLE, Int32.reduceAdd, Int32.reduceToNatClampNeg, Int32.reduceOfNat, true_imp_iff, false_imp_iff, not_true_eq_false, not_false_eq_true, or_true, true_or, or_false, false_or, and_self, Bool.or_true, Bool.or_false, Bool.true_or, Bool.false_or, implies_true, forall_const, Bool.false_eq_true, Int32.neg_neg, ax_X200, h1, h2]
  first | exact h | (rw [up_c (by decide)]; exact h)
/-- AskewLettersModel.passOne(I)I -/
def cy_200r : ax_P1 := fun as z K => ∃ (p1 : Int32) (D : ax_Dn) (E : ax_En), as = [.ref 58, .int p1] ∧ z = ax_S D E ∧ (D 58 44 = 0 ∧ vp_in (D 58 45) 500 ∧ K (some (.int (D 91 (D 58 45).toNatClampNeg))) (ax_S (ax_up D 58 (ax_up (D 58) 45 (D 58 45 + 1))) E))
theorem ry_200r (p1 : Int32) (D : ax_Dn) (E : ax_En) (K : ax_Po) : cy_200r [.ref 58, .int p1] (ax_S D E) K = (D 58 44 = 0 ∧ vp_in (D 58 45) 500 ∧ K (some (.int (D 91 (D 58 45).toNatClampNeg))) (ax_S (ax_up D 58 (ax_up (D 58) 45 (D 58 45 + 1))) E)) := propext ⟨fun ⟨p1', D', E', h1, h2, h3⟩ => by cases h1; obtain ⟨rfl, rfl⟩ := ax_S_inj h2; exact h3, fun h => ⟨p1, D, E, rfl, rfl, h⟩⟩
theorem sy_200r {g : ax_G} : ∀ as z K, cy_200r as z K → ax_MM g 200 as z K := by
  rintro _ _ K ⟨p1, D, E, rfl, rfl, h⟩
  refine ax_go200 _ _ ?_
  obtain ⟨h1, h2, h⟩ := h
  refine ax_WPo (l := []) ax_on ax_ok200 (fun _ => false) 400 0 rfl ?_
  simp +decide only [↓ax_B, ax_B, ax_kds, ax_gvs, ax_mcs, ax_ia_S, ax_up_ap, ax_vinL, and_self_left, ax_up_up, ax_up_sw, Nat.reduceAdd, Nat.reduceBEq, Nat.reduceLeDiff, Nat.reduceLT, Nat.reduceEqDiff, ↓reduceIte, true_and, and_true, List.cons_append, List.nil_append, Int32.reduceLT, Int32.reduceLE, Int32.reduceAdd, Int32.reduceToNatClampNeg, Int32.reduceOfNat, true_imp_iff, false_imp_iff, not_true_eq_false, not_false_eq_true, or_true, true_or, or_false, false_or, and_self, Bool.or_true, Bool.or_false, Bool.true_or, Bool.false_or, implies_true, forall_const, Bool.false_eq_true, Int32.neg_neg, ax_X200, h1, h2]
  exact h
