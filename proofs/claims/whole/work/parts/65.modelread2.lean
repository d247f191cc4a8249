/-! The book's text is read: the model's numbers and leans. -/
theorem hm_d {t : Nat → Int32} {n p : Nat} : dgt t n p ↔ ¬ hm_ t n p < 48 ∧ ¬ 57 < hm_ t n p := by
  unfold dgt hm_
  by_cases h : p < n
  · rw [if_pos h, Int32.not_lt, Int32.not_lt]
    exact ⟨fun q => q.2, fun q => ⟨h, q⟩⟩
  · rw [if_neg h]
    exact ⟨fun q => absurd q.1 h, fun q => absurd (by decide) q.1⟩
theorem hm_e {t : Nat → Int32} {n p : Nat} (h : p < n) : hm_ t n p = t p := by unfold hm_; rw [if_pos h]
abbrev tqm_ (D : ax_Dn) (t : Nat → Int32) (n p : Nat) : Prop := D 60 = t ∧ tmd_ D n p
def qm_ (S : List Nat) (s : Nat) (D D' : ax_Dn) : Prop := ∀ x i, ¬ (x = 58 ∧ i = 21) → ¬ (x ∈ S ∧ i = s) → D' x i = D x i
theorem qm_rf {S : List Nat} {s : Nat} {D : ax_Dn} : qm_ S s D D := fun _ _ _ _ => rfl
theorem qm_tr {S S' T : List Nat} {s : Nat} {D D' D'' : ax_Dn} (h : qm_ S s D D') (h' : qm_ S' s D' D'') (hS : S ⊆ T) (hS' : S' ⊆ T) : qm_ T s D D'' := fun x i a b =>
  (h' x i a (fun q => b ⟨hS' q.1, q.2⟩)).trans (h x i a (fun q => b ⟨hS q.1, q.2⟩))
theorem qm_e {S : List Nat} {s s' : Nat} {D D' D'' : ax_Dn} (h : qm_ S s D D') (h' : qm_ [] s' D' D'') : qm_ S s D D'' := fun x i a b =>
  (h' x i a (fun q => absurd q.1 List.not_mem_nil)).trans (h x i a b)
theorem qm_58 {S : List Nat} {s : Nat} {D D' : ax_Dn} (h : qm_ S s D D') (v : Int32) : qm_ S s D (ax_up D' 58 (ax_up (D' 58) 21 v)) := by
  intro x i a b
  by_cases hx : x = 58
  · subst hx
    rw [ax_up_s, ax_up_n _ _ (fun q => a ⟨rfl, q⟩)]
    exact h 58 i a b
  · rw [ax_up_n _ _ hx]
    exact h x i a b
theorem qm_up {S : List Nat} {s : Nat} {D D' : ax_Dn} (h : qm_ S s D D') (c : Nat) (hc : c ∈ S) (v : Int32) : qm_ S s D (ax_up D' c (ax_up (D' c) s v)) := by
  intro x i a b
  by_cases hx : x = c
  · subst hx
    rw [ax_up_s, ax_up_n _ _ (fun q => b ⟨hc, q⟩)]
    exact h x i a b
  · rw [ax_up_n _ _ hx]
    exact h x i a b
theorem qm_k {S : List Nat} {s : Nat} {D D' : ax_Dn} {x i : Nat} (h : qm_ S s D D') (hx : ¬ (x = 58 ∧ i = 21)) (hS : ¬ x ∈ S) : D' x i = D x i := h x i hx (fun q => hS q.1)
theorem tm_58 {D : ax_Dn} {t : Nat → Int32} {n p : Nat} (h : tqm_ D t n p) (q : Nat) (hq : q ≤ n) : tqm_ (ax_up D 58 (ax_up (D 58) 21 (nI q))) t n q := ⟨(ax_up_n _ _ (by decide)).trans h.1, by rw [ax_up_s, ax_up_n _ _ (by decide)]; exact h.2.1, by rw [ax_up_s, ax_up_s], h.2.2.2.1, hq⟩
theorem tm_c {D : ax_Dn} {t : Nat → Int32} {n p : Nat} (h : tqm_ D t n p) (c : Nat) (hc : ¬ c = 58 ∧ ¬ c = 60) (f : Nat → Int32) : tqm_ (ax_up D c f) t n p := ⟨(ax_up_n _ _ (fun q => hc.2 q.symm)).trans h.1, by rw [ax_up_n _ _ (fun q => hc.1 q.symm)]; exact h.2.1, by rw [ax_up_n _ _ (fun q => hc.1 q.symm)]; exact h.2.2.1, h.2.2.2.1, h.2.2.2.2⟩
theorem nu_rg (t : Nat → Int32) (n : Nat) : ∀ (k p : Nat) (v : Int32) (b : Int), 0 ≤ v.toInt → v.toInt ≤ b → b * 10 ^ k + 10 ^ k ≤ 1000 → 0 ≤ b → 0 ≤ (nu_ t n k p v).2.toInt ∧ (nu_ t n k p v).2.toInt < b * 10 ^ k + 10 ^ k := by
  intro k
  induction k with
  | zero =>
    intro p v b h0 h1 h2 h3
    unfold nu_
    simp only [Int.pow_zero, Int.mul_one]
    exact ⟨h0, by omega⟩
  | succ k ih =>
    intro p v b h0 h1 h2 h3
    have e : b * 10 ^ (k + 1) + 10 ^ (k + 1) = (b * 10 + 9) * 10 ^ k + 10 ^ k := by
      rw [Int.pow_succ]
      rw [Int.add_mul, Int.mul_assoc, Int.mul_comm 10 (10 ^ k)]
      omega
    have g : (1 : Int) ≤ 10 ^ k := Int.pow_pos (by decide)
    unfold nu_
    split
    · rename_i hd
      obtain ⟨d1, d2, d3⟩ := hd
      have d2 := na_le.mp d2
      have d3 := na_le.mp d3
      have z48 : (48 : Int32).toInt = 48 := rfl
      have z57 : (57 : Int32).toInt = 57 := rfl
      have z10 : (10 : Int32).toInt = 10 := rfl
      have hb : b * 10 + 9 ≤ 1000 := by
        have q : (b * 10 + 9) * 1 ≤ (b * 10 + 9) * 10 ^ k := Int.mul_le_mul_of_nonneg_left g (by omega)
        omega
      have e1 : (v * 10).toInt = v.toInt * 10 := by rw [na_mul (by rw [z10]; omega) (by rw [z10]; omega), z10]
      have e2 : (v * 10 + t p).toInt = v.toInt * 10 + (t p).toInt := by rw [na_add (by rw [e1]; omega) (by rw [e1]; omega), e1]
      have e3 : (v * 10 + t p - 48).toInt = v.toInt * 10 + (t p).toInt - 48 := by rw [na_sub (by rw [e2, z48]; omega) (by rw [e2, z48]; omega), e2, z48]
      rw [e]
      exact ih (p + 1) _ (b * 10 + 9) (by rw [e3]; omega) (by rw [e3]; omega) (by rw [← e]; exact h2) (by omega)
    · have q : b * 1 ≤ b * 10 ^ (k + 1) := Int.mul_le_mul_of_nonneg_left (Int.pow_pos (by decide)) h3
      have g : (1 : Int) ≤ 10 ^ (k + 1) := Int.pow_pos (by decide)
      show 0 ≤ v.toInt ∧ v.toInt < b * 10 ^ (k + 1) + 10 ^ (k + 1)
      clear e h2
      generalize b * 10 ^ (k + 1) = Y at q ⊢
      generalize (10 : Int) ^ (k + 1) = Z at g ⊢
      omega
/-- a number of k digits -/
theorem nu_r0 (t : Nat → Int32) (n p : Nat) {k : Nat} (hk : k ≤ 3) : 0 ≤ (nu_ t n k p 0).2.toInt ∧ (nu_ t n k p 0).2.toInt < 10 ^ k := by
  have z : (0 : Int32).toInt = 0 := rfl
  have h := nu_rg t n k p 0 0 (by rw [z]; exact Int.le_refl _) (by rw [z]; exact Int.le_refl _) (by
    have : k = 0 ∨ k = 1 ∨ k = 2 ∨ k = 3 := by omega
    rcases this with rfl | rfl | rfl | rfl <;> decide) (Int.le_refl _)
  rw [Int.zero_mul, Int.zero_add] at h
  exact h
theorem nu_p {t : Nat → Int32} {n p k : Nat} (hk : 1 ≤ k) : dgt t n p ↔ ¬ (nu_ t n k p 0).1 = p := by
  obtain ⟨j, rfl⟩ : ∃ j, k = j + 1 := ⟨k - 1, by omega⟩
  unfold nu_
  by_cases c : dgt t n p
  · rw [if_pos c]
    have := (nu_le t n j (p + 1) (0 * 10 + t p - 48)).1
    exact ⟨fun _ => by omega, fun _ => c⟩
  · rw [if_neg c]
    exact ⟨fun h => absurd h c, fun h => absurd rfl h⟩
theorem lp_132 {g : ax_G} {K : ax_Po} {E : ax_En} (n K0 : Nat) (hK0 : K0 ≤ 3) (t : Nat → Int32) : ∀ (j k p : Nat) (v : Int32) (D : ax_Dn), k + j = K0 → tqm_ D t n p → K (some (.int (nu_ t n j p v).2)) (ax_S (ax_up D 58 (ax_up (D 58) 21 (nI (nu_ t n j p v).1))) E) → ax_WP g (ax_hy 132) K 92 92 20 [some (.ref 58), some (.int (nI K0)), some (.int v), some (.int (nI k))] [] (ax_S D E) := by
  have fin : ∀ (p : Nat) (v : Int32) (D : ax_Dn), tqm_ D t n p → K (some (.int v)) (ax_S (ax_up D 58 (ax_up (D 58) 21 (nI p))) E) → K (some (.int v)) (ax_S D E) := by
    intro p v D ht h
    rw [← ht.2.2.1, ax_up_id, ax_up_id] at h
    exact h
  intro j
  induction j with
  | zero =>
    intro k p v D hk ht h
    have hc : nI K0 ≤ nI k := nI_le (by omega) (by omega)
    refine ax_WPo (l := [(128, cy_128), (131, cy_131h)]) (ax_oc sy_128 (ax_oc sy_131h ax_on)) ax_ok132 (fun t => t == 20) 400 20 rfl ?_
    simp +decide only [↓ax_B, ax_B, ax_kds, ax_gvs, ax_mcs, ax_ia_S, ax_up_ap, ax_vinL, and_self_left, ax_up_up, ax_up_sw, Nat.reduceAdd, Nat.reduceBEq, Nat.reduceLeDiff, Nat.reduceLT, Nat.reduceEqDiff, ↓reduceIte, true_and, and_true, List.cons_append, List.nil_append, Int32.reduceLT, Int32.reduceLE, Int32.reduceAdd, Int32.reduceToNatClampNeg, Int32.reduceOfNat, true_imp_iff, false_imp_iff, not_true_eq_false, not_false_eq_true, or_true, true_or, or_false, false_or, and_self, Bool.or_true, Bool.or_false, Bool.true_or, Bool.false_or, implies_true, forall_const, Bool.false_eq_true, Int32.neg_neg, ax_X132, ry_128, ry_131h, hc]
    exact fin p v D ht h
  | succ j ih =>
    intro k p v D hk ht h
    have hc : ¬ nI K0 ≤ nI k := nI_ge (by omega) (by omega)
    have i1 : nI k + 1 = nI (k + 1) := nI_1 k
    have i2 : nI p + 1 = nI (p + 1) := nI_1 p
    have h2 := ht.2.2.1
    have h6 := ht.1
    unfold nu_ at h
    refine ax_WPo (l := [(128, cy_128), (131, cy_131h)]) (ax_oc sy_128 (ax_oc sy_131h ax_on)) ax_ok132 (fun t => t == 20) 400 20 rfl ?_
    simp +decide only [↓ax_B, ax_B, ax_kds, ax_gvs, ax_mcs, ax_ia_S, ax_up_ap, ax_vinL, and_self_left, ax_up_up, ax_up_sw, Nat.reduceAdd, Nat.reduceBEq, Nat.reduceLeDiff, Nat.reduceLT, Nat.reduceEqDiff, ↓reduceIte, true_and, and_true, List.cons_append, List.nil_append, Int32.reduceLT, Int32.reduceLE, Int32.reduceAdd, Int32.reduceToNatClampNeg, Int32.reduceOfNat, true_imp_iff, false_imp_iff, not_true_eq_false, not_false_eq_true, or_true, true_or, or_false, false_or, and_self, Bool.or_true, Bool.or_false, Bool.true_or, Bool.false_or, implies_true, forall_const, Bool.false_eq_true, Int32.neg_neg, ax_X132, ry_128, ry_131h, hc, i1, h2, i2, h6]
    refine ⟨n, p, ht.2, fun c1 => ?_, fun c1 => ⟨fun c2 => ?_, fun c2 => ⟨n, p, ht.2, ?_⟩⟩⟩
    · rw [if_neg (fun q => (hm_d.mp q).1 c1)] at h
      exact fin p v D ht h
    · rw [if_neg (fun q => (hm_d.mp q).2 c2)] at h
      exact fin p v D ht h
    · have hd : dgt t n p := hm_d.mpr ⟨c1, c2⟩
      rw [hm_e hd.1, Int32.mul_comm 10 v]
      rw [if_pos hd] at h
      refine ih (k + 1) (p + 1) (v * 10 + t p - 48) _ (by omega) (tm_58 ht (p + 1) hd.1) ?_
      rw [ax_up_s, ax_up_up, ax_up_up]
      exact h
/-- AskewLettersModel.number(I)I -/
def cy_132 : ax_P1 := fun as z K => ∃ (p1 : Int32) (D : ax_Dn) (E : ax_En), as = [.ref 58, .int p1] ∧ z = ax_S D E ∧ (∃ t n p k, tqm_ D t n p ∧ p1 = nI k ∧ 1 ≤ k ∧ k ≤ 3 ∧ (dgt t n p → K (some (.int (nu_ t n k p 0).2)) (ax_S (ax_up D 58 (ax_up (D 58) 21 (nI (nu_ t n k p 0).1))) E)) ∧ (¬ dgt t n p → K (some (.int (-1))) (ax_S D E)))
theorem ry_132 (p1 : Int32) (D : ax_Dn) (E : ax_En) (K : ax_Po) : cy_132 [.ref 58, .int p1] (ax_S D E) K = (∃ t n p k, tqm_ D t n p ∧ p1 = nI k ∧ 1 ≤ k ∧ k ≤ 3 ∧ (dgt t n p → K (some (.int (nu_ t n k p 0).2)) (ax_S (ax_up D 58 (ax_up (D 58) 21 (nI (nu_ t n k p 0).1))) E)) ∧ (¬ dgt t n p → K (some (.int (-1))) (ax_S D E))) := propext ⟨fun ⟨p1', D', E', h1, h2, h3⟩ => by cases h1; obtain ⟨rfl, rfl⟩ := ax_S_inj h2; exact h3, fun h => ⟨p1, D, E, rfl, rfl, h⟩⟩
theorem sy_132 {g : ax_G} : ∀ as z K, cy_132 as z K → ax_MM g 132 as z K := by
  rintro _ _ K ⟨p1, D, E, rfl, rfl, h⟩
  refine ax_go132 _ _ ?_
  obtain ⟨t, n, p, k, ht, rfl, k1, k3, h1, h2⟩ := h
  have h6 := ht.1
  refine ax_WPo (l := [(128, cy_128), (131, cy_131h)]) (ax_oc sy_128 (ax_oc sy_131h ax_on)) ax_ok132 (fun t => t == 20) 400 0 rfl ?_
  simp +decide only [↓ax_B, ax_B, ax_kds, ax_gvs, ax_mcs, ax_ia_S, ax_up_ap, ax_vinL, and_self_left, ax_up_up, ax_up_sw, Nat.reduceAdd, Nat.reduceBEq, Nat.reduceLeDiff, Nat.reduceLT, Nat.reduceEqDiff, ↓reduceIte, true_and, and_true, List.cons_append, List.nil_append, Int32.reduceLT, Int32.reduceLE, Int32.reduceAdd, Int32.reduceToNatClampNeg, Int32.reduceOfNat, true_imp_iff, false_imp_iff, not_true_eq_false, not_false_eq_true, or_true, true_or, or_false, false_or, and_self, Bool.or_true, Bool.or_false, Bool.true_or, Bool.false_or, implies_true, forall_const, Bool.false_eq_true, Int32.neg_neg, ax_X132, ry_128, ry_131h, h6]
  refine ⟨n, p, ht.2, fun c1 => ?_, fun c1 => ⟨fun c2 => ?_, fun c2 => ?_⟩⟩
  · exact h2 (fun q => (hm_d.mp q).1 c1)
  · exact h2 (fun q => (hm_d.mp q).2 c2)
  · exact lp_132 n k k3 t k 0 p 0 D (by omega) ht (h1 (hm_d.mpr ⟨c1, c2⟩))
/-- AskewLettersModel.number(I)I -/
def cy_132n : ax_P1 := fun as z K => ∃ (p1 : Int32) (D : ax_Dn) (E : ax_En), as = [.ref 58, .int p1] ∧ z = ax_S D E ∧ (∃ t n p k, tqm_ D t n p ∧ p1 = nI k ∧ 1 ≤ k ∧ k ≤ 3 ∧ (dgt t n p → ∀ D', qm_ [] 0 D D' → tqm_ D' t n (nu_ t n k p 0).1 → ∀ v : Int32, v = (nu_ t n k p 0).2 → ¬ v < 0 → K (some (.int v)) (ax_S D' E)) ∧ (¬ dgt t n p → K (some (.int (-1))) (ax_S D E)))
theorem ry_132n (p1 : Int32) (D : ax_Dn) (E : ax_En) (K : ax_Po) : cy_132n [.ref 58, .int p1] (ax_S D E) K = (∃ t n p k, tqm_ D t n p ∧ p1 = nI k ∧ 1 ≤ k ∧ k ≤ 3 ∧ (dgt t n p → ∀ D', qm_ [] 0 D D' → tqm_ D' t n (nu_ t n k p 0).1 → ∀ v : Int32, v = (nu_ t n k p 0).2 → ¬ v < 0 → K (some (.int v)) (ax_S D' E)) ∧ (¬ dgt t n p → K (some (.int (-1))) (ax_S D E))) := propext ⟨fun ⟨p1', D', E', h1, h2, h3⟩ => by cases h1; obtain ⟨rfl, rfl⟩ := ax_S_inj h2; exact h3, fun h => ⟨p1, D, E, rfl, rfl, h⟩⟩
theorem sy_132n {g : ax_G} : ∀ as z K, cy_132n as z K → ax_MM g 132 as z K := by
  rintro _ _ K ⟨p1, D, E, rfl, rfl, t, n, p, k, ht, h1, h2, h3, h4, h5⟩
  refine sy_132 _ _ _ ⟨p1, D, E, rfl, rfl, t, n, p, k, ht, h1, h2, h3, fun d => h4 d _ (qm_58 qm_rf _) (tm_58 ht _ ((nu_le t n k p 0).2.2 (Nat.le_of_lt d.1))) _ rfl ?_, h5⟩
  have z : (0 : Int32).toInt = 0 := rfl
  rw [na_lt, z]
  have := (nu_r0 t n p h3).1
  omega
/-- AskewLettersModel.takes(I)Z -/
def cy_133b : ax_P1 := fun as z K => ∃ (p1 : Int32) (D : ax_Dn) (E : ax_En), as = [.ref 58, .int p1] ∧ z = ax_S D E ∧ (∃ t n p, tqm_ D t n p ∧ ¬ p1 = -1 ∧ (byt t n p p1 → K (some (.int 1)) (ax_S (ax_up D 58 (ax_up (D 58) 21 (nI (p + 1)))) E)) ∧ (¬ byt t n p p1 → K (some (.int 0)) (ax_S D E)))
theorem ry_133b (p1 : Int32) (D : ax_Dn) (E : ax_En) (K : ax_Po) : cy_133b [.ref 58, .int p1] (ax_S D E) K = (∃ t n p, tqm_ D t n p ∧ ¬ p1 = -1 ∧ (byt t n p p1 → K (some (.int 1)) (ax_S (ax_up D 58 (ax_up (D 58) 21 (nI (p + 1)))) E)) ∧ (¬ byt t n p p1 → K (some (.int 0)) (ax_S D E))) := propext ⟨fun ⟨p1', D', E', h1, h2, h3⟩ => by cases h1; obtain ⟨rfl, rfl⟩ := ax_S_inj h2; exact h3, fun h => ⟨p1, D, E, rfl, rfl, h⟩⟩
theorem sy_133b {g : ax_G} : ∀ as z K, cy_133b as z K → ax_MM g 133 as z K := by
  rintro _ _ K ⟨p1, D, E, rfl, rfl, h⟩
  refine ax_go133 _ _ ?_
  obtain ⟨t, n, p, ht, hb, h⟩ := h
  have h2 := ht.2.2.1
  have h6 := ht.1
  have h3 : nI p + 1 = nI (p + 1) := nI_1 p
  rw [hm_b hb] at h
  refine ax_WPo (l := [(131, cy_131h)]) (ax_oc sy_131h ax_on) ax_ok133 (fun _ => false) 400 0 rfl ?_
  simp +decide only [↓ax_B, ax_B, ax_kds, ax_gvs, ax_mcs, ax_ia_S, ax_up_ap, ax_vinL, and_self_left, ax_up_up, ax_up_sw, Nat.reduceAdd, Nat.reduceBEq, Nat.reduceLeDiff, Nat.reduceLT, Nat.reduceEqDiff, ↓reduceIte, true_and, and_true, List.cons_append, List.nil_append, Int32.reduceLT, Int32.reduceLE, Int32.reduceAdd, Int32.reduceToNatClampNeg, Int32.reduceOfNat, true_imp_iff, false_imp_iff, not_true_eq_false, not_false_eq_true, or_true, true_or, or_false, false_or, and_self, Bool.or_true, Bool.or_false, Bool.true_or, Bool.false_or, implies_true, forall_const, Bool.false_eq_true, Int32.neg_neg, ax_X133, ry_131h, h2, h3, h6]
  exact ⟨n, p, ht.2, h.1, h.2⟩
/-- AskewLettersModel.leans()Z -/
def cy_134 : ax_P1 := fun as z K => ∃ (D : ax_Dn) (E : ax_En), as = [.ref 58] ∧ z = ax_S D E ∧ (∃ t n p s, tqm_ D t n p ∧ D 58 24 = nI s ∧ s < 32 ∧ (∀ D', qm_ [65] s D D' → tqm_ D' t n (lP_ t n p).2 → ((lP_ t n p).1 = true → D' 65 s = lV_ t p) → K (some (.int (if (lP_ t n p).1 = true then 1 else 0))) (ax_S D' E)))
theorem ry_134  (D : ax_Dn) (E : ax_En) (K : ax_Po) : cy_134 [.ref 58] (ax_S D E) K = (∃ t n p s, tqm_ D t n p ∧ D 58 24 = nI s ∧ s < 32 ∧ (∀ D', qm_ [65] s D D' → tqm_ D' t n (lP_ t n p).2 → ((lP_ t n p).1 = true → D' 65 s = lV_ t p) → K (some (.int (if (lP_ t n p).1 = true then 1 else 0))) (ax_S D' E))) := propext ⟨fun ⟨D', E', h1, h2, h3⟩ => by cases h1; obtain ⟨rfl, rfl⟩ := ax_S_inj h2; exact h3, fun h => ⟨D, E, rfl, rfl, h⟩⟩
theorem sy_134 {g : ax_G} : ∀ as z K, cy_134 as z K → ax_MM g 134 as z K := by
  rintro _ _ K ⟨D, E, rfl, rfl, h⟩
  refine ax_go134 _ ?_
  obtain ⟨t, n, p, s, ht, h24, hs, h⟩ := h
  have h2 := ht.2.2.1
  have h6 := ht.1
  have c1 : (nI s).toNatClampNeg = s := nI_clamp (by omega)
  have c2 : vp_in (nI s) 32 := vp_in_nI hs (by omega)
  have i2 : nI p + 1 = nI (p + 1) := nI_1 p
  have T1 : p < n → tqm_ (ax_up D 58 (ax_up (D 58) 21 (nI (p + 1)))) t n (p + 1) := fun q => tm_58 ht (p + 1) q
  have Q1 : qm_ [65] s D (ax_up D 58 (ax_up (D 58) 21 (nI (p + 1)))) := qm_58 qm_rf _
  have k1 : (byt t n p 45 ∨ byt t n p 43) → dgt t n (p + 1) → ∀ D', qm_ [] 0 (ax_up D 58 (ax_up (D 58) 21 (nI (p + 1)))) D' → tqm_ D' t n (nu_ t n 1 (p + 1) 0).1 → ∀ v : Int32, v = (nu_ t n 1 (p + 1) 0).2 → ¬ v < 0 → ∀ w, (v = t (p + 1) - 48 → w = lV_ t p) → vp_in (D' 58 24) 32 ∧ (v < 0 → K (some (.int 0)) (ax_S (ax_up D' 65 (ax_up (D' 65) (D' 58 24).toNatClampNeg w)) E)) ∧ (¬ v < 0 → K (some (.int 1)) (ax_S (ax_up D' 65 (ax_up (D' 65) (D' 58 24).toNatClampNeg w)) E)) := by
    intro o d D' q' t' v hv hn w hw
    rw [nu1_, if_pos d] at t' hv
    have e24 : D' 58 24 = nI s := (qm_k q' (by decide) List.not_mem_nil).trans ((ax_up_n _ _ (by decide) : (ax_up (D 58) 21 (nI (p + 1))) 24 = _).trans h24)
    rw [e24, c1]
    refine ⟨c2, fun z => absurd z hn, fun _ => ?_⟩
    rw [show lP_ t n p = (true, p + 2) by unfold lP_; rw [if_pos o, if_pos d]] at h
    simp only [↓reduceIte] at h
    exact h _ (qm_up (qm_e Q1 q') 65 (by decide) _) (tm_c t' 65 (by decide) _) (fun _ => by rw [ax_up_s, ax_up_s]; exact hw hv)
  have k2 : (byt t n p 45 ∨ byt t n p 43) → ¬ dgt t n (p + 1) → ∀ w, K (some (.int 0)) (ax_S (ax_up (ax_up D 58 (ax_up (D 58) 21 (nI (p + 1)))) 65 (ax_up (D 65) s w)) E) := by
    intro o d w
    rw [show lP_ t n p = (false, p + 1) by unfold lP_; rw [if_pos o, if_neg d]] at h
    simp only [Bool.false_eq_true, ↓reduceIte] at h
    exact h _ (qm_up Q1 65 (by decide) _) (tm_c (T1 (o.elim (fun b => b.1) (fun b => b.1))) 65 (by decide) _) (fun z => False.elim z)
  have k3 : ¬ (byt t n p 45 ∨ byt t n p 43) → K (some (.int 0)) (ax_S D E) := by
    intro o
    rw [show lP_ t n p = (false, p) by unfold lP_; rw [if_neg o]] at h
    simp only [Bool.false_eq_true, ↓reduceIte] at h
    exact h _ qm_rf ht (fun z => False.elim z)
  have e45 : byt t n p 45 ↔ hm_ t n p = 45 := hm_b (by decide)
  have e43 : byt t n p 43 ↔ hm_ t n p = 43 := hm_b (by decide)
  refine ax_WPo (l := [(131, cy_131h), (132, cy_132n)]) (ax_oc sy_131h (ax_oc sy_132n ax_on)) ax_ok134 (fun _ => false) 400 0 rfl ?_
  simp +decide only [↓ax_B, ax_B, ax_kds, ax_gvs, ax_mcs, ax_ia_S, ax_up_ap, ax_vinL, and_self_left, ax_up_up, ax_up_sw, Nat.reduceAdd, Nat.reduceBEq, Nat.reduceLeDiff, Nat.reduceLT, Nat.reduceEqDiff, ↓reduceIte, true_and, and_true, List.cons_append, List.nil_append, Int32.reduceLT, Int32.reduceLE, Int32.reduceAdd, Int32.reduceToNatClampNeg, Int32.reduceOfNat, true_imp_iff, false_imp_iff, not_true_eq_false, not_false_eq_true, or_true, true_or, or_false, false_or, and_self, Bool.or_true, Bool.or_false, Bool.true_or, Bool.false_or, implies_true, forall_const, Bool.false_eq_true, Int32.neg_neg, ax_X134, ry_131h, ry_132n, h2,h6,h24,c1,c2,i2]
  refine ⟨n, p, ht.2, fun a => ⟨n, p, ht.2, fun b => k3 (fun o => o.elim (fun z => b (e45.mp z)) (fun z => a (e43.mp z))), fun b => ⟨t, n, p + 1, 1, T1 (e45.mpr b).1, rfl, by decide, by decide, fun d D' q' t' v hv hn => k1 (Or.inl (e45.mpr b)) d D' q' t' v hv hn _ (fun e => ?_), fun d => k2 (Or.inl (e45.mpr b)) d _⟩⟩, fun a => ⟨t, n, p + 1, 1, T1 (e43.mpr a).1, rfl, by decide, by decide, fun d D' q' t' v hv hn => k1 (Or.inr (e43.mpr a)) d D' q' t' v hv hn _ (fun e => ?_), fun d => k2 (Or.inr (e43.mpr a)) d _⟩⟩
  · unfold lV_
    rw [if_pos (e45.mpr b).2, e, Int32.neg_mul, Int32.one_mul]
  · unfold lV_
    rw [if_neg (fun q => absurd ((e43.mpr a).2.symm.trans q) (by decide)), e]
    simp
