/-! The book's text is read: the class. -/
abbrev dgt (t : Nat → Int32) (n p : Nat) : Prop := p < n ∧ 48 ≤ t p ∧ t p ≤ 57
abbrev byt (t : Nat → Int32) (n p : Nat) (b : Int32) : Prop := p < n ∧ t p = b
def hr_ (t : Nat → Int32) (n p : Nat) : Int32 := if p < n then t p else -9
theorem hr_d {t : Nat → Int32} {n p : Nat} : dgt t n p ↔ ¬ hr_ t n p < 48 ∧ ¬ 57 < hr_ t n p := by
  unfold dgt hr_
  by_cases h : p < n
  · rw [if_pos h, Int32.not_lt, Int32.not_lt]
    exact ⟨fun q => q.2, fun q => ⟨h, q⟩⟩
  · rw [if_neg h]
    exact ⟨fun q => absurd q.1 h, fun q => absurd (by decide) q.1⟩
theorem hr_e {t : Nat → Int32} {n p : Nat} (h : p < n) : hr_ t n p = t p := by unfold hr_; rw [if_pos h]
theorem hr_b {t : Nat → Int32} {n p : Nat} {b : Int32} (hb : ¬ b = -9) : byt t n p b ↔ hr_ t n p = b := by
  unfold byt hr_
  by_cases h : p < n
  · rw [if_pos h]; exact ⟨fun q => q.2, fun q => ⟨h, q⟩⟩
  · rw [if_neg h]; exact ⟨fun q => absurd q.1 h, fun q => absurd q.symm hb⟩
/-- digits: where they end, the number -/
def nu_ (t : Nat → Int32) (n : Nat) : Nat → Nat → Int32 → Nat × Int32
  | 0, p, v => (p, v)
  | k + 1, p, v => if dgt t n p then nu_ t n k (p + 1) (v * 10 + t p - 48) else (p, v)
theorem nu_le (t : Nat → Int32) (n : Nat) : ∀ (k p : Nat) (v : Int32), p ≤ (nu_ t n k p v).1 ∧ (nu_ t n k p v).1 ≤ p + k ∧ (p ≤ n → (nu_ t n k p v).1 ≤ n) := by
  intro k
  induction k with
  | zero => intro p v; exact ⟨Nat.le_refl _, Nat.le_refl _, fun h => h⟩
  | succ k ih =>
    intro p v
    unfold nu_
    split
    · rename_i h
      obtain ⟨a, b, c⟩ := ih (p + 1) (v * 10 + t p - 48)
      exact ⟨by omega, by omega, fun _ => c h.1⟩
    · exact ⟨Nat.le_refl _, by omega, fun h => h⟩
/-- the tape's size and the place that is read -/
def tp_ (D : ax_Dn) (n p : Nat) : Prop := D 43 1 = nI n ∧ D 43 2 = nI p ∧ n ≤ 64 ∧ p ≤ n
/-- AskewLetters$Book.here()I -/
def cy_4h : ax_P1 := fun as z K => ∃ (D : ax_Dn) (E : ax_En), as = [.ref 43] ∧ z = ax_S D E ∧ (∃ n p : Nat, tp_ D n p ∧ K (some (.int (hr_ (D 44) n p))) (ax_S D E))
theorem ry_4h  (D : ax_Dn) (E : ax_En) (K : ax_Po) : cy_4h [.ref 43] (ax_S D E) K = (∃ n p : Nat, tp_ D n p ∧ K (some (.int (hr_ (D 44) n p))) (ax_S D E)) := propext ⟨fun ⟨D', E', h1, h2, h3⟩ => by cases h1; obtain ⟨rfl, rfl⟩ := ax_S_inj h2; exact h3, fun h => ⟨D, E, rfl, rfl, h⟩⟩
theorem sy_4h {g : ax_G} : ∀ as z K, cy_4h as z K → ax_MM g 4 as z K := by
  rintro _ _ K ⟨D, E, rfl, rfl, h⟩
  refine ax_go4 _ ?_
  obtain ⟨n, p, ⟨h1, h2, h3, h4⟩, h⟩ := h
  have c1 : ¬ nI p < 0 := nI_pos (by omega)
  have c2 : nI n ≤ nI p ↔ n ≤ p := nI_leI (by omega) (by omega)
  have c3 : (nI p).toNatClampNeg = p := nI_clamp (by omega)
  unfold hr_ at h
  refine ax_WPo (l := []) ax_on ax_ok4 (fun _ => false) 400 0 rfl ?_
  simp +decide only [↓ax_B, ax_B, ax_kds, ax_gvs, ax_mcs, ax_ia_S, ax_up_ap, ax_vinL, and_self_left, ax_up_up, ax_up_sw, Nat.reduceAdd, Nat.reduceBEq, Nat.reduceLeDiff, Nat.reduceLT, Nat.reduceEqDiff, ↓reduceIte, true_and, and_true, List.cons_append, List.nil_append, Int32.reduceLT, Int32.reduceLE, Int32.reduceAdd, Int32.reduceToNatClampNeg, Int32.reduceOfNat, true_imp_iff, false_imp_iff, not_true_eq_false, not_false_eq_true, or_true, true_or, or_false, false_or, and_self, Bool.or_true, Bool.or_false, Bool.true_or, Bool.false_or, implies_true, forall_const, Bool.false_eq_true, Int32.neg_neg, ax_X4, h1, h2, c1, c2, c3]
  refine ⟨fun c => ?_, fun c => ⟨vp_in_nI (by omega) (by omega), ?_⟩⟩
  · rw [if_neg (by omega)] at h; exact h
  · rw [if_pos (by omega)] at h; exact h
/-- AskewLetters$Book.isByte(I)Z -/
def cy_6b : ax_P1 := fun as z K => ∃ (p1 : Int32) (D : ax_Dn) (E : ax_En), as = [.ref 43, .int p1] ∧ z = ax_S D E ∧ (∃ n p : Nat, tp_ D n p ∧ ¬ p1 = -9 ∧ (byt (D 44) n p p1 → K (some (.int 1)) (ax_S (ax_up D 43 (ax_up (D 43) 2 (nI (p + 1)))) E)) ∧ (¬ byt (D 44) n p p1 → K (some (.int 0)) (ax_S D E)))
theorem ry_6b (p1 : Int32) (D : ax_Dn) (E : ax_En) (K : ax_Po) : cy_6b [.ref 43, .int p1] (ax_S D E) K = (∃ n p : Nat, tp_ D n p ∧ ¬ p1 = -9 ∧ (byt (D 44) n p p1 → K (some (.int 1)) (ax_S (ax_up D 43 (ax_up (D 43) 2 (nI (p + 1)))) E)) ∧ (¬ byt (D 44) n p p1 → K (some (.int 0)) (ax_S D E))) := propext ⟨fun ⟨p1', D', E', h1, h2, h3⟩ => by cases h1; obtain ⟨rfl, rfl⟩ := ax_S_inj h2; exact h3, fun h => ⟨p1, D, E, rfl, rfl, h⟩⟩
theorem sy_6b {g : ax_G} : ∀ as z K, cy_6b as z K → ax_MM g 6 as z K := by
  rintro _ _ K ⟨p1, D, E, rfl, rfl, h⟩
  refine ax_go6 _ _ ?_
  obtain ⟨n, p, ht, hb, h⟩ := h
  have h2 := ht.2.1
  have h3 : nI p + 1 = nI (p + 1) := nI_1 p
  rw [hr_b hb] at h
  refine ax_WPo (l := [(4, cy_4h)]) (ax_oc sy_4h ax_on) ax_ok6 (fun _ => false) 400 0 rfl ?_
  simp +decide only [↓ax_B, ax_B, ax_kds, ax_gvs, ax_mcs, ax_ia_S, ax_up_ap, ax_vinL, and_self_left, ax_up_up, ax_up_sw, Nat.reduceAdd, Nat.reduceBEq, Nat.reduceLeDiff, Nat.reduceLT, Nat.reduceEqDiff, ↓reduceIte, true_and, and_true, List.cons_append, List.nil_append, Int32.reduceLT, Int32.reduceLE, Int32.reduceAdd, Int32.reduceToNatClampNeg, Int32.reduceOfNat, true_imp_iff, false_imp_iff, not_true_eq_false, not_false_eq_true, or_true, true_or, or_false, false_or, and_self, Bool.or_true, Bool.or_false, Bool.true_or, Bool.false_or, implies_true, forall_const, Bool.false_eq_true, Int32.neg_neg, ax_X6, ry_4h, h2, h3]
  exact ⟨n, p, ht, h.1, h.2⟩
theorem up43_ (D : ax_Dn) (G : Nat → Int32) (h : ∀ y, ¬ y = 2 → ¬ y = 3 → G y = D 43 y) (a b : Int32) : ax_up (ax_up D 43 G) 43 (ax_up (ax_up ((ax_up D 43 G) 43) 2 a) 3 b) = ax_up D 43 (ax_up (ax_up (D 43) 2 a) 3 b) := by
  rw [ax_up_s, ax_up_up]
  have e : ax_up (ax_up G 2 a) 3 b = ax_up (ax_up (D 43) 2 a) 3 b := by
    funext y
    by_cases h3 : y = 3
    · subst h3; rw [ax_up_s, ax_up_s]
    · rw [ax_up_n _ _ h3, ax_up_n _ _ h3]
      by_cases h2 : y = 2
      · subst h2; rw [ax_up_s, ax_up_s]
      · rw [ax_up_n _ _ h2, ax_up_n _ _ h2]
        exact h y h2 h3
  rw [e]
theorem lp_7 {g : ax_G} {K : ax_Po} {E : ax_En} (n K0 : Nat) (h64 : n ≤ 64) (hK0 : K0 ≤ 3) (t : Nat → Int32) : ∀ (j k p : Nat) (v : Int32) (D : ax_Dn), k + j = K0 → D 44 = t → D 43 1 = nI n → D 43 2 = nI p → D 43 3 = v → p ≤ n → K (some (.int (if 0 < k + ((nu_ t n j p v).1 - p) then 1 else 0))) (ax_S (ax_up D 43 (ax_up (ax_up (D 43) 2 (nI (nu_ t n j p v).1)) 3 (nu_ t n j p v).2)) E) → ax_WP g (ax_hy 7) K 92 92 7 [some (.ref 43), some (.int (nI K0)), some (.int (nI k))] [] (ax_S D E) := by
  have fin : ∀ (k p : Nat) (v : Int32) (D : ax_Dn), k ≤ 3 → D 43 2 = nI p → D 43 3 = v → K (some (.int (if 0 < k + (p - p) then 1 else 0))) (ax_S (ax_up D 43 (ax_up (ax_up (D 43) 2 (nI p)) 3 v)) E) → (nI k ≤ 0 → K (some (.int 0)) (ax_S D E)) ∧ (¬ nI k ≤ 0 → K (some (.int 1)) (ax_S D E)) := by
    intro k p v D hk h2 h3 h
    rw [← h2, ax_up_id, ← h3, ax_up_id, ax_up_id] at h
    have e0 : nI k ≤ 0 ↔ k ≤ 0 := by rw [← nI_0, nI_leI (by omega) (by omega)]
    rw [e0]
    refine ⟨fun c => ?_, fun c => ?_⟩
    · rw [if_neg (by omega)] at h; exact h
    · rw [if_pos (by omega)] at h; exact h
  intro j
  induction j with
  | zero =>
    intro k p v D hk ht h1 h2 h3 hp h
    have hc : nI K0 ≤ nI k := nI_le (by omega) (by omega)
    refine ax_WPo (l := [(4, cy_4h)]) (ax_oc sy_4h ax_on) ax_ok7 (fun t => t == 7) 400 7 rfl ?_
    simp +decide only [↓ax_B, ax_B, ax_kds, ax_gvs, ax_mcs, ax_ia_S, ax_up_ap, ax_vinL, and_self_left, ax_up_up, ax_up_sw, Nat.reduceAdd, Nat.reduceBEq, Nat.reduceLeDiff, Nat.reduceLT, Nat.reduceEqDiff, ↓reduceIte, true_and, and_true, List.cons_append, List.nil_append, Int32.reduceLT, Int32.reduceLE, Int32.reduceAdd, Int32.reduceToNatClampNeg, Int32.reduceOfNat, true_imp_iff, false_imp_iff, not_true_eq_false, not_false_eq_true, or_true, true_or, or_false, false_or, and_self, Bool.or_true, Bool.or_false, Bool.true_or, Bool.false_or, implies_true, forall_const, Bool.false_eq_true, Int32.neg_neg, ax_X7, ry_4h, hc]
    exact fin k p v D (by omega) h2 h3 h
  | succ j ih =>
    intro k p v D hk ht h1 h2 h3 hp h
    have hc : ¬ nI K0 ≤ nI k := nI_ge (by omega) (by omega)
    have i1 : nI k + 1 = nI (k + 1) := nI_1 k
    have i2 : nI p + 1 = nI (p + 1) := nI_1 p
    have htp : tp_ D n p := ⟨h1, h2, h64, hp⟩
    unfold nu_ at h
    refine ax_WPo (l := [(4, cy_4h)]) (ax_oc sy_4h ax_on) ax_ok7 (fun t => t == 7) 400 7 rfl ?_
    simp +decide only [↓ax_B, ax_B, ax_kds, ax_gvs, ax_mcs, ax_ia_S, ax_up_ap, ax_vinL, and_self_left, ax_up_up, ax_up_sw, Nat.reduceAdd, Nat.reduceBEq, Nat.reduceLeDiff, Nat.reduceLT, Nat.reduceEqDiff, ↓reduceIte, true_and, and_true, List.cons_append, List.nil_append, Int32.reduceLT, Int32.reduceLE, Int32.reduceAdd, Int32.reduceToNatClampNeg, Int32.reduceOfNat, true_imp_iff, false_imp_iff, not_true_eq_false, not_false_eq_true, or_true, true_or, or_false, false_or, and_self, Bool.or_true, Bool.or_false, Bool.true_or, Bool.false_or, implies_true, forall_const, Bool.false_eq_true, Int32.neg_neg, ax_X7, ry_4h, hc, i1, h2, h3, i2, ht]
    refine ⟨n, p, htp, fun c1 => ?_, fun c1 => ⟨n, p, htp, fun c2 => ?_, fun c2 => ⟨n, p, htp, ?_⟩⟩⟩
    · rw [if_neg (fun q => (hr_d.mp q).1 c1)] at h
      exact fin k p v D (by omega) h2 h3 h
    · rw [if_neg (fun q => (hr_d.mp q).2 c2)] at h
      exact fin k p v D (by omega) h2 h3 h
    · have hd : dgt t n p := hr_d.mpr ⟨c1, c2⟩
      rw [hr_e hd.1]
      rw [if_pos hd] at h
      refine ih (k + 1) (p + 1) (v * 10 + t p - 48) _ (by omega) (by simp only [ax_up_ap, Nat.reduceEqDiff, ↓reduceIte]; exact ht) (by simp only [ax_up_ap, Nat.reduceEqDiff, ↓reduceIte]; exact h1) (by simp only [ax_up_ap, Nat.reduceEqDiff, ↓reduceIte]) (by simp only [ax_up_ap, Nat.reduceEqDiff, ↓reduceIte]) hd.1 ?_
      obtain ⟨l1, l2, l3⟩ := nu_le t n j (p + 1) (v * 10 + t p - 48)
      rw [show k + 1 + ((nu_ t n j (p + 1) (v * 10 + t p - 48)).1 - (p + 1)) = k + ((nu_ t n j (p + 1) (v * 10 + t p - 48)).1 - p) by omega]
      rw [up43_ D _ (fun y h2 h3 => by rw [ax_up_n _ _ h2, ax_up_n _ _ h3])]
      exact h
/-- AskewLetters$Book.isNumber(I)Z -/
def cy_7 : ax_P1 := fun as z K => ∃ (p1 : Int32) (D : ax_Dn) (E : ax_En), as = [.ref 43, .int p1] ∧ z = ax_S D E ∧ (∃ n p : Nat, tp_ D n p ∧ 0 ≤ p1 ∧ p1 ≤ 3 ∧ K (some (.int (if (nu_ (D 44) n p1.toNatClampNeg p 0).1 = p then 0 else 1))) (ax_S (ax_up D 43 (ax_up (ax_up (D 43) 2 (nI (nu_ (D 44) n p1.toNatClampNeg p 0).1)) 3 (nu_ (D 44) n p1.toNatClampNeg p 0).2)) E))
theorem ry_7 (p1 : Int32) (D : ax_Dn) (E : ax_En) (K : ax_Po) : cy_7 [.ref 43, .int p1] (ax_S D E) K = (∃ n p : Nat, tp_ D n p ∧ 0 ≤ p1 ∧ p1 ≤ 3 ∧ K (some (.int (if (nu_ (D 44) n p1.toNatClampNeg p 0).1 = p then 0 else 1))) (ax_S (ax_up D 43 (ax_up (ax_up (D 43) 2 (nI (nu_ (D 44) n p1.toNatClampNeg p 0).1)) 3 (nu_ (D 44) n p1.toNatClampNeg p 0).2)) E)) := propext ⟨fun ⟨p1', D', E', h1, h2, h3⟩ => by cases h1; obtain ⟨rfl, rfl⟩ := ax_S_inj h2; exact h3, fun h => ⟨p1, D, E, rfl, rfl, h⟩⟩
theorem sy_7 {g : ax_G} : ∀ as z K, cy_7 as z K → ax_MM g 7 as z K := by
  rintro _ _ K ⟨p1, D, E, rfl, rfl, h⟩
  refine ax_go7 _ _ ?_
  obtain ⟨n, p, ⟨h1, h2, h3, h4⟩, h5, h6, h⟩ := h
  obtain ⟨K0, rfl, q1, q2⟩ := na_of (na_le.mp h5)
  have h6' : (nI K0).toInt ≤ 3 := na_le.mp h6
  rw [na_nI (by omega)] at h6'
  rw [nI_clamp (by omega)] at h
  obtain ⟨l1, l2, l3⟩ := nu_le (D 44) n K0 p 0
  refine ax_WPo (l := [(4, cy_4h)]) (ax_oc sy_4h ax_on) ax_ok7 (fun t => t == 7) 400 0 rfl ?_
  simp +decide only [↓ax_B, ax_B, ax_kds, ax_gvs, ax_mcs, ax_ia_S, ax_up_ap, ax_vinL, and_self_left, ax_up_up, ax_up_sw, Nat.reduceAdd, Nat.reduceBEq, Nat.reduceLeDiff, Nat.reduceLT, Nat.reduceEqDiff, ↓reduceIte, true_and, and_true, List.cons_append, List.nil_append, Int32.reduceLT, Int32.reduceLE, Int32.reduceAdd, Int32.reduceToNatClampNeg, Int32.reduceOfNat, true_imp_iff, false_imp_iff, not_true_eq_false, not_false_eq_true, or_true, true_or, or_false, false_or, and_self, Bool.or_true, Bool.or_false, Bool.true_or, Bool.false_or, implies_true, forall_const, Bool.false_eq_true, Int32.neg_neg, ax_X7, ry_4h]
  refine lp_7 n K0 h3 (by omega) (D 44) K0 0 p 0 _ (by omega) (by simp only [ax_up_ap, Nat.reduceEqDiff, ↓reduceIte]) (by simp only [ax_up_ap, Nat.reduceEqDiff, ↓reduceIte]; exact h1) (by simp only [ax_up_ap, Nat.reduceEqDiff, ↓reduceIte]; exact h2) (by simp only [ax_up_ap, Nat.reduceEqDiff, ↓reduceIte]) h4 ?_
  rw [up43_ D _ (fun y h2 h3 => by rw [ax_up_n _ _ h3])]
  have e2 : (if 0 < 0 + ((nu_ (D 44) n K0 p 0).1 - p) then (1 : Int32) else 0) = if (nu_ (D 44) n K0 p 0).1 = p then 0 else 1 := by
    by_cases q : (nu_ (D 44) n K0 p 0).1 = p
    · rw [if_pos q, if_neg (by omega)]
    · rw [if_neg q, if_pos (by omega)]
  rw [e2]
  exact h
/-- one digit -/
theorem nu1_ (t : Nat → Int32) (n p : Nat) : nu_ t n 1 p 0 = if dgt t n p then (p + 1, t p - 48) else (p, 0) := by
  unfold nu_
  split
  · unfold nu_
    simp
  · rfl
/-- AskewLetters$Book.isNumber(I)Z -/
def cy_7d : ax_P1 := fun as z K => ∃ (p1 : Int32) (D : ax_Dn) (E : ax_En), as = [.ref 43, .int p1] ∧ z = ax_S D E ∧ (p1 = 1 ∧ ∃ n p : Nat, tp_ D n p ∧ (dgt (D 44) n p → K (some (.int 1)) (ax_S (ax_up D 43 (ax_up (ax_up (D 43) 2 (nI (p + 1))) 3 (D 44 p - 48))) E)) ∧ (¬ dgt (D 44) n p → K (some (.int 0)) (ax_S (ax_up D 43 (ax_up (D 43) 3 0)) E)))
theorem ry_7d (p1 : Int32) (D : ax_Dn) (E : ax_En) (K : ax_Po) : cy_7d [.ref 43, .int p1] (ax_S D E) K = (p1 = 1 ∧ ∃ n p : Nat, tp_ D n p ∧ (dgt (D 44) n p → K (some (.int 1)) (ax_S (ax_up D 43 (ax_up (ax_up (D 43) 2 (nI (p + 1))) 3 (D 44 p - 48))) E)) ∧ (¬ dgt (D 44) n p → K (some (.int 0)) (ax_S (ax_up D 43 (ax_up (D 43) 3 0)) E))) := propext ⟨fun ⟨p1', D', E', h1, h2, h3⟩ => by cases h1; obtain ⟨rfl, rfl⟩ := ax_S_inj h2; exact h3, fun h => ⟨p1, D, E, rfl, rfl, h⟩⟩
theorem sy_7d {g : ax_G} : ∀ as z K, cy_7d as z K → ax_MM g 7 as z K := by
  rintro _ _ K ⟨p1, D, E, rfl, rfl, rfl, n, p, ht, h1, h2⟩
  refine sy_7 _ _ _ ⟨1, D, E, rfl, rfl, n, p, ht, by decide, by decide, ?_⟩
  rw [show (1 : Int32).toNatClampNeg = 1 from rfl, nu1_]
  by_cases c : dgt (D 44) n p
  · rw [if_pos c]
    simp only [Nat.succ_ne_self, Nat.add_eq_left, Nat.one_ne_zero, ↓reduceIte]
    exact h1 c
  · rw [if_neg c]
    simp only [↓reduceIte]
    have := h2 c
    rw [show D 43 = ax_up (D 43) 2 (nI p) by rw [← ht.2.1, ax_up_id]] at this
    exact this
