/-! The greatest common divisor: some hundred steps are enough. -/
theorem nI_mul (a b : Nat) : nI a * nI b = nI (a * b) := (Int32.ofNat_mul a b).symm
def fp_ : Nat → Nat × Nat
  | 0 => (0, 1)
  | n + 1 => ((fp_ n).2, (fp_ n).1 + (fp_ n).2)
def fb_ (n : Nat) : Nat := (fp_ n).1
theorem fb_2 (n : Nat) : fb_ (n + 2) = fb_ n + fb_ (n + 1) := rfl
theorem fb_101 : 9223372036854775808 ≤ fb_ 101 := by decide +kernel
theorem gc_step (a b : Nat) : Nat.gcd a b = Nat.gcd b (a % b) := by
  rw [Nat.gcd_comm a b, Nat.gcd_rec b a, Nat.gcd_comm]
theorem gc_cmp {b : Nat} (hb : b < 2 ^ 63) : (lg_cmp (lN b) 0 = 0) ↔ b = 0 := by
  rw [cm_eq0, show (0 : Int64) = lN 0 from rfl, pk_lEQ hb (by decide)]
/-- fuel j is enough from (a, b) -/
def gc_en (j a b : Nat) : Prop := b = 0 ∨ (b < a ∧ (b < fb_ (j + 1) ∨ a < fb_ (j + 2)))
theorem gc_0 {a b : Nat} (h : gc_en 0 a b) : b = 0 := by
  rcases h with h | ⟨h, h2 | h2⟩
  · exact h
  · have : fb_ 1 = 1 := rfl
    rw [Nat.zero_add, this] at h2; omega
  · have : fb_ 2 = 1 := rfl
    rw [Nat.zero_add, this] at h2; omega
theorem gc_1 {j a b : Nat} (h0 : b ≠ 0) (h : gc_en (j + 1) a b) : gc_en j b (a % b) := by
  have hlt : a % b < b := Nat.mod_lt _ (by omega)
  refine .inr ⟨hlt, ?_⟩
  rcases h with h | ⟨h, h2⟩
  · exact absurd h h0
  · by_cases q : b < fb_ (j + 2)
    · exact .inr q
    · rcases h2 with h2 | h2
      · exact absurd h2 q
      · have e : fb_ (j + 1 + 2) = fb_ (j + 1) + fb_ (j + 2) := fb_2 (j + 1)
        rw [e] at h2
        have : a % b ≤ a - b := by
          rw [Nat.mod_eq_sub_mod (by omega)]
          exact Nat.mod_le _ _
        exact .inl (by omega)
theorem gc_f {a b : Nat} (hb : b < 2 ^ 63) (h0 : b ≠ 0) : gc_en 99 b (a % b) := .inr ⟨Nat.mod_lt _ (by omega), .inr (Nat.lt_of_lt_of_le hb fb_101)⟩
theorem lp_123 {g : ax_G} {K : ax_Po} {D : ax_Dn} {E : ax_En} (u w : Int64) : ∀ (j k a b : Nat), k + j = 100 → a < 2 ^ 63 → b < 2 ^ 63 → (gc_en j a b ∨ j = 100) → K (some (.long (lN (Nat.gcd a b)))) (ax_S D E) → ax_WP g (ax_hy 123) K 92 92 9 [some (.long u), none, some (.long w), none, some (.long (lN a)), none, some (.long (lN b)), none, some (.int (nI k)), none, none] [] (ax_S D E) := by
  have e100 : (100 : Int32) = nI 100 := by decide
  intro j
  induction j with
  | zero =>
    intro k a b hk ha hb hen h
    have hc : (100 : Int32) ≤ nI k := by rw [e100]; exact nI_le (by omega) (by omega)
    have h0 : b = 0 := by
      rcases hen with q | q
      · exact gc_0 q
      · exact absurd q (by decide)
    subst h0
    rw [Nat.gcd_zero_right] at h
    refine ax_WPo (l := []) ax_on ax_ok123 (fun t => t == 9) 400 9 rfl ?_
    simp +decide only [↓ax_B, ax_B, ax_kds, ax_gvs, ax_mcs, ax_ia_S, ax_up_ap, ax_vinL, and_self_left, ax_up_up, ax_up_sw, Nat.reduceAdd, Nat.reduceBEq, Nat.reduceLeDiff, Nat.reduceLT, Nat.reduceEqDiff, ↓reduceIte, true_and, and_true, List.cons_append, List.nil_append, Int32.reduceLT, Int32.reduceLE, Int32.reduceAdd, Int32.reduceToNatClampNeg, Int32.reduceOfNat, true_imp_iff, false_imp_iff, not_true_eq_false, not_false_eq_true, or_true, true_or, or_false, false_or, and_self, Bool.or_true, Bool.or_false, Bool.true_or, Bool.false_or, implies_true, forall_const, Bool.false_eq_true, Int32.neg_neg, ax_X123, hc]
    exact h
  | succ j ih =>
    intro k a b hk ha hb hen h
    have hc : ¬ (100 : Int32) ≤ nI k := by rw [e100]; exact nI_ge (by omega) (by omega)
    have h3 : nI k + 1 = nI (k + 1) := nI_1 k
    have hq := gc_cmp hb
    refine ax_WPo (l := []) ax_on ax_ok123 (fun t => t == 9) 400 9 rfl ?_
    simp +decide only [↓ax_B, ax_B, ax_kds, ax_gvs, ax_mcs, ax_ia_S, ax_up_ap, ax_vinL, and_self_left, ax_up_up, ax_up_sw, Nat.reduceAdd, Nat.reduceBEq, Nat.reduceLeDiff, Nat.reduceLT, Nat.reduceEqDiff, ↓reduceIte, true_and, and_true, List.cons_append, List.nil_append, Int32.reduceLT, Int32.reduceLE, Int32.reduceAdd, Int32.reduceToNatClampNeg, Int32.reduceOfNat, true_imp_iff, false_imp_iff, not_true_eq_false, not_false_eq_true, or_true, true_or, or_false, false_or, and_self, Bool.or_true, Bool.or_false, Bool.true_or, Bool.false_or, implies_true, forall_const, Bool.false_eq_true, Int32.neg_neg, ax_X123, hc, h3, hq]
    refine ⟨fun c => ?_, fun c => ⟨?_, ?_⟩⟩
    · subst c
      rw [Nat.gcd_zero_right] at h
      exact h
    · intro z
      exact c ((pk_lEQ hb (by decide)).mp z)
    · rw [pk_lRem ha (by omega) hb]
      have hr : a % b < 2 ^ 63 := Nat.lt_trans (Nat.mod_lt _ (by omega)) hb
      rw [gc_step] at h
      refine ax_WP_w ?_ (ih (k + 1) b (a % b) (by omega) hb hr ?_ h)
      · simp only [ax_le, and_self]
      · rcases hen with q | q
        · exact .inl (gc_1 c q)
        · obtain rfl : j = 99 := by omega
          exact .inl (gc_f hb c)
/-- AskewLetters.commonDivisor(JJ)J -/
def cy_123 : ax_P1 := fun as z K => ∃ (p1 : Int64) (p2 : Int64) (D : ax_Dn) (E : ax_En), as = [.long p1, .long p2] ∧ z = ax_S D E ∧ (∃ a b : Nat, p1 = lN a ∧ p2 = lN b ∧ a < 2 ^ 63 ∧ b < 2 ^ 63 ∧ K (some (.long (lN (Nat.gcd a b)))) (ax_S D E))
theorem ry_123 (p1 : Int64) (p2 : Int64) (D : ax_Dn) (E : ax_En) (K : ax_Po) : cy_123 [.long p1, .long p2] (ax_S D E) K = (∃ a b : Nat, p1 = lN a ∧ p2 = lN b ∧ a < 2 ^ 63 ∧ b < 2 ^ 63 ∧ K (some (.long (lN (Nat.gcd a b)))) (ax_S D E)) := propext ⟨fun ⟨p1', p2', D', E', h1, h2, h3⟩ => by cases h1; obtain ⟨rfl, rfl⟩ := ax_S_inj h2; exact h3, fun h => ⟨p1, p2, D, E, rfl, rfl, h⟩⟩
theorem sy_123 {g : ax_G} : ∀ as z K, cy_123 as z K → ax_MM g 123 as z K := by
  rintro _ _ K ⟨p1, p2, D, E, rfl, rfl, h⟩
  refine ax_go123 _ _ ?_
  obtain ⟨a, b, rfl, rfl, h1, h2, h⟩ := h
  refine ax_WPo (l := []) ax_on ax_ok123 (fun t => t == 9) 400 0 rfl ?_
  simp +decide only [↓ax_B, ax_B, ax_kds, ax_gvs, ax_mcs, ax_ia_S, ax_up_ap, ax_vinL, and_self_left, ax_up_up, ax_up_sw, Nat.reduceAdd, Nat.reduceBEq, Nat.reduceLeDiff, Nat.reduceLT, Nat.reduceEqDiff, ↓reduceIte, true_and, and_true, List.cons_append, List.nil_append, Int32.reduceLT, Int32.reduceLE, Int32.reduceAdd, Int32.reduceToNatClampNeg, Int32.reduceOfNat, true_imp_iff, false_imp_iff, not_true_eq_false, not_false_eq_true, or_true, true_or, or_false, false_or, and_self, Bool.or_true, Bool.or_false, Bool.true_or, Bool.false_or, implies_true, forall_const, Bool.false_eq_true, Int32.neg_neg, ax_X123]
  exact lp_123 _ _ 100 0 a b (by omega) h1 h2 (.inr rfl) h
theorem lp_170 {g : ax_G} {K : ax_Po} {D : ax_Dn} {E : ax_En} (u w : Int64) : ∀ (n a b : Nat), b ≤ n → a < 2 ^ 63 → b < 2 ^ 63 → K (some (.long (lN (Nat.gcd a b)))) (ax_S D E) → ax_WP g (ax_hy 170) K 92 92 6 [some (.long u), none, some (.long w), none, some (.long (lN a)), none, some (.long (lN b)), none, none, none] [] (ax_S D E) := by
  intro n
  induction n with
  | zero =>
    intro a b hn ha hb h
    obtain rfl : b = 0 := by omega
    have hq := (gc_cmp hb).mpr rfl
    rw [Nat.gcd_zero_right] at h
    refine ax_WPo (l := []) ax_on ax_ok170 (fun t => t == 6) 400 6 rfl ?_
    simp +decide only [↓ax_B, ax_B, ax_kds, ax_gvs, ax_mcs, ax_ia_S, ax_up_ap, ax_vinL, and_self_left, ax_up_up, ax_up_sw, Nat.reduceAdd, Nat.reduceBEq, Nat.reduceLeDiff, Nat.reduceLT, Nat.reduceEqDiff, ↓reduceIte, true_and, and_true, List.cons_append, List.nil_append, Int32.reduceLT, Int32.reduceLE, Int32.reduceAdd, Int32.reduceToNatClampNeg, Int32.reduceOfNat, true_imp_iff, false_imp_iff, not_true_eq_false, not_false_eq_true, or_true, true_or, or_false, false_or, and_self, Bool.or_true, Bool.or_false, Bool.true_or, Bool.false_or, implies_true, forall_const, Bool.false_eq_true, Int32.neg_neg, ax_X170, hq]
    exact h
  | succ n ih =>
    intro a b hn ha hb h
    have hq := gc_cmp hb
    refine ax_WPo (l := []) ax_on ax_ok170 (fun t => t == 6) 400 6 rfl ?_
    simp +decide only [↓ax_B, ax_B, ax_kds, ax_gvs, ax_mcs, ax_ia_S, ax_up_ap, ax_vinL, and_self_left, ax_up_up, ax_up_sw, Nat.reduceAdd, Nat.reduceBEq, Nat.reduceLeDiff, Nat.reduceLT, Nat.reduceEqDiff, ↓reduceIte, true_and, and_true, List.cons_append, List.nil_append, Int32.reduceLT, Int32.reduceLE, Int32.reduceAdd, Int32.reduceToNatClampNeg, Int32.reduceOfNat, true_imp_iff, false_imp_iff, not_true_eq_false, not_false_eq_true, or_true, true_or, or_false, false_or, and_self, Bool.or_true, Bool.or_false, Bool.true_or, Bool.false_or, implies_true, forall_const, Bool.false_eq_true, Int32.neg_neg, ax_X170, hq]
    refine ⟨fun c => ?_, fun c => ⟨?_, ?_⟩⟩
    · subst c
      rw [Nat.gcd_zero_right] at h
      exact h
    · intro z
      exact c ((pk_lEQ hb (by decide)).mp z)
    · rw [pk_lRem ha (by omega) hb]
      have hm : a % b < b := Nat.mod_lt _ (by omega)
      rw [gc_step] at h
      refine ax_WP_w ?_ (ih b (a % b) (by omega) hb (by omega) h)
      simp only [ax_le, and_self]
/-- AskewLettersModel.divisor(JJ)J -/
def cy_170 : ax_P1 := fun as z K => ∃ (p1 : Int64) (p2 : Int64) (D : ax_Dn) (E : ax_En), as = [.long p1, .long p2] ∧ z = ax_S D E ∧ (∃ a b : Nat, p1 = lN a ∧ p2 = lN b ∧ a < 2 ^ 63 ∧ b < 2 ^ 63 ∧ K (some (.long (lN (Nat.gcd a b)))) (ax_S D E))
theorem ry_170 (p1 : Int64) (p2 : Int64) (D : ax_Dn) (E : ax_En) (K : ax_Po) : cy_170 [.long p1, .long p2] (ax_S D E) K = (∃ a b : Nat, p1 = lN a ∧ p2 = lN b ∧ a < 2 ^ 63 ∧ b < 2 ^ 63 ∧ K (some (.long (lN (Nat.gcd a b)))) (ax_S D E)) := propext ⟨fun ⟨p1', p2', D', E', h1, h2, h3⟩ => by cases h1; obtain ⟨rfl, rfl⟩ := ax_S_inj h2; exact h3, fun h => ⟨p1, p2, D, E, rfl, rfl, h⟩⟩
theorem sy_170 {g : ax_G} : ∀ as z K, cy_170 as z K → ax_MM g 170 as z K := by
  rintro _ _ K ⟨p1, p2, D, E, rfl, rfl, h⟩
  refine ax_go170 _ _ ?_
  obtain ⟨a, b, rfl, rfl, h1, h2, h⟩ := h
  refine ax_WPo (l := []) ax_on ax_ok170 (fun t => t == 6) 400 0 rfl ?_
  simp +decide only [↓ax_B, ax_B, ax_kds, ax_gvs, ax_mcs, ax_ia_S, ax_up_ap, ax_vinL, and_self_left, ax_up_up, ax_up_sw, Nat.reduceAdd, Nat.reduceBEq, Nat.reduceLeDiff, Nat.reduceLT, Nat.reduceEqDiff, ↓reduceIte, true_and, and_true, List.cons_append, List.nil_append, Int32.reduceLT, Int32.reduceLE, Int32.reduceAdd, Int32.reduceToNatClampNeg, Int32.reduceOfNat, true_imp_iff, false_imp_iff, not_true_eq_false, not_false_eq_true, or_true, true_or, or_false, false_or, and_self, Bool.or_true, Bool.or_false, Bool.true_or, Bool.false_or, implies_true, forall_const, Bool.false_eq_true, Int32.neg_neg, ax_X170]
  exact lp_170 _ _ b a b (Nat.le_refl _) h1 h2 h
/-- least terms of two numbers that are not below 0 -/
def lt_N (a b : Nat) (part : Int32) : Nat := (if part = 0 then a else b) / Nat.gcd a b
theorem ab_lN {a : Nat} (ha : a < 2 ^ 63) : (if 0 < lN a then lN a else -lN a) = lN a := by
  by_cases h : 0 < lN a
  · rw [if_pos h]
  · rw [if_neg h]
    have : ¬ 0 < a := fun q => h ((pk_lLT (a := 0) (by decide) ha).mpr q)
    obtain rfl : a = 0 := by omega
    decide
/-- AskewLetters.leastTerms(JJI)J -/
def cy_122 : ax_P1 := fun as z K => ∃ (p1 : Int64) (p2 : Int64) (p3 : Int32) (D : ax_Dn) (E : ax_En), as = [.long p1, .long p2, .int p3] ∧ z = ax_S D E ∧ (∃ a b : Nat, p1 = lN a ∧ p2 = lN b ∧ a < 2 ^ 63 ∧ b < 2 ^ 63 ∧ 0 < b ∧ K (some (.long (lN (lt_N a b p3)))) (ax_S D E))
theorem ry_122 (p1 : Int64) (p2 : Int64) (p3 : Int32) (D : ax_Dn) (E : ax_En) (K : ax_Po) : cy_122 [.long p1, .long p2, .int p3] (ax_S D E) K = (∃ a b : Nat, p1 = lN a ∧ p2 = lN b ∧ a < 2 ^ 63 ∧ b < 2 ^ 63 ∧ 0 < b ∧ K (some (.long (lN (lt_N a b p3)))) (ax_S D E)) := propext ⟨fun ⟨p1', p2', p3', D', E', h1, h2, h3⟩ => by cases h1; obtain ⟨rfl, rfl⟩ := ax_S_inj h2; exact h3, fun h => ⟨p1, p2, p3, D, E, rfl, rfl, h⟩⟩
theorem sy_122 {g : ax_G} : ∀ as z K, cy_122 as z K → ax_MM g 122 as z K := by
  rintro _ _ K ⟨p1, p2, p3, D, E, rfl, rfl, h⟩
  refine ax_go122 _ _ _ ?_
  obtain ⟨a, b, rfl, rfl, h1, h2, h3, h⟩ := h
  have hg : 0 < Nat.gcd a b := Nat.gcd_pos_of_pos_right _ h3
  have hg2 : Nat.gcd a b < 2 ^ 63 := Nat.lt_of_le_of_lt (Nat.gcd_le_right _ h3) h2
  have hq := gc_cmp hg2
  have hz : ¬ Nat.gcd a b = 0 := by omega
  have hz2 : ¬ lN (Nat.gcd a b) = 0 := fun z => hz ((pk_lEQ hg2 (by decide)).mp z)
  have d1 := pk_lDiv h1 hg hg2
  have d2 := pk_lDiv h2 hg hg2
  unfold lt_N at h
  refine ax_WPo (l := [(123, cy_123)]) (ax_oc sy_123 ax_on) ax_ok122 (fun _ => false) 400 0 rfl ?_
  simp +decide only [↓ax_B, ax_B, ax_kds, ax_gvs, ax_mcs, ax_ia_S, ax_up_ap, ax_vinL, and_self_left, ax_up_up, ax_up_sw, Nat.reduceAdd, Nat.reduceBEq, Nat.reduceLeDiff, Nat.reduceLT, Nat.reduceEqDiff, ↓reduceIte, true_and, and_true, List.cons_append, List.nil_append, Int32.reduceLT, Int32.reduceLE, Int32.reduceAdd, Int32.reduceToNatClampNeg, Int32.reduceOfNat, true_imp_iff, false_imp_iff, not_true_eq_false, not_false_eq_true, or_true, true_or, or_false, false_or, and_self, Bool.or_true, Bool.or_false, Bool.true_or, Bool.false_or, implies_true, forall_const, Bool.false_eq_true, Int32.neg_neg, ax_X122, ry_123, ab_lN h1]
  refine ⟨a, b, rfl, rfl, h1, h2, ?_⟩
  simp only [hq, hz, hz2, d1, d2, not_false_eq_true, true_and, and_true, true_imp_iff, false_imp_iff, not_true_eq_false]
  refine ⟨fun c => ?_, fun c => ?_⟩
  · rw [if_neg c] at h; exact h
  · rw [if_pos c] at h; exact h
/-- AskewLettersModel.inLeast(JJI)J -/
def cy_171 : ax_P1 := fun as z K => ∃ (p1 : Int64) (p2 : Int64) (p3 : Int32) (D : ax_Dn) (E : ax_En), as = [.long p1, .long p2, .int p3] ∧ z = ax_S D E ∧ (∃ a b : Nat, p1 = lN a ∧ p2 = lN b ∧ a < 2 ^ 63 ∧ b < 2 ^ 63 ∧ 0 < b ∧ K (some (.long (lN (lt_N a b p3)))) (ax_S D E))
theorem ry_171 (p1 : Int64) (p2 : Int64) (p3 : Int32) (D : ax_Dn) (E : ax_En) (K : ax_Po) : cy_171 [.long p1, .long p2, .int p3] (ax_S D E) K = (∃ a b : Nat, p1 = lN a ∧ p2 = lN b ∧ a < 2 ^ 63 ∧ b < 2 ^ 63 ∧ 0 < b ∧ K (some (.long (lN (lt_N a b p3)))) (ax_S D E)) := propext ⟨fun ⟨p1', p2', p3', D', E', h1, h2, h3⟩ => by cases h1; obtain ⟨rfl, rfl⟩ := ax_S_inj h2; exact h3, fun h => ⟨p1, p2, p3, D, E, rfl, rfl, h⟩⟩
theorem sy_171 {g : ax_G} : ∀ as z K, cy_171 as z K → ax_MM g 171 as z K := by
  rintro _ _ K ⟨p1, p2, p3, D, E, rfl, rfl, h⟩
  refine ax_go171 _ _ _ ?_
  obtain ⟨a, b, rfl, rfl, h1, h2, h3, h⟩ := h
  have hg : 0 < Nat.gcd a b := Nat.gcd_pos_of_pos_right _ h3
  have hg2 : Nat.gcd a b < 2 ^ 63 := Nat.lt_of_le_of_lt (Nat.gcd_le_right _ h3) h2
  have hz : ¬ Nat.gcd a b = 0 := by omega
  have hz2 : ¬ lN (Nat.gcd a b) = 0 := fun z => hz ((pk_lEQ hg2 (by decide)).mp z)
  have d1 := pk_lDiv h1 hg hg2
  have d2 := pk_lDiv h2 hg hg2
  unfold lt_N at h
  refine ax_WPo (l := [(170, cy_170)]) (ax_oc sy_170 ax_on) ax_ok171 (fun _ => false) 400 0 rfl ?_
  simp +decide only [↓ax_B, ax_B, ax_kds, ax_gvs, ax_mcs, ax_ia_S, ax_up_ap, ax_vinL, and_self_left, ax_up_up, ax_up_sw, Nat.reduceAdd, Nat.reduceBEq, Nat.reduceLeDiff, Nat.reduceLT, Nat.reduceEqDiff, ↓reduceIte, true_and, and_true, List.cons_append, List.nil_append, Int32.reduceLT, Int32.reduceLE, Int32.reduceAdd, Int32.reduceToNatClampNeg, Int32.reduceOfNat, true_imp_iff, false_imp_iff, not_true_eq_false, not_false_eq_true, or_true, true_or, or_false, false_or, and_self, Bool.or_true, Bool.or_false, Bool.true_or, Bool.false_or, implies_true, forall_const, Bool.false_eq_true, Int32.neg_neg, ax_X171, ry_170]
  refine ⟨fun c => ⟨a, b, rfl, rfl, h1, h2, hz2, ?_⟩, fun c => ⟨a, b, rfl, rfl, h1, h2, hz2, ?_⟩⟩
  · rw [if_neg c] at h; rw [d2]; exact h
  · rw [if_pos c] at h; rw [d1]; exact h
