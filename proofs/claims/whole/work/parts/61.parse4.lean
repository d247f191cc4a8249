/-! The book's text is read: the class's reading, whole. -/
def ps_ (t : Nat → Int32) (n : Nat) : Nat → Nat
  | 0 => 0
  | s + 1 => (sP_ t n (ps_ t n s)).2
/-- what the whole reading may change -/
def r_ (D D' : ax_Dn) : Prop := ∀ x i, ¬ (x = 43 ∧ (i = 2 ∨ i = 3 ∨ i = 4)) → ¬ (45 ≤ x ∧ x ≤ 49) → D' x i = D x i
theorem r_q {D D' D'' : ax_Dn} {s : Nat} (h : r_ D D') (h' : q_ L5 s D' D'') : r_ D D'' := fun x i a b => (h' x i (fun q => a ⟨q.1, q.2.elim Or.inl (fun z => Or.inr (Or.inl z))⟩) (fun q => by
  obtain ⟨q, _⟩ := q
  simp only [L5, List.mem_cons, List.not_mem_nil, or_false] at q
  omega)).trans (h x i a b)
theorem r_43 {D D' : ax_Dn} (h : r_ D D') {G : Nat → Int32} (hG : ∀ y, ¬ y = 2 → ¬ y = 3 → ¬ y = 4 → G y = D' 43 y) : r_ D (ax_up D' 43 G) := by
  intro x i a b
  by_cases hx : x = 43
  · subst hx
    rw [ax_up_s, hG i (fun q => a ⟨rfl, Or.inl q⟩) (fun q => a ⟨rfl, Or.inr (Or.inl q)⟩) (fun q => a ⟨rfl, Or.inr (Or.inr q)⟩)]
    exact h 43 i a b
  · rw [ax_up_n _ _ hx]
    exact h x i a b
theorem sF_c {t : Nat → Int32} {n p s : Nat} {D D' : ax_Dn} (h : sF_ t n p s D) (e : ∀ x, 46 ≤ x → x ≤ 49 → D' x s = D x s) : sF_ t n p s D' := by
  unfold sF_ at h ⊢
  rw [e 46 (by decide) (by decide), e 47 (by decide) (by decide), e 48 (by decide) (by decide), e 49 (by decide) (by decide)]
  exact h
def rd_ (t : Nat → Int32) (n s : Nat) (D D' : ax_Dn) : Prop := r_ D D' ∧ D' 43 4 = nI s ∧ (∀ i, i < s → (sP_ t n (ps_ t n i)).1 = true ∧ (0 < i → ps_ t n i < n) ∧ D' 45 i = nI (ps_ t n i) ∧ sF_ t n (ps_ t n i) i D')
/-- AskewLetters$Book.isRead()Z -/
def cy_3 : ax_P1 := fun as z K => ∃ (D : ax_Dn) (E : ax_En), as = [.ref 43] ∧ z = ax_S D E ∧ (∃ t n, D 44 = t ∧ D 43 1 = nI n ∧ n ≤ 64 ∧ (∀ s D', rd_ t n s D D' → s ≤ 22 → 0 < s → ps_ t n s = n → D' 43 2 = nI (ps_ t n s) → K (some (.int 1)) (ax_S D' E)) ∧ (∀ s D', rd_ t n s D D' → s < 22 → (0 < s → ps_ t n s < n) → (sP_ t n (ps_ t n s)).1 = false → D' 43 2 = nI (ps_ t n (s + 1)) → K (some (.int 0)) (ax_S D' E)) ∧ (∀ D', rd_ t n 22 D D' → ps_ t n 22 < n → D' 43 2 = nI (ps_ t n 22) → K (some (.int 0)) (ax_S D' E)))
theorem ry_3  (D : ax_Dn) (E : ax_En) (K : ax_Po) : cy_3 [.ref 43] (ax_S D E) K = (∃ t n, D 44 = t ∧ D 43 1 = nI n ∧ n ≤ 64 ∧ (∀ s D', rd_ t n s D D' → s ≤ 22 → 0 < s → ps_ t n s = n → D' 43 2 = nI (ps_ t n s) → K (some (.int 1)) (ax_S D' E)) ∧ (∀ s D', rd_ t n s D D' → s < 22 → (0 < s → ps_ t n s < n) → (sP_ t n (ps_ t n s)).1 = false → D' 43 2 = nI (ps_ t n (s + 1)) → K (some (.int 0)) (ax_S D' E)) ∧ (∀ D', rd_ t n 22 D D' → ps_ t n 22 < n → D' 43 2 = nI (ps_ t n 22) → K (some (.int 0)) (ax_S D' E))) := propext ⟨fun ⟨D', E', h1, h2, h3⟩ => by cases h1; obtain ⟨rfl, rfl⟩ := ax_S_inj h2; exact h3, fun h => ⟨D, E, rfl, rfl, h⟩⟩
set_option maxRecDepth 10000 in
theorem lp_3 {g : ax_G} {K : ax_Po} {E : ax_En} {D0 : ax_Dn} {t : Nat → Int32} {n : Nat} (h1 : ∀ s D', rd_ t n s D0 D' → s ≤ 22 → 0 < s → ps_ t n s = n → D' 43 2 = nI (ps_ t n s) → K (some (.int 1)) (ax_S D' E)) (h2 : ∀ s D', rd_ t n s D0 D' → s < 22 → (0 < s → ps_ t n s < n) → (sP_ t n (ps_ t n s)).1 = false → D' 43 2 = nI (ps_ t n (s + 1)) → K (some (.int 0)) (ax_S D' E)) (h3 : ∀ D', rd_ t n 22 D0 D' → ps_ t n 22 < n → D' 43 2 = nI (ps_ t n 22) → K (some (.int 0)) (ax_S D' E)) : ∀ (j s : Nat) (D : ax_Dn), s + j = 22 → rd_ t n s D0 D → tq_ D t n (ps_ t n s) → (0 < s → ps_ t n s < n) → ax_WP g (ax_hy 3) K 92 92 10 [some (.ref 43)] [] (ax_S D E) := by
  intro j
  induction j with
  | zero =>
    intro s D hs hr ht hp
    obtain rfl : s = 22 := by omega
    have c1 : D 43 4 = nI 22 := hr.2.1
    have c2 : (22 : Int32) ≤ nI 22 := by decide
    refine ax_WPo (l := [(5, cy_5)]) (ax_oc sy_5 ax_on) ax_ok3 (fun t => t == 10) 400 10 rfl ?_
    simp +decide only [↓ax_B, ax_B, ax_kds, ax_gvs, ax_mcs, ax_ia_S, ax_up_ap, ax_vinL, and_self_left, ax_up_up, ax_up_sw, Nat.reduceAdd, Nat.reduceBEq, Nat.reduceLeDiff, Nat.reduceLT, Nat.reduceEqDiff, ↓reduceIte, true_and, and_true, List.cons_append, List.nil_append, Int32.reduceLT, Int32.reduceLE, Int32.reduceAdd, Int32.reduceToNatClampNeg, Int32.reduceOfNat, true_imp_iff, false_imp_iff, not_true_eq_false, not_false_eq_true, or_true, true_or, or_false, false_or, and_self, Bool.or_true, Bool.or_false, Bool.true_or, Bool.false_or, implies_true, forall_const, Bool.false_eq_true, Int32.neg_neg, ax_X3, ry_5, c1, c2]
    exact h3 D hr (hp (by decide)) ht.2.2.1
  | succ j ih =>
    intro s D hs hr ht hp
    have c1 : D 43 4 = nI s := hr.2.1
    have c2 : ¬ 22 ≤ nI s := by
      rw [show (22 : Int32) = nI 22 from rfl]
      exact nI_ge (by omega) (by omega)
    refine ax_WPo (l := [(5, cy_5)]) (ax_oc sy_5 ax_on) ax_ok3 (fun t => t == 10) 400 10 rfl ?_
    simp +decide only [↓ax_B, ax_B, ax_kds, ax_gvs, ax_mcs, ax_ia_S, ax_up_ap, ax_vinL, and_self_left, ax_up_up, ax_up_sw, Nat.reduceAdd, Nat.reduceBEq, Nat.reduceLeDiff, Nat.reduceLT, Nat.reduceEqDiff, ↓reduceIte, true_and, and_true, List.cons_append, List.nil_append, Int32.reduceLT, Int32.reduceLE, Int32.reduceAdd, Int32.reduceToNatClampNeg, Int32.reduceOfNat, true_imp_iff, false_imp_iff, not_true_eq_false, not_false_eq_true, or_true, true_or, or_false, false_or, and_self, Bool.or_true, Bool.or_false, Bool.true_or, Bool.false_or, implies_true, forall_const, Bool.false_eq_true, Int32.neg_neg, ax_X3, ry_5, c1, c2]
    refine ⟨t, n, ps_ t n s, s, ht, rfl, by omega, fun D' q1 t1 f1 f2 => ⟨fun z => ?_, fun z => ?_⟩⟩
    · have c3 : D' 43 4 = nI s := (q1 43 4 (by decide) (fun q => absurd q.1 (by decide))).trans c1
      have R : rd_ t n (s + 1) D0 (ax_up D' 43 (ax_up (D' 43) 4 (D' 43 4 + 1))) := by
        refine ⟨r_43 (r_q hr.1 q1) (fun y a b c => by rw [ax_up_n _ _ c]), ?_, fun i hi => ?_⟩
        · rw [ax_up_s, ax_up_s, c3]; exact nI_1 s
        · by_cases his : i = s
          · subst his
            exact ⟨bz1 z, hp, f1, f2 (bz1 z)⟩
          · obtain ⟨a1, a2, a3, a4⟩ := hr.2.2 i (by omega)
            refine ⟨a1, a2, ?_, sF_c a4 (fun x x1 x2 => ?_)⟩
            · rw [ax_up_n _ _ (by decide), q1 45 i (fun q => absurd q.1 (by decide)) (fun q => his q.2)]; exact a3
            · rw [ax_up_n _ _ (by omega)]; exact q1 x i (fun q => by omega) (fun q => his q.2)
      have g1 : D' 43 2 = nI (ps_ t n (s + 1)) := t1.2.2.1
      have g2 : D' 43 1 = nI n := t1.2.1
      have g3 : ps_ t n (s + 1) ≤ n := t1.2.2.2.2
      have g4 : n ≤ 64 := t1.2.2.2.1
      rw [g1, g2, nI_ltI (by omega) (by omega)]
      refine ⟨fun c => ih (s + 1) _ (by omega) R ⟨t1.1, g2, g1, g4, g3⟩ (fun _ => c), fun c => h1 (s + 1) _ R (by omega) (by omega) (by omega) g1⟩
    · refine h2 s D' ⟨r_q hr.1 q1, ?_, fun i hi => ?_⟩ (by omega) hp (bz0 z) t1.2.2.1
      · rw [q1 43 4 (by decide) (fun q => absurd q.1 (by decide))]; exact c1
      · obtain ⟨a1, a2, a3, a4⟩ := hr.2.2 i hi
        refine ⟨a1, a2, ?_, sF_c a4 (fun x x1 x2 => ?_)⟩
        · rw [q1 45 i (fun q => absurd q.1 (by decide)) (fun q => absurd q.2 (by omega))]; exact a3
        · exact q1 x i (fun q => by omega) (fun q => absurd q.2 (by omega))
theorem sy_3 {g : ax_G} : ∀ as z K, cy_3 as z K → ax_MM g 3 as z K := by
  rintro _ _ K ⟨D, E, rfl, rfl, h⟩
  refine ax_go3 _ ?_
  obtain ⟨t, n, h1, h2, h3, k1, k2, k3⟩ := h
  refine ax_WPo (l := [(5, cy_5)]) (ax_oc sy_5 ax_on) ax_ok3 (fun t => t == 10) 400 0 rfl ?_
  simp +decide only [↓ax_B, ax_B, ax_kds, ax_gvs, ax_mcs, ax_ia_S, ax_up_ap, ax_vinL, and_self_left, ax_up_up, ax_up_sw, Nat.reduceAdd, Nat.reduceBEq, Nat.reduceLeDiff, Nat.reduceLT, Nat.reduceEqDiff, ↓reduceIte, true_and, and_true, List.cons_append, List.nil_append, Int32.reduceLT, Int32.reduceLE, Int32.reduceAdd, Int32.reduceToNatClampNeg, Int32.reduceOfNat, true_imp_iff, false_imp_iff, not_true_eq_false, not_false_eq_true, or_true, true_or, or_false, false_or, and_self, Bool.or_true, Bool.or_false, Bool.true_or, Bool.false_or, implies_true, forall_const, Bool.false_eq_true, Int32.neg_neg, ax_X3, ry_5]
  refine lp_3 (D0 := D) k1 k2 k3 22 0 _ rfl ?_ ?_ (fun hi => absurd hi (Nat.lt_irrefl 0))
  · exact ⟨r_43 (fun _ _ _ _ => rfl) (fun y a b c => by rw [ax_up_n _ _ c, ax_up_n _ _ a]), rfl, fun i hi => absurd hi (Nat.not_lt_zero i)⟩
  · exact ⟨h1, h2, rfl, h3, Nat.zero_le n⟩
