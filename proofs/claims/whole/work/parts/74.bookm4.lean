/-! The book, by the model, whole. -/
theorem fw_cg {L L' m d v : Nat → Int32} : ∀ (j i M N : Nat), (∀ x, i ≤ x → x < i + j → L x = L' x) → fw_ L m d v j i M N = fw_ L' m d v j i M N := by
  intro j
  induction j with
  | zero => intro i M N _; rfl
  | succ j ih =>
    intro i M N h
    rw [fw_s, fw_s, h i (Nat.le_refl i) (by omega)]
    rw [ih (i + 1) _ _ (fun x x1 x2 => h x (by omega) (by omega))]
theorem itM_cg {L L' a b d v : Nat → Int32} : ∀ (j i : Nat) (D : ax_Dn), (∀ x, i ≤ x → x < i + j → L x = L' x) → itM L a b d v j i D = itM L' a b d v j i D := by
  intro j
  induction j with
  | zero => intro i D _; rfl
  | succ j ih =>
    intro i D h
    show itM L a b d v j (i + 1) (stM D (L i) (a i) (b i) (d i) (v i)) = itM L' a b d v j (i + 1) (stM D (L' i) (a i) (b i) (d i) (v i))
    rw [h i (Nat.le_refl i) (by omega)]
    exact ih (i + 1) _ (fun x x1 x2 => h x (by omega) (by omega))
abbrev cm_ (D : ax_Dn) : ax_Dn := ax_up D 58 (ax_up (D 58) 20 0)
abbrev c2_ (D : ax_Dn) : ax_Dn := ax_up (ax_up (cm_ D) 79 (cp_ (D 69) (D 79) 10)) 80 (cp_ (D 68) (D 80) 6)
/-- AskewLettersModel.book()I -/
def cy_138 : ax_P1 := fun as z K => ∃ (D : ax_Dn) (E : ax_En), as = [.ref 58] ∧ z = ax_S D E ∧ (∃ (t : Nat → Int32) (n M N : Nat), D 60 = t ∧ D 58 20 = nI n ∧ n ≤ 64 ∧ D 58 22 = nI M ∧ D 58 23 = nI N ∧ M ≤ 6 ∧ N ≤ 20 ∧ (∀ s D', rm_ D D' → s < 22 → (∀ i, i < s → (sP_ t n (ps_ t n i)).1 = true) → (0 < s → ps_ t n s < n) → (sP_ t n (ps_ t n s)).1 = false → K (some (.int (-1000 - nI (ps_ t n (s + 1))))) (ax_S (cm_ D') E)) ∧ (∀ q D', rdm_ t n q D D' → 0 < q → q < 22 → ps_ t n q = n → ∃ (m s d v : Nat → Int32), (∀ x, x < q → rst_ (t (ps_ t n x)) (m x) (s x) (d x) (v x) (D' 62 x) (D' 63 x) (D' 64 x) (D' 65 x)) ∧ (∀ w, w = fw_ (fun i => t (ps_ t n i)) m d v q 0 M N → w < q → ∀ D'', bk_ (c2_ D') D'' → K (some (.int (-2000 - nI (ps_ t n w)))) (ax_S D'' E)) ∧ (fw_ (fun i => t (ps_ t n i)) m d v q 0 M N = q → K (some (.int (nI q))) (ax_S (itM (fun i => t (ps_ t n i)) (D' 62) (D' 63) (D' 64) (D' 65) q 0 (c2_ D')) E))))
theorem ry_138  (D : ax_Dn) (E : ax_En) (K : ax_Po) : cy_138 [.ref 58] (ax_S D E) K = (∃ (t : Nat → Int32) (n M N : Nat), D 60 = t ∧ D 58 20 = nI n ∧ n ≤ 64 ∧ D 58 22 = nI M ∧ D 58 23 = nI N ∧ M ≤ 6 ∧ N ≤ 20 ∧ (∀ s D', rm_ D D' → s < 22 → (∀ i, i < s → (sP_ t n (ps_ t n i)).1 = true) → (0 < s → ps_ t n s < n) → (sP_ t n (ps_ t n s)).1 = false → K (some (.int (-1000 - nI (ps_ t n (s + 1))))) (ax_S (cm_ D') E)) ∧ (∀ q D', rdm_ t n q D D' → 0 < q → q < 22 → ps_ t n q = n → ∃ (m s d v : Nat → Int32), (∀ x, x < q → rst_ (t (ps_ t n x)) (m x) (s x) (d x) (v x) (D' 62 x) (D' 63 x) (D' 64 x) (D' 65 x)) ∧ (∀ w, w = fw_ (fun i => t (ps_ t n i)) m d v q 0 M N → w < q → ∀ D'', bk_ (c2_ D') D'' → K (some (.int (-2000 - nI (ps_ t n w)))) (ax_S D'' E)) ∧ (fw_ (fun i => t (ps_ t n i)) m d v q 0 M N = q → K (some (.int (nI q))) (ax_S (itM (fun i => t (ps_ t n i)) (D' 62) (D' 63) (D' 64) (D' 65) q 0 (c2_ D')) E)))) := propext ⟨fun ⟨D', E', h1, h2, h3⟩ => by cases h1; obtain ⟨rfl, rfl⟩ := ax_S_inj h2; exact h3, fun h => ⟨D, E, rfl, rfl, h⟩⟩
set_option maxRecDepth 10000 in
theorem sy_138 {g : ax_G} : ∀ as z K, cy_138 as z K → ax_MM g 138 as z K := by
  rintro _ _ K ⟨D, E, rfl, rfl, h⟩
  refine ax_go138 _ ?_
  obtain ⟨t, n, M, N, h1, h2, h3, h4, h5, h6, h7, k1, k2⟩ := h
  have g0 : ∀ s D', rdm_ t n s D D' → 0 < s → s < 22 → ps_ t n s = n → ax_WP g (ax_hy 138) K 92 92 91 [some (.ref 58), some (.int 1), some (.int (D' 58 22)), some (.int (D' 58 23)), some (.int 0), none] [] (ax_S (ax_up D' 58 (ax_up (D' 58) 20 0)) E) := by
    intro q D' hr q0 q22 qn
    obtain ⟨m, s, d, v, r1, r2, r3⟩ := k2 q D' hr q0 q22 qn
    have e22 : D' 58 22 = nI M := (hr.1 58 22 (by decide) (by decide)).trans h4
    have e23 : D' 58 23 = nI N := (hr.1 58 23 (by decide) (by decide)).trans h5
    have e61 : ∀ x, x < q → c2_ D' 61 x = t (ps_ t n x) := fun x hx => (hr.2.2 x hx).2.1
    have ef : fw_ (c2_ D' 61) m d v q 0 M N = fw_ (fun i => t (ps_ t n i)) m d v q 0 M N := fw_cg q 0 M N (fun x _ hx => e61 x (by omega))
    have A : ax_WP g (ax_hy 138) K 92 92 151 [some (.ref 58), some (.int 1), some (.int (D' 58 22)), some (.int (D' 58 23)), some (.int 0), none] [] (ax_S (c2_ D') E) := by
      rw [e22, e23]
      refine lp_138g (D0 := c2_ D') (n := q) (M0 := M) (N0 := N) (m := m) (s := s) (d := d) (v := v) (by omega) e22 e23 h6 h7 (fun k hk => ?_) (fun k hk => ?_) hr.2.1 (fun x hx => ?_) (fun w D'' hb => ?_) (fun w => ?_) q 0 M N _ none (by omega) (dI_rf _ _ _) e22 e23 h6 h7 (Nat.le_refl _) (Nat.le_refl _) rfl rfl
      · show cp_ (D' 69) (D' 79) 10 k = D' 69 k
        unfold cp_
        rw [if_pos hk]
      · show cp_ (D' 68) (D' 80) 6 k = D' 68 k
        unfold cp_
        rw [if_pos hk]
      · rw [e61 x hx]
        exact r1 x hx
      · rw [ef] at w ⊢
        have := r2 _ rfl w D'' hb
        have e66 : c2_ D' 66 (fw_ (fun i => t (ps_ t n i)) m d v q 0 M N) = nI (ps_ t n (fw_ (fun i => t (ps_ t n i)) m d v q 0 M N)) := (hr.2.2 _ w).2.2.1
        rw [e66]
        exact this
      · rw [ef] at w
        rw [itM_cg q 0 _ (fun x _ hx => e61 x (by omega))]
        exact r3 w
    have B := lp_138d (g := g) (K := K) (E := E) (l1 := 1) (l2 := D' 58 22) (l3 := D' 58 23) (D := ax_up (cm_ D') 79 (cp_ (D' 69) (D' 79) 10)) A 6 0 rfl
    rw [cp_0, ax_up_id] at B
    have C := lp_138c (g := g) (K := K) (E := E) (l1 := 1) (l2 := D' 58 22) (l3 := D' 58 23) (D := cm_ D') B 10 0 rfl
    rw [cp_0, ax_up_id] at C
    exact C
  refine ax_WPo (l := [(135, cy_135b), (137, cy_137)]) (ax_oc sy_135b (ax_oc sy_137 ax_on)) ax_ok138 (fun t => t == 12) 400 0 rfl ?_
  simp +decide only [↓ax_B, ax_B, ax_kds, ax_gvs, ax_mcs, ax_ia_S, ax_up_ap, ax_vinL, and_self_left, ax_up_up, ax_up_sw, Nat.reduceAdd, Nat.reduceBEq, Nat.reduceLeDiff, Nat.reduceLT, Nat.reduceEqDiff, ↓reduceIte, true_and, and_true, List.cons_append, List.nil_append, Int32.reduceLT, Int32.reduceLE, Int32.reduceAdd, Int32.reduceToNatClampNeg, Int32.reduceOfNat, true_imp_iff, false_imp_iff, not_true_eq_false, not_false_eq_true, or_true, true_or, or_false, false_or, and_self, Bool.or_true, Bool.or_false, Bool.true_or, Bool.false_or, implies_true, forall_const, Bool.false_eq_true, Int32.neg_neg, ax_X138, ry_135b, ry_137]
  refine lp_138a (D0 := D) h3 g0 k1 22 0 _ rfl ⟨?_, rfl, fun i hi => absurd hi (Nat.not_lt_zero i)⟩ ⟨h1, h2, rfl, h3, Nat.zero_le n⟩
  intro x i a b
  by_cases hx : x = 58
  · subst hx
    rw [ax_up_s, ax_up_n _ _ (fun q => a ⟨rfl, Or.inr q⟩), ax_up_n _ _ (fun q => a ⟨rfl, Or.inl q⟩)]
  · rw [ax_up_n _ _ hx]
