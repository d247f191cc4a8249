/-! The model's public walks. -/
def wi_ (f : Nat → Int64) (N : Nat) : Nat → Nat → Option Nat → Option Nat
  | 0, _, b => b
  | j + 1, k, b => wi_ f N j (k + 1) (if k < N ∨ k = 6 then (match b with
    | none => some k
    | some q => if f q < f k then some k else some q) else b)
def wb_ (b : Option Nat) : Int32 := match b with
  | none => -1
  | some q => nI q
theorem lp_173 {g : ax_G} {K : ax_Po} {D : ax_Dn} {E : ax_En} (hok : okM D) (d : Int32) (n : Nat) (hn : D 58 32 = nI n) (h30 : n ≤ 30) (N : Nat) (hN : D 58 22 = nI N) (h6 : N ≤ 6) :
    ∀ (j k : Nat) (b : Option Nat) (x : Int32) (y : Int64), k + j = 7 → (match b with | none => x = -1 | some q => q < 7 ∧ x = nI q ∧ y = wm_ D d n q) → K (some (.int (wb_ (wi_ (wm_ D d n) N j k b)))) (ax_S D E) → ax_WP g (ax_hy 173) K 92 92 48 [some (.ref 58), some (.int d), some (.int 0), some (.int x), some (.long y), none, some (.int (nI k)), none, none] [] (ax_S D E) := by
  have e6 : (6 : Int32) = nI 6 := by decide
  intro j
  induction j with
  | zero =>
    intro k b x y hk hb h
    have hc : (6 : Int32) < nI k := by rw [e6]; exact nI_lt (by omega) (by omega)
    have hx : x = wb_ b := by
      unfold wb_
      cases b with
      | none => exact hb
      | some q => exact hb.2.1
    refine ax_WPo (l := [(125, cy_125), (129, cy_129), (168, cy_168), (169, cy_169)]) (ax_oc sy_125 (ax_oc sy_129 (ax_oc sy_168 (ax_oc sy_169 ax_on)))) ax_ok173 (fun t => t == 48) 400 48 rfl ?_
    simp +decide only [↓ax_B, ax_B, ax_kds, ax_gvs, ax_mcs, ax_ia_S, ax_up_ap, ax_vinL, and_self_left, ax_up_up, ax_up_sw, Nat.reduceAdd, Nat.reduceBEq, Nat.reduceLeDiff, Nat.reduceLT, Nat.reduceEqDiff, ↓reduceIte, true_and, and_true, List.cons_append, List.nil_append, Int32.reduceLT, Int32.reduceLE, Int32.reduceAdd, Int32.reduceToNatClampNeg, Int32.reduceOfNat, true_imp_iff, false_imp_iff, not_true_eq_false, not_false_eq_true, or_true, true_or, or_false, false_or, and_self, Bool.or_true, Bool.or_false, Bool.true_or, Bool.false_or, implies_true, forall_const, Bool.false_eq_true, Int32.neg_neg, ax_X173, ry_125, ry_129, ry_168, ry_169, hc]
    rw [hx]
    exact h
  | succ j ih =>
    intro k b x y hk hb h
    have hc : ¬ (6 : Int32) < nI k := by rw [e6]; exact nI_nlt (by omega) (by omega)
    have h1 : vp_in (nI k) 7 := vp_in_nI (by omega) (by omega)
    have h2 : (nI k).toNatClampNeg = k := nI_clamp (by omega)
    have h3 : nI k + 1 = nI (k + 1) := nI_1 k
    have h4 : (nI k < nI N) ↔ k < N := nI_ltI (by omega) (by omega)
    have h5 : ((6 : Int32) ≤ nI k) ↔ 6 ≤ k := by rw [e6]; exact nI_leI (by omega) (by omega)
    have h7 : (0 : Int32) ≤ nI n := nI_pos' (by omega)
    unfold wi_ at h
    refine ax_WPo (l := [(125, cy_125), (129, cy_129), (168, cy_168), (169, cy_169)]) (ax_oc sy_125 (ax_oc sy_129 (ax_oc sy_168 (ax_oc sy_169 ax_on)))) ax_ok173 (fun t => t == 48) 400 48 rfl ?_
    simp +decide only [↓ax_B, ax_B, ax_kds, ax_gvs, ax_mcs, ax_ia_S, ax_up_ap, ax_vinL, and_self_left, ax_up_up, ax_up_sw, Nat.reduceAdd, Nat.reduceBEq, Nat.reduceLeDiff, Nat.reduceLT, Nat.reduceEqDiff, ↓reduceIte, true_and, and_true, List.cons_append, List.nil_append, Int32.reduceLT, Int32.reduceLE, Int32.reduceAdd, Int32.reduceToNatClampNeg, Int32.reduceOfNat, true_imp_iff, false_imp_iff, not_true_eq_false, not_false_eq_true, or_true, true_or, or_false, false_or, and_self, Bool.or_true, Bool.or_false, Bool.true_or, Bool.false_or, implies_true, forall_const, Bool.false_eq_true, Int32.neg_neg, ax_X173, ry_125, ry_129, ry_168, ry_169, hc, h1, h2, h3, h4, h5, h7, hn, hN, hok, le30_ h30, nI_clamp (show n < 2 ^ 31 by omega), cm_gt0]
    have go : (k < N ∨ k = 6) → (x < 0 → ax_WP g (ax_hy 173) K 92 92 48 [some (.ref 58), some (.int d), some (.int 0), some (.int (nI k)), some (.long (wm_ D d n k)), none, some (.int (nI (k + 1))), none, none] [] (ax_S D E)) ∧ (¬ x < 0 → (y < wm_ D d n k → ax_WP g (ax_hy 173) K 92 92 48 [some (.ref 58), some (.int d), some (.int 0), some (.int (nI k)), some (.long (wm_ D d n k)), none, some (.int (nI (k + 1))), none, none] [] (ax_S D E)) ∧ (¬ y < wm_ D d n k → ax_WP g (ax_hy 173) K 92 92 48 [some (.ref 58), some (.int d), some (.int 0), some (.int x), some (.long y), none, some (.int (nI (k + 1))), none, none] [] (ax_S D E))) := by
      intro c
      rw [if_pos c] at h
      refine ⟨fun z => ?_, fun z => ⟨fun w => ?_, fun w => ?_⟩⟩
      · cases b with
        | none => exact ih (k + 1) (some k) _ _ (by omega) ⟨by omega, rfl, rfl⟩ h
        | some q =>
          rw [hb.2.1] at z
          exact absurd z (nI_pos (by omega))
      · cases b with
        | none =>
          exfalso
          have hb : x = -1 := hb
          rw [hb] at z
          exact z (by decide)
        | some q =>
          have hq := hb.2.2
          rw [hq] at w
          have h : K (some (.int (wb_ (wi_ (wm_ D d n) N j (k + 1) (if wm_ D d n q < wm_ D d n k then some k else some q))))) (ax_S D E) := h
          rw [if_pos w] at h
          exact ih (k + 1) (some k) _ _ (by omega) ⟨by omega, rfl, rfl⟩ h
      · cases b with
        | none =>
          exfalso
          have hb : x = -1 := hb
          rw [hb] at z
          exact z (by decide)
        | some q =>
          have hq := hb.2.2
          rw [hq] at w
          have h : K (some (.int (wb_ (wi_ (wm_ D d n) N j (k + 1) (if wm_ D d n q < wm_ D d n k then some k else some q))))) (ax_S D E) := h
          rw [if_neg w] at h
          exact ih (k + 1) (some q) _ _ (by omega) hb h
    have W : ∀ {x v : Int32} {y u : Int64}, ax_WP g (ax_hy 173) K 92 92 48 [some (.ref 58), some (.int d), some (.int 0), some (.int x), some (.long y), none, some (.int v), none, none] [] (ax_S D E) → ax_WP g (ax_hy 173) K 92 92 48 [some (.ref 58), some (.int d), some (.int 0), some (.int x), some (.long y), none, some (.int v), some (.long u), none] [] (ax_S D E) := fun q => ax_WP_w (by simp only [ax_le, and_self]) q
    refine ⟨fun c => ?_, fun c => ⟨fun c2 => ?_, fun c2 => ?_⟩⟩
    · have := go (.inl c)
      exact ⟨fun z => W (this.1 z), fun z => ⟨fun w => W ((this.2 z).1 w), fun w => W ((this.2 z).2 w)⟩⟩
    · have := go (.inr (by omega))
      exact ⟨fun z => W (this.1 z), fun z => ⟨fun w => W ((this.2 z).1 w), fun w => W ((this.2 z).2 w)⟩⟩
    · rw [if_neg (by omega)] at h
      exact ih (k + 1) b x y (by omega) hb h
/-- AskewLettersModel.which(I)I -/
def cy_173 : ax_P1 := fun as z K => ∃ (p1 : Int32) (D : ax_Dn) (E : ax_En), as = [.ref 58, .int p1] ∧ z = ax_S D E ∧ (okM D ∧ (0 ≤ p1 → (p1 ≤ 365 → (¬ al_ (wm_ D p1 (D 58 32).toNatClampNeg) (D 58 22).toNatClampNeg = 0 → K (some (.int (wb_ (wi_ (wm_ D p1 (D 58 32).toNatClampNeg) (D 58 22).toNatClampNeg 7 0 none)))) (ax_S D E)) ∧ (al_ (wm_ D p1 (D 58 32).toNatClampNeg) (D 58 22).toNatClampNeg = 0 → K (some (.int (-3))) (ax_S (ax_up D 59 (ax_up (D 59) 3 (D 59 3 + 1))) E))) ∧ (¬p1 ≤ 365 → K (some (.int (-6))) (ax_S (ax_up D 59 (ax_up (D 59) 6 (D 59 6 + 1))) E))) ∧ (¬0 ≤ p1 → K (some (.int (-4))) (ax_S (ax_up D 59 (ax_up (D 59) 4 (D 59 4 + 1))) E)))
theorem ry_173 (p1 : Int32) (D : ax_Dn) (E : ax_En) (K : ax_Po) : cy_173 [.ref 58, .int p1] (ax_S D E) K = (okM D ∧ (0 ≤ p1 → (p1 ≤ 365 → (¬ al_ (wm_ D p1 (D 58 32).toNatClampNeg) (D 58 22).toNatClampNeg = 0 → K (some (.int (wb_ (wi_ (wm_ D p1 (D 58 32).toNatClampNeg) (D 58 22).toNatClampNeg 7 0 none)))) (ax_S D E)) ∧ (al_ (wm_ D p1 (D 58 32).toNatClampNeg) (D 58 22).toNatClampNeg = 0 → K (some (.int (-3))) (ax_S (ax_up D 59 (ax_up (D 59) 3 (D 59 3 + 1))) E))) ∧ (¬p1 ≤ 365 → K (some (.int (-6))) (ax_S (ax_up D 59 (ax_up (D 59) 6 (D 59 6 + 1))) E))) ∧ (¬0 ≤ p1 → K (some (.int (-4))) (ax_S (ax_up D 59 (ax_up (D 59) 4 (D 59 4 + 1))) E))) := propext ⟨fun ⟨p1', D', E', h1, h2, h3⟩ => by cases h1; obtain ⟨rfl, rfl⟩ := ax_S_inj h2; exact h3, fun h => ⟨p1, D, E, rfl, rfl, h⟩⟩
theorem sy_173 {g : ax_G} : ∀ as z K, cy_173 as z K → ax_MM g 173 as z K := by
  rintro _ _ K ⟨p1, D, E, rfl, rfl, h⟩
  refine ax_go173 _ _ ?_
  obtain ⟨hok, h1, h2⟩ := h
  obtain ⟨n, hn, h30, hc⟩ := ax_cnt_of hok.2.2.1 (by decide)
  obtain ⟨N, hN, h6, hcN⟩ := ax_cnt_of hok.1 (by decide)
  have h7 : (0 : Int32) ≤ nI n := nI_pos' (by omega)
  rw [hc, hcN] at h1
  refine ax_WPo (l := [(125, cy_125), (129, cy_129), (168, cy_168), (169, cy_169)]) (ax_oc sy_125 (ax_oc sy_129 (ax_oc sy_168 (ax_oc sy_169 ax_on)))) ax_ok173 (fun t => t == 48) 400 0 rfl ?_
  simp +decide only [↓ax_B, ax_B, ax_kds, ax_gvs, ax_mcs, ax_ia_S, ax_up_ap, ax_vinL, and_self_left, ax_up_up, ax_up_sw, Nat.reduceAdd, Nat.reduceBEq, Nat.reduceLeDiff, Nat.reduceLT, Nat.reduceEqDiff, ↓reduceIte, true_and, and_true, List.cons_append, List.nil_append, Int32.reduceLT, Int32.reduceLE, Int32.reduceAdd, Int32.reduceToNatClampNeg, Int32.reduceOfNat, true_imp_iff, false_imp_iff, not_true_eq_false, not_false_eq_true, or_true, true_or, or_false, false_or, and_self, Bool.or_true, Bool.or_false, Bool.true_or, Bool.false_or, implies_true, forall_const, Bool.false_eq_true, Int32.neg_neg, ax_X173, ry_125, ry_129, ry_168, ry_169, hok, hn, hN, h7, le30_ h30, nI_clamp (show n < 2 ^ 31 by omega), nI_clamp (show N < 2 ^ 31 by omega), cm_eq0]
  refine ⟨fun c => ⟨fun c2 => ⟨fun c3 => ?_, fun c3 => ((h1 c).1 c2).2 c3⟩, fun c2 => (h1 c).2 c2⟩, h2⟩
  exact lp_173 hok p1 n hn h30 N hN h6 7 0 none (-1) 0 rfl rfl (((h1 c).1 c2).1 c3)
theorem lp_175 {g : ax_G} {K : ax_Po} {D : ax_Dn} {E : ax_En} (hok : okM D) (d : Int32) (N : Nat) (hN : D 58 22 = nI N) (h6 : N ≤ 6) (f : Nat → Bool) (hf : ∀ m, (pk_ (D 81) 0 (D 58 32).toNatClampNeg).all (FTM D (nI m) d) = f m) :
    ∀ (j k : Nat) (a : Int32), k + j = N → K (some (.int (fc_ f j k a))) (ax_S D E) → ax_WP g (ax_hy 175) K 92 92 24 [some (.ref 58), some (.int d), some (.int 0), some (.int a), some (.int (nI k))] [] (ax_S D E) := by
  intro j
  induction j with
  | zero =>
    intro k a hk h
    have hc : nI N ≤ nI k := nI_le (by omega) (by omega)
    refine ax_WPo (l := [(125, cy_125), (129, cy_129), (174, cy_174)]) (ax_oc sy_125 (ax_oc sy_129 (ax_oc sy_174 ax_on))) ax_ok175 (fun t => t == 24) 400 24 rfl ?_
    simp +decide only [↓ax_B, ax_B, ax_kds, ax_gvs, ax_mcs, ax_ia_S, ax_up_ap, ax_vinL, and_self_left, ax_up_up, ax_up_sw, Nat.reduceAdd, Nat.reduceBEq, Nat.reduceLeDiff, Nat.reduceLT, Nat.reduceEqDiff, ↓reduceIte, true_and, and_true, List.cons_append, List.nil_append, Int32.reduceLT, Int32.reduceLE, Int32.reduceAdd, Int32.reduceToNatClampNeg, Int32.reduceOfNat, true_imp_iff, false_imp_iff, not_true_eq_false, not_false_eq_true, or_true, true_or, or_false, false_or, and_self, Bool.or_true, Bool.or_false, Bool.true_or, Bool.false_or, implies_true, forall_const, Bool.false_eq_true, Int32.neg_neg, ax_X175, ry_125, ry_129, ry_174, hN, hc]
    exact h
  | succ j ih =>
    intro k a hk h
    have hc : ¬ nI N ≤ nI k := nI_ge (by omega) (by omega)
    have h1 : vp_in (nI k) 6 := vp_in_nI (by omega) (by omega)
    have h3 : nI k + 1 = nI (k + 1) := nI_1 k
    unfold fc_ at h
    refine ax_WPo (l := [(125, cy_125), (129, cy_129), (174, cy_174)]) (ax_oc sy_125 (ax_oc sy_129 (ax_oc sy_174 ax_on))) ax_ok175 (fun t => t == 24) 400 24 rfl ?_
    simp +decide only [↓ax_B, ax_B, ax_kds, ax_gvs, ax_mcs, ax_ia_S, ax_up_ap, ax_vinL, and_self_left, ax_up_up, ax_up_sw, Nat.reduceAdd, Nat.reduceBEq, Nat.reduceLeDiff, Nat.reduceLT, Nat.reduceEqDiff, ↓reduceIte, true_and, and_true, List.cons_append, List.nil_append, Int32.reduceLT, Int32.reduceLE, Int32.reduceAdd, Int32.reduceToNatClampNeg, Int32.reduceOfNat, true_imp_iff, false_imp_iff, not_true_eq_false, not_false_eq_true, or_true, true_or, or_false, false_or, and_self, Bool.or_true, Bool.or_false, Bool.true_or, Bool.false_or, implies_true, forall_const, Bool.false_eq_true, Int32.neg_neg, ax_X175, ry_125, ry_129, ry_174, hN, hc, h1, h3, hok, hf, Int32.add_zero]
    refine ⟨fun c => ?_, fun c => ?_⟩
    · rw [if_pos c] at h
      exact ih (k + 1) _ (by omega) h
    · rw [if_neg (by rw [c]; decide)] at h
      exact ih (k + 1) _ (by omega) h
/-- AskewLettersModel.many(I)I -/
def cy_175 : ax_P1 := fun as z K => ∃ (p1 : Int32) (D : ax_Dn) (E : ax_En), as = [.ref 58, .int p1] ∧ z = ax_S D E ∧ (okM D ∧ (0 ≤ p1 → (p1 ≤ 365 → K (some (.int (fc_ (fun m => (pk_ (D 81) 0 (D 58 32).toNatClampNeg).all (FTM D (nI m) p1)) (D 58 22).toNatClampNeg 0 0))) (ax_S D E)) ∧ (¬p1 ≤ 365 → K (some (.int (-6))) (ax_S (ax_up D 59 (ax_up (D 59) 6 (D 59 6 + 1))) E))) ∧ (¬0 ≤ p1 → K (some (.int (-4))) (ax_S (ax_up D 59 (ax_up (D 59) 4 (D 59 4 + 1))) E)))
theorem ry_175 (p1 : Int32) (D : ax_Dn) (E : ax_En) (K : ax_Po) : cy_175 [.ref 58, .int p1] (ax_S D E) K = (okM D ∧ (0 ≤ p1 → (p1 ≤ 365 → K (some (.int (fc_ (fun m => (pk_ (D 81) 0 (D 58 32).toNatClampNeg).all (FTM D (nI m) p1)) (D 58 22).toNatClampNeg 0 0))) (ax_S D E)) ∧ (¬p1 ≤ 365 → K (some (.int (-6))) (ax_S (ax_up D 59 (ax_up (D 59) 6 (D 59 6 + 1))) E))) ∧ (¬0 ≤ p1 → K (some (.int (-4))) (ax_S (ax_up D 59 (ax_up (D 59) 4 (D 59 4 + 1))) E))) := propext ⟨fun ⟨p1', D', E', h1, h2, h3⟩ => by cases h1; obtain ⟨rfl, rfl⟩ := ax_S_inj h2; exact h3, fun h => ⟨p1, D, E, rfl, rfl, h⟩⟩
theorem sy_175 {g : ax_G} : ∀ as z K, cy_175 as z K → ax_MM g 175 as z K := by
  rintro _ _ K ⟨p1, D, E, rfl, rfl, h⟩
  refine ax_go175 _ _ ?_
  obtain ⟨hok, h1, h2⟩ := h
  obtain ⟨N, hN, h6, hcN⟩ := ax_cnt_of hok.1 (by decide)
  rw [hcN] at h1
  refine ax_WPo (l := [(125, cy_125), (129, cy_129), (174, cy_174)]) (ax_oc sy_125 (ax_oc sy_129 (ax_oc sy_174 ax_on))) ax_ok175 (fun t => t == 24) 400 0 rfl ?_
  simp +decide only [↓ax_B, ax_B, ax_kds, ax_gvs, ax_mcs, ax_ia_S, ax_up_ap, ax_vinL, and_self_left, ax_up_up, ax_up_sw, Nat.reduceAdd, Nat.reduceBEq, Nat.reduceLeDiff, Nat.reduceLT, Nat.reduceEqDiff, ↓reduceIte, true_and, and_true, List.cons_append, List.nil_append, Int32.reduceLT, Int32.reduceLE, Int32.reduceAdd, Int32.reduceToNatClampNeg, Int32.reduceOfNat, true_imp_iff, false_imp_iff, not_true_eq_false, not_false_eq_true, or_true, true_or, or_false, false_or, and_self, Bool.or_true, Bool.or_false, Bool.true_or, Bool.false_or, implies_true, forall_const, Bool.false_eq_true, Int32.neg_neg, ax_X175, ry_125, ry_129, ry_174]
  refine ⟨fun c => ⟨fun c2 => ?_, fun c2 => (h1 c).2 c2⟩, h2⟩
  exact lp_175 hok p1 N hN h6 _ (fun _ => rfl) N 0 0 (by omega) ((h1 c).1 c2)
theorem lp_176 {g : ax_G} {K : ax_Po} {D : ax_Dn} {E : ax_En} (hok : okM D) (m d p : Int32) (hm : vp_in m 6) (n : Nat) (hc : (D 58 32).toNatClampNeg = n) (a b : Nat) (ha : LM D (D 76 1) m (10 * d) 0 n = lN a) (hb : sl_ (fun t => LM D (D 76 1) m (nI (t * 10)) 0 n) 37 = lN b) (q1 : a < 2 ^ 63) (q2 : b < 2 ^ 63) (q3 : 0 < b) (h : K (some (.long (lN (lt_N a b p)))) (ax_S D E)) :
    ∀ (j k : Nat), k + j = 37 → ax_WP g (ax_hy 176) K 92 92 57 [some (.ref 58), some (.int m), some (.int d), some (.int p), some (.int 0), some (.long (sl_ (fun t => LM D (D 76 1) m (nI (t * 10)) 0 n) k)), none, some (.int (nI k))] [] (ax_S D E) := by
  have e37 : (37 : Int32) = nI 37 := by decide
  have e10 : (10 : Int32) = nI 10 := by decide
  intro j
  induction j with
  | zero =>
    intro k hk
    have hc' : (37 : Int32) ≤ nI k := by rw [e37]; exact nI_le (by omega) (by omega)
    obtain rfl : k = 37 := by omega
    refine ax_WPo (l := [(127, cy_127), (128, cy_128), (129, cy_129), (144, cy_144), (163, cy_163), (171, cy_171)]) (ax_oc sy_127 (ax_oc sy_128 (ax_oc sy_129 (ax_oc sy_144 (ax_oc sy_163 (ax_oc sy_171 ax_on)))))) ax_ok176 (fun t => t == 57) 400 57 rfl ?_
    simp +decide only [↓ax_B, ax_B, ax_kds, ax_gvs, ax_mcs, ax_ia_S, ax_up_ap, ax_vinL, and_self_left, ax_up_up, ax_up_sw, Nat.reduceAdd, Nat.reduceBEq, Nat.reduceLeDiff, Nat.reduceLT, Nat.reduceEqDiff, ↓reduceIte, true_and, and_true, List.cons_append, List.nil_append, Int32.reduceLT, Int32.reduceLE, Int32.reduceAdd, Int32.reduceToNatClampNeg, Int32.reduceOfNat, true_imp_iff, false_imp_iff, not_true_eq_false, not_false_eq_true, or_true, true_or, or_false, false_or, and_self, Bool.or_true, Bool.or_false, Bool.true_or, Bool.false_or, implies_true, forall_const, Bool.false_eq_true, Int32.neg_neg, ax_X176, ry_127, ry_128, ry_129, ry_144, ry_163, ry_171, hc', hm, hok, hc]
    exact ⟨a, b, ha, hb, q1, q2, q3, h⟩
  | succ j ih =>
    intro k hk
    have hc' : ¬ (37 : Int32) ≤ nI k := by rw [e37]; exact nI_ge (by omega) (by omega)
    have h3 : nI k + 1 = nI (k + 1) := nI_1 k
    have h4 : 10 * nI k = nI (k * 10) := by rw [e10, nI_mul, Nat.mul_comm]
    have := ih (k + 1) (by omega)
    unfold sl_ at this
    refine ax_WPo (l := [(127, cy_127), (128, cy_128), (129, cy_129), (144, cy_144), (163, cy_163), (171, cy_171)]) (ax_oc sy_127 (ax_oc sy_128 (ax_oc sy_129 (ax_oc sy_144 (ax_oc sy_163 (ax_oc sy_171 ax_on)))))) ax_ok176 (fun t => t == 57) 400 57 rfl ?_
    simp +decide only [↓ax_B, ax_B, ax_kds, ax_gvs, ax_mcs, ax_ia_S, ax_up_ap, ax_vinL, and_self_left, ax_up_up, ax_up_sw, Nat.reduceAdd, Nat.reduceBEq, Nat.reduceLeDiff, Nat.reduceLT, Nat.reduceEqDiff, ↓reduceIte, true_and, and_true, List.cons_append, List.nil_append, Int32.reduceLT, Int32.reduceLE, Int32.reduceAdd, Int32.reduceToNatClampNeg, Int32.reduceOfNat, true_imp_iff, false_imp_iff, not_true_eq_false, not_false_eq_true, or_true, true_or, or_false, false_or, and_self, Bool.or_true, Bool.or_false, Bool.true_or, Bool.false_or, implies_true, forall_const, Bool.false_eq_true, Int32.neg_neg, ax_X176, ry_127, ry_128, ry_129, ry_144, ry_163, ry_171, hc', hm, hok, hc, h3, h4]
    exact this
/-- AskewLettersModel.when(III)J -/
def cy_176 : ax_P1 := fun as z K => ∃ (p1 : Int32) (p2 : Int32) (p3 : Int32) (D : ax_Dn) (E : ax_En), as = [.ref 58, .int p1, .int p2, .int p3] ∧ z = ax_S D E ∧ ((p1 < 0 → K (some (.long (4000000000000000000 - (-1).toInt64))) (ax_S (ax_up D 59 (ax_up (D 59) 1 (D 59 1 + 1))) E)) ∧ (¬p1 < 0 → (D 58 22 ≤ p1 → K (some (.long (4000000000000000000 - (-1).toInt64))) (ax_S (ax_up D 59 (ax_up (D 59) 1 (D 59 1 + 1))) E)) ∧ (¬D 58 22 ≤ p1 → (p3 < 0 → K (some (.long (4000000000000000000 - (-2).toInt64))) (ax_S (ax_up D 59 (ax_up (D 59) 2 (D 59 2 + 1))) E)) ∧ (¬p3 < 0 → (1 < p3 → K (some (.long (4000000000000000000 - (-2).toInt64))) (ax_S (ax_up D 59 (ax_up (D 59) 2 (D 59 2 + 1))) E)) ∧ (¬1 < p3 → (0 ≤ p2 → (p2 ≤ 36 → okM D ∧ vp_in p1 6 ∧ ∃ a b : Nat, LM D (D 76 1) p1 (10 * p2) 0 (D 58 32).toNatClampNeg = lN a ∧ sl_ (fun t => LM D (D 76 1) p1 (nI (t * 10)) 0 (D 58 32).toNatClampNeg) 37 = lN b ∧ a < 2 ^ 63 ∧ b < 2 ^ 63 ∧ 0 < b ∧ K (some (.long (lN (lt_N a b p3)))) (ax_S D E)) ∧ (¬p2 ≤ 36 → K (some (.long (4000000000000000000 - (-6).toInt64))) (ax_S (ax_up D 59 (ax_up (D 59) 6 (D 59 6 + 1))) E))) ∧ (¬0 ≤ p2 → K (some (.long (4000000000000000000 - (-4).toInt64))) (ax_S (ax_up D 59 (ax_up (D 59) 4 (D 59 4 + 1))) E)))))))
theorem ry_176 (p1 : Int32) (p2 : Int32) (p3 : Int32) (D : ax_Dn) (E : ax_En) (K : ax_Po) : cy_176 [.ref 58, .int p1, .int p2, .int p3] (ax_S D E) K = ((p1 < 0 → K (some (.long (4000000000000000000 - (-1).toInt64))) (ax_S (ax_up D 59 (ax_up (D 59) 1 (D 59 1 + 1))) E)) ∧ (¬p1 < 0 → (D 58 22 ≤ p1 → K (some (.long (4000000000000000000 - (-1).toInt64))) (ax_S (ax_up D 59 (ax_up (D 59) 1 (D 59 1 + 1))) E)) ∧ (¬D 58 22 ≤ p1 → (p3 < 0 → K (some (.long (4000000000000000000 - (-2).toInt64))) (ax_S (ax_up D 59 (ax_up (D 59) 2 (D 59 2 + 1))) E)) ∧ (¬p3 < 0 → (1 < p3 → K (some (.long (4000000000000000000 - (-2).toInt64))) (ax_S (ax_up D 59 (ax_up (D 59) 2 (D 59 2 + 1))) E)) ∧ (¬1 < p3 → (0 ≤ p2 → (p2 ≤ 36 → okM D ∧ vp_in p1 6 ∧ ∃ a b : Nat, LM D (D 76 1) p1 (10 * p2) 0 (D 58 32).toNatClampNeg = lN a ∧ sl_ (fun t => LM D (D 76 1) p1 (nI (t * 10)) 0 (D 58 32).toNatClampNeg) 37 = lN b ∧ a < 2 ^ 63 ∧ b < 2 ^ 63 ∧ 0 < b ∧ K (some (.long (lN (lt_N a b p3)))) (ax_S D E)) ∧ (¬p2 ≤ 36 → K (some (.long (4000000000000000000 - (-6).toInt64))) (ax_S (ax_up D 59 (ax_up (D 59) 6 (D 59 6 + 1))) E))) ∧ (¬0 ≤ p2 → K (some (.long (4000000000000000000 - (-4).toInt64))) (ax_S (ax_up D 59 (ax_up (D 59) 4 (D 59 4 + 1))) E))))))) := propext ⟨fun ⟨p1', p2', p3', D', E', h1, h2, h3⟩ => by cases h1; obtain ⟨rfl, rfl⟩ := ax_S_inj h2; exact h3, fun h => ⟨p1, p2, p3, D, E, rfl, rfl, h⟩⟩
theorem sy_176 {g : ax_G} : ∀ as z K, cy_176 as z K → ax_MM g 176 as z K := by
  rintro _ _ K ⟨p1, p2, p3, D, E, rfl, rfl, h⟩
  refine ax_go176 _ _ _ _ ?_
  refine ax_WPo (l := [(127, cy_127), (128, cy_128), (129, cy_129), (144, cy_144), (163, cy_163), (171, cy_171)]) (ax_oc sy_127 (ax_oc sy_128 (ax_oc sy_129 (ax_oc sy_144 (ax_oc sy_163 (ax_oc sy_171 ax_on)))))) ax_ok176 (fun t => t == 57) 400 0 rfl ?_
  simp +decide only [↓ax_B, ax_B, ax_kds, ax_gvs, ax_mcs, ax_ia_S, ax_up_ap, ax_vinL, and_self_left, ax_up_up, ax_up_sw, Nat.reduceAdd, Nat.reduceBEq, Nat.reduceLeDiff, Nat.reduceLT, Nat.reduceEqDiff, ↓reduceIte, true_and, and_true, List.cons_append, List.nil_append, Int32.reduceLT, Int32.reduceLE, Int32.reduceAdd, Int32.reduceToNatClampNeg, Int32.reduceOfNat, true_imp_iff, false_imp_iff, not_true_eq_false, not_false_eq_true, or_true, true_or, or_false, false_or, and_self, Bool.or_true, Bool.or_false, Bool.true_or, Bool.false_or, implies_true, forall_const, Bool.false_eq_true, Int32.neg_neg, ax_X176, ry_127, ry_128, ry_129, ry_144, ry_163, ry_171]
  refine ⟨h.1, fun c => ⟨(h.2 c).1, fun c2 => ?_⟩⟩
  have h := (h.2 c).2 c2
  refine ⟨h.1, fun c3 => ⟨(h.2 c3).1, fun c4 => ?_⟩⟩
  have h := (h.2 c3).2 c4
  refine ⟨fun c5 => ⟨fun c6 => ?_, (h.1 c5).2⟩, h.2⟩
  obtain ⟨hok, hm, a, b, ha, hb, q1, q2, q3, hK⟩ := (h.1 c5).1 c6
  exact lp_176 hok p1 p2 p3 hm _ rfl a b ha hb q1 q2 q3 hK 37 0 rfl
def is_ (v : Nat → Int64) (mst : Int64) (w : Int32) (k : Nat) : Prop := if w = 0 then v k = mst else mst ≤ 2 * v k
def mo_ (I : Nat → Bool) (w : Int32) : Nat → Nat → Option Nat → Option Nat
  | 0, _, b => b
  | j + 1, k, b => mo_ I w j (k + 1) (if I k = true then (match b with
    | none => some k
    | some q => if w = 2 then some k else some q) else b)
def mb_ (b : Option Nat) : Int32 := match b with
  | none => -1
  | some q => nI (q * 10)
theorem lp_178 {g : ax_G} {K : ax_Po} {D : ax_Dn} {E : ax_En} (hok : okM D) (m w : Int32) (hm : vp_in m 6) (n : Nat) (hc : (D 58 32).toNatClampNeg = n) (mst : Int64) (I : Nat → Bool) (hI : ∀ k, I k = true ↔ is_ (fun t => LM D (D 76 1) m (nI (t * 10)) 0 n) mst w k) :
    ∀ (j k : Nat) (b : Option Nat), k + j = 37 → (∀ q, b = some q → q < 37) → K (some (.int (mb_ (mo_ I w j k b)))) (ax_S D E) → ax_WP g (ax_hy 178) K 92 92 53 [some (.ref 58), some (.int m), some (.int w), some (.long mst), none, some (.int (mb_ b)), some (.int (nI k)), none, none, none] [] (ax_S D E) := by
  have e37 : (37 : Int32) = nI 37 := by decide
  have e10 : (10 : Int32) = nI 10 := by decide
  intro j
  induction j with
  | zero =>
    intro k b hk hb h
    have hc' : (37 : Int32) ≤ nI k := by rw [e37]; exact nI_le (by omega) (by omega)
    refine ax_WPo (l := [(125, cy_125), (128, cy_128), (144, cy_144), (163, cy_163), (177, cy_177)]) (ax_oc sy_125 (ax_oc sy_128 (ax_oc sy_144 (ax_oc sy_163 (ax_oc sy_177 ax_on))))) ax_ok178 (fun t => t == 53) 400 53 rfl ?_
    simp +decide only [↓ax_B, ax_B, ax_kds, ax_gvs, ax_mcs, ax_ia_S, ax_up_ap, ax_vinL, and_self_left, ax_up_up, ax_up_sw, Nat.reduceAdd, Nat.reduceBEq, Nat.reduceLeDiff, Nat.reduceLT, Nat.reduceEqDiff, ↓reduceIte, true_and, and_true, List.cons_append, List.nil_append, Int32.reduceLT, Int32.reduceLE, Int32.reduceAdd, Int32.reduceToNatClampNeg, Int32.reduceOfNat, true_imp_iff, false_imp_iff, not_true_eq_false, not_false_eq_true, or_true, true_or, or_false, false_or, and_self, Bool.or_true, Bool.or_false, Bool.true_or, Bool.false_or, implies_true, forall_const, Bool.false_eq_true, Int32.neg_neg, ax_X178, ry_125, ry_128, ry_144, ry_163, ry_177, hc']
    exact h
  | succ j ih =>
    intro k b hk hb h
    have hc' : ¬ (37 : Int32) ≤ nI k := by rw [e37]; exact nI_ge (by omega) (by omega)
    have h3 : nI k + 1 = nI (k + 1) := nI_1 k
    have h4 : 10 * nI k = nI (k * 10) := by rw [e10, nI_mul, Nat.mul_comm]
    have hkI := hI k
    unfold is_ at hkI
    unfold mo_ at h
    have hb0 : mb_ b < 0 ↔ b = none := by
      cases b with
      | none => exact ⟨fun _ => rfl, fun _ => by decide⟩
      | some q =>
        have := hb q rfl
        refine ⟨fun z => absurd z (nI_pos (by omega)), fun z => by cases z⟩
    have yes : I k = true → (b = none ∨ w = 2) → ax_WP g (ax_hy 178) K 92 92 53 [some (.ref 58), some (.int m), some (.int w), some (.long mst), none, some (.int (nI (k * 10))), some (.int (nI (k + 1))), none, none, none] [] (ax_S D E) := by
      intro c c2
      rw [if_pos c] at h
      refine ih (k + 1) (some k) (by omega) (fun q z => by cases z; omega) ?_
      cases b with
      | none => exact h
      | some q =>
        rcases c2 with z | z
        · cases z
        · have h : K (some (.int (mb_ (mo_ I w j (k + 1) (if w = 2 then some k else some q))))) (ax_S D E) := h
          rw [if_pos z] at h
          exact h
    have no : (I k = false ∨ (b ≠ none ∧ w ≠ 2)) → ax_WP g (ax_hy 178) K 92 92 53 [some (.ref 58), some (.int m), some (.int w), some (.long mst), none, some (.int (mb_ b)), some (.int (nI (k + 1))), none, none, none] [] (ax_S D E) := by
      intro c
      refine ih (k + 1) b (by omega) hb ?_
      cases hIk : I k with
      | false =>
        rw [hIk, if_neg (by decide)] at h
        exact h
      | true =>
        rw [if_pos hIk] at h
        rcases c with c | ⟨c, c2⟩
        · rw [hIk] at c; cases c
        · cases b with
          | none => exact absurd rfl c
          | some q =>
            have h : K (some (.int (mb_ (mo_ I w j (k + 1) (if w = 2 then some k else some q))))) (ax_S D E) := h
            rw [if_neg c2] at h
            exact h
    refine ax_WPo (l := [(125, cy_125), (128, cy_128), (144, cy_144), (163, cy_163), (177, cy_177)]) (ax_oc sy_125 (ax_oc sy_128 (ax_oc sy_144 (ax_oc sy_163 (ax_oc sy_177 ax_on))))) ax_ok178 (fun t => t == 53) 400 53 rfl ?_
    simp +decide only [↓ax_B, ax_B, ax_kds, ax_gvs, ax_mcs, ax_ia_S, ax_up_ap, ax_vinL, and_self_left, ax_up_up, ax_up_sw, Nat.reduceAdd, Nat.reduceBEq, Nat.reduceLeDiff, Nat.reduceLT, Nat.reduceEqDiff, ↓reduceIte, true_and, and_true, List.cons_append, List.nil_append, Int32.reduceLT, Int32.reduceLE, Int32.reduceAdd, Int32.reduceToNatClampNeg, Int32.reduceOfNat, true_imp_iff, false_imp_iff, not_true_eq_false, not_false_eq_true, or_true, true_or, or_false, false_or, and_self, Bool.or_true, Bool.or_false, Bool.true_or, Bool.false_or, implies_true, forall_const, Bool.false_eq_true, Int32.neg_neg, ax_X178, ry_125, ry_128, ry_144, ry_163, ry_177, hc', h3, h4, hm, hok, hc, hb0, cm_lt0, cm_eq0]
    have W : ∀ {x v : Int32} {u : Int64} {r : Int32}, ax_WP g (ax_hy 178) K 92 92 53 [some (.ref 58), some (.int m), some (.int w), some (.long mst), none, some (.int x), some (.int v), none, none, none] [] (ax_S D E) → ax_WP g (ax_hy 178) K 92 92 53 [some (.ref 58), some (.int m), some (.int w), some (.long mst), none, some (.int x), some (.int v), some (.long u), none, some (.int r)] [] (ax_S D E) := fun q => ax_WP_w (by simp only [ax_le, and_self]) q
    refine ⟨fun cw => ?_, fun cw => ?_⟩
    · rw [if_neg cw] at hkI
      refine ⟨fun c1 => W (no (.inl ?_)), fun c1 => ?_⟩
      · rw [← Bool.not_eq_true, hkI]; exact Int64.not_le.mpr c1
      · have hI1 := hkI.mpr (Int64.not_lt.mp c1)
        exact ⟨fun c2 => W (yes hI1 (.inl c2)), fun c2 => ⟨fun c3 => W (no (.inr ⟨c2, c3⟩)), fun c3 => W (yes hI1 (.inr c3))⟩⟩
    · rw [if_pos cw] at hkI
      refine ⟨fun c1 => W (no (.inl ?_)), fun c1 => ?_⟩
      · rw [← Bool.not_eq_true, hkI]; exact c1
      · have hI1 := hkI.mpr c1
        exact ⟨fun c2 => W (yes hI1 (.inl c2)), fun c2 => ⟨fun c3 => W (no (.inr ⟨c2, c3⟩)), fun c3 => W (yes hI1 (.inr c3))⟩⟩
/-- AskewLettersModel.most(II)I -/
def cy_178 : ax_P1 := fun as z K => ∃ (p1 : Int32) (p2 : Int32) (D : ax_Dn) (E : ax_En), as = [.ref 58, .int p1, .int p2] ∧ z = ax_S D E ∧ ((p1 < 0 → K (some (.int (-1))) (ax_S (ax_up D 59 (ax_up (D 59) 1 (D 59 1 + 1))) E)) ∧ (¬p1 < 0 → (D 58 22 ≤ p1 → K (some (.int (-1))) (ax_S (ax_up D 59 (ax_up (D 59) 1 (D 59 1 + 1))) E)) ∧ (¬D 58 22 ≤ p1 → (p2 < 0 → K (some (.int (-2))) (ax_S (ax_up D 59 (ax_up (D 59) 2 (D 59 2 + 1))) E)) ∧ (¬p2 < 0 → (2 < p2 → K (some (.int (-2))) (ax_S (ax_up D 59 (ax_up (D 59) 2 (D 59 2 + 1))) E)) ∧ (¬2 < p2 → okM D ∧ vp_in p1 6 ∧ ∃ I : Nat → Bool, (∀ k, I k = true ↔ is_ (fun t => LM D (D 76 1) p1 (nI (t * 10)) 0 (D 58 32).toNatClampNeg) (gl_ (fun t => LM D (D 76 1) p1 (nI (t * 10)) 0 (D 58 32).toNatClampNeg) 37) p2 k) ∧ K (some (.int (mb_ (mo_ I p2 37 0 none)))) (ax_S D E))))))
theorem ry_178 (p1 : Int32) (p2 : Int32) (D : ax_Dn) (E : ax_En) (K : ax_Po) : cy_178 [.ref 58, .int p1, .int p2] (ax_S D E) K = ((p1 < 0 → K (some (.int (-1))) (ax_S (ax_up D 59 (ax_up (D 59) 1 (D 59 1 + 1))) E)) ∧ (¬p1 < 0 → (D 58 22 ≤ p1 → K (some (.int (-1))) (ax_S (ax_up D 59 (ax_up (D 59) 1 (D 59 1 + 1))) E)) ∧ (¬D 58 22 ≤ p1 → (p2 < 0 → K (some (.int (-2))) (ax_S (ax_up D 59 (ax_up (D 59) 2 (D 59 2 + 1))) E)) ∧ (¬p2 < 0 → (2 < p2 → K (some (.int (-2))) (ax_S (ax_up D 59 (ax_up (D 59) 2 (D 59 2 + 1))) E)) ∧ (¬2 < p2 → okM D ∧ vp_in p1 6 ∧ ∃ I : Nat → Bool, (∀ k, I k = true ↔ is_ (fun t => LM D (D 76 1) p1 (nI (t * 10)) 0 (D 58 32).toNatClampNeg) (gl_ (fun t => LM D (D 76 1) p1 (nI (t * 10)) 0 (D 58 32).toNatClampNeg) 37) p2 k) ∧ K (some (.int (mb_ (mo_ I p2 37 0 none)))) (ax_S D E)))))) := propext ⟨fun ⟨p1', p2', D', E', h1, h2, h3⟩ => by cases h1; obtain ⟨rfl, rfl⟩ := ax_S_inj h2; exact h3, fun h => ⟨p1, p2, D, E, rfl, rfl, h⟩⟩
theorem sy_178 {g : ax_G} : ∀ as z K, cy_178 as z K → ax_MM g 178 as z K := by
  rintro _ _ K ⟨p1, p2, D, E, rfl, rfl, h⟩
  refine ax_go178 _ _ _ ?_
  refine ax_WPo (l := [(125, cy_125), (128, cy_128), (144, cy_144), (163, cy_163), (177, cy_177)]) (ax_oc sy_125 (ax_oc sy_128 (ax_oc sy_144 (ax_oc sy_163 (ax_oc sy_177 ax_on))))) ax_ok178 (fun t => t == 53) 400 0 rfl ?_
  simp +decide only [↓ax_B, ax_B, ax_kds, ax_gvs, ax_mcs, ax_ia_S, ax_up_ap, ax_vinL, and_self_left, ax_up_up, ax_up_sw, Nat.reduceAdd, Nat.reduceBEq, Nat.reduceLeDiff, Nat.reduceLT, Nat.reduceEqDiff, ↓reduceIte, true_and, and_true, List.cons_append, List.nil_append, Int32.reduceLT, Int32.reduceLE, Int32.reduceAdd, Int32.reduceToNatClampNeg, Int32.reduceOfNat, true_imp_iff, false_imp_iff, not_true_eq_false, not_false_eq_true, or_true, true_or, or_false, false_or, and_self, Bool.or_true, Bool.or_false, Bool.true_or, Bool.false_or, implies_true, forall_const, Bool.false_eq_true, Int32.neg_neg, ax_X178, ry_125, ry_128, ry_144, ry_163, ry_177]
  refine ⟨h.1, fun c => ⟨(h.2 c).1, fun c2 => ?_⟩⟩
  have h := (h.2 c).2 c2
  refine ⟨h.1, fun c3 => ⟨(h.2 c3).1, fun c4 => ?_⟩⟩
  obtain ⟨hok, hm, I, hI, hK⟩ := (h.2 c3).2 c4
  obtain ⟨n, hn, h30, hc⟩ := ax_cnt_of hok.2.2.1 (by decide)
  rw [hc] at hI
  rw [hn, nI_clamp (show n < 2 ^ 31 by omega)]
  refine ⟨hok, hm, nI_pos' (by omega), le30_ h30, ?_⟩
  exact lp_178 hok p1 p2 hm n hc _ I hI 37 0 none rfl (fun q z => by cases z) hK
/-! Against, need. -/
theorem ls_snoc (f : Nat → Int32) (q : Nat) : ∀ (Q : List Nat) (b : Option Nat), ls_ f (Q ++ [q]) b = (match ls_ f Q b with
    | none => some q
    | some p => if f q < f p then some q else some p) := by
  intro Q
  induction Q with
  | nil => intro b; cases b <;> rfl
  | cons a Q ih => intro b; exact ih _
theorem lp_183 {g : ax_G} {K : ax_Po} {D : ax_Dn} {E : ax_En} (hok : okM D) (m d : Int32) (hm : vp_in m 6) (N : Nat) (hN : D 58 32 = nI N) (h30 : N ≤ 30) (f : Nat → Int32) (hf : ∀ i, pr_ (D 76 1) (FM D i m d) 5 0 1 = f i) (h : K (some (.int (wa_ (ls_ f (pk_ (D 81) 0 N) none)))) (ax_S D E)) :
    ∀ (j k : Nat) (x y : Int32), k + j = N → (match ls_ f (pk_ (D 81) 0 k) none with | none => x = -9 | some p => p < 30 ∧ x = nI p ∧ y = f p) → ax_WP g (ax_hy 183) K 92 92 27 [some (.ref 58), some (.int m), some (.int d), some (.int 0), some (.int x), some (.int y), some (.int (nI k)), none] [] (ax_S D E) := by
  intro j
  induction j with
  | zero =>
    intro k x y hk hb
    have hc : nI N ≤ nI k := nI_le (by omega) (by omega)
    obtain rfl : k = N := by omega
    have hx : x = wa_ (ls_ f (pk_ (D 81) 0 k) none) := by
      unfold wa_
      cases hq : ls_ f (pk_ (D 81) 0 k) none with
      | none => rw [hq] at hb; exact hb
      | some q => rw [hq] at hb; exact hb.2.1
    refine ax_WPo (l := [(125, cy_125), (154, cy_154), (161, cy_161), (164, cy_164)]) (ax_oc sy_125 (ax_oc sy_154 (ax_oc sy_161 (ax_oc sy_164 ax_on)))) ax_ok183 (fun t => t == 27) 400 27 rfl ?_
    simp +decide only [↓ax_B, ax_B, ax_kds, ax_gvs, ax_mcs, ax_ia_S, ax_up_ap, ax_vinL, and_self_left, ax_up_up, ax_up_sw, Nat.reduceAdd, Nat.reduceBEq, Nat.reduceLeDiff, Nat.reduceLT, Nat.reduceEqDiff, ↓reduceIte, true_and, and_true, List.cons_append, List.nil_append, Int32.reduceLT, Int32.reduceLE, Int32.reduceAdd, Int32.reduceToNatClampNeg, Int32.reduceOfNat, true_imp_iff, false_imp_iff, not_true_eq_false, not_false_eq_true, or_true, true_or, or_false, false_or, and_self, Bool.or_true, Bool.or_false, Bool.true_or, Bool.false_or, implies_true, forall_const, Bool.false_eq_true, Int32.neg_neg, ax_X183, ry_125, ry_154, ry_161, ry_164, hN, hc]
    rw [hx]
    exact h
  | succ j ih =>
    intro k x y hk hb
    have hc : ¬ nI N ≤ nI k := nI_ge (by omega) (by omega)
    have h1 : vp_in (nI k) 30 := vp_in_nI (by omega) (by omega)
    have h2 : (nI k).toNatClampNeg = k := nI_clamp (by omega)
    have h3 : nI k + 1 = nI (k + 1) := nI_1 k
    have h4 := hok.2.2.2.1
    have h5 : (0 : Int32) ≤ nI k := nI_pos' (by omega)
    have e := pk_step (D 81) 0 k
    rw [Nat.zero_add, Nat.zero_add] at e
    have W : ∀ {x y v r : Int32}, ax_WP g (ax_hy 183) K 92 92 27 [some (.ref 58), some (.int m), some (.int d), some (.int 0), some (.int x), some (.int y), some (.int v), none] [] (ax_S D E) → ax_WP g (ax_hy 183) K 92 92 27 [some (.ref 58), some (.int m), some (.int d), some (.int 0), some (.int x), some (.int y), some (.int v), some (.int r)] [] (ax_S D E) := fun q => ax_WP_w (by simp only [ax_le, and_self]) q
    have go : ∀ x y, (match ls_ f (pk_ (D 81) 0 (k + 1)) none with | none => x = -9 | some p => p < 30 ∧ x = nI p ∧ y = f p) → ax_WP g (ax_hy 183) K 92 92 27 [some (.ref 58), some (.int m), some (.int d), some (.int 0), some (.int x), some (.int y), some (.int (nI (k + 1))), none] [] (ax_S D E) := fun x y q => ih (k + 1) x y (by omega) q
    refine ax_WPo (l := [(125, cy_125), (154, cy_154), (161, cy_161), (164, cy_164)]) (ax_oc sy_125 (ax_oc sy_154 (ax_oc sy_161 (ax_oc sy_164 ax_on)))) ax_ok183 (fun t => t == 27) 400 27 rfl ?_
    simp +decide only [↓ax_B, ax_B, ax_kds, ax_gvs, ax_mcs, ax_ia_S, ax_up_ap, ax_vinL, and_self_left, ax_up_up, ax_up_sw, Nat.reduceAdd, Nat.reduceBEq, Nat.reduceLeDiff, Nat.reduceLT, Nat.reduceEqDiff, ↓reduceIte, true_and, and_true, List.cons_append, List.nil_append, Int32.reduceLT, Int32.reduceLE, Int32.reduceAdd, Int32.reduceToNatClampNeg, Int32.reduceOfNat, true_imp_iff, false_imp_iff, not_true_eq_false, not_false_eq_true, or_true, true_or, or_false, false_or, and_self, Bool.or_true, Bool.or_false, Bool.true_or, Bool.false_or, implies_true, forall_const, Bool.false_eq_true, Int32.neg_neg, ax_X183, ry_125, ry_154, ry_161, ry_164, hN, hc, h1, h2, h3, h4, h5, hm, hok, hf]
    refine ⟨fun c => ?_, fun c => ?_⟩
    · rw [if_pos c] at e
      rw [e, ls_snoc] at go
      refine ⟨fun z => W (go _ _ ?_), fun z => ⟨fun w => W (go _ _ ?_), fun w => W (go _ _ ?_)⟩⟩
      all_goals
        cases hq : ls_ f (pk_ (D 81) 0 k) none with
        | none =>
          rw [hq] at hb
          have hb : x = -9 := hb
          first
            | exact ⟨by omega, rfl, rfl⟩
            | (exfalso; rw [hb] at z; exact z (by decide))
        | some p =>
          rw [hq] at hb
          obtain ⟨b1, b2, b3⟩ := hb
          rw [b2] at z
          first
            | exact absurd z (nI_pos (by omega))
            | (rw [b3] at w
               first
                 | (simp only [if_pos w, and_true]; omega)
                 | (simp only [if_neg w]; exact ⟨b1, b2, b3⟩))
    · rw [if_neg (by rw [c]; decide)] at e
      rw [e] at go
      exact go x y hb
/-- AskewLettersModel.against(II)I -/
def cy_183 : ax_P1 := fun as z K => ∃ (p1 : Int32) (p2 : Int32) (D : ax_Dn) (E : ax_En), as = [.ref 58, .int p1, .int p2] ∧ z = ax_S D E ∧ ((p1 < 0 → K (some (.int (-1))) (ax_S (ax_up D 59 (ax_up (D 59) 1 (D 59 1 + 1))) E)) ∧ (¬p1 < 0 → (D 58 22 ≤ p1 → K (some (.int (-1))) (ax_S (ax_up D 59 (ax_up (D 59) 1 (D 59 1 + 1))) E)) ∧ (¬D 58 22 ≤ p1 → (0 ≤ p2 → (p2 ≤ 365 → okM D ∧ vp_in p1 6 ∧ K (some (.int (wa_ (ls_ (fun i => pr_ (D 76 1) (FM D i p1 p2) 5 0 1) (pk_ (D 81) 0 (D 58 32).toNatClampNeg) none)))) (ax_S D E)) ∧ (¬p2 ≤ 365 → K (some (.int (-6))) (ax_S (ax_up D 59 (ax_up (D 59) 6 (D 59 6 + 1))) E))) ∧ (¬0 ≤ p2 → K (some (.int (-4))) (ax_S (ax_up D 59 (ax_up (D 59) 4 (D 59 4 + 1))) E)))))
theorem ry_183 (p1 : Int32) (p2 : Int32) (D : ax_Dn) (E : ax_En) (K : ax_Po) : cy_183 [.ref 58, .int p1, .int p2] (ax_S D E) K = ((p1 < 0 → K (some (.int (-1))) (ax_S (ax_up D 59 (ax_up (D 59) 1 (D 59 1 + 1))) E)) ∧ (¬p1 < 0 → (D 58 22 ≤ p1 → K (some (.int (-1))) (ax_S (ax_up D 59 (ax_up (D 59) 1 (D 59 1 + 1))) E)) ∧ (¬D 58 22 ≤ p1 → (0 ≤ p2 → (p2 ≤ 365 → okM D ∧ vp_in p1 6 ∧ K (some (.int (wa_ (ls_ (fun i => pr_ (D 76 1) (FM D i p1 p2) 5 0 1) (pk_ (D 81) 0 (D 58 32).toNatClampNeg) none)))) (ax_S D E)) ∧ (¬p2 ≤ 365 → K (some (.int (-6))) (ax_S (ax_up D 59 (ax_up (D 59) 6 (D 59 6 + 1))) E))) ∧ (¬0 ≤ p2 → K (some (.int (-4))) (ax_S (ax_up D 59 (ax_up (D 59) 4 (D 59 4 + 1))) E))))) := propext ⟨fun ⟨p1', p2', D', E', h1, h2, h3⟩ => by cases h1; obtain ⟨rfl, rfl⟩ := ax_S_inj h2; exact h3, fun h => ⟨p1, p2, D, E, rfl, rfl, h⟩⟩
theorem sy_183 {g : ax_G} : ∀ as z K, cy_183 as z K → ax_MM g 183 as z K := by
  rintro _ _ K ⟨p1, p2, D, E, rfl, rfl, h⟩
  refine ax_go183 _ _ _ ?_
  refine ax_WPo (l := [(125, cy_125), (154, cy_154), (161, cy_161), (164, cy_164)]) (ax_oc sy_125 (ax_oc sy_154 (ax_oc sy_161 (ax_oc sy_164 ax_on)))) ax_ok183 (fun t => t == 27) 400 0 rfl ?_
  simp +decide only [↓ax_B, ax_B, ax_kds, ax_gvs, ax_mcs, ax_ia_S, ax_up_ap, ax_vinL, and_self_left, ax_up_up, ax_up_sw, Nat.reduceAdd, Nat.reduceBEq, Nat.reduceLeDiff, Nat.reduceLT, Nat.reduceEqDiff, ↓reduceIte, true_and, and_true, List.cons_append, List.nil_append, Int32.reduceLT, Int32.reduceLE, Int32.reduceAdd, Int32.reduceToNatClampNeg, Int32.reduceOfNat, true_imp_iff, false_imp_iff, not_true_eq_false, not_false_eq_true, or_true, true_or, or_false, false_or, and_self, Bool.or_true, Bool.or_false, Bool.true_or, Bool.false_or, implies_true, forall_const, Bool.false_eq_true, Int32.neg_neg, ax_X183, ry_125, ry_154, ry_161, ry_164]
  refine ⟨h.1, fun c => ⟨(h.2 c).1, fun c2 => ?_⟩⟩
  have h := (h.2 c).2 c2
  refine ⟨fun c3 => ⟨fun c4 => ?_, (h.1 c3).2⟩, h.2⟩
  obtain ⟨hok, hm, hK⟩ := (h.1 c3).1 c4
  obtain ⟨n, hn, h30, hc⟩ := ax_cnt_of hok.2.2.1 (by decide)
  rw [hc] at hK
  exact lp_183 hok p1 p2 hm n hn h30 _ (fun _ => rfl) hK n 0 (-9) 0 (by omega) (by rw [pk_nil]; rfl)
def nm_ (D : ax_Dn) (m : Nat) (d h : Int32) (N : Nat) : Nat → Nat → Int32
  | 0, _ => -9
  | j + 1, n => if hh_ (wm_ D d (n + 1) m) (al_ (wm_ D d (n + 1)) N) h = true then nI (n + 1) else nm_ D m d h N j (n + 1)
theorem lp_184 {g : ax_G} {K : ax_Po} {D : ax_Dn} {E : ax_En} (hok : okM D) (m : Nat) (hm : m < 6) (d h : Int32) (N S : Nat) (hN : D 58 22 = nI N) (hN6 : N ≤ 6) (hS : D 58 32 = nI S) (hS30 : S ≤ 30) : ∀ (j n : Nat), n + j = S → K (some (.int (nm_ D m d h N j n))) (ax_S D E) → ax_WP g (ax_hy 184) K 92 92 63 [some (.ref 58), some (.int (nI m)), some (.int d), some (.int h), some (.int 0), some (.int (nI (n + 1))), none, none] [] (ax_S D E) := by
  intro j
  induction j with
  | zero =>
    intro n hn hK
    have hc : nI S < nI (n + 1) := nI_lt (by omega) (by omega)
    refine ax_WPo (l := [(125, cy_125), (144, cy_144), (168, cy_168), (169, cy_169)]) (ax_oc sy_125 (ax_oc sy_144 (ax_oc sy_168 (ax_oc sy_169 ax_on)))) ax_ok184 (fun t => t == 63) 400 63 rfl ?_
    simp +decide only [↓ax_B, ax_B, ax_kds, ax_gvs, ax_mcs, ax_ia_S, ax_up_ap, ax_vinL, and_self_left, ax_up_up, ax_up_sw, Nat.reduceAdd, Nat.reduceBEq, Nat.reduceLeDiff, Nat.reduceLT, Nat.reduceEqDiff, ↓reduceIte, true_and, and_true, List.cons_append, List.nil_append, Int32.reduceLT, Int32.reduceLE, Int32.reduceAdd, Int32.reduceToNatClampNeg, Int32.reduceOfNat, true_imp_iff, false_imp_iff, not_true_eq_false, not_false_eq_true, or_true, true_or, or_false, false_or, and_self, Bool.or_true, Bool.or_false, Bool.true_or, Bool.false_or, implies_true, forall_const, Bool.false_eq_true, Int32.neg_neg, ax_X184, ry_125, ry_144, ry_168, ry_169, hS, hc]
    exact hK
  | succ j ih =>
    intro n hn hK
    have hc : ¬ nI S < nI (n + 1) := nI_nlt (by omega) (by omega)
    have h2 : (nI (n + 1)).toNatClampNeg = n + 1 := nI_clamp (by omega)
    have hm1 : vp_in (nI m) 7 := vp_in_nI (by omega) (by omega)
    have hm2 : (nI m).toNatClampNeg = m := nI_clamp (by omega)
    have h3 : nI (n + 1) + 1 = nI (n + 1 + 1) := nI_1 _
    have h5 : (0 : Int32) ≤ nI (n + 1) := nI_pos' (by omega)
    have h6 : nI (n + 1) ≤ 30 := le30_ (by omega)
    have z100 : ¬ (100 : Int64) = 0 := by decide
    unfold nm_ at hK
    refine ax_WPo (l := [(125, cy_125), (144, cy_144), (168, cy_168), (169, cy_169)]) (ax_oc sy_125 (ax_oc sy_144 (ax_oc sy_168 (ax_oc sy_169 ax_on)))) ax_ok184 (fun t => t == 63) 400 63 rfl ?_
    simp +decide only [↓ax_B, ax_B, ax_kds, ax_gvs, ax_mcs, ax_ia_S, ax_up_ap, ax_vinL, and_self_left, ax_up_up, ax_up_sw, Nat.reduceAdd, Nat.reduceBEq, Nat.reduceLeDiff, Nat.reduceLT, Nat.reduceEqDiff, ↓reduceIte, true_and, and_true, List.cons_append, List.nil_append, Int32.reduceLT, Int32.reduceLE, Int32.reduceAdd, Int32.reduceToNatClampNeg, Int32.reduceOfNat, true_imp_iff, false_imp_iff, not_true_eq_false, not_false_eq_true, or_true, true_or, or_false, false_or, and_self, Bool.or_true, Bool.or_false, Bool.true_or, Bool.false_or, implies_true, forall_const, Bool.false_eq_true, Int32.neg_neg, ax_X184, ry_125, ry_144, ry_168, ry_169, hS, hN, hc, h2, hm1, hm2, h3, h5, h6, hok, z100, cm_lt0, nI_clamp (show N < 2 ^ 31 by omega)]
    refine ⟨fun c => ?_, fun c => ?_⟩
    · rw [if_neg (by unfold hh_; rw [decide_eq_false (Int64.not_le.mpr c)]; decide)] at hK
      exact ax_WP_w (by simp only [ax_le, and_self]) (ih (n + 1) (by omega) hK)
    · rw [if_pos (by unfold hh_; exact decide_eq_true (Int64.not_lt.mp c))] at hK
      exact hK
/-- AskewLettersModel.need(III)I -/
def cy_184 : ax_P1 := fun as z K => ∃ (p1 : Int32) (p2 : Int32) (p3 : Int32) (D : ax_Dn) (E : ax_En), as = [.ref 58, .int p1, .int p2, .int p3] ∧ z = ax_S D E ∧ ((p1 < 0 → K (some (.int (-1))) (ax_S (ax_up D 59 (ax_up (D 59) 1 (D 59 1 + 1))) E)) ∧ (¬p1 < 0 → (D 58 22 ≤ p1 → K (some (.int (-1))) (ax_S (ax_up D 59 (ax_up (D 59) 1 (D 59 1 + 1))) E)) ∧ (¬D 58 22 ≤ p1 → (p2 < 0 → K (some (.int (-4))) (ax_S (ax_up D 59 (ax_up (D 59) 4 (D 59 4 + 1))) E)) ∧ (¬p2 < 0 → (0 ≤ p3 → (365 < p2 → K (some (.int (-6))) (ax_S (ax_up D 59 (ax_up (D 59) 6 (D 59 6 + 1))) E)) ∧ (¬365 < p2 → (p3 ≤ 100 → okM D ∧ vp_in p1 6 ∧ K (some (.int (nm_ D p1.toNatClampNeg p2 p3 (D 58 22).toNatClampNeg (D 58 32).toNatClampNeg 0))) (ax_S D E)) ∧ (¬p3 ≤ 100 → K (some (.int (-6))) (ax_S (ax_up D 59 (ax_up (D 59) 6 (D 59 6 + 1))) E)))) ∧ (¬0 ≤ p3 → K (some (.int (-4))) (ax_S (ax_up D 59 (ax_up (D 59) 4 (D 59 4 + 1))) E))))))
theorem ry_184 (p1 : Int32) (p2 : Int32) (p3 : Int32) (D : ax_Dn) (E : ax_En) (K : ax_Po) : cy_184 [.ref 58, .int p1, .int p2, .int p3] (ax_S D E) K = ((p1 < 0 → K (some (.int (-1))) (ax_S (ax_up D 59 (ax_up (D 59) 1 (D 59 1 + 1))) E)) ∧ (¬p1 < 0 → (D 58 22 ≤ p1 → K (some (.int (-1))) (ax_S (ax_up D 59 (ax_up (D 59) 1 (D 59 1 + 1))) E)) ∧ (¬D 58 22 ≤ p1 → (p2 < 0 → K (some (.int (-4))) (ax_S (ax_up D 59 (ax_up (D 59) 4 (D 59 4 + 1))) E)) ∧ (¬p2 < 0 → (0 ≤ p3 → (365 < p2 → K (some (.int (-6))) (ax_S (ax_up D 59 (ax_up (D 59) 6 (D 59 6 + 1))) E)) ∧ (¬365 < p2 → (p3 ≤ 100 → okM D ∧ vp_in p1 6 ∧ K (some (.int (nm_ D p1.toNatClampNeg p2 p3 (D 58 22).toNatClampNeg (D 58 32).toNatClampNeg 0))) (ax_S D E)) ∧ (¬p3 ≤ 100 → K (some (.int (-6))) (ax_S (ax_up D 59 (ax_up (D 59) 6 (D 59 6 + 1))) E)))) ∧ (¬0 ≤ p3 → K (some (.int (-4))) (ax_S (ax_up D 59 (ax_up (D 59) 4 (D 59 4 + 1))) E)))))) := propext ⟨fun ⟨p1', p2', p3', D', E', h1, h2, h3⟩ => by cases h1; obtain ⟨rfl, rfl⟩ := ax_S_inj h2; exact h3, fun h => ⟨p1, p2, p3, D, E, rfl, rfl, h⟩⟩
theorem sy_184 {g : ax_G} : ∀ as z K, cy_184 as z K → ax_MM g 184 as z K := by
  rintro _ _ K ⟨p1, p2, p3, D, E, rfl, rfl, h⟩
  refine ax_go184 _ _ _ _ ?_
  refine ax_WPo (l := [(125, cy_125), (144, cy_144), (168, cy_168), (169, cy_169)]) (ax_oc sy_125 (ax_oc sy_144 (ax_oc sy_168 (ax_oc sy_169 ax_on)))) ax_ok184 (fun t => t == 63) 400 0 rfl ?_
  simp +decide only [↓ax_B, ax_B, ax_kds, ax_gvs, ax_mcs, ax_ia_S, ax_up_ap, ax_vinL, and_self_left, ax_up_up, ax_up_sw, Nat.reduceAdd, Nat.reduceBEq, Nat.reduceLeDiff, Nat.reduceLT, Nat.reduceEqDiff, ↓reduceIte, true_and, and_true, List.cons_append, List.nil_append, Int32.reduceLT, Int32.reduceLE, Int32.reduceAdd, Int32.reduceToNatClampNeg, Int32.reduceOfNat, true_imp_iff, false_imp_iff, not_true_eq_false, not_false_eq_true, or_true, true_or, or_false, false_or, and_self, Bool.or_true, Bool.or_false, Bool.true_or, Bool.false_or, implies_true, forall_const, Bool.false_eq_true, Int32.neg_neg, ax_X184, ry_125, ry_144, ry_168, ry_169]
  refine ⟨h.1, fun c => ⟨(h.2 c).1, fun c2 => ?_⟩⟩
  have h := (h.2 c).2 c2
  refine ⟨h.1, fun c3 => ?_⟩
  have h := h.2 c3
  refine ⟨fun c4 => ?_, h.2⟩
  have h := h.1 c4
  refine ⟨h.1, fun c5 => ?_⟩
  have h := h.2 c5
  refine ⟨fun c6 => ?_, h.2⟩
  obtain ⟨hok, hm, hK⟩ := h.1 c6
  obtain ⟨S, hS, h30, hc⟩ := ax_cnt_of hok.2.2.1 (by decide)
  obtain ⟨N, hN, hN6, hcN⟩ := ax_cnt_of hok.1 (by decide)
  obtain ⟨m, hm6, rfl⟩ := vp_in_of hm (by decide)
  rw [hc, hcN, nI_clamp (by omega)] at hK
  exact lp_184 hok m hm6 p2 p3 N S hN hN6 hS h30 S 0 (by omega) hK
