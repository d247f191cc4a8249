/-! The book, by the model: all statements come, or none; its reading. -/
/-- the model's rows, when a statement was wrong: what was before -/
def bk_ (D0 D : ax_Dn) : Prop := (∀ c, ¬ c = 67 ∧ ¬ (71 ≤ c ∧ c ≤ 75) → D c = D0 c) ∧ (∀ j : Nat, (j : Int) < (D0 58 22).toInt → D 67 j = D0 67 j) ∧ (∀ i : Nat, (i : Int) < (D0 58 23).toInt → D 71 i = D0 71 i ∧ D 72 i = D0 72 i ∧ D 73 i = D0 73 i ∧ D 74 i = D0 74 i ∧ D 75 i = D0 75 i)
theorem fw_s (L m d v : Nat → Int32) (j i M N : Nat) : fw_ L m d v (j + 1) i M N = if wr_ (L i) (m i) (d i) (v i) M N then i else fw_ L m d v j (i + 1) (if L i = 109 then M + 1 else M) (if ev_ (L i) then N + 1 else N) := rfl
set_option maxRecDepth 10000 in
theorem lp_138g {g : ax_G} {K : ax_Po} {E : ax_En} {D0 : ax_Dn} {n M0 N0 : Nat} (hn : n < 32) (hM0 : D0 58 22 = nI M0) (hN0 : D0 58 23 = nI N0) (hM6 : M0 ≤ 6) (hN20 : N0 ≤ 20) (h79 : ∀ k, k < 10 → D0 79 k = D0 69 k) (h80 : ∀ k, k < 6 → D0 80 k = D0 68 k) (h24 : D0 58 24 = nI n) {m s d v : Nat → Int32} (hr : ∀ x, x < n → rst_ (D0 61 x) (m x) (s x) (d x) (v x) (D0 62 x) (D0 63 x) (D0 64 x) (D0 65 x)) (kb : fw_ (D0 61) m d v n 0 M0 N0 < n → ∀ D', bk_ D0 D' → K (some (.int (-2000 - D0 66 (fw_ (D0 61) m d v n 0 M0 N0)))) (ax_S D' E)) (kg : fw_ (D0 61) m d v n 0 M0 N0 = n → K (some (.int (nI n))) (ax_S (itM (D0 61) (D0 62) (D0 63) (D0 64) (D0 65) n 0 D0) E)) {l1 : Int32} : ∀ (j i M N : Nat) (D : ax_Dn) (l5 : Option Value), i + j = n → dI_ D0 M0 N0 D → D 58 22 = nI M → D 58 23 = nI N → M ≤ 6 → N ≤ 20 → M0 ≤ M → N0 ≤ N → fw_ (D0 61) m d v n 0 M0 N0 = fw_ (D0 61) m d v j i M N → itM (D0 61) (D0 62) (D0 63) (D0 64) (D0 65) n 0 D0 = itM (D0 61) (D0 62) (D0 63) (D0 64) (D0 65) j i D → ax_WP g (ax_hy 138) K 92 92 151 [some (.ref 58), some (.int l1), some (.int (nI M0)), some (.int (nI N0)), some (.int (nI i)), l5] [] (ax_S D E) := by
  intro j
  induction j with
  | zero =>
    intro i M N D l5 hi hI h22 h23 hM hN hm hn2 hf ht
    obtain rfl : i = n := by omega
    have e24 : D 58 24 = nI i := (hI.2.1 24 (by decide) (by decide)).trans h24
    have c : nI i ≤ nI i := nI_le (by omega) (by omega)
    refine ax_WPo (l := [(137, cy_137)]) (ax_oc sy_137 ax_on) ax_ok138 (fun t => t == 151 || t == 185) 400 151 rfl ?_
    simp +decide only [↓ax_B, ax_B, ax_kds, ax_gvs, ax_mcs, ax_ia_S, ax_up_ap, ax_vinL, and_self_left, ax_up_up, ax_up_sw, Nat.reduceAdd, Nat.reduceBEq, Nat.reduceLeDiff, Nat.reduceLT, Nat.reduceEqDiff, ↓reduceIte, true_and, and_true, List.cons_append, List.nil_append, Int32.reduceLT, Int32.reduceLE, Int32.reduceAdd, Int32.reduceToNatClampNeg, Int32.reduceOfNat, true_imp_iff, false_imp_iff, not_true_eq_false, not_false_eq_true, or_true, true_or, or_false, false_or, and_self, Bool.or_true, Bool.or_false, Bool.true_or, Bool.false_or, implies_true, forall_const, Bool.false_eq_true, Int32.neg_neg, ax_X138, ry_137, e24,c]
    rw [ht] at kg
    exact kg hf
  | succ j ih =>
    intro i M N D l5 hi hI h22 h23 hM hN hm hn2 hf ht
    have e24 : D 58 24 = nI n := (hI.2.1 24 (by decide) (by decide)).trans h24
    have e61 : D 61 = D0 61 := hI.1 61 (by decide)
    have e62 : D 62 = D0 62 := hI.1 62 (by decide)
    have e63 : D 63 = D0 63 := hI.1 63 (by decide)
    have e64 : D 64 = D0 64 := hI.1 64 (by decide)
    have e65 : D 65 = D0 65 := hI.1 65 (by decide)
    have hc : ¬ nI n ≤ nI i := nI_ge (by omega) (by omega)
    have h1 : vp_in (nI i) 32 := vp_in_nI (by omega) (by omega)
    have h2 : (nI i).toNatClampNeg = i := nI_clamp (by omega)
    have h3 : nI i + 1 = nI (i + 1) := nI_1 i
    have hri := hr i (by omega)
    rw [fw_s] at hf
    refine ax_WPo (l := [(137, cy_137)]) (ax_oc sy_137 ax_on) ax_ok138 (fun t => t == 151 || t == 185) 400 151 rfl ?_
    simp +decide only [↓ax_B, ax_B, ax_kds, ax_gvs, ax_mcs, ax_ia_S, ax_up_ap, ax_vinL, and_self_left, ax_up_up, ax_up_sw, Nat.reduceAdd, Nat.reduceBEq, Nat.reduceLeDiff, Nat.reduceLT, Nat.reduceEqDiff, ↓reduceIte, true_and, and_true, List.cons_append, List.nil_append, Int32.reduceLT, Int32.reduceLE, Int32.reduceAdd, Int32.reduceToNatClampNeg, Int32.reduceOfNat, true_imp_iff, false_imp_iff, not_true_eq_false, not_false_eq_true, or_true, true_or, or_false, false_or, and_self, Bool.or_true, Bool.or_false, Bool.true_or, Bool.false_or, implies_true, forall_const, Bool.false_eq_true, Int32.neg_neg, ax_X138, ry_137, e24,hc,h1,h2,h3]
    rw [e61, e62, e63, e64, e65]
    refine ⟨i, M, N, m i, s i, d i, v i, rfl, by omega, h22, h23, hM, hN, hri, fun w => ?_, fun w => ?_⟩
    · rw [if_pos w] at hf
      have kb := kb (by rw [hf]; omega)
      rw [hf] at kb
      have A : K (some (.int (-2000 - (ax_up (ax_up D 58 (ax_up (ax_up (D 58) 22 (nI M0)) 23 (nI N0))) 69 (cp_ (D 79) (D 69) 10)) 66 i))) (ax_S (ax_up (ax_up (ax_up D 58 (ax_up (ax_up (D 58) 22 (nI M0)) 23 (nI N0))) 69 (cp_ (D 79) (D 69) 10)) 68 (cp_ (D 80) (D 68) 6)) E) := by
        have e66 : D 66 = D0 66 := hI.1 66 (by decide)
        simp only [ax_up_ap, Nat.reduceEqDiff, ↓reduceIte]
        rw [e66]
        refine kb _ ⟨fun c hc => ?_, fun j hj => ?_, fun x hx => ?_⟩
        · by_cases c68 : c = 68
          · subst c68
            rw [ax_up_s]
            funext x
            unfold cp_
            by_cases cx : x < 6
            · rw [if_pos cx, hI.1 80 (by decide)]; exact h80 x cx
            · rw [if_neg cx]; exact hI.2.2.1 x (by omega)
          · rw [ax_up_n _ _ c68]
            by_cases c69 : c = 69
            · subst c69
              rw [ax_up_s]
              funext x
              unfold cp_
              by_cases cx : x < 10
              · rw [if_pos cx, hI.1 79 (by decide)]; exact h79 x cx
              · rw [if_neg cx]; exact hI.2.2.2.1 x (by omega)
            · rw [ax_up_n _ _ c69]
              by_cases c58 : c = 58
              · subst c58
                rw [ax_up_s]
                funext x
                by_cases x23 : x = 23
                · subst x23; rw [ax_up_s]; exact hN0.symm
                · rw [ax_up_n _ _ x23]
                  by_cases x22 : x = 22
                  · subst x22; rw [ax_up_s]; exact hM0.symm
                  · rw [ax_up_n _ _ x22]; exact hI.2.1 x x22 x23
              · rw [ax_up_n _ _ c58]
                exact hI.1 c ⟨c58, by omega, hc.2⟩
        · rw [hM0, na_nI (by omega)] at hj
          rw [ax_up_n _ _ (by decide), ax_up_n _ _ (by decide), ax_up_n _ _ (by decide)]
          exact hI.2.2.2.2.1 j (by omega)
        · rw [hN0, na_nI (by omega)] at hx
          have q := hI.2.2.2.2.2 x (by omega)
          simp only [ax_up_ap, Nat.reduceEqDiff, ↓reduceIte]
          exact q
      have B := lp_138f (g := g) (l1 := l1) (l2 := nI M0) (l3 := nI N0) (w := i) (D := ax_up (ax_up D 58 (ax_up (ax_up (D 58) 22 (nI M0)) 23 (nI N0))) 69 (cp_ (D 79) (D 69) 10)) (by omega) A 6 0 rfl
      rw [cp_0, ax_up_id] at B
      have C := lp_138e (g := g) (l1 := l1) (l2 := nI M0) (l3 := nI N0) (l4 := nI i) (D := ax_up D 58 (ax_up (ax_up (D 58) 22 (nI M0)) 23 (nI N0))) B 10 0 rfl
      rw [cp_0, ax_up_id] at C
      exact C
    · rw [if_neg w] at hf
      obtain ⟨q1, q2, q3, q4, q5, q6, q7⟩ := dI_st hI h22 h23 hM hN hm hn2 hri w
      exact ih (i + 1) _ _ _ _ (by omega) q1 q2 q3 q4 q5 q6 q7 hf ht
/-- the model's reading -/
def rm_ (D D' : ax_Dn) : Prop := ∀ x i, ¬ (x = 58 ∧ (i = 21 ∨ i = 24)) → ¬ (61 ≤ x ∧ x ≤ 66) → D' x i = D x i
theorem rm_rf (D : ax_Dn) : rm_ D D := fun _ _ _ _ => rfl
theorem rm_q {D D' D'' : ax_Dn} {s : Nat} (h : rm_ D D') (h' : qm_ L6 s D' D'') : rm_ D D'' := fun x i a b => (h' x i (fun q => a ⟨q.1, Or.inl q.2⟩) (fun q => by
  obtain ⟨q, _⟩ := q
  simp only [L6, List.mem_cons, List.not_mem_nil, or_false] at q
  omega)).trans (h x i a b)
theorem rm_58 {D D' : ax_Dn} (h : rm_ D D') (v : Int32) : rm_ D (ax_up D' 58 (ax_up (D' 58) 24 v)) := by
  intro x i a b
  by_cases hx : x = 58
  · subst hx
    rw [ax_up_s, ax_up_n _ _ (fun q => a ⟨rfl, Or.inr q⟩)]
    exact h 58 i a b
  · rw [ax_up_n _ _ hx]
    exact h x i a b
def rdm_ (t : Nat → Int32) (n s : Nat) (D D' : ax_Dn) : Prop := rm_ D D' ∧ D' 58 24 = nI s ∧ ∀ i, i < s → (sP_ t n (ps_ t n i)).1 = true ∧ sG_ t n (ps_ t n i) i D'
theorem sG_c {t : Nat → Int32} {n p s : Nat} {D D' : ax_Dn} (h : sG_ t n p s D) (e : ∀ x, 61 ≤ x → x ≤ 66 → D' x s = D x s) : sG_ t n p s D' := by
  unfold sG_ at h ⊢
  rw [e 61 (by decide) (by decide), e 62 (by decide) (by decide), e 63 (by decide) (by decide), e 64 (by decide) (by decide), e 65 (by decide) (by decide), e 66 (by decide) (by decide)]
  exact h
/-- AskewLettersModel.statement()Z -/
def cy_135b : ax_P1 := fun as z K => ∃ (D : ax_Dn) (E : ax_En), as = [.ref 58] ∧ z = ax_S D E ∧ (∃ t n p s, tqm_ D t n p ∧ D 58 24 = nI s ∧ s < 32 ∧ (∀ D', qm_ L6 s D D' → tqm_ D' t n (sP_ t n p).2 → ((sP_ t n p).1 = true → sG_ t n p s D') → K (some (.int (if (sP_ t n p).1 = true then 1 else 0))) (ax_S D' E)))
theorem ry_135b  (D : ax_Dn) (E : ax_En) (K : ax_Po) : cy_135b [.ref 58] (ax_S D E) K = (∃ t n p s, tqm_ D t n p ∧ D 58 24 = nI s ∧ s < 32 ∧ (∀ D', qm_ L6 s D D' → tqm_ D' t n (sP_ t n p).2 → ((sP_ t n p).1 = true → sG_ t n p s D') → K (some (.int (if (sP_ t n p).1 = true then 1 else 0))) (ax_S D' E))) := propext ⟨fun ⟨D', E', h1, h2, h3⟩ => by cases h1; obtain ⟨rfl, rfl⟩ := ax_S_inj h2; exact h3, fun h => ⟨D, E, rfl, rfl, h⟩⟩
theorem sy_135b {g : ax_G} : ∀ as z K, cy_135b as z K → ax_MM g 135 as z K := by
  rintro _ _ K ⟨D, E, rfl, rfl, t, n, p, s, h1, h2, h3, h4⟩
  exact sy_135 _ _ _ ⟨D, E, rfl, rfl, t, n, p, s, h1, h2, h3, h4⟩
set_option maxRecDepth 10000 in
theorem lp_138z {g : ax_G} {K : ax_Po} {E : ax_En} {D : ax_Dn} (h : K (some (.int (-1000 - D 58 21))) (ax_S (ax_up D 58 (ax_up (D 58) 20 0)) E)) : ax_WP g (ax_hy 138) K 92 92 12 [some (.ref 58), some (.int 0), none, none, none, none] [] (ax_S D E) := by
  refine ax_WPo (l := [(135, cy_135b), (137, cy_137)]) (ax_oc sy_135b (ax_oc sy_137 ax_on)) ax_ok138 (fun t => t == 12 || t == 91) 400 12 rfl ?_
  simp +decide only [↓ax_B, ax_B, ax_kds, ax_gvs, ax_mcs, ax_ia_S, ax_up_ap, ax_vinL, and_self_left, ax_up_up, ax_up_sw, Nat.reduceAdd, Nat.reduceBEq, Nat.reduceLeDiff, Nat.reduceLT, Nat.reduceEqDiff, ↓reduceIte, true_and, and_true, List.cons_append, List.nil_append, Int32.reduceLT, Int32.reduceLE, Int32.reduceAdd, Int32.reduceToNatClampNeg, Int32.reduceOfNat, true_imp_iff, false_imp_iff, not_true_eq_false, not_false_eq_true, or_true, true_or, or_false, false_or, and_self, Bool.or_true, Bool.or_false, Bool.true_or, Bool.false_or, implies_true, forall_const, Bool.false_eq_true, Int32.neg_neg, ax_X138, ry_135b, ry_137]
  exact h
set_option maxRecDepth 10000 in
theorem lp_138a {g : ax_G} {K : ax_Po} {E : ax_En} {D0 : ax_Dn} {t : Nat → Int32} {n : Nat} (hn : n ≤ 64) (k1 : ∀ s D', rdm_ t n s D0 D' → 0 < s → s < 22 → ps_ t n s = n → ax_WP g (ax_hy 138) K 92 92 91 [some (.ref 58), some (.int 1), some (.int (D' 58 22)), some (.int (D' 58 23)), some (.int 0), none] [] (ax_S (ax_up D' 58 (ax_up (D' 58) 20 0)) E)) (k2 : ∀ s D', rm_ D0 D' → s < 22 → (∀ i, i < s → (sP_ t n (ps_ t n i)).1 = true) → (0 < s → ps_ t n s < n) → (sP_ t n (ps_ t n s)).1 = false → K (some (.int (-1000 - nI (ps_ t n (s + 1))))) (ax_S (ax_up D' 58 (ax_up (D' 58) 20 0)) E)) : ∀ (j s : Nat) (D : ax_Dn), s + j = 22 → rdm_ t n s D0 D → tqm_ D t n (ps_ t n s) → ax_WP g (ax_hy 138) K 92 92 12 [some (.ref 58), some (.int 1), none, none, none, none] [] (ax_S D E) := by
  intro j
  induction j with
  | zero =>
    intro s D hs hr ht
    have := (ps_ge s (fun i hi => (hr.2.2 i hi).1)).1
    have := ht.2.2.2.2
    omega
  | succ j ih =>
    intro s D hs hr ht
    have gp := ps_ge s (fun i hi => (hr.2.2 i hi).1)
    have e20 : D 58 20 = nI n := ht.2.1
    have e21 : D 58 21 = nI (ps_ t n s) := ht.2.2.1
    have e24 : D 58 24 = nI s := hr.2.1
    have c1 : nI (ps_ t n s) < nI n ↔ ps_ t n s < n := nI_ltI (by omega) (by omega)
    have c2 : nI s = 0 ↔ s = 0 := by
      rw [na_eq, na_nI (by omega), show (0 : Int32).toInt = 0 from rfl]; omega
    -- one statement more
    have st : (0 < s → ps_ t n s < n) → ∃ t' n' p' s', tqm_ D t' n' p' ∧ nI s = nI s' ∧ s' < 32 ∧ (∀ D', qm_ L6 s' D D' → tqm_ D' t' n' (sP_ t' n' p').2 → ((sP_ t' n' p').1 = true → sG_ t' n' p' s' D') → ((if (sP_ t' n' p').1 = true then (1 : Int32) else 0) = 0 → ax_WP g (ax_hy 138) K 92 92 12 [some (.ref 58), some (.int (if (sP_ t' n' p').1 = true then 1 else 0)), none, none, none, none] [] (ax_S (ax_up D' 58 (ax_up (D' 58) 24 (D' 58 24 + 0))) E)) ∧ (¬ (if (sP_ t' n' p').1 = true then (1 : Int32) else 0) = 0 → ax_WP g (ax_hy 138) K 92 92 12 [some (.ref 58), some (.int (if (sP_ t' n' p').1 = true then 1 else 0)), none, none, none, none] [] (ax_S (ax_up D' 58 (ax_up (D' 58) 24 (D' 58 24 + 1))) E))) := by
      intro hp
      refine ⟨t, n, ps_ t n s, s, ht, rfl, by omega, fun D' q1 t1 f1 => ⟨fun z => ?_, fun z => ?_⟩⟩
      · rw [show (if (sP_ t n (ps_ t n s)).1 = true then (1 : Int32) else 0) = 0 from z]
        refine lp_138z ?_
        have e : D' 58 21 = nI (ps_ t n (s + 1)) := t1.2.2.1
        have := k2 s (ax_up D' 58 (ax_up (D' 58) 24 (D' 58 24 + 0))) (rm_58 (rm_q hr.1 q1) _) (by omega) (fun i hi => (hr.2.2 i hi).1) hp (bz0 z)
        rw [← e] at this
        exact this
      · have e24' : D' 58 24 = nI s := (qm_k q1 (by decide) (by decide)).trans e24
        rw [if_pos (bz1 z)]
        refine ih (s + 1) _ (by omega) ⟨rm_58 (rm_q hr.1 q1) _, ?_, fun i hi => ?_⟩ ⟨t1.1, t1.2.1, t1.2.2.1, t1.2.2.2.1, t1.2.2.2.2⟩
        · rw [ax_up_s, ax_up_s, e24']; exact nI_1 s
        · by_cases his : i = s
          · subst his
            exact ⟨bz1 z, sG_c (f1 (bz1 z)) (fun x x1 x2 => by rw [ax_up_n _ _ (by omega)])⟩
          · obtain ⟨a1, a2⟩ := hr.2.2 i (by omega)
            refine ⟨a1, sG_c a2 (fun x x1 x2 => ?_)⟩
            rw [ax_up_n _ _ (by omega)]
            exact q1 x i (fun q => by omega) (fun q => his q.2)
    refine ax_WPo (l := [(135, cy_135b), (137, cy_137)]) (ax_oc sy_135b (ax_oc sy_137 ax_on)) ax_ok138 (fun t => t == 12 || t == 91) 400 12 rfl ?_
    simp +decide only [↓ax_B, ax_B, ax_kds, ax_gvs, ax_mcs, ax_ia_S, ax_up_ap, ax_vinL, and_self_left, ax_up_up, ax_up_sw, Nat.reduceAdd, Nat.reduceBEq, Nat.reduceLeDiff, Nat.reduceLT, Nat.reduceEqDiff, ↓reduceIte, true_and, and_true, List.cons_append, List.nil_append, Int32.reduceLT, Int32.reduceLE, Int32.reduceAdd, Int32.reduceToNatClampNeg, Int32.reduceOfNat, true_imp_iff, false_imp_iff, not_true_eq_false, not_false_eq_true, or_true, true_or, or_false, false_or, and_self, Bool.or_true, Bool.or_false, Bool.true_or, Bool.false_or, implies_true, forall_const, Bool.false_eq_true, Int32.neg_neg, ax_X138, ry_135b, ry_137, e20,e21,e24,c1,c2]
    exact ⟨fun c => st (fun _ => c), fun c => ⟨fun c0 => k1 s D hr (by omega) (by omega) (by omega), fun c0 => st (fun q => absurd q (by omega))⟩⟩
